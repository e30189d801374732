/-! TOKENS -/
/-- the byte at p; -1 behind the end -/
def bA (f : Int → Int) (L : Int) (p : Nat) : Int := if (p : Int) < L then f p else -1
def alp (x : Int) : Bool := decide (97 ≤ x ∧ x ≤ 122)
def dig (x : Int) : Bool := decide (48 ≤ x ∧ x ≤ 57)
def aln (x : Int) : Bool := alp x || dig x
def spc (x : Int) : Bool := decide (x = 32)
/-- behind the row of those from p on for which q holds, at most d -/
def rn (b : Nat → Int) (q : Int → Bool) : Nat → Nat → Nat
  | 0, p => p
  | d + 1, p => bif q (b p) then rn b q d (p + 1) else p
theorem rn_t {b : Nat → Int} {q : Int → Bool} {d p : Nat} (h : q (b p) = true) : rn b q (d + 1) p = rn b q d (p + 1) := by
  show (bif q (b p) then rn b q d (p + 1) else p) = _
  rw [h]
  rfl
theorem rn_f {b : Nat → Int} {q : Int → Bool} {p : Nat} (h : q (b p) = false) : ∀ d, rn b q d p = p
  | 0 => rfl
  | d + 1 => by
    show (bif q (b p) then rn b q d (p + 1) else p) = _
    rw [h]
    rfl
/-- what holds of it, where there is room -/
theorem rn_sp {b : Nat → Int} {q : Int → Bool} {L : Nat} (hb : ∀ p, L ≤ p → q (b p) = false) : ∀ (d p : Nat), L ≤ p + d → p ≤ rn b q d p ∧ (∀ i, p ≤ i → i < rn b q d p → q (b i) = true) ∧ q (b (rn b q d p)) = false ∧ (p ≤ L → rn b q d p ≤ L)
  | 0, p, h => ⟨Nat.le_refl _, fun i h1 h2 => absurd h2 (by show ¬ i < p; omega), hb p (by omega), fun h => h⟩
  | d + 1, p, h => by
    cases e : q (b p) with
    | false =>
      rw [rn_f e]
      exact ⟨Nat.le_refl _, fun i h1 h2 => by omega, e, fun h => h⟩
    | true =>
      rw [rn_t e]
      obtain ⟨h1, h2, h3, h4⟩ := rn_sp hb d (p + 1) (by omega)
      refine ⟨by omega, fun i k1 k2 => ?_, h3, fun k => ?_⟩
      · by_cases z : i = p
        · rw [z]; exact e
        · exact h2 i (by omega) k2
      · by_cases z : L ≤ p
        · rw [hb p z] at e
          cases e
        · exact h4 (by omega)
/-- it is the only one -/
theorem rn_u {b : Nat → Int} {q : Int → Bool} {p e e' : Nat} (h1 : p ≤ e) (h2 : ∀ i, p ≤ i → i < e → q (b i) = true) (h3 : q (b e) = false) (k1 : p ≤ e') (k2 : ∀ i, p ≤ i → i < e' → q (b i) = true) (k3 : q (b e') = false) : e = e' := by
  by_cases a : e < e'
  · have := k2 e h1 a
    rw [h3] at this
    cases this
  · by_cases a2 : e' < e
    · have := h2 e' k1 a2
      rw [k3] at this
      cases this
    · omega
/-- the words, their letters -/
def wof (k : Nat) : Nat := [0, 3, 6, 9, 12, 15, 18, 24, 31, 37, 42, 48, 54, 59, 64, 71, 75, 78, 82].getD k 0
def wln (k : Nat) : Nat := [2, 2, 2, 2, 2, 2, 5, 6, 5, 4, 5, 5, 4, 4, 6, 3, 2, 3].getD k 0
def wlI (i : Nat) : Int := [109, 97, 32, 109, 98, 32, 109, 99, 32, 109, 100, 32, 109, 101, 32, 109, 102, 32, 116, 114, 97, 105, 116, 32, 111, 102, 102, 105, 99, 101, 32, 115, 116, 97, 103, 101, 32, 99, 97, 109, 101, 32, 107, 110, 111, 119, 110, 32, 97, 109, 111, 110, 103, 32, 108, 105, 107, 101, 32, 110, 101, 97, 114, 32, 119, 105, 116, 104, 105, 110, 32, 97, 110, 100, 32, 111, 114, 32, 110, 111, 116, 32].getD i 0
/-- the first j letters are those of the word -/
def sme (b : Nat → Int) (p k : Nat) : Nat → Bool
  | 0 => true
  | j + 1 => sme b p k j && decide (b (p + j) = wlI (wof k + j))
def wm (b : Nat → Int) (p n k : Nat) : Bool := decide (n = wln k) && sme b p k (wln k)
def wfi (b : Nat → Int) (p n : Nat) : Nat → Int
  | 0 => 203
  | d + 1 => bif wm b p n (17 - d) then ((17 - d : Nat) : Int) else wfi b p n d
/-- which word it is; 203 if none -/
def wco (b : Nat → Int) (p n : Nat) : Int := wfi b p n 18
theorem sme_t {b : Nat → Int} {p k : Nat} : ∀ {n : Nat}, sme b p k n = true ↔ ∀ j, j < n → b (p + j) = wlI (wof k + j)
  | 0 => ⟨fun _ j hj => absurd hj (Nat.not_lt_zero j), fun _ => rfl⟩
  | n + 1 => by
    show (sme b p k n && decide (b (p + n) = wlI (wof k + n))) = true ↔ _
    rw [Bool.and_eq_true, decide_eq_true_eq, sme_t]
    constructor
    · rintro ⟨h1, h2⟩ j hj
      by_cases z : j = n
      · rw [z]; exact h2
      · exact h1 j (by omega)
    · intro h
      exact ⟨fun j hj => h j (by omega), h n (by omega)⟩
theorem wm_t {b : Nat → Int} {p n k : Nat} : wm b p n k = true ↔ n = wln k ∧ ∀ j, j < wln k → b (p + j) = wlI (wof k + j) := by
  unfold wm
  rw [Bool.and_eq_true, decide_eq_true_eq, sme_t]
theorem wm_in {b : Nat → Int} {p n k k' : Nat} (hk : k < 18) (hk' : k' < 18) (h : wm b p n k = true) (h' : wm b p n k' = true) : k = k' := by
  obtain ⟨h1, h2⟩ := wm_t.mp h
  obtain ⟨h3, h4⟩ := wm_t.mp h'
  have d : (List.range 18).all (fun k => (List.range 18).all fun k' => decide (k = k') || (decide (wln k ≠ wln k') || (List.range (wln k)).any fun j => decide (wlI (wof k + j) ≠ wlI (wof k' + j)))) = true := by decide +kernel
  have d1 := List.all_eq_true.mp d k (List.mem_range.mpr hk)
  have d2 := List.all_eq_true.mp d1 k' (List.mem_range.mpr hk')
  rw [Bool.or_eq_true, Bool.or_eq_true, decide_eq_true_eq, decide_eq_true_eq] at d2
  rcases d2 with d2 | d2 | d2
  · exact d2
  · exact absurd (h1.symm.trans h3) d2
  · obtain ⟨j, hj, e⟩ := List.any_eq_true.mp d2
    have hj := List.mem_range.mp hj
    have := of_decide_eq_true e
    exact absurd ((h2 j hj).symm.trans (h4 j (by omega))) this
theorem wfi_c {b : Nat → Int} {p n k : Nat} (hk : k < 18) : ∀ {d : Nat}, d ≤ 18 → (wfi b p n d = (k : Int) ↔ 18 - d ≤ k ∧ wm b p n k = true)
  | 0, _ => by
    show (203 : Int) = k ↔ _
    omega
  | d + 1, hd => by
    show (bif wm b p n (17 - d) then ((17 - d : Nat) : Int) else wfi b p n d) = k ↔ _
    cases e : wm b p n (17 - d) with
    | true =>
      show ((17 - d : Nat) : Int) = k ↔ _
      constructor
      · intro h
        have : 17 - d = k := by omega
        rw [← this]
        exact ⟨by omega, e⟩
      · rintro ⟨_, h2⟩
        have := wm_in (by omega) hk e h2
        omega
    | false =>
      show wfi b p n d = k ↔ _
      rw [wfi_c hk (d := d) (by omega)]
      constructor
      · rintro ⟨h1, h2⟩
        exact ⟨by omega, h2⟩
      · rintro ⟨h1, h2⟩
        refine ⟨?_, h2⟩
        by_cases z : k = 17 - d
        · rw [z, e] at h2
          cases h2
        · omega
theorem wco_c {b : Nat → Int} {p n k : Nat} (hk : k < 18) : wco b p n = (k : Int) ↔ wm b p n k = true := by
  unfold wco
  rw [wfi_c hk (Nat.le_refl 18)]
  exact ⟨fun h => h.2, fun h => ⟨by omega, h⟩⟩
theorem wfi_r {b : Nat → Int} {p n : Nat} : ∀ {d : Nat}, d ≤ 18 → wfi b p n d = 203 ∨ (0 ≤ wfi b p n d ∧ wfi b p n d < 18)
  | 0, _ => Or.inl rfl
  | d + 1, hd => by
    have e0 : wfi b p n (d + 1) = bif wm b p n (17 - d) then ((17 - d : Nat) : Int) else wfi b p n d := rfl
    rw [e0]
    cases e : wm b p n (17 - d) with
    | true =>
      rw [cond_true]
      omega
    | false => exact wfi_r (d := d) (by omega)
theorem wco_r (b : Nat → Int) (p n : Nat) : wco b p n = 203 ∨ (0 ≤ wco b p n ∧ wco b p n < 18) := wfi_r (Nat.le_refl 18)
/-- the value of the first digits, four at most -/
def nv (b : Nat → Int) (p : Nat) : Nat → Int
  | 0 => 0
  | k + 1 => if k < 4 then nv b p k * 10 + b (p + k) - 48 else nv b p k
theorem nv_s (b : Nat → Int) (p k : Nat) : nv b p (k + 1) = if k < 4 then nv b p k * 10 + b (p + k) - 48 else nv b p k := rfl
theorem nv_r {b : Nat → Int} {p : Nat} : ∀ {k : Nat}, (∀ i, i < k → dig (b (p + i)) = true) → 0 ≤ nv b p k ∧ nv b p k ≤ 9999 ∧ (k ≤ 1 → nv b p k ≤ 9) ∧ (k ≤ 2 → nv b p k ≤ 99) ∧ (k ≤ 3 → nv b p k ≤ 999)
  | 0, _ => ⟨Int.le_refl _, (by decide : (0 : Int) ≤ 9999), fun _ => (by decide : (0 : Int) ≤ 9), fun _ => (by decide : (0 : Int) ≤ 99), fun _ => (by decide : (0 : Int) ≤ 999)⟩
  | k + 1, h => by
    obtain ⟨h1, h2, h3, h4, h5⟩ := nv_r (k := k) (fun i hi => h i (by omega))
    have hd := of_decide_eq_true (h k (by omega))
    rw [nv_s]
    by_cases z : k < 4
    · rw [if_pos z]
      refine ⟨by omega, ?_, fun hk => ?_, fun hk => ?_, fun hk => ?_⟩
      · by_cases z3 : k ≤ 3
        · have := h5 z3
          omega
        · omega
      · have : k = 0 := by omega
        subst this
        have : nv b p 0 = 0 := rfl
        omega
      · have := h3 (by omega)
        omega
      · have := h4 (by omega)
        omega
    · rw [if_neg z]
      exact ⟨h1, h2, fun hk => by omega, fun hk => by omega, fun hk => by omega⟩
/-- the token that begins at p: its kind, value, end -/
def tkK (b : Nat → Int) (p : Nat) : Int :=
  if b p = -1 then 204
  else if alp (b p) = true then wco b p (rn b aln (400 - p) p - p)
  else if dig (b p) = true then 200
  else if (b p = 60 ∨ b p = 62) ∧ b (p + 1) = 61 then (if b p = 60 then 201 else 202)
  else if b p = 59 ∨ b p = 91 ∨ b p = 93 ∨ b p = 43 ∨ b p = 45 ∨ b p = 60 ∨ b p = 61 ∨ b p = 62 then b p else 203
def tkV (b : Nat → Int) (p : Nat) : Int := if 4 < rn b dig (400 - p) p - p then -1 else nv b p (rn b dig (400 - p) p - p)
def tkE (b : Nat → Int) (p : Nat) : Nat :=
  if b p = -1 then p
  else if alp (b p) = true then rn b aln (400 - p) p
  else if dig (b p) = true then rn b dig (400 - p) p
  else if (b p = 60 ∨ b p = 62) ∧ b (p + 1) = 61 then p + 2 else p + 1
def sk (b : Nat → Int) (p : Nat) : Nat := rn b spc (400 - p) p
/-- where the tokens begin, their kinds and values -/
def tS (b : Nat → Int) : Nat → Nat
  | 0 => sk b 0
  | j + 1 => sk b (tkE b (tS b j))
def tK (b : Nat → Int) (j : Nat) : Int := tkK b (tS b j)
def tVl (b : Nat → Int) (j : Nat) : Int := tkV b (tS b j)
/-- a tape of L bytes -/
def TP (b : Nat → Int) (L : Nat) : Prop := L ≤ 400 ∧ (∀ p, p < L → 0 ≤ b p ∧ b p ≤ 255) ∧ ∀ p, L ≤ p → b p = -1
theorem alp_n : alp (-1) = false := by decide
theorem dig_n : dig (-1) = false := by decide
theorem aln_n : aln (-1) = false := by decide
theorem spc_n : spc (-1) = false := by decide
theorem TP_rn {b : Nat → Int} {L : Nat} (h : TP b L) {q : Int → Bool} (hq : q (-1) = false) {p : Nat} (hp : p ≤ L) : p ≤ rn b q (400 - p) p ∧ (∀ i, p ≤ i → i < rn b q (400 - p) p → q (b i) = true) ∧ q (b (rn b q (400 - p) p)) = false ∧ rn b q (400 - p) p ≤ L := by
  obtain ⟨h1, h2, h3⟩ := h
  have := rn_sp (b := b) (q := q) (L := L) (fun p hp => by rw [h3 p hp]; exact hq) (400 - p) p (by omega)
  exact ⟨this.1, this.2.1, this.2.2.1, this.2.2.2 hp⟩
theorem TP_lt {b : Nat → Int} {L : Nat} (h : TP b L) {p : Nat} (hb : b p ≠ -1) : p < L := by
  by_cases z : p < L
  · exact z
  · exact absurd (h.2.2 p (by omega)) hb
theorem rn_p {b : Nat → Int} {L : Nat} (h : TP b L) {q : Int → Bool} (hq : q (-1) = false) {p : Nat} (hp : p < L) (hb : q (b p) = true) : p < rn b q (400 - p) p := by
  have h1 := TP_rn h hq (p := p) (by omega)
  by_cases z : p = rn b q (400 - p) p
  · have := h1.2.2.1
    rw [← z, hb] at this
    cases this
  · omega
theorem tkE_r {b : Nat → Int} {L : Nat} (h : TP b L) {p : Nat} (hp : p < L) : p < tkE b p ∧ tkE b p ≤ L := by
  have hb := h.2.1 p hp
  unfold tkE
  rw [if_neg (by omega)]
  by_cases z1 : alp (b p) = true
  · rw [if_pos z1]
    have z2 : aln (b p) = true := by
      unfold aln
      rw [z1, Bool.true_or]
    exact ⟨rn_p h aln_n hp z2, (TP_rn h aln_n (p := p) (by omega)).2.2.2⟩
  · rw [if_neg z1]
    by_cases z2 : dig (b p) = true
    · rw [if_pos z2]
      exact ⟨rn_p h dig_n hp z2, (TP_rn h dig_n (p := p) (by omega)).2.2.2⟩
    · rw [if_neg z2]
      by_cases z3 : (b p = 60 ∨ b p = 62) ∧ b (p + 1) = 61
      · rw [if_pos z3]
        have := TP_lt h (p := p + 1) (by omega)
        omega
      · rw [if_neg z3]
        omega
theorem tS_r {b : Nat → Int} {L : Nat} (h : TP b L) : ∀ j, tS b j ≤ L ∧ spc (b (tS b j)) = false
  | 0 => ⟨(TP_rn h spc_n (Nat.zero_le _)).2.2.2, (TP_rn h spc_n (Nat.zero_le _)).2.2.1⟩
  | j + 1 => by
    obtain ⟨h1, h2⟩ := tS_r h j
    have : tkE b (tS b j) ≤ L := by
      by_cases z : tS b j < L
      · exact (tkE_r h z).2
      · unfold tkE
        rw [if_pos (h.2.2 _ (by omega))]
        exact h1
    exact ⟨(TP_rn h spc_n this).2.2.2, (TP_rn h spc_n this).2.2.1⟩
theorem tK_end {b : Nat → Int} {L : Nat} (h : TP b L) {j : Nat} : tK b j = 204 ↔ tS b j = L := by
  have h1 := (tS_r h j).1
  unfold tK tkK
  by_cases z : tS b j = L
  · rw [z, if_pos (h.2.2 L (Nat.le_refl L))]
    exact ⟨fun _ => rfl, fun _ => rfl⟩
  · have hb := h.2.1 (tS b j) (by omega)
    rw [if_neg (by omega)]
    refine ⟨fun q => ?_, fun q => absurd q z⟩
    exfalso
    split at q
    · have := wco_r b (tS b j) (rn b aln (400 - tS b j) (tS b j) - tS b j)
      omega
    · split at q
      · omega
      · split at q
        · split at q <;> omega
        · split at q <;> omega
theorem tS_stay {b : Nat → Int} {L : Nat} (h : TP b L) {j : Nat} (e : tS b j = L) : ∀ d, tS b (j + d) = L
  | 0 => e
  | d + 1 => by
    have ih := tS_stay h e d
    show sk b (tkE b (tS b (j + d))) = L
    rw [ih]
    have hL := h.2.2 L (Nat.le_refl L)
    have : tkE b L = L := by
      unfold tkE
      rw [if_pos hL]
    rw [this]
    exact rn_f (by rw [hL]; rfl) _
theorem tS_lt {b : Nat → Int} {L : Nat} (h : TP b L) {j : Nat} (e : tS b j ≠ L) : tS b j < tS b (j + 1) := by
  have h1 := (tS_r h j).1
  have h2 := tkE_r h (p := tS b j) (by omega)
  have h3 := (TP_rn h spc_n (p := tkE b (tS b j)) h2.2).1
  show tS b j < sk b (tkE b (tS b j))
  unfold sk
  omega
theorem tS_ge {b : Nat → Int} {L : Nat} (h : TP b L) : ∀ j, tS b j = L ∨ j ≤ tS b j
  | 0 => Or.inr (Nat.zero_le _)
  | j + 1 => by
    by_cases z : tS b j = L
    · exact Or.inl (tS_stay h z 1)
    · have := tS_lt h z
      rcases tS_ge h j with y | y <;> omega
theorem tK_r {b : Nat → Int} {L : Nat} (h : TP b L) (j : Nat) : 0 ≤ tK b j ∧ tK b j ≤ 204 ∧ (tK b j < 18 ∨ tK b j = 59 ∨ tK b j = 91 ∨ tK b j = 93 ∨ tK b j = 43 ∨ tK b j = 45 ∨ tK b j = 60 ∨ tK b j = 61 ∨ tK b j = 62 ∨ 200 ≤ tK b j) := by
  unfold tK tkK
  split
  · omega
  · split
    · have := wco_r b (tS b j) (rn b aln (400 - tS b j) (tS b j) - tS b j)
      omega
    · split
      · omega
      · split
        · split <;> omega
        · split <;> omega
theorem tVl_r {b : Nat → Int} {L : Nat} (h : TP b L) (j : Nat) : -1 ≤ tVl b j ∧ tVl b j ≤ 9999 := by
  unfold tVl tkV
  have h1 := TP_rn h dig_n (tS_r h j).1
  split
  · omega
  · have := nv_r (b := b) (p := tS b j) (k := rn b dig (400 - tS b j) (tS b j) - tS b j) (fun i hi => h1.2.1 _ (by omega) (by omega))
    omega
