/-! FEW, BEST -/
/-- a test of the short rules, by its row -/
def tR (g : Int → Int → Int) (r : Nat) (k : Int) : Bool := if r < 108 then decide (g k (4 + (r / 18 : Nat)) ≠ -1) && (if r % 18 < 9 then decide (((r % 18 : Nat) : Int) + 1 ≤ g k (4 + (r / 18 : Nat))) else decide (g k (4 + (r / 18 : Nat)) + 9 ≤ ((r % 18 : Nat) : Int))) else if r < 110 then decide (g k 0 = (r : Int) - 108) else true
def tX (g : Int → Int → Int) (f : Nat → Int) (a b i : Nat) : Bool := (tR g a (f i) && tR g b (f i)) ^^ decide (g (f i) 2 = 2)
def wr (g : Int → Int → Int) (f : Nat → Int) (m a b : Nat) : Int := (sb (tX g f a b) m : Nat)
def tt (r : Nat) : Bool := decide (108 ≤ r ∧ r < 110)
def tt2 (a b : Nat) : Bool := tt a || tt b
theorem tX_c (g : Int → Int → Int) (f : Nat → Int) (a b : Nat) : tX g f a b = tX g f b a := by
  funext i
  unfold tX
  rw [Bool.and_comm]
theorem wr_c (g : Int → Int → Int) (f : Nat → Int) (m a b : Nat) : wr g f m a b = wr g f m b a := by
  unfold wr
  rw [tX_c]
theorem tt2_c (a b : Nat) : tt2 a b = tt2 b a := Bool.or_comm _ _
theorem wr_ran (g : Int → Int → Int) (f : Nat → Int) (m a b : Nat) : 0 ≤ wr g f m a b ∧ wr g f m a b ≤ m := by
  have := sb_le (tX g f a b) m
  unfold wr
  omega
/-- the fewest wrong, some of a trait, all of a trait -/
abbrev bst := Int × Bool × Bool
def bs (r : bst) (x : Int) (t : Bool) : bst := if x < r.1 then (x, t, t) else if x = r.1 then (x, r.2.1 || t, r.2.2 && t) else r
def HB (S : Int → Bool → Prop) (r : bst) : Prop := (∀ x t, S x t → r.1 ≤ x) ∧ (∃ t, S r.1 t) ∧ (r.2.1 = true ↔ S r.1 true) ∧ (r.2.2 = true ↔ ¬ S r.1 false)
theorem HB_u {S : Int → Bool → Prop} {r q : bst} (h : HB S r) (k : HB S q) : r = q := by
  obtain ⟨h1, ⟨t, h2⟩, h3, h4⟩ := h
  obtain ⟨k1, ⟨u, k2⟩, k3, k4⟩ := k
  have e : r.1 = q.1 := by
    have := h1 _ _ k2
    have := k1 _ _ h2
    omega
  rw [← e] at k3 k4
  obtain ⟨a, b, c⟩ := r
  obtain ⟨a', b', c'⟩ := q
  have e2 : b = b' := Bool.eq_iff_iff.mpr (h3.trans k3.symm)
  have e3 : c = c' := Bool.eq_iff_iff.mpr (h4.trans k4.symm)
  have e1 : a = a' := e
  rw [e1, e2, e3]
theorem HB_c {S T : Int → Bool → Prop} (e : ∀ x t, S x t ↔ T x t) {r : bst} (h : HB S r) : HB T r :=
  ⟨fun x t q => h.1 x t ((e x t).mpr q), h.2.1.elim fun t q => ⟨t, (e _ t).mp q⟩, h.2.2.1.trans (e _ _), h.2.2.2.trans (not_congr (e _ _))⟩
theorem HB_1 (x : Int) (t : Bool) : HB (fun y u => y = x ∧ u = t) (x, t, t) :=
  ⟨fun y u h => Int.le_of_eq h.1.symm, ⟨t, rfl, rfl⟩, ⟨fun h => ⟨rfl, h.symm⟩, fun h => h.2.symm⟩, ⟨fun h k => by have h' : t = true := h; rw [h'] at k; exact absurd k.2 (by decide), fun h => by
    cases t with
    | true => rfl
    | false => exact absurd ⟨rfl, rfl⟩ h⟩⟩
theorem HB_s {S : Int → Bool → Prop} {r : bst} (h : HB S r) (x : Int) (t : Bool) : HB (fun y u => S y u ∨ (y = x ∧ u = t)) (bs r x t) := by
  obtain ⟨h1, ⟨u, h2⟩, h3, h4⟩ := h
  unfold bs
  by_cases q : x < r.1
  · rw [if_pos q]
    have hn : ∀ u, ¬ S x u := fun u z => by
      have := h1 _ _ z
      omega
    refine ⟨?_, ⟨t, .inr ⟨rfl, rfl⟩⟩, ⟨fun h => .inr ⟨rfl, h.symm⟩, ?_⟩, ⟨?_, ?_⟩⟩
    · rintro y v (z | z)
      · have := h1 _ _ z
        show x ≤ y
        omega
      · exact Int.le_of_eq z.1.symm
    · rintro (z | z)
      · exact absurd z (hn _)
      · exact z.2.symm
    · rintro z (k | k)
      · exact absurd k (hn _)
      · have z : t = true := z
        rw [z] at k
        exact absurd k.2 (by decide)
    · intro z
      cases t with
      | true => rfl
      | false => exact absurd (.inr ⟨rfl, rfl⟩) z
  · rw [if_neg q]
    by_cases q2 : x = r.1
    · rw [if_pos q2]
      subst q2
      refine ⟨?_, ⟨t, .inr ⟨rfl, rfl⟩⟩, ?_, ?_⟩
      · rintro y v (z | z)
        · exact h1 _ _ z
        · exact Int.le_of_eq z.1.symm
      · show (r.2.1 || t) = true ↔ (S r.1 true ∨ (r.1 = r.1 ∧ true = t))
        rw [Bool.or_eq_true, h3]
        exact or_congr Iff.rfl ⟨fun z => ⟨rfl, z.symm⟩, fun z => z.2.symm⟩
      · show (r.2.2 && t) = true ↔ ¬ (S r.1 false ∨ (r.1 = r.1 ∧ false = t))
        rw [Bool.and_eq_true, h4, not_or]
        refine and_congr Iff.rfl ⟨fun z k => ?_, fun z => ?_⟩
        · rw [z] at k
          exact absurd k.2 (by decide)
        · cases t with
          | true => rfl
          | false => exact absurd ⟨rfl, rfl⟩ z
    · rw [if_neg q2]
      have hn : ∀ v, ¬ (r.1 = x ∧ v = t) := fun v z => q2 z.1.symm
      refine ⟨?_, ⟨u, .inl h2⟩, h3.trans ⟨.inl, fun z => z.resolve_right (hn _)⟩, h4.trans (not_congr ⟨.inl, fun z => z.resolve_right (hn _)⟩)⟩
      rintro y v (z | z)
      · exact h1 _ _ z
      · rw [z.1]
        omega
/-- nothing offered yet, or held -/
def HBi (S : Int → Bool → Prop) (r : bst) : Prop := (r = (201, false, false) ∧ ∀ x t, ¬ S x t) ∨ HB S r
theorem HBi_c {S T : Int → Bool → Prop} (e : ∀ x t, S x t ↔ T x t) {r : bst} (h : HBi S r) : HBi T r :=
  h.elim (fun z => .inl ⟨z.1, fun x t k => z.2 x t ((e x t).mpr k)⟩) (fun z => .inr (HB_c e z))
theorem HBi_s {S : Int → Bool → Prop} {r : bst} (h : HBi S r) {x : Int} (hx : x ≤ 200) (t : Bool) : HB (fun y u => S y u ∨ (y = x ∧ u = t)) (bs r x t) := by
  rcases h with ⟨e, h⟩ | h
  · have : bs r x t = (x, t, t) := by
      rw [e]
      exact if_pos (show x < 201 by omega)
    rw [this]
    exact HB_c (fun y u => ⟨.inr, fun z => z.resolve_left (h y u)⟩) (HB_1 x t)
  · exact HB_s h x t
def bsI (g : Int → Int → Int) (f : Nat → Int) (m a : Nat) : Nat → bst → bst
  | 0, s => s
  | j + 1, s => bs (bsI g f m a j s) (wr g f m a (a + 1 + j)) (tt2 a (a + 1 + j))
def bsO (g : Int → Int → Int) (f : Nat → Int) (m : Nat) : Nat → bst
  | 0 => (201, false, false)
  | a + 1 => bsI g f m a (109 - a) (bsO g f m a)
def bs1 (g : Int → Int → Int) (f : Nat → Int) (m : Nat) : Nat → bst
  | 0 => (201, false, false)
  | a + 1 => bs (bs1 g f m a) (wr g f m a 110) (tt2 a 110)
def bsD (g : Int → Int → Int) (f : Nat → Int) (m : Nat) (d : Int) : bst := if d = 0 then bs (201, false, false) (wr g f m 110 110) (tt2 110 110) else if d = 1 then bs1 g f m 110 else bsO g f m 110
def SD (g : Int → Int → Int) (f : Nat → Int) (m : Nat) (d x : Int) (t : Bool) : Prop := if d = 0 then x = wr g f m 110 110 ∧ t = tt2 110 110 else if d = 1 then ∃ a, a < 110 ∧ x = wr g f m a 110 ∧ t = tt2 a 110 else ∃ a b, a < 110 ∧ b < 110 ∧ a ≠ b ∧ x = wr g f m a b ∧ t = tt2 a b
theorem bs1_HB (g : Int → Int → Int) (f : Nat → Int) {m : Nat} (hm : m ≤ 200) : ∀ n, HBi (fun x t => ∃ a, a < n ∧ x = wr g f m a 110 ∧ t = tt2 a 110) (bs1 g f m n)
  | 0 => .inl ⟨rfl, fun x t h => h.elim fun a z => absurd z.1 (Nat.not_lt_zero a)⟩
  | n + 1 => by
    have := wr_ran g f m n 110
    refine .inr (HB_c (fun x t => ⟨?_, ?_⟩) (HBi_s (bs1_HB g f hm n) (x := wr g f m n 110) (by omega) (tt2 n 110)))
    · rintro (⟨a, h1, h2, h3⟩ | ⟨h2, h3⟩)
      · exact ⟨a, by omega, h2, h3⟩
      · exact ⟨n, by omega, h2, h3⟩
    · rintro ⟨a, h1, h2, h3⟩
      by_cases q : a = n
      · rw [q] at h2 h3
        exact .inr ⟨h2, h3⟩
      · exact .inl ⟨a, by omega, h2, h3⟩
theorem bsI_HB (g : Int → Int → Int) (f : Nat → Int) {m : Nat} (hm : m ≤ 200) (a : Nat) {S : Int → Bool → Prop} {s : bst} (h : HBi S s) : ∀ n, HBi (fun x t => S x t ∨ ∃ j, j < n ∧ x = wr g f m a (a + 1 + j) ∧ t = tt2 a (a + 1 + j)) (bsI g f m a n s)
  | 0 => HBi_c (fun x t => ⟨.inl, fun z => z.resolve_right (fun k => k.elim fun j z => absurd z.1 (Nat.not_lt_zero j))⟩) h
  | n + 1 => by
    have := wr_ran g f m a (a + 1 + n)
    refine .inr (HB_c (fun x t => ⟨?_, ?_⟩) (HBi_s (bsI_HB g f hm a h n) (x := wr g f m a (a + 1 + n)) (by omega) (tt2 a (a + 1 + n))))
    · rintro ((h1 | ⟨j, h1, h2, h3⟩) | ⟨h2, h3⟩)
      · exact .inl h1
      · exact .inr ⟨j, by omega, h2, h3⟩
      · exact .inr ⟨n, by omega, h2, h3⟩
    · rintro (h1 | ⟨j, h1, h2, h3⟩)
      · exact .inl (.inl h1)
      · by_cases q : j = n
        · rw [q] at h2 h3
          exact .inr ⟨h2, h3⟩
        · exact .inl (.inr ⟨j, by omega, h2, h3⟩)
theorem bsO_HB (g : Int → Int → Int) (f : Nat → Int) {m : Nat} (hm : m ≤ 200) : ∀ n, n ≤ 110 → HBi (fun x t => ∃ a b, a < n ∧ a < b ∧ b < 110 ∧ x = wr g f m a b ∧ t = tt2 a b) (bsO g f m n)
  | 0, _ => .inl ⟨rfl, fun x t h => h.elim fun a z => z.elim fun b z => absurd z.1 (Nat.not_lt_zero a)⟩
  | n + 1, hn => by
    refine HBi_c (fun x t => ⟨?_, ?_⟩) (bsI_HB g f hm n (bsO_HB g f hm n (by omega)) (109 - n))
    · rintro (⟨a, b, h1, h2, h3⟩ | ⟨j, h1, h2, h3⟩)
      · exact ⟨a, b, by omega, h2, h3⟩
      · exact ⟨n, n + 1 + j, by omega, by omega, by omega, h2, h3⟩
    · rintro ⟨a, b, h1, h2, h3, h4, h5⟩
      by_cases q : a = n
      · refine .inr ⟨b - (n + 1), by omega, ?_⟩
        rw [show n + 1 + (b - (n + 1)) = b by omega, ← q]
        exact ⟨h4, h5⟩
      · exact .inl ⟨a, b, by omega, h2, h3, h4, h5⟩
theorem bsD_HB (g : Int → Int → Int) (f : Nat → Int) {m : Nat} (hm : m ≤ 200) {d : Int} (hd : d = 0 ∨ d = 1 ∨ d = 2) : HB (SD g f m d) (bsD g f m d) := by
  have hi : HBi (fun _ _ => False) ((201, false, false) : bst) := .inl ⟨rfl, fun _ _ h => h⟩
  rcases hd with rfl | rfl | rfl
  · have := wr_ran g f m 110 110
    have e : bsD g f m 0 = bs (201, false, false) (wr g f m 110 110) (tt2 110 110) := if_pos rfl
    rw [e]
    refine HB_c (fun x t => ?_) (HBi_s hi (x := wr g f m 110 110) (by omega) (tt2 110 110))
    unfold SD
    rw [if_pos rfl]
    exact ⟨fun z => z.resolve_left id, .inr⟩
  · have e : bsD g f m 1 = bs1 g f m 110 := by
      unfold bsD
      rw [if_neg (by decide), if_pos rfl]
    have hb := bs1_HB g f hm 110
    rw [e]
    generalize bs1 g f m 110 = r at *
    rcases hb with h | h
    · exact absurd ⟨0, by decide, rfl, rfl⟩ (h.2 (wr g f m 0 110) (tt2 0 110))
    · refine HB_c (fun x t => ?_) h
      unfold SD
      rw [if_neg (by decide), if_pos rfl]
  · have e : bsD g f m 2 = bsO g f m 110 := by
      unfold bsD
      rw [if_neg (by decide), if_neg (by decide)]
    have hb := bsO_HB g f hm 110 (by decide)
    rw [e]
    generalize bsO g f m 110 = r at *
    rcases hb with h | h
    · exact absurd ⟨0, 1, by decide, by decide, by decide, rfl, rfl⟩ (h.2 (wr g f m 0 1) (tt2 0 1))
    · refine HB_c (fun x t => ?_) h
      unfold SD
      rw [if_neg (by decide), if_neg (by decide)]
      constructor
      · rintro ⟨a, b, h1, h2, h3, h4, h5⟩
        exact ⟨a, b, by omega, h3, by omega, h4, h5⟩
      · rintro ⟨a, b, h1, h2, h3, h4, h5⟩
        by_cases q : a < b
        · exact ⟨a, b, h1, q, h2, h4, h5⟩
        · exact ⟨b, a, h2, by omega, h1, by rw [wr_c]; exact h4, by rw [tt2_c]; exact h5⟩
/-- the other's numbers of the tests -/
def tq (q : Nat) : Nat := if q < 54 then 18 * (q / 9) + q % 9 else if q < 108 then 18 * ((q - 54) / 9) + 9 + q % 9 else q
theorem tq_lt {q : Nat} (h : q < 110) : tq q < 110 := by
  unfold tq
  split
  · omega
  · split <;> omega
theorem tq_on {r : Nat} (h : r < 110) : ∃ q, q < 110 ∧ tq q = r := by
  by_cases h1 : r < 108
  · by_cases h2 : r % 18 < 9
    · refine ⟨9 * (r / 18) + r % 18, by omega, ?_⟩
      unfold tq
      rw [if_pos (by omega)]
      omega
    · refine ⟨54 + 9 * (r / 18) + (r % 18 - 9), by omega, ?_⟩
      unfold tq
      rw [if_neg (by omega), if_pos (by omega)]
      omega
  · refine ⟨r, h, ?_⟩
    unfold tq
    rw [if_neg (by omega), if_neg h1]
theorem tq_in {a b : Nat} (ha : a < 110) (hb : b < 110) (h : tq a = tq b) : a = b := by
  unfold tq at h
  split at h <;> split at h <;> try split at h
  all_goals try split at h
  all_goals omega
theorem tt_tq (q : Nat) : tt (tq q) = decide (108 ≤ q ∧ q < 110) := by
  unfold tt tq
  rw [decide_eq_decide]
  split
  · omega
  · split <;> omega
theorem SD_2 (g : Int → Int → Int) (f : Nat → Int) (m : Nat) (x : Int) (t : Bool) : SD g f m 2 x t ↔ ∃ a b, a < 110 ∧ b < a ∧ x = wr g f m (tq a) (tq b) ∧ t = tt2 (tq a) (tq b) := by
  unfold SD
  rw [if_neg (by decide), if_neg (by decide)]
  constructor
  · rintro ⟨a, b, h1, h2, h3, h4, h5⟩
    obtain ⟨p, p1, rfl⟩ := tq_on h1
    obtain ⟨q, q1, rfl⟩ := tq_on h2
    have hne : p ≠ q := fun z => h3 (by rw [z])
    by_cases z : q < p
    · exact ⟨p, q, p1, z, h4, h5⟩
    · exact ⟨q, p, q1, by omega, by rw [wr_c]; exact h4, by rw [tt2_c]; exact h5⟩
  · rintro ⟨a, b, h1, h2, h3, h4⟩
    exact ⟨tq a, tq b, tq_lt h1, tq_lt (by omega), fun z => absurd (tq_in h1 (by omega) z) (by omega), h3, h4⟩
theorem SD_1 (g : Int → Int → Int) (f : Nat → Int) (m : Nat) (x : Int) (t : Bool) : SD g f m 1 x t ↔ ∃ a, a < 110 ∧ x = wr g f m (tq a) 110 ∧ t = tt2 (tq a) 110 := by
  unfold SD
  rw [if_neg (by decide), if_pos rfl]
  constructor
  · rintro ⟨a, h1, h4, h5⟩
    obtain ⟨p, p1, rfl⟩ := tq_on h1
    exact ⟨p, p1, h4, h5⟩
  · rintro ⟨a, h1, h3, h4⟩
    exact ⟨tq a, tq_lt h1, h3, h4⟩
theorem bwI_c {P Q : Nat → Bool} (h : ∀ i, i < 64 → P i = Q i) : bwI P = bwI Q := by
  have e : ∀ k, k ≤ 64 → bn P k = bn Q k := fun k => by
    induction k with
    | zero => intro _; rfl
    | succ k ih =>
      intro hk
      unfold bn
      rw [ih (by omega), h k (by omega)]
  unfold bwI
  rw [e 64 (by decide)]
theorem sb_ct (P : Nat → Bool) (a : Nat) : ∀ b, sb P (a + b) = sb P a + sb (fun i => P (a + i)) b
  | 0 => rfl
  | b + 1 => by
    rw [show sb P (a + (b + 1)) = sb P (a + b) + b1 (P (a + b)) from rfl, sb_ct P a b, show sb (fun i => P (a + i)) (b + 1) = sb (fun i => P (a + i)) b + b1 (P (a + b)) from rfl]
    omega
theorem sb_end {P : Nat → Bool} {a : Nat} (h : ∀ i, a ≤ i → P i = false) : ∀ b, sb P (a + b) = sb P a
  | 0 => rfl
  | b + 1 => by
    rw [show sb P (a + (b + 1)) = sb P (a + b) + b1 (P (a + b)) from rfl, sb_end h b, h _ (by omega)]
    rfl
theorem sb_c {P Q : Nat → Bool} : ∀ {n : Nat}, (∀ i, i < n → P i = Q i) → sb P n = sb Q n
  | 0, _ => rfl
  | n + 1, h => by
    unfold sb
    rw [sb_c (n := n) (fun i hi => h i (by omega)), h n (by omega)]
def SB (w : wo) (P : Nat → Nat → Bool) (G : Nat → Bool) : Prop := (∀ r k : Nat, r < 111 → k < 4 → wB w 43 (4 * (r : Int) + k) = bwI (fun j => P r (64 * k + j))) ∧ ∀ k : Nat, k < 4 → wB w 44 k = bwI (fun j => G (64 * k + j))
theorem SB_c {w : wo} {P Q : Nat → Nat → Bool} {G H : Nat → Bool} (h : SB w P G) (e : ∀ r i, r < 111 → P r i = Q r i) (e2 : ∀ i, G i = H i) : SB w Q H :=
  ⟨fun r k hr hk => by rw [h.1 r k hr hk]; exact bwI_c (fun i _ => e r _ hr), fun k hk => by rw [h.2 k hk]; exact bwI_c (fun i _ => e2 _)⟩
theorem SB_fr {w v : wo} {P : Nat → Nat → Bool} {G : Nat → Bool} {l : List Nat} (h : SB w P G) (q : fr l w v) (z : (fhas l 4399 || fhas l 4499) = false) : SB v P G := by
  rw [Bool.or_eq_false_iff] at z
  unfold SB
  rw [fr_B (a := 43) q z.1, fr_B (a := 44) q z.2]
  exact h
theorem bw_d {j : Nat} (hj : j < 64) : jj 1 <<< (jj j &&& jj 63) = jj (bwI fun i => decide (i = j)) := by
  rw [bw_1 hj]
  congr 1
  exact bwI_c (fun i _ => by rw [Bool.eq_iff_iff, Nat.beq_eq, decide_eq_true_eq])
/-- the rows of a value of a mark -/
abbrev tV (mk : Nat) (x : Int) (r : Nat) : Prop := 18 * mk ≤ r ∧ r < 18 * mk + 18 ∧ x ≠ -1 ∧ ((r < 18 * mk + 9 ∧ (r : Int) + 1 ≤ x + 18 * mk) ∨ (18 * mk + 9 ≤ r ∧ x + 9 + 18 * mk ≤ r))
theorem tR_V {g : Int → Int → Int} {c : Int} {k r : Nat} (hk : k < 6) (h1 : 18 * k ≤ r) (h2 : r < 18 * k + 18) : tR g r c = true ↔ tV k (g c (4 + k)) r := by
  unfold tR
  rw [if_pos (by omega), show r / 18 = k by omega, Bool.and_eq_true, decide_eq_true_eq]
  have e : ((r % 18 : Nat) : Int) = r - 18 * k := by omega
  by_cases q : r % 18 < 9
  · rw [if_pos q, decide_eq_true_eq, e]
    constructor
    · rintro ⟨a, b⟩
      exact ⟨h1, h2, a, by omega⟩
    · rintro ⟨a, b, c, d⟩
      exact ⟨c, by omega⟩
  · rw [if_neg q, decide_eq_true_eq, e]
    constructor
    · rintro ⟨a, b⟩
      exact ⟨h1, h2, a, by omega⟩
    · rintro ⟨a, b, c, d⟩
      exact ⟨c, by omega⟩
section L42
variable {sc : am_X} {w : wo} {A : ab} {ow : Nat → Nat} {n : Int} {g : Int → Int → Int} {P : Nat → Nat → Bool} {G : Nat → Bool}
theorem c246 {a n : Nat} {x : Int} (h : shp w a = some (1, 3, n)) (hn : n ≤ 60000) : ∃ v, am_F sc 246 [am_R (some a), am_L (jj x)] (wst w) = some (none, wst v) ∧ fr [a * 100 + 99] w v ∧ ∀ j : Int, 0 ≤ j → j < n → wB v a j = x := by
  have hh : fhas [a * 100 + 99] (a * 100 + 99) = true := by simp [fhas]
  obtain ⟨v, e, hfr, hv⟩ := lp_s0 (am_W sc 246) (fun (k : Nat) (v : wo) => (6, [some (am_R (some a)), some (am_L (jj x)), none, some (am_I (ii k)), some (am_I (ii n))], [], wst v)) (fun k v => fr [a * 100 + 99] w v ∧ ∀ j : Int, 0 ≤ j → j < k → wB v a j = x) n (fun k v hk hi => by
    obtain ⟨hfr, hv⟩ := hi
    have e1 := tL_of (w := v) (z := (k : Int)) (x := x) (by rw [fr_shp hfr]; exact h) (by omega) (by omega) hn
    refine ⟨uB v a (fu (wB v a) k x), ?_, fr_uB hfr hh, fun j j0 j1 => ?_⟩
    · rw [wq_246_6]
      simp (disch := omega) only [qB_s, qC_t, qC_f, qI_T, qI_F, qI_t, qI_f, r_I, r_L, r_R, r_V, ii_add, ii_sub, ii_mul, ii_neg, bz_0, bz_1, Bool.true_and, Bool.false_and, Bool.and_true, z00, z11, li_0, li_1, li_nat, ii_lt, e1, nat_1]
    · rw [rB, fu_at]
      by_cases q : j = k
      · rw [if_pos q]
      · rw [if_neg q]; exact hv j j0 (by omega)) w ⟨fr_r _ _, fun j j0 j1 => absurd j1 (by omega)⟩
  refine ⟨v, ?_, hfr, hv⟩
  rw [fq_246]
  have e' : am_W sc 246 (6, [some (am_R (some a)), some (am_L (jj x)), none, some (am_I (ii 0)), some (am_I (ii n))], [], wst w) = _ := e
  simp (disch := omega) only [qB_s, qC_t, qC_f, qI_T, qI_F, qI_t, qI_f, r_I, r_L, r_R, r_V, ii_add, ii_sub, ii_mul, ii_neg, bz_0, bz_1, Bool.true_and, Bool.false_and, Bool.and_true, z00, z11, li_0, li_1, li_nat, len_of h, li_nat]
  rw [e', wq_246_6]
  simp (disch := omega) only [qB_s, qC_t, qC_f, qI_T, qI_F, qI_t, qI_f, r_I, r_L, r_R, r_V, ii_add, ii_sub, ii_mul, ii_neg, bz_0, bz_1, Bool.true_and, Bool.false_and, Bool.and_true, z00, z11, li_0, li_1, li_nat, ii_lt]
theorem c247 (h : SB w P G) {i r : Nat} {q : Int} (hi : i < 200) (hr : r < 111) (hq : q = r) : ∃ v, am_F sc 247 [am_R (some 42), am_I (ii i), am_I (ii q)] (wst w) = some (none, wst v) ∧ fr [4399] w v ∧ SB v (fun r' i' => P r' i' || decide (i' = i ∧ r' = r)) G := by
  have hw : wB w 43 (q * 4 + (i : Int) / 64) = bwI (fun j => P r (64 * (i / 64) + j)) := by
    have := h.1 r (i / 64) hr (by omega)
    rw [← this]
    congr 1
    omega
  have ho : jj (bwI (fun j => P r (64 * (i / 64) + j))) ||| (jj 1 <<< (jj ((i : Int) - (i : Int) / 64 * 64) &&& jj 63)) = jj (bwI (fun j => P r (64 * (i / 64) + j) || decide (j = i % 64))) := by
    rw [show (i : Int) - (i : Int) / 64 * 64 = ((i % 64 : Nat) : Int) by omega, bw_d (by omega), bw_or]
  refine ⟨uB w 43 (fu (wB w 43) (q * 4 + (i : Int) / 64) (bwI (fun j => P r (64 * (i / 64) + j) || decide (j = i % 64)))), ?_, fr_uB (fr_r _ _) rfl, fun r' k hr' hk => ?_, fun k hk => ?_⟩
  · rw [fq_247]
    simp (disch := omega) only [qB_s, qC_t, qC_f, qI_T, qI_F, qI_t, qI_f, r_I, r_L, r_R, r_V, ii_add, ii_sub, ii_mul, ii_neg, bz_0, bz_1, Bool.true_and, Bool.false_and, Bool.and_true, z00, z11, li_0, li_4, li_64, li_nat, lj_1, lj_63, e_43, gR_42_0, len_43, t_43, ii_lt, ii_eq, ii_div, li_nat, ii_jj, hw, ho]
  · rw [rB, fu_at]
    by_cases z : 4 * (r' : Int) + k = q * 4 + (i : Int) / 64
    · have z1 : r' = r := by omega
      have z2 : k = i / 64 := by omega
      rw [if_pos z, z1, z2]
      refine bwI_c (fun j hj => ?_)
      congr 1
      rw [decide_eq_decide]
      omega
    · rw [if_neg z, h.1 r' k hr' hk]
      refine bwI_c (fun j hj => ?_)
      try dsimp only
      rw [decide_eq_false (by omega), Bool.or_false]
  · show wB (uB w 43 _) 44 k = _
    rw [show wB (uB w 43 (fu (wB w 43) (q * 4 + (i : Int) / 64) (bwI (fun j => P r (64 * (i / 64) + j) || decide (j = i % 64))))) 44 = wB w 44 from rfl]
    exact h.2 k hk
theorem and_d {p q : Prop} [Decidable p] [Decidable q] {a : Bool} (h : p ↔ q) : (decide p && a) = (decide q && a) := by
  rw [decide_eq_decide.mpr h]
theorem or_d {p q t : Prop} [Decidable p] [Decidable q] [Decidable t] {a : Bool} (h : p ∨ q ↔ t) : (a || decide p || decide q) = (a || decide t) := by
  rw [Bool.or_assoc, ← Bool.decide_or]
  congr 1
  exact decide_eq_decide.mpr h
theorem c248 (h : SB w P G) {i mk : Nat} {x : Int} (hi : i < 200) (hm : mk < 6) (hx : -1 ≤ x ∧ x ≤ 9) : ∃ v, am_F sc 248 [am_R (some 42), am_I (ii i), am_I (ii mk), am_I (ii x)] (wst w) = some (none, wst v) ∧ fr [4399] w v ∧ SB v (fun r' i' => P r' i' || decide (i' = i ∧ tV mk x r')) G := by
  by_cases hx1 : x = -1
  · refine ⟨w, ?_, fr_r _ _, SB_c h (fun r i' _ => ?_) (fun _ => rfl)⟩
    · rw [fq_248]
      simp (disch := omega) only [qB_s, qC_t, qC_f, qI_T, qI_F, qI_t, qI_f, r_I, r_L, r_R, r_V, ii_add, ii_sub, ii_mul, ii_neg, bz_0, bz_1, Bool.true_and, Bool.false_and, Bool.and_true, z00, z11, li_0, li_1, li_18, li_8, li_9, is_42, ii_lt, ii_eq]
    · rw [decide_eq_false (fun z => z.2.2.2.1 hx1), Bool.or_false]
  · obtain ⟨v1, e1, -, f1, h1⟩ := lp_s (am_W sc 248) (fun (k : Nat) (v : wo) => (9, [some (am_R (some 42)), some (am_I (ii i)), some (am_I (ii mk)), some (am_I (ii x)), some (am_I (ii k))], [], wst v)) (fun k v => 1 ≤ k ∧ fr [4399] w v ∧ SB v (fun r' i' => P r' i' || decide (i' = i ∧ 18 * mk ≤ r' ∧ r' + 1 < 18 * mk + k ∧ (r' : Int) + 1 ≤ x + 18 * mk)) G) 10 (fun k v hk hv => by
      obtain ⟨k1, fv, hv⟩ := hv
      by_cases q : x < k
      · refine ⟨v, ?_, by omega, fv, SB_c hv (fun r i' _ => ?_) (fun _ => rfl)⟩
        · rw [wq_248_9]
          simp (disch := omega) only [qB_s, qC_t, qC_f, qI_T, qI_F, qI_t, qI_f, r_I, r_L, r_R, r_V, ii_add, ii_sub, ii_mul, ii_neg, bz_0, bz_1, Bool.true_and, Bool.false_and, Bool.and_true, z00, z11, li_0, li_1, li_18, li_8, li_9, is_42, ii_lt, nat_1]
        · congr 1
          rw [decide_eq_decide]
          omega
      · obtain ⟨u, e, fu', hu⟩ := c247 (sc := sc) hv (i := i) (r := 18 * mk + k - 1) (q := (mk : Int) * 18 + k - 1) hi (by omega) (by omega)
        refine ⟨u, ?_, by omega, fr_t fv fu', SB_c hu (fun r i' _ => ?_) (fun _ => rfl)⟩
        · rw [wq_248_9]
          simp (disch := omega) only [qB_s, qC_t, qC_f, qI_T, qI_F, qI_t, qI_f, r_I, r_L, r_R, r_V, ii_add, ii_sub, ii_mul, ii_neg, bz_0, bz_1, Bool.true_and, Bool.false_and, Bool.and_true, z00, z11, li_0, li_1, li_18, li_8, li_9, is_42, ii_lt, e, nat_1]
        · exact or_d (by omega)) 9 1 w (by decide) ⟨Nat.le_refl 1, fr_r _ _, SB_c h (fun r i' _ => by rw [decide_eq_false (by omega), Bool.or_false]) (fun _ => rfl)⟩
    obtain ⟨v2, e2, f2, h2⟩ := lp_s0 (am_W sc 248) (fun (k : Nat) (v : wo) => (45, [some (am_R (some 42)), some (am_I (ii i)), some (am_I (ii mk)), some (am_I (ii x)), some (am_I (ii k))], [], wst v)) (fun k v => fr [4399] w v ∧ SB v (fun r' i' => P r' i' || decide (i' = i ∧ 18 * mk ≤ r' ∧ ((r' < 18 * mk + 9 ∧ (r' : Int) + 1 ≤ x + 18 * mk) ∨ (18 * mk + 9 ≤ r' ∧ r' < 18 * mk + 9 + k ∧ x + 9 + 18 * mk ≤ r')))) G) 9 (fun k v hk hv => by
      obtain ⟨fv, hv⟩ := hv
      by_cases q : (k : Int) < x
      · refine ⟨v, ?_, fv, SB_c hv (fun r i' _ => ?_) (fun _ => rfl)⟩
        · rw [wq_248_45]
          simp (disch := omega) only [qB_s, qC_t, qC_f, qI_T, qI_F, qI_t, qI_f, r_I, r_L, r_R, r_V, ii_add, ii_sub, ii_mul, ii_neg, bz_0, bz_1, Bool.true_and, Bool.false_and, Bool.and_true, z00, z11, li_0, li_1, li_18, li_8, li_9, is_42, ii_lt, nat_1]
        · congr 1
          rw [decide_eq_decide]
          omega
      · obtain ⟨u, e, fu', hu⟩ := c247 (sc := sc) hv (i := i) (r := 18 * mk + 9 + k) (q := (mk : Int) * 18 + 9 + k) hi (by omega) (by omega)
        refine ⟨u, ?_, fr_t fv fu', SB_c hu (fun r i' _ => ?_) (fun _ => rfl)⟩
        · rw [wq_248_45]
          simp (disch := omega) only [qB_s, qC_t, qC_f, qI_T, qI_F, qI_t, qI_f, r_I, r_L, r_R, r_V, ii_add, ii_sub, ii_mul, ii_neg, bz_0, bz_1, Bool.true_and, Bool.false_and, Bool.and_true, z00, z11, li_0, li_1, li_18, li_8, li_9, is_42, ii_lt, e, nat_1]
        · exact or_d (by omega)) v1 ⟨f1, SB_c h1 (fun r i' _ => by
      congr 1
      rw [decide_eq_decide]
      omega) (fun _ => rfl)⟩
    refine ⟨v2, ?_, f2, SB_c h2 (fun r i' _ => ?_) (fun _ => rfl)⟩
    · have e1' : am_W sc 248 (9, [some (am_R (some 42)), some (am_I (ii i)), some (am_I (ii mk)), some (am_I (ii x)), some (am_I (ii 1))], [], wst w) = _ := e1
      have e2' : am_W sc 248 (45, [some (am_R (some 42)), some (am_I (ii i)), some (am_I (ii mk)), some (am_I (ii x)), some (am_I (ii 0))], [], wst v1) = _ := e2
      rw [fq_248]
      simp (disch := omega) only [qB_s, qC_t, qC_f, qI_T, qI_F, qI_t, qI_f, r_I, r_L, r_R, r_V, ii_add, ii_sub, ii_mul, ii_neg, bz_0, bz_1, Bool.true_and, Bool.false_and, Bool.and_true, z00, z11, li_0, li_1, li_18, li_8, li_9, is_42, ii_lt, ii_eq]
      rw [e1', wq_248_9]
      simp (disch := omega) only [qB_s, qC_t, qC_f, qI_T, qI_F, qI_t, qI_f, r_I, r_L, r_R, r_V, ii_add, ii_sub, ii_mul, ii_neg, bz_0, bz_1, Bool.true_and, Bool.false_and, Bool.and_true, z00, z11, li_0, li_1, li_18, li_8, li_9, is_42, ii_lt]
      rw [e2', wq_248_45]
      simp (disch := omega) only [qB_s, qC_t, qC_f, qI_T, qI_F, qI_t, qI_f, r_I, r_L, r_R, r_V, ii_add, ii_sub, ii_mul, ii_neg, bz_0, bz_1, Bool.true_and, Bool.false_and, Bool.and_true, z00, z11, li_0, li_1, li_18, li_8, li_9, is_42, ii_lt]
    · congr 1
      rw [decide_eq_decide]
      omega
/-- the rows hold the first i of those taken -/
def SBi (w : wo) (g : Int → Int → Int) (f : Nat → Int) (i : Nat) : Prop := SB w (fun r i' => decide (i' < i) && tR g r (f i')) (fun i' => decide (i' < i) && decide (g (f i') 2 = 2))
def sSB : List Nat := [4202, 4399, 4499]
def sSA : List Nat := [4399, 4499]
theorem c249m (hC : CS w n g) (hg : gK n g) {m : Nat} {f : Nat → Int} (hm : m ≤ 200) {i : Nat} (hi : i < m) (hfi : 0 ≤ f i ∧ f i < n) (h : SBi w g f i) : ∃ v, am_W sc 249 (64, [some (am_R (some 42)), some (am_R (some 1)), some (am_R (some 22)), some (am_I (ii i)), some (am_I (ii (f i))), some (am_I (ii 0))], [], wst w) = am_W sc 249 (38, [some (am_R (some 42)), some (am_R (some 1)), some (am_R (some 22)), some (am_I (ii (i + 1 : Nat))), none, none], [], wst v) ∧ fr sSA w v ∧ SBi v g f (i + 1) := by
  have hn200 := hC.2.2.1
  have hr := hg (f i) hfi.1 hfi.2
  have r1 := hr.1
  have r2 := hr.2.2.1
  obtain ⟨v1, e1, f1, h1⟩ := lp_s0 (am_W sc 249) (fun (k : Nat) (v : wo) => (64, [some (am_R (some 42)), some (am_R (some 1)), some (am_R (some 22)), some (am_I (ii i)), some (am_I (ii (f i))), some (am_I (ii k))], [], wst v)) (fun k v => fr sSA w v ∧ SB v (fun r i' => (decide (i' < i) && tR g r (f i')) || decide (i' = i ∧ r < 18 * k ∧ tR g r (f i) = true)) (fun i' => decide (i' < i) && decide (g (f i') 2 = 2))) 6 (fun k v hk hv => by
    obtain ⟨fv, hv⟩ := hv
    have p1 := c21 (sc := sc) (CS_fr hC fv rfl) hfi.1 hfi.2 (m := k) (by omega) (by omega)
    have r3 := gK_m hg hfi.1 hfi.2 (m := k) (by omega) (by omega)
    obtain ⟨u, e, fu', hu⟩ := c248 (sc := sc) hv (i := i) (mk := k) (x := g (f i) (4 + k)) (by omega) hk r3
    refine ⟨u, ?_, fr_t fv (fr_m fu' rfl), SB_c hu (fun r i' hr => ?_) (fun _ => rfl)⟩
    · rw [wq_249_64]
      simp (disch := omega) only [qB_s, qC_t, qC_f, qI_T, qI_F, qI_t, qI_f, r_I, r_L, r_R, r_V, ii_add, ii_sub, ii_mul, ii_neg, bz_0, bz_1, Bool.true_and, Bool.false_and, Bool.and_true, z00, z11, li_0, li_1, li_108, li_110, li_2, li_4, li_6, li_64, lj_0, lj_1, lj_63, e_43, e_44, gI_22_3, gR_42_0, gR_42_1, is_1, is_22, is_42, pI_42_2, t_43, t_44, ii_lt, p1, e, nat_1]
    · refine or_d ⟨?_, ?_⟩
      · rintro (⟨a, b, c⟩ | ⟨a, b⟩)
        · exact ⟨a, by omega, c⟩
        · exact ⟨a, by have := b.2.1; omega, (tR_V hk b.1 b.2.1).mpr b⟩
      · rintro ⟨a, b, c⟩
        by_cases z : r < 18 * k
        · exact .inl ⟨a, z, c⟩
        · exact .inr ⟨a, (tR_V hk (by omega) (by omega)).mp c⟩) w ⟨fr_r _ _, SB_c h (fun r i' _ => by rw [decide_eq_false (p := i' = i ∧ r < 18 * 0 ∧ tR g r (f i) = true) (by omega), Bool.or_false]) (fun _ => rfl)⟩
  have p2 := c26 (sc := sc) (CS_fr hC f1 rfl) hfi.1 hfi.2
  simp only [Int.reduceSub] at p2
  obtain ⟨v2, e2, f2, h2⟩ := c247 (sc := sc) h1 (i := i) (r := 108 + (g (f i) 0).toNat) (q := 108 + g (f i) 0) (by omega) (by omega) (by omega)
  obtain ⟨v3, e3, f3, h3⟩ := c247 (sc := sc) h2 (i := i) (r := 110) (q := 110) (by omega) (by omega) rfl
  have f13 : fr sSA w v3 := fr_t f1 (fr_t (fr_m f2 rfl) (fr_m f3 rfl))
  have p4 := c28 (sc := sc) (CS_fr hC f13 rfl) hfi.1 hfi.2
  simp only [Int.reduceSub] at p4
  have hP : ∀ r i' : Nat, r < 111 → ((((decide (i' < i) && tR g r (f i')) || decide (i' = i ∧ r < 18 * 6 ∧ tR g r (f i) = true)) || decide (i' = i ∧ r = 108 + (g (f i) 0).toNat)) || decide (i' = i ∧ r = 110)) = (decide (i' < i + 1) && tR g r (f i')) := fun r i' hr => by
    by_cases z1 : i' < i
    · rw [decide_eq_true z1, decide_eq_true (show i' < i + 1 by omega), decide_eq_false (fun z => by have := z.1; omega), decide_eq_false (fun z => by have := z.1; omega), decide_eq_false (fun z => by have := z.1; omega)]
      simp
    · by_cases z2 : i' = i
      · subst z2
        rw [decide_eq_false z1, decide_eq_true (show i' < i' + 1 by omega)]
        simp only [true_and, Bool.false_and, Bool.false_or, Bool.true_and]
        by_cases z3 : r < 108
        · rw [decide_eq_false (show ¬ r = 108 + (g (f i') 0).toNat by omega), decide_eq_false (show ¬ r = 110 by omega), Bool.or_false, Bool.or_false]
          simp [z3]
        · have e : tR g r (f i') = if r < 110 then decide (g (f i') 0 = (r : Int) - 108) else true := if_neg z3
          rw [e, decide_eq_false (fun z => absurd z.1 z3), Bool.false_or, ← Bool.decide_or]
          split
          · rw [decide_eq_decide]
            omega
          · exact decide_eq_true (by omega)
      · rw [decide_eq_false z1, decide_eq_false (show ¬ i' < i + 1 by omega), decide_eq_false (fun z => z2 z.1), decide_eq_false (fun z => z2 z.1), decide_eq_false (fun z => z2 z.1)]
        simp
  have e1' : am_W sc 249 (64, [some (am_R (some 42)), some (am_R (some 1)), some (am_R (some 22)), some (am_I (ii i)), some (am_I (ii (f i))), some (am_I (ii 0))], [], wst w) = _ := e1
  by_cases q : g (f i) 2 = 2
  · have hw : wB v3 44 ((i : Int) / 64) = bwI (fun j => decide (64 * (i / 64) + j < i) && decide (g (f (64 * (i / 64) + j)) 2 = 2)) := by
      have := h3.2 (i / 64) (by omega)
      rw [← this]
      congr 1
    have ho : jj (bwI (fun j => decide (64 * (i / 64) + j < i) && decide (g (f (64 * (i / 64) + j)) 2 = 2))) ||| (jj 1 <<< (jj ((i : Int) - (i : Int) / 64 * 64) &&& jj 63)) = jj (bwI (fun j => (decide (64 * (i / 64) + j < i) && decide (g (f (64 * (i / 64) + j)) 2 = 2)) || decide (j = i % 64))) := by
      rw [show (i : Int) - (i : Int) / 64 * 64 = ((i % 64 : Nat) : Int) by omega, bw_d (by omega), bw_or]
    refine ⟨uB v3 44 (fu (wB v3 44) ((i : Int) / 64) (bwI (fun j => (decide (64 * (i / 64) + j < i) && decide (g (f (64 * (i / 64) + j)) 2 = 2)) || decide (j = i % 64)))), ?_, fr_uB f13 rfl, fun r k hr hk => ?_, fun k hk => ?_⟩
    · rw [e1', wq_249_64]
      simp (disch := omega) only [qB_s, qC_t, qC_f, qI_T, qI_F, qI_t, qI_f, r_I, r_L, r_R, r_V, ii_add, ii_sub, ii_mul, ii_neg, bz_0, bz_1, Bool.true_and, Bool.false_and, Bool.and_true, z00, z11, li_0, li_1, li_108, li_110, li_2, li_4, li_6, li_64, lj_0, lj_1, lj_63, e_43, e_44, gI_22_3, gR_42_0, gR_42_1, is_1, is_22, is_42, pI_42_2, t_43, t_44, ii_lt, ii_eq, p2, e2, e3, p4, ii_div, ii_jj, hw, ho, nat_1]
    · show wB v3 43 _ = _
      rw [h3.1 r k hr hk]
      exact bwI_c (fun j _ => hP r _ hr)
    · rw [rB, fu_at]
      by_cases z : (k : Int) = (i : Int) / 64
      · have z2 : k = i / 64 := by omega
        rw [if_pos z, z2]
        refine bwI_c (fun j hj => ?_)
        by_cases z3 : j = i % 64
        · have z4 : 64 * (i / 64) + j = i := by omega
          try dsimp only
          rw [z4, decide_eq_true z3, decide_eq_true (show i < i + 1 by omega), decide_eq_true q, Bool.or_true, Bool.true_and]
        · try dsimp only
          rw [decide_eq_false z3, Bool.or_false]
          exact and_d (by omega)
      · rw [if_neg z, h3.2 k hk]
        refine bwI_c (fun j hj => ?_)
        exact and_d (by omega)
  · refine ⟨v3, ?_, f13, SB_c h3 hP (fun i' => ?_)⟩
    · rw [e1', wq_249_64]
      simp (disch := omega) only [qB_s, qC_t, qC_f, qI_T, qI_F, qI_t, qI_f, r_I, r_L, r_R, r_V, ii_add, ii_sub, ii_mul, ii_neg, bz_0, bz_1, Bool.true_and, Bool.false_and, Bool.and_true, z00, z11, li_0, li_1, li_108, li_110, li_2, li_4, li_6, li_64, lj_0, lj_1, lj_63, e_43, e_44, gI_22_3, gR_42_0, gR_42_1, is_1, is_22, is_42, pI_42_2, t_43, t_44, ii_lt, ii_eq, p2, e2, e3, p4, nat_1]
    · by_cases z : i' = i
      · rw [z, decide_eq_false q, Bool.and_false, Bool.and_false]
      · exact and_d (by omega)
theorem c249 (hC : CS w n g) (hg : gK n g) {m : Nat} {f : Nat → Int} (hT : TK w m f) (hm : m ≤ 200) (hf : ∀ i, i < m → 0 ≤ f i ∧ f i < n) : ∃ v, am_F sc 249 [am_R (some 42), am_R (some 1), am_R (some 22)] (wst w) = some (none, wst v) ∧ fr sSB w v ∧ SBi v g f m ∧ wI v 42 2 = ((m + 63) / 64 : Nat) := by
  obtain ⟨w1, e1, f1, z1⟩ := c246 (sc := sc) (w := w) (a := 43) (n := 444) (x := 0) rfl (by decide)
  obtain ⟨w2, e2, f2, z2⟩ := c246 (sc := sc) (w := w1) (a := 44) (n := 4) (x := 0) rfl (by decide)
  have f12 : fr sSB w w2 := fr_t (fr_m f1 rfl) (fr_m f2 rfl)
  have f3 : fr sSB w (uI w2 42 2 ((m + 63) / 64 : Nat)) := fr_uI f12 rfl
  have hs2 : wI w2 22 3 = m := by rw [fr_I f12 rfl]; exact hT.1
  have hmin : am_minI (ii ((m : Int) + 64 - 1) / ii 64) (ii 4) = ii ((m + 63) / 64 : Nat) := by
    rw [ii_div (by omega) (by omega) (by omega) (by omega), minI_ii (by omega) (by omega) (by omega) (by omega), if_neg (by omega)]
    congr 1
    omega
  rw [ii_div (by omega) (by omega) (by omega) (by omega)] at hmin
  have h0 : SBi (uI w2 42 2 ((m + 63) / 64 : Nat)) g f 0 := ⟨fun r k hr hk => by
    show wB w2 43 _ = _
    rw [fr_B (a := 43) f2 rfl, z1 _ (by omega) (by omega), ← bw_0]
    refine bwI_c (fun i _ => ?_)
    try dsimp only
    rw [decide_eq_false (by omega), Bool.false_and], fun k hk => by
    show wB w2 44 _ = _
    rw [z2 _ (by omega) (by omega), ← bw_0]
    refine bwI_c (fun i _ => ?_)
    try dsimp only
    rw [decide_eq_false (by omega), Bool.false_and]⟩
  obtain ⟨v, e, hfr, hv, hv2⟩ := lp_s0 (am_W sc 249) (fun (i : Nat) (v : wo) => (38, [some (am_R (some 42)), some (am_R (some 1)), some (am_R (some 22)), some (am_I (ii i)), none, none], [], wst v)) (fun i v => fr sSB w v ∧ SBi v g f i ∧ wI v 42 2 = ((m + 63) / 64 : Nat)) m (fun i v hi hv => by
    obtain ⟨fv, hv, hv2⟩ := hv
    have hTv := TK_fr hT fv rfl
    have hs := hTv.1
    have p1 := c118 (sc := sc) hTv hm hi
    obtain ⟨u, e4, f4, h4⟩ := c249m (sc := sc) (CS_fr hC fv rfl) hg hm hi (hf i hi) hv
    refine ⟨u, ?_, fr_t fv (fr_m f4 rfl), h4, by rw [fr_I f4 rfl]; exact hv2⟩
    rw [← e4, wq_249_38]
    simp (disch := omega) only [qB_s, qC_t, qC_f, qI_T, qI_F, qI_t, qI_f, r_I, r_L, r_R, r_V, ii_add, ii_sub, ii_mul, ii_neg, bz_0, bz_1, Bool.true_and, Bool.false_and, Bool.and_true, z00, z11, li_0, li_1, li_108, li_110, li_2, li_4, li_6, li_64, lj_0, lj_1, lj_63, e_43, e_44, gI_22_3, gR_42_0, gR_42_1, is_1, is_22, is_42, pI_42_2, t_43, t_44, hs, ii_lt, ii_eq, ii_div, p1]) _ ⟨f3, h0, rI _ _ _ _⟩
  have hs : wI v 22 3 = m := by rw [fr_I hfr rfl]; exact hT.1
  refine ⟨v, ?_, hfr, hv, hv2⟩
  have e' : am_W sc 249 (38, [some (am_R (some 42)), some (am_R (some 1)), some (am_R (some 22)), some (am_I (ii 0)), none, none], [], wst (uI w2 42 2 ((m + 63) / 64 : Nat))) = _ := e
  rw [fq_249]
  simp (disch := omega) only [qB_s, qC_t, qC_f, qI_T, qI_F, qI_t, qI_f, r_I, r_L, r_R, r_V, ii_add, ii_sub, ii_mul, ii_neg, bz_0, bz_1, Bool.true_and, Bool.false_and, Bool.and_true, z00, z11, li_0, li_1, li_108, li_110, li_2, li_4, li_6, li_64, lj_0, lj_1, lj_63, e_43, e_44, gI_22_3, gR_42_0, gR_42_1, is_1, is_22, is_42, pI_42_2, t_43, t_44, e1, e2, hs2, ii_eq, ii_div, hmin]
  rw [e', wq_249_38]
  simp (disch := omega) only [qB_s, qC_t, qC_f, qI_T, qI_F, qI_t, qI_f, r_I, r_L, r_R, r_V, ii_add, ii_sub, ii_mul, ii_neg, bz_0, bz_1, Bool.true_and, Bool.false_and, Bool.and_true, z00, z11, li_0, li_1, li_108, li_110, li_2, li_4, li_6, li_64, lj_0, lj_1, lj_63, e_43, e_44, gI_22_3, gR_42_0, gR_42_1, is_1, is_22, is_42, pI_42_2, t_43, t_44, hs, ii_lt]
end L42
