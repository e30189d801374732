/-! PAIRS: WHAT IS BEST -/
theorem sm_swap (f : Nat → Nat → Int) (n : Nat) : ∀ m, sm (fun i => sm (fun j => f i j) n) m = sm (fun j => sm (fun i => f i j) m) n
  | 0 => (sm_0 n).symm
  | m + 1 => by
    rw [sm_s, sm_swap f n m, ← sm_add]
    exact sm_c (fun j _ => rfl)
theorem sm_pick (f : Nat → Int) (x : Nat) : ∀ n, sm (fun i => if x = i then f i else 0) n = if x < n then f x else 0
  | 0 => by rw [if_neg (Nat.not_lt_zero x)]; rfl
  | n + 1 => by
    rw [sm_s, sm_pick f x n]
    by_cases q : x = n
    · rw [if_neg (by omega), if_pos q, if_pos (by omega), q]
      omega
    · rw [if_neg q]
      by_cases q2 : x < n
      · rw [if_pos q2, if_pos (by omega)]
        omega
      · rw [if_neg q2, if_neg (by omega)]
        omega
theorem sm_neg (f : Nat → Int) : ∀ n, sm (fun i => -f i) n = -sm f n
  | 0 => rfl
  | n + 1 => by
    rw [sm_s, sm_neg f n, sm_s]
    omega
/-- a matching of columns to rows: 0 for none, else the row's number and one -/
def mtC (m : Nat → Nat) : Int := sm (fun j => if m j = 0 then 0 else 1) 10
def mtS (c : Nat → Nat → Int) (m : Nat → Nat) : Int := sm (fun j => if m j = 0 then 0 else c (m j - 1) j) 10
def mtK (c : Nat → Nat → Int) (m : Nat → Nat) : Prop := (∀ j, j < 10 → m j ≤ 10) ∧ (∀ j k, j < 10 → k < 10 → m j ≠ 0 → m j = m k → j = k) ∧ ∀ j, j < 10 → m j ≠ 0 → c (m j - 1) j < 100000
/-- the most pairs, and the least sum of so many -/
def PO (c : Nat → Nat → Int) (n s : Int) : Prop := (∃ m, mtK c m ∧ mtC m = n ∧ mtS c m = s) ∧ ∀ m, mtK c m → mtC m < n ∨ (mtC m = n ∧ s ≤ mtS c m)
theorem PO_u {c : Nat → Nat → Int} {n s n' s' : Int} (h : PO c n s) (k : PO c n' s') : n = n' ∧ s = s' := by
  obtain ⟨⟨m, h1, h2, h3⟩, h4⟩ := h
  obtain ⟨⟨m', k1, k2, k3⟩, k4⟩ := k
  have a := h4 m' k1
  have b := k4 m h1
  omega
/-- how often a row is met -/
def mtA (m : Nat → Nat) (i : Nat) : Int := sm (fun j => if m j = i + 1 then 1 else 0) 10
theorem one_le {p : Nat → Prop} [∀ j, Decidable (p j)] : ∀ {n : Nat}, (∀ j k, j < n → k < n → p j → p k → j = k) → sm (fun j => if p j then (1 : Int) else 0) n ≤ 1
  | 0, _ => by simp [sm]
  | n + 1, h => by
    rw [sm_s]
    by_cases q : p n
    · have : sm (fun j => if p j then (1 : Int) else 0) n = sm (fun _ => 0) n := sm_c (fun j hj => if_neg (fun z => by
        have := h j n (by omega) (by omega) z q
        omega))
      rw [this, sm_0, if_pos q]
      omega
    · rw [if_neg q]
      have := one_le (n := n) (fun j k a b => h j k (by omega) (by omega))
      omega
theorem mtA_01 {m : Nat → Nat} (hi : ∀ j k, j < 10 → k < 10 → m j ≠ 0 → m j = m k → j = k) (i : Nat) : 0 ≤ mtA m i ∧ mtA m i ≤ 1 := by
  refine ⟨sm_nn (fun j _ => by split <;> omega), one_le (p := fun j => m j = i + 1) (fun j k hj hk a b => hi j k hj hk (by omega) (by omega))⟩
theorem sm_ml (a : Int) (f : Nat → Int) : ∀ n, sm (fun i => f i * a) n = sm f n * a
  | 0 => by simp [sm]
  | n + 1 => by rw [sm_s, sm_ml a f n, sm_s, Int.add_mul]
/-- what the rows met bear, counted by columns -/
theorem mtA_sum {m : Nat → Nat} (hm : ∀ j, j < 10 → m j ≤ 10) (u : Nat → Int) : sm (fun i => mtA m i * u i) 10 = sm (fun j => if m j = 0 then 0 else u (m j - 1)) 10 := by
  have e1 : ∀ i, mtA m i * u i = sm (fun j => if m j = i + 1 then u i else 0) 10 := fun i => by
    unfold mtA
    rw [← sm_ml]
    refine sm_c (fun j _ => ?_)
    split
    · rw [Int.one_mul]
    · rw [Int.zero_mul]
  rw [sm_c (fun i _ => e1 i), sm_swap]
  refine sm_c (fun j hj => ?_)
  have h := hm j hj
  by_cases q : m j = 0
  · rw [if_pos q]
    rw [sm_c (g := fun _ => 0) (fun i _ => if_neg (by omega)), sm_0]
  · rw [if_neg q]
    rw [sm_c (g := fun i => if m j - 1 = i then u i else 0) (fun i _ => by
      by_cases z : m j = i + 1
      · rw [if_pos z, if_pos (by omega)]
      · rw [if_neg z, if_neg (by omega)]), sm_pick, if_pos (by omega)]
theorem mtA_cnt {m : Nat → Nat} (hm : ∀ j, j < 10 → m j ≤ 10) : sm (mtA m) 10 = mtC m := by
  have := mtA_sum hm (fun _ => 1)
  rw [sm_c (g := mtA m) (fun i _ => Int.mul_one _)] at this
  exact this
/-- a bound of those not met -/
theorem rest_le {a u : Nat → Int} {U : Int} (h : ∀ i, i < 10 → (0 ≤ a i ∧ a i ≤ 1) ∧ u i ≤ U) : sm u 10 ≤ sm (fun i => a i * u i) 10 + (10 - sm a 10) * U := by
  have e : ∀ n, n ≤ 10 → sm u n ≤ sm (fun i => a i * u i) n + (n - sm a n) * U := fun n => by
    induction n with
    | zero => intro _; simp [sm]
    | succ n ih =>
      intro hn
      have ih := ih (by omega)
      obtain ⟨⟨h0, h1⟩, h2⟩ := h n (by omega)
      rw [sm_s, sm_s, sm_s]
      have : a n = 0 ∨ a n = 1 := by omega
      rcases this with z | z
      · rw [z, Int.zero_mul, Int.add_zero, Int.add_zero]
        have : ((n + 1 : Nat) : Int) - sm a n = ((n : Int) - sm a n) + 1 := by omega
        rw [this, Int.add_mul]
        omega
      · rw [z, Int.one_mul]
        have : ((n + 1 : Nat) : Int) - (sm a n + 1) = (n : Int) - sm a n := by omega
        rw [this]
        omega
  exact e 10 (Nat.le_refl _)
theorem mx_ex (u : Nat → Int) : ∀ n, ∃ k, k < n + 1 ∧ ∀ i, i < n + 1 → u i ≤ u k
  | 0 => ⟨0, by decide, fun i hi => by rw [show i = 0 by omega]; exact Int.le_refl _⟩
  | n + 1 => by
    obtain ⟨k, hk, h⟩ := mx_ex u n
    by_cases q : u k ≤ u (n + 1)
    · refine ⟨n + 1, by omega, fun i hi => ?_⟩
      by_cases z : i = n + 1
      · rw [z]; exact Int.le_refl _
      · have := h i (by omega)
        omega
    · refine ⟨k, by omega, fun i hi => ?_⟩
      by_cases z : i = n + 1
      · rw [z]; omega
      · exact h i (by omega)
/-- prices bear witness that no matching does better -/
theorem dual {c : Nat → Nat → Int} {u v : Nat → Int} (hf : ∀ i j, i < 10 → j < 10 → u i + v j ≤ c i j) (hF : ∀ i j, i < 10 → j < 10 → c i j ≤ 100000) {m : Nat → Nat} (hm : mtK c m) : sm u 10 + sm v 10 ≤ mtS c m + (10 - mtC m) * 100000 := by
  obtain ⟨h1, h2, h3⟩ := hm
  obtain ⟨k, hk, hU⟩ := mx_ex u 9
  obtain ⟨l, hl, hV⟩ := mx_ex v 9
  have a1 := rest_le (a := mtA m) (u := u) (U := u k) (fun i hi => ⟨mtA_01 h2 i, hU i hi⟩)
  have a2 := rest_le (a := fun j => if m j = 0 then 0 else 1) (u := v) (U := v l) (fun j hj => ⟨by split <;> omega, hV j hj⟩)
  rw [mtA_cnt h1, mtA_sum h1] at a1
  have e2 : sm (fun j => if m j = 0 then (0 : Int) else 1) 10 = mtC m := rfl
  rw [e2] at a2
  have hc := hf k l hk hl
  have hF2 := hF k l hk hl
  have hC0 : 0 ≤ 10 - mtC m := by
    have : mtC m ≤ 10 := by
      have := sm_le (f := fun j => if m j = 0 then (0 : Int) else 1) (g := fun _ => 1) (n := 10) (fun i _ => by split <;> omega)
      exact this
    omega
  have b1 : (10 - mtC m) * u k + (10 - mtC m) * v l ≤ (10 - mtC m) * 100000 := by
    rw [← Int.mul_add]
    exact Int.mul_le_mul_of_nonneg_left (by omega) hC0
  have b2 : sm (fun j => if m j = 0 then 0 else u (m j - 1)) 10 + sm (fun j => (if m j = 0 then 0 else 1) * v j) 10 ≤ mtS c m := by
    rw [← sm_add]
    refine sm_le (fun j hj => ?_)
    by_cases q : m j = 0
    · rw [if_pos q, if_pos q, if_pos q]
      omega
    · rw [if_neg q, if_neg q, if_neg q, Int.one_mul]
      have := h1 j hj
      exact hf (m j - 1) j (by omega) hj
  omega
theorem all_1 {a : Nat → Int} : ∀ {n : Nat}, (∀ i, i < n → a i ≤ 1) → (n : Int) ≤ sm a n → ∀ i, i < n → a i = 1
  | 0, _, _, i, hi => absurd hi (Nat.not_lt_zero i)
  | n + 1, h, hs, i, hi => by
    rw [sm_s] at hs
    have h1 := h n (by omega)
    have h2 : sm a n ≤ n := by
      have := sm_le (f := a) (g := fun _ => 1) (n := n) (fun i hi => h i (by omega))
      have e : ∀ k : Nat, sm (fun _ => (1 : Int)) k = k := fun k => by
        induction k with
        | zero => rfl
        | succ k ih => rw [sm_s, ih]; omega
      rw [e] at this
      exact this
    by_cases q : i = n
    · rw [q]
      omega
    · exact all_1 (n := n) (fun i hi => h i (by omega)) (by omega) i (by omega)
/-- a full matching at the prices is the best -/
theorem PO_h {c : Nat → Nat → Int} {u v : Nat → Int} (hc : ∀ i j, i < 10 → j < 10 → 0 ≤ c i j ∧ (c i j ≤ 6000 ∨ c i j = 100000)) (hf : ∀ i j, i < 10 → j < 10 → u i + v j ≤ c i j) {r : Nat → Nat} (hr : ∀ j, j < 10 → r j < 10) (hi : ∀ j k, j < 10 → k < 10 → r j = r k → j = k) (ht : ∀ j, j < 10 → u (r j) + v j = c (r j) j) : PO c (sm (fun j => if c (r j) j < 100000 then 1 else 0) 10) (sm (fun j => if c (r j) j < 100000 then c (r j) j else 0) 10) := by
  have hF : ∀ i j, i < 10 → j < 10 → c i j ≤ 100000 := fun i j a b => by
    have := hc i j a b
    omega
  have hU : sm (fun j => u (r j)) 10 = sm u 10 := by
    have h1 : ∀ j, j < 10 → (fun j => r j + 1) j ≤ 10 := fun j hj => by
      have := hr j hj
      show r j + 1 ≤ 10
      omega
    have e := mtA_sum (m := fun j => r j + 1) h1 u
    have e2 := mtA_cnt (m := fun j => r j + 1) h1
    have e3 : mtC (fun j => r j + 1) = 10 := rfl
    have h01 := mtA_01 (m := fun j => r j + 1) (fun j k hj hk _ h => hi j k hj hk (by omega))
    have hall := all_1 (a := mtA fun j => r j + 1) (n := 10) (fun i _ => (h01 i).2) (by rw [e2, e3]; decide)
    rw [sm_c (g := u) (fun i hi => by rw [hall i hi, Int.one_mul])] at e
    rw [e]
    exact sm_c (fun j _ => rfl)
  have hT : sm u 10 + sm v 10 = sm (fun j => c (r j) j) 10 := by
    rw [← hU, ← sm_add]
    exact sm_c (fun j hj => ht j hj)
  have hS : sm (fun j => c (r j) j) 10 = sm (fun j => if c (r j) j < 100000 then c (r j) j else 0) 10 + (10 - sm (fun j => if c (r j) j < 100000 then 1 else 0) 10) * 100000 := by
    have e : ∀ n, n ≤ 10 → sm (fun j => c (r j) j) n = sm (fun j => if c (r j) j < 100000 then c (r j) j else 0) n + (n - sm (fun j => if c (r j) j < 100000 then 1 else 0) n) * 100000 := fun n => by
      induction n with
      | zero => intro _; rfl
      | succ n ih =>
        intro hn
        have ih := ih (by omega)
        have := hc (r n) n (hr n (by omega)) (by omega)
        rw [sm_s, sm_s, sm_s, ih]
        by_cases q : c (r n) n < 100000
        · rw [if_pos q, if_pos q]
          omega
        · rw [if_neg q, if_neg q]
          omega
    exact e 10 (Nat.le_refl _)
  refine ⟨⟨fun j => if c (r j) j < 100000 then r j + 1 else 0, ⟨fun j hj => ?_, fun j k hj hk h0 h => ?_, fun j hj h0 => ?_⟩, ?_, ?_⟩, fun m hm => ?_⟩
  · have := hr j hj
    show (if c (r j) j < 100000 then r j + 1 else 0) ≤ 10
    split <;> omega
  · have h0 : (if c (r j) j < 100000 then r j + 1 else 0) ≠ 0 := h0
    have h : (if c (r j) j < 100000 then r j + 1 else 0) = (if c (r k) k < 100000 then r k + 1 else 0) := h
    refine hi j k hj hk ?_
    split at h
    · split at h
      · omega
      · omega
    · rename_i z
      rw [if_neg z] at h0
      exact absurd rfl h0
  · have h0 : (if c (r j) j < 100000 then r j + 1 else 0) ≠ 0 := h0
    show c ((if c (r j) j < 100000 then r j + 1 else 0) - 1) j < 100000
    split at h0
    · rename_i z
      rw [if_pos z]
      exact z
    · exact absurd rfl h0
  · refine sm_c (fun j _ => ?_)
    show (if (if c (r j) j < 100000 then r j + 1 else 0) = 0 then (0 : Int) else 1) = _
    by_cases z : c (r j) j < 100000
    · rw [if_pos z, if_pos z, if_neg (by omega)]
    · rw [if_neg z, if_neg z, if_pos rfl]
  · refine sm_c (fun j _ => ?_)
    show (if (if c (r j) j < 100000 then r j + 1 else 0) = 0 then (0 : Int) else c ((if c (r j) j < 100000 then r j + 1 else 0) - 1) j) = _
    by_cases z : c (r j) j < 100000
    · rw [if_pos z, if_pos z, if_neg (by omega)]
      rfl
    · rw [if_neg z, if_neg z, if_pos rfl]
  · have d := dual hf hF hm
    rw [hT, hS] at d
    have s0 : 0 ≤ sm (fun j => if c (r j) j < 100000 then c (r j) j else 0) 10 := sm_nn (fun j hj => by
      have := hc (r j) j (hr j hj) hj
      split <;> omega)
    have s1 : mtS c m ≤ 60000 := by
      have := sm_ran (f := fun j => if m j = 0 then 0 else c (m j - 1) j) (a := 0) (b := 6000) (n := 10) (fun j hj => by
        by_cases z : m j = 0
        · rw [if_pos z]; omega
        · rw [if_neg z]
          have h1 := hm.1 j hj
          have h3 := hm.2.2 j hj z
          have := hc (m j - 1) j (by omega) hj
          omega)
      have e : mtS c m = sm (fun j => if m j = 0 then 0 else c (m j - 1) j) 10 := rfl
      omega
    generalize sm (fun j => if c (r j) j < 100000 then c (r j) j else 0) 10 = S at *
    generalize sm (fun j => if c (r j) j < 100000 then (1 : Int) else 0) 10 = N at *
    omega
/-- the least sums: of each set of columns, by the first rows -/
def dpJ (prev : Nat → Int) (ci : Nat → Int) (s : Nat) : Nat → Int
  | 0 => prev s
  | j + 1 => if s.testBit j = true then (if prev (s ^^^ 2 ^ j) + ci j < dpJ prev ci s j then prev (s ^^^ 2 ^ j) + ci j else dpJ prev ci s j) else dpJ prev ci s j
def dp (c : Nat → Nat → Int) (n : Nat) : Nat → Nat → Int
  | 0, s => if s = 0 then 0 else 1000000
  | i + 1, s => dpJ (dp c n i) (c i) s n
theorem dpJ_le (prev ci : Nat → Int) (s : Nat) : ∀ n, dpJ prev ci s n ≤ prev s ∧ ∀ j, j < n → s.testBit j = true → dpJ prev ci s n ≤ prev (s ^^^ 2 ^ j) + ci j
  | 0 => ⟨Int.le_refl _, fun j hj => absurd hj (Nat.not_lt_zero j)⟩
  | n + 1 => by
    obtain ⟨h1, h2⟩ := dpJ_le prev ci s n
    unfold dpJ
    by_cases q : s.testBit n = true
    · rw [if_pos q]
      by_cases z : prev (s ^^^ 2 ^ n) + ci n < dpJ prev ci s n
      · rw [if_pos z]
        refine ⟨by omega, fun j hj hb => ?_⟩
        by_cases e : j = n
        · rw [e]; exact Int.le_refl _
        · have := h2 j (by omega) hb
          omega
      · rw [if_neg z]
        refine ⟨h1, fun j hj hb => ?_⟩
        by_cases e : j = n
        · rw [e]; omega
        · exact h2 j (by omega) hb
    · rw [if_neg q]
      refine ⟨h1, fun j hj hb => ?_⟩
      by_cases e : j = n
      · rw [e] at hb; exact absurd hb q
      · exact h2 j (by omega) hb
theorem dpJ_at (prev ci : Nat → Int) (s : Nat) : ∀ n, dpJ prev ci s n = prev s ∨ ∃ j, j < n ∧ s.testBit j = true ∧ dpJ prev ci s n = prev (s ^^^ 2 ^ j) + ci j
  | 0 => .inl rfl
  | n + 1 => by
    have ih := dpJ_at prev ci s n
    have up : (dpJ prev ci s n = prev s ∨ ∃ j, j < n ∧ s.testBit j = true ∧ dpJ prev ci s n = prev (s ^^^ 2 ^ j) + ci j) → (dpJ prev ci s n = prev s ∨ ∃ j, j < n + 1 ∧ s.testBit j = true ∧ dpJ prev ci s n = prev (s ^^^ 2 ^ j) + ci j) := fun h => h.elim .inl (fun ⟨j, a, b, c⟩ => .inr ⟨j, by omega, b, c⟩)
    unfold dpJ
    by_cases q : s.testBit n = true
    · rw [if_pos q]
      by_cases z : prev (s ^^^ 2 ^ n) + ci n < dpJ prev ci s n
      · rw [if_pos z]
        exact .inr ⟨n, by omega, q, rfl⟩
      · rw [if_neg z]
        exact up ih
    · rw [if_neg q]
      exact up ih
/-- a matching of just those columns, to the first rows -/
def mtD (c : Nat → Nat → Int) (m : Nat → Nat) (i s : Nat) : Prop := (∀ j, j < 10 → m j ≤ i) ∧ (∀ j k, j < 10 → k < 10 → m j ≠ 0 → m j = m k → j = k) ∧ (∀ j, j < 10 → m j ≠ 0 → c (m j - 1) j < 1000000) ∧ ∀ j, j < 10 → (m j ≠ 0 ↔ s.testBit j = true)
theorem tb_x (s j k : Nat) : (s ^^^ 2 ^ j).testBit k = (s.testBit k ^^ decide (j = k)) := by
  rw [Nat.testBit_xor, Nat.testBit_two_pow]
theorem mt_up (m : Nat → Nat) (c : Nat → Nat → Int) {y x : Nat} (hy : y < 10) : mtS c (fun j => if j = y then x else m j) = mtS c m + (if x = 0 then 0 else c (x - 1) y) - (if m y = 0 then 0 else c (m y - 1) y) := by
  have := sm_ch (f := fun j => if m j = 0 then 0 else c (m j - 1) j) (h := fun j => if (if j = y then x else m j) = 0 then 0 else c ((if j = y then x else m j) - 1) j) hy (fun i _ hi => by rw [if_neg hi])
  simp only at this
  exact this
theorem dp_le {c : Nat → Nat → Int} {n : Nat} (hn : n ≤ 10) : ∀ (i s : Nat) (m : Nat → Nat), (∀ j, n ≤ j → s.testBit j = false) → s < 1024 → mtD c m i s → dp c n i s ≤ mtS c m
  | 0, s, m, hs, hs2, hm => by
    have h0 : ∀ j, j < 10 → m j = 0 := fun j hj => Nat.le_zero.mp (hm.1 j hj)
    have e : mtS c m = 0 := by
      unfold mtS
      rw [sm_c (g := fun _ => 0) (fun j hj => if_pos (h0 j hj)), sm_0]
    have es : s = 0 := by
      apply Nat.eq_of_testBit_eq
      intro j
      rw [Nat.zero_testBit]
      by_cases hj : j < 10
      · cases z : s.testBit j with
        | false => rfl
        | true => exact absurd (h0 j hj) ((hm.2.2.2 j hj).mpr z)
      · exact hs j (by omega)
    rw [e, es]
    exact Int.le_refl _
  | i + 1, s, m, hs, hs2, hm => by
    obtain ⟨h1, h2, h3, h4⟩ := hm
    show dpJ (dp c n i) (c i) s n ≤ _
    obtain ⟨l1, l2⟩ := dpJ_le (dp c n i) (c i) s n
    by_cases q : ∃ j, j < 10 ∧ m j = i + 1
    · obtain ⟨y, hy, hm1⟩ := q
      have hb : s.testBit y = true := (h4 y hy).mp (by omega)
      have hyn : y < n := by
        by_cases z : y < n
        · exact z
        · rw [hs y (by omega)] at hb
          exact absurd hb (by decide)
      have hx : s ^^^ 2 ^ y < 1024 := by
        have : (2 : Nat) ^ y < 2 ^ 10 := Nat.pow_lt_pow_right (by decide) hy
        exact Nat.xor_lt_two_pow (n := 10) hs2 this
      have ih := dp_le hn i (s ^^^ 2 ^ y) (fun j => if j = y then 0 else m j) (fun j hj => by rw [tb_x, hs j hj, decide_eq_false (by omega)]; rfl) hx ⟨fun j hj => by
        show (if j = y then 0 else m j) ≤ i
        split
        · omega
        · rename_i z
          have := h1 j hj
          by_cases w : m j = i + 1
          · exact absurd (h2 j y hj hy (by omega) (by omega)) z
          · omega, fun j k hj hk h0 h => by
        have h0 : (if j = y then 0 else m j) ≠ 0 := h0
        have h : (if j = y then 0 else m j) = (if k = y then 0 else m k) := h
        split at h0
        · exact absurd rfl h0
        · rename_i z
          rw [if_neg z] at h
          split at h
          · exact absurd h h0
          · exact h2 j k hj hk h0 h, fun j hj h0 => by
        have h0 : (if j = y then 0 else m j) ≠ 0 := h0
        show c ((if j = y then 0 else m j) - 1) j < 1000000
        split at h0
        · exact absurd rfl h0
        · rename_i z
          rw [if_neg z]
          exact h3 j hj h0, fun j hj => by
        show (if j = y then 0 else m j) ≠ 0 ↔ _
        rw [tb_x]
        by_cases z : j = y
        · rw [if_pos z, z, hb, decide_eq_true rfl]
          exact ⟨fun w => absurd rfl w, fun w => absurd w (by decide)⟩
        · rw [if_neg z, decide_eq_false (by omega), Bool.xor_false]
          exact h4 j hj⟩
      rw [mt_up m c hy, if_pos rfl, if_neg (by omega), hm1, Nat.add_sub_cancel] at ih
      have := l2 y hyn hb
      omega
    · have ih := dp_le hn i s m hs hs2 ⟨fun j hj => by
        have := h1 j hj
        by_cases w : m j = i + 1
        · exact absurd ⟨j, hj, w⟩ q
        · omega, h2, h3, h4⟩
      omega
theorem dp_nn {c : Nat → Nat → Int} {n : Nat} (hc : ∀ i j, 0 ≤ c i j) : ∀ (i s : Nat), 0 ≤ dp c n i s
  | 0, s => by
    unfold dp
    split <;> omega
  | i + 1, s => by
    show 0 ≤ dpJ (dp c n i) (c i) s n
    rcases dpJ_at (dp c n i) (c i) s n with h | ⟨j, -, -, h⟩
    · rw [h]
      exact dp_nn hc i s
    · rw [h]
      have := dp_nn (n := n) hc i (s ^^^ 2 ^ j)
      have := hc i j
      omega
theorem dp_at {c : Nat → Nat → Int} {n : Nat} (hn : n ≤ 10) (hc : ∀ i j, 0 ≤ c i j) : ∀ (i s : Nat), (∀ j, n ≤ j → s.testBit j = false) → dp c n i s < 1000000 → ∃ m, mtD c m i s ∧ mtS c m = dp c n i s
  | 0, s, hs, h => by
    have es : s = 0 := by
      by_cases z : s = 0
      · exact z
      · have : dp c n 0 s = 1000000 := if_neg z
        omega
    refine ⟨fun _ => 0, ⟨fun j _ => Nat.le_refl _, fun j k _ _ h => absurd rfl h, fun j _ h => absurd rfl h, fun j _ => ?_⟩, ?_⟩
    · rw [es, Nat.zero_testBit]
      exact ⟨fun w => absurd rfl w, fun w => absurd w (by decide)⟩
    · rw [es]
      rfl
  | i + 1, s, hs, h => by
    have h : dpJ (dp c n i) (c i) s n < 1000000 := h
    show ∃ m, mtD c m (i + 1) s ∧ mtS c m = dpJ (dp c n i) (c i) s n
    rcases dpJ_at (dp c n i) (c i) s n with e | ⟨y, hy, hb, e⟩
    · rw [e] at h ⊢
      obtain ⟨m, ⟨h1, h2, h3, h4⟩, h5⟩ := dp_at hn hc i s hs h
      exact ⟨m, ⟨fun j hj => by have := h1 j hj; omega, h2, h3, h4⟩, h5⟩
    · rw [e] at h ⊢
      have c0 := hc i y
      have d0 := dp_nn (n := n) hc i (s ^^^ 2 ^ y)
      obtain ⟨m, ⟨h1, h2, h3, h4⟩, h5⟩ := dp_at hn hc i (s ^^^ 2 ^ y) (fun j hj => by rw [tb_x, hs j hj, decide_eq_false (by omega)]; rfl) (by omega)
      have hy10 : y < 10 := by omega
      have my : m y = 0 := by
        by_cases z : m y = 0
        · exact z
        · have := (h4 y hy10).mp z
          rw [tb_x, hb, decide_eq_true rfl] at this
          exact absurd this (by decide)
      refine ⟨fun j => if j = y then i + 1 else m j, ⟨fun j hj => ?_, fun j k hj hk h0 h => ?_, fun j hj h0 => ?_, fun j hj => ?_⟩, ?_⟩
      · show (if j = y then i + 1 else m j) ≤ i + 1
        have := h1 j hj
        split <;> omega
      · have h0 : (if j = y then i + 1 else m j) ≠ 0 := h0
        have h : (if j = y then i + 1 else m j) = (if k = y then i + 1 else m k) := h
        have a1 := h1 j hj
        have a2 := h1 k hk
        by_cases z : j = y
        · rw [if_pos z] at h
          by_cases z2 : k = y
          · omega
          · rw [if_neg z2] at h
            omega
        · rw [if_neg z] at h h0
          by_cases z2 : k = y
          · rw [if_pos z2] at h
            omega
          · rw [if_neg z2] at h
            exact h2 j k hj hk h0 h
      · have h0 : (if j = y then i + 1 else m j) ≠ 0 := h0
        show c ((if j = y then i + 1 else m j) - 1) j < 1000000
        by_cases z : j = y
        · rw [if_pos z, z, Nat.add_sub_cancel]
          omega
        · rw [if_neg z] at h0 ⊢
          exact h3 j hj h0
      · show (if j = y then i + 1 else m j) ≠ 0 ↔ _
        by_cases z : j = y
        · rw [if_pos z, z, hb]
          exact ⟨fun _ => rfl, fun _ => by omega⟩
        · rw [if_neg z, h4 j hj, tb_x, decide_eq_false (by omega), Bool.xor_false]
      · rw [mt_up m c hy10, h5, my, if_pos rfl, if_neg (by omega), Nat.add_sub_cancel]
        omega
/-- the set of most columns, of least sum -/
def dpB (f b : Nat → Int) : Nat → Int × Int
  | 0 => (0, 0)
  | s + 1 => if f s < 1000000 ∧ ¬ b s < (dpB f b s).1 ∧ (b s = (dpB f b s).1 → f s < (dpB f b s).2) then (b s, f s) else dpB f b s
theorem dpB_ok {f b : Nat → Int} (h0 : f 0 = 0) (hb : b 0 = 0) : ∀ n, 0 < n → (∃ s, s < n ∧ f s < 1000000 ∧ dpB f b n = (b s, f s)) ∧ ∀ s, s < n → f s < 1000000 → b s < (dpB f b n).1 ∨ (b s = (dpB f b n).1 ∧ (dpB f b n).2 ≤ f s)
  | 0, h => absurd h (Nat.lt_irrefl 0)
  | 1, _ => by
    have e : dpB f b 1 = (0, 0) := if_neg (by
      rintro ⟨-, -, z⟩
      have z : b 0 = 0 → f 0 < 0 := z
      have z := z hb
      rw [h0] at z
      exact absurd z (Int.lt_irrefl 0))
    refine ⟨⟨0, by decide, by rw [h0]; decide, by rw [e, hb, h0]⟩, fun s hs _ => .inr ?_⟩
    rw [e, show s = 0 by omega, hb, h0]
    exact ⟨rfl, Int.le_refl _⟩
  | n + 2, _ => by
    obtain ⟨⟨s, s1, s2, s3⟩, h⟩ := dpB_ok h0 hb (n + 1) (by omega)
    unfold dpB
    by_cases q : f (n + 1) < 1000000 ∧ ¬ b (n + 1) < (dpB f b (n + 1)).1 ∧ (b (n + 1) = (dpB f b (n + 1)).1 → f (n + 1) < (dpB f b (n + 1)).2)
    · rw [if_pos q]
      refine ⟨⟨n + 1, by omega, q.1, rfl⟩, fun t ht hf => ?_⟩
      by_cases z : t = n + 1
      · rw [z]
        exact .inr ⟨rfl, Int.le_refl _⟩
      · obtain ⟨q1, q2, q3⟩ := q
        show b t < b (n + 1) ∨ (b t = b (n + 1) ∧ f (n + 1) ≤ f t)
        rcases h t (by omega) hf with y | ⟨y1, y2⟩
        · exact .inl (by omega)
        · by_cases w : b (n + 1) = (dpB f b (n + 1)).1
          · have := q3 w
            exact .inr ⟨by omega, by omega⟩
          · exact .inl (by omega)
    · rw [if_neg q]
      refine ⟨⟨s, by omega, s2, s3⟩, fun t ht hf => ?_⟩
      by_cases z : t = n + 1
      · rw [z] at hf ⊢
        by_cases w : b (n + 1) < (dpB f b (n + 1)).1
        · exact .inl w
        · by_cases w2 : b (n + 1) = (dpB f b (n + 1)).1
          · refine .inr ⟨w2, ?_⟩
            by_cases w3 : f (n + 1) < (dpB f b (n + 1)).2
            · exact absurd ⟨hf, w, fun _ => w3⟩ q
            · omega
          · exact absurd ⟨hf, w, fun y => absurd y w2⟩ q
      · exact h t (by omega) hf
def pcS (s : Nat) : Int := sm (fun j => if s.testBit j = true then 1 else 0) 10
/-- the least sums of sets give the best matching -/
theorem PO_d {cc cr : Nat → Nat → Int} {n1 n2 : Nat} (h1 : n1 ≤ 10) (h2 : n2 ≤ 10) (hr : ∀ i j, 0 ≤ cr i j) (hc : ∀ i j, i < 10 → j < 10 → 0 ≤ cc i j ∧ (cc i j ≤ 6000 ∨ cc i j = 100000)) (hcr : ∀ i j, i < 10 → j < 10 → (cc i j < 100000 ↔ i < n1 ∧ j < n2 ∧ cr i j < 1000000)) (he : ∀ i j, i < 10 → j < 10 → cc i j < 100000 → cr i j = cc i j) : PO cc (dpB (dp cr n2 n1) pcS (2 ^ n2)).1 (dpB (dp cr n2 n1) pcS (2 ^ n2)).2 := by
  have hp2 : (2 : Nat) ^ n2 ≤ 2 ^ 10 := Nat.pow_le_pow_right (by decide) h2
  have hp0 : 0 < (2 : Nat) ^ n2 := Nat.two_pow_pos n2
  have hS : ∀ m, (∀ j, j < 10 → m j ≠ 0 → m j - 1 < 10 ∧ cc (m j - 1) j < 100000) → mtS cr m = mtS cc m := fun m hm => sm_c (fun j hj => by
    by_cases z : m j = 0
    · rw [if_pos z, if_pos z]
    · rw [if_neg z, if_neg z]
      exact he _ _ (hm j hj z).1 hj (hm j hj z).2)
  have hC : ∀ m s, (∀ j, j < 10 → (m j ≠ 0 ↔ s.testBit j = true)) → mtC m = pcS s := fun m s hm => sm_c (fun j hj => by
    have := hm j hj
    by_cases z : m j = 0
    · rw [if_pos z, if_neg (fun w => (this.mpr w) z)]
    · rw [if_neg z, if_pos (this.mp z)])
  have hhi : ∀ s, s < 2 ^ n2 → ∀ j, n2 ≤ j → s.testBit j = false := fun s hs j hj => Nat.testBit_lt_two_pow (Nat.lt_of_lt_of_le hs (Nat.pow_le_pow_right (by decide) hj))
  have h00 : dp cr n2 n1 0 = 0 := by
    have a := dp_le h2 n1 0 (c := cr) (fun _ => 0) (fun j _ => Nat.zero_testBit j) (by decide) ⟨fun _ _ => Nat.zero_le _, fun j k _ _ h => absurd rfl h, fun j _ h => absurd rfl h, fun j _ => by
      rw [Nat.zero_testBit]
      exact ⟨fun w => absurd rfl w, fun w => absurd w (by decide)⟩⟩
    have b := dp_nn (n := n2) hr n1 0
    have e : mtS cr (fun _ => 0) = 0 := rfl
    omega
  have hb0 : pcS 0 = 0 := by
    unfold pcS
    rw [sm_c (g := fun _ => 0) (fun j _ => by rw [Nat.zero_testBit]; rfl), sm_0]
  obtain ⟨⟨s, s1, s2, s3⟩, h⟩ := dpB_ok (f := dp cr n2 n1) (b := pcS) h00 hb0 (2 ^ n2) hp0
  constructor
  · obtain ⟨m, ⟨m1, m2, m3, m4⟩, m5⟩ := dp_at h2 hr n1 s (hhi s s1) s2
    have hk : ∀ j, j < 10 → m j ≠ 0 → m j - 1 < 10 ∧ cc (m j - 1) j < 100000 := fun j hj hz => by
      have a := m1 j hj
      have hb := (m4 j hj).mp hz
      have hjn : j < n2 := by
        by_cases z : j < n2
        · exact z
        · rw [hhi s s1 j (by omega)] at hb
          exact absurd hb (by decide)
      exact ⟨by omega, (hcr _ _ (by omega) hj).mpr ⟨by omega, hjn, m3 j hj hz⟩⟩
    refine ⟨m, ⟨fun j hj => by have := m1 j hj; omega, m2, fun j hj hz => (hk j hj hz).2⟩, ?_, ?_⟩
    · rw [s3]
      exact hC m s m4
    · rw [s3, ← hS m hk]
      exact m5
  · rintro m ⟨m1, m2, m3⟩
    have hk : ∀ j, j < 10 → m j ≠ 0 → m j - 1 < 10 ∧ cc (m j - 1) j < 100000 := fun j hj hz => by
      have a := m1 j hj
      exact ⟨by omega, m3 j hj hz⟩
    have hq : ∀ j, j < 10 → m j ≠ 0 → m j - 1 < n1 ∧ j < n2 ∧ cr (m j - 1) j < 1000000 := fun j hj hz => (hcr _ _ (hk j hj hz).1 hj).mp (hk j hj hz).2
    obtain ⟨t, et⟩ : ∃ t, t = bn (fun j => decide (m j ≠ 0)) n2 := ⟨_, rfl⟩
    have tl : t < 2 ^ n2 := by rw [et]; exact bn_lt _ _
    have tb : ∀ j, j < 10 → (m j ≠ 0 ↔ t.testBit j = true) := fun j hj => by
      rw [et, bn_tb, Bool.and_eq_true, decide_eq_true_eq, decide_eq_true_eq]
      exact ⟨fun z => ⟨(hq j hj z).2.1, z⟩, fun z => z.2⟩
    have l := dp_le h2 n1 t m (c := cr) (hhi t tl) (Nat.lt_of_lt_of_le tl hp2) ⟨fun j hj => by
      by_cases z : m j = 0
      · omega
      · have := (hq j hj z).1
        omega, m2, fun j hj hz => (hq j hj hz).2.2, tb⟩
    rw [hS m hk] at l
    have s1 : mtS cc m ≤ 60000 := by
      have := sm_ran (f := fun j => if m j = 0 then 0 else cc (m j - 1) j) (a := 0) (b := 6000) (n := 10) (fun j hj => by
        by_cases z : m j = 0
        · rw [if_pos z]; omega
        · rw [if_neg z]
          have a := hk j hj z
          have := hc (m j - 1) j a.1 hj
          omega)
      have e : mtS cc m = sm (fun j => if m j = 0 then 0 else cc (m j - 1) j) 10 := rfl
      omega
    rw [hC m t tb]
    rcases h t tl (by omega) with w | ⟨w1, w2⟩
    · exact .inl w
    · exact .inr ⟨w1, by omega⟩
