/-! CASES: what both hold of them, and the smallest methods on them -/
def bt (l m : Int) : Int := l / 2 ^ m.toNat % 2
theorem bt_ran (l m : Int) : 0 ≤ bt l m ∧ bt l m ≤ 1 := by
  unfold bt
  omega
theorem bt_0 (l m : Int) : (ii (bt l m) = ii 0) = (bt l m = 0) := by
  have := bt_ran l m
  exact ii_eq (by omega) (by omega) (by omega) (by omega)
theorem bt_1 (l m : Int) : (ii (bt l m) = ii 1) = (bt l m = 1) := by
  have := bt_ran l m
  exact ii_eq (by omega) (by omega) (by omega) (by omega)
theorem fin64 {P : Int → Int → Prop} (h : ∀ (l : Fin 64) (m : Fin 6), P (l.val : Int) (m.val : Int)) {l m : Int} (h1 : 0 ≤ l) (h2 : l < 64) (h3 : 0 ≤ m) (h4 : m < 6) : P l m := by
  have := h ⟨l.toNat, by omega⟩ ⟨m.toNat, by omega⟩
  simpa [Int.toNat_of_nonneg h1, Int.toNat_of_nonneg h3] using this
theorem bt_ii {l m : Int} (h1 : 0 ≤ l) (h2 : l < 64) (h3 : 0 ≤ m) (h4 : m < 6) : (ii l >>> (ii m &&& ii 31)) &&& ii 1 = ii (bt l m) :=
  fin64 (P := fun l m => (ii l >>> (ii m &&& ii 31)) &&& ii 1 = ii (bt l m)) (by decide +kernel) h1 h2 h3 h4
/-- the cases of the class -/
def CS (w : wo) (n : Int) (g : Int → Int → Int) : Prop := wI w 1 5 = n ∧ 0 ≤ n ∧ n ≤ 200 ∧ ∀ k, 0 ≤ k → k < n → wA w 2 k = g k 0 ∧ wA w 3 k = g k 1 ∧ wA w 4 k = g k 2 ∧ wA w 5 k = g k 3 ∧ ∀ m, 0 ≤ m → m < 6 → wA w 6 (k * 6 + m) = g k (4 + m)
/-- the cases of the other -/
def MS (w : wo) (n : Int) (g : Int → Int → Int) : Prop := wI w 47 0 = n ∧ 0 ≤ n ∧ n ≤ 200 ∧ ∀ k j, 0 ≤ k → k < n → 0 ≤ j → j < 10 → wA w 48 (10 * k + j) = g k j
/-- what stands in them -/
def gK (n : Int) (g : Int → Int → Int) : Prop := ∀ k, 0 ≤ k → k < n → (0 ≤ g k 0 ∧ g k 0 ≤ 1) ∧ (0 ≤ g k 1 ∧ g k 1 ≤ 7) ∧ (0 ≤ g k 2 ∧ g k 2 ≤ 2) ∧ (-1 ≤ g k 3 ∧ g k 3 ≤ 1) ∧ ∀ m, 0 ≤ m → m < 6 → -1 ≤ g k (4 + m) ∧ g k (4 + m) ≤ 9
theorem gK_m {n : Int} {g : Int → Int → Int} (h : gK n g) {k m : Int} (h1 : 0 ≤ k) (h2 : k < n) (h3 : 0 ≤ m) (h4 : m < 6) : -1 ≤ g k (4 + m) ∧ g k (4 + m) ≤ 9 := (h k h1 h2).2.2.2.2 m h3 h4
section L2b
variable {sc : am_X} {w : wo} {n : Int} {g : Int → Int → Int}
theorem c19 (hC : CS w n g) {k : Int} (hk1 : -2147483648 ≤ k) (hk2 : k ≤ 2147483647) : am_F sc 19 [am_R (some 1), am_I (ii k)] (wst w) = some (some (am_I (ii (bz (0 ≤ k ∧ k < n)))), wst w) := by
  obtain ⟨hn, h0, h1, -⟩ := hC
  rw [s19 hk1 hk2 (by omega) (by omega), hn, bz_c (q := 0 ≤ k ∧ k < n) (by omega)]
theorem c21 (hC : CS w n g) {k m : Int} (hk0 : 0 ≤ k) (hk : k < n) (hm0 : 0 ≤ m) (hm : m < 6) : am_F sc 21 [am_R (some 1), am_I (ii k), am_I (ii m)] (wst w) = some (some (am_I (ii (g k (4 + m)))), wst w) := by
  obtain ⟨hn, h0, h1, h2⟩ := hC
  rw [s21 (by omega) (by omega) (by omega) (by omega) (by omega) (by omega), if_pos ⟨⟨hk0, by omega, by omega⟩, hm0, hm⟩, (h2 k hk0 hk).2.2.2.2 m hm0 hm]
theorem c21n (hC : CS w n g) {k m : Int} (hk1 : -2147483648 ≤ k) (hk2 : k ≤ 2147483647) (hm1 : -2147483648 ≤ m) (hm2 : m ≤ 2147483647) (hkn : ¬ (0 ≤ k ∧ k < n)) : am_F sc 21 [am_R (some 1), am_I (ii k), am_I (ii m)] (wst w) = some (some (am_I (ii (-1))), wst w) := by
  obtain ⟨hn, h0, h1, h2⟩ := hC
  rw [s21 hk1 hk2 hm1 hm2 (by omega) (by omega), if_neg (fun h => hkn ⟨h.1.1, by omega⟩)]
theorem c26 (hC : CS w n g) {k : Int} (hk0 : 0 ≤ k) (hk : k < n) : am_F sc 26 [am_R (some 1), am_I (ii k)] (wst w) = some (some (am_I (ii (g k (26 - 26)))), wst w) := by
  have hC' := hC
  obtain ⟨hn, h0, h1, h2⟩ := hC
  obtain ⟨e0, e1, e2, e3, -⟩ := h2 k hk0 hk
  have hh : 0 ≤ k ∧ k < n := ⟨hk0, hk⟩
  rw [ft_26]
  simp (disch := omega) only [Option.bind_some, Option.bind_none, r_I, r_L, r_R, r_V, cond_true, cond_false, ii_add, ii_sub, ii_mul, ii_neg, bz_0, bz_1, Bool.true_and, Bool.false_and, Bool.and_true, z00, z11, li_0, li_1, e_2, gR_1_0, is_1, c19 hC', hh, not_true, not_false_eq_true, if_true, if_false, and_self, e0, e1, e2, e3]
  rfl
theorem c26n (hC : CS w n g) {k : Int} (hk1 : -2147483648 ≤ k) (hk2 : k ≤ 2147483647) (hkn : ¬ (0 ≤ k ∧ k < n)) : am_F sc 26 [am_R (some 1), am_I (ii k)] (wst w) = some (some (am_I (ii (-1))), wst w) := by
  rw [ft_26]
  simp (disch := omega) only [Option.bind_some, Option.bind_none, r_I, r_L, r_R, r_V, cond_true, cond_false, ii_add, ii_sub, ii_mul, ii_neg, bz_0, bz_1, Bool.true_and, Bool.false_and, Bool.and_true, z00, z11, li_0, li_1, e_2, gR_1_0, is_1, c19 hC, hkn, not_true, not_false_eq_true, if_true, if_false, and_self]
theorem c27 (hC : CS w n g) {k : Int} (hk0 : 0 ≤ k) (hk : k < n) : am_F sc 27 [am_R (some 1), am_I (ii k)] (wst w) = some (some (am_I (ii (g k (27 - 26)))), wst w) := by
  have hC' := hC
  obtain ⟨hn, h0, h1, h2⟩ := hC
  obtain ⟨e0, e1, e2, e3, -⟩ := h2 k hk0 hk
  have hh : 0 ≤ k ∧ k < n := ⟨hk0, hk⟩
  rw [ft_27]
  simp (disch := omega) only [Option.bind_some, Option.bind_none, r_I, r_L, r_R, r_V, cond_true, cond_false, ii_add, ii_sub, ii_mul, ii_neg, bz_0, bz_1, Bool.true_and, Bool.false_and, Bool.and_true, z00, z11, li_0, li_1, e_3, gR_1_1, is_1, c19 hC', hh, not_true, not_false_eq_true, if_true, if_false, and_self, e0, e1, e2, e3]
  rfl
theorem c27n (hC : CS w n g) {k : Int} (hk1 : -2147483648 ≤ k) (hk2 : k ≤ 2147483647) (hkn : ¬ (0 ≤ k ∧ k < n)) : am_F sc 27 [am_R (some 1), am_I (ii k)] (wst w) = some (some (am_I (ii (-1))), wst w) := by
  rw [ft_27]
  simp (disch := omega) only [Option.bind_some, Option.bind_none, r_I, r_L, r_R, r_V, cond_true, cond_false, ii_add, ii_sub, ii_mul, ii_neg, bz_0, bz_1, Bool.true_and, Bool.false_and, Bool.and_true, z00, z11, li_0, li_1, e_3, gR_1_1, is_1, c19 hC, hkn, not_true, not_false_eq_true, if_true, if_false, and_self]
theorem c28 (hC : CS w n g) {k : Int} (hk0 : 0 ≤ k) (hk : k < n) : am_F sc 28 [am_R (some 1), am_I (ii k)] (wst w) = some (some (am_I (ii (g k (28 - 26)))), wst w) := by
  have hC' := hC
  obtain ⟨hn, h0, h1, h2⟩ := hC
  obtain ⟨e0, e1, e2, e3, -⟩ := h2 k hk0 hk
  have hh : 0 ≤ k ∧ k < n := ⟨hk0, hk⟩
  rw [ft_28]
  simp (disch := omega) only [Option.bind_some, Option.bind_none, r_I, r_L, r_R, r_V, cond_true, cond_false, ii_add, ii_sub, ii_mul, ii_neg, bz_0, bz_1, Bool.true_and, Bool.false_and, Bool.and_true, z00, z11, li_0, li_1, e_4, gR_1_2, is_1, c19 hC', hh, not_true, not_false_eq_true, if_true, if_false, and_self, e0, e1, e2, e3]
  rfl
theorem c28n (hC : CS w n g) {k : Int} (hk1 : -2147483648 ≤ k) (hk2 : k ≤ 2147483647) (hkn : ¬ (0 ≤ k ∧ k < n)) : am_F sc 28 [am_R (some 1), am_I (ii k)] (wst w) = some (some (am_I (ii (-1))), wst w) := by
  rw [ft_28]
  simp (disch := omega) only [Option.bind_some, Option.bind_none, r_I, r_L, r_R, r_V, cond_true, cond_false, ii_add, ii_sub, ii_mul, ii_neg, bz_0, bz_1, Bool.true_and, Bool.false_and, Bool.and_true, z00, z11, li_0, li_1, e_4, gR_1_2, is_1, c19 hC, hkn, not_true, not_false_eq_true, if_true, if_false, and_self]
theorem c29 (hC : CS w n g) {k : Int} (hk0 : 0 ≤ k) (hk : k < n) : am_F sc 29 [am_R (some 1), am_I (ii k)] (wst w) = some (some (am_I (ii (g k (29 - 26)))), wst w) := by
  have hC' := hC
  obtain ⟨hn, h0, h1, h2⟩ := hC
  obtain ⟨e0, e1, e2, e3, -⟩ := h2 k hk0 hk
  have hh : 0 ≤ k ∧ k < n := ⟨hk0, hk⟩
  rw [ft_29]
  simp (disch := omega) only [Option.bind_some, Option.bind_none, r_I, r_L, r_R, r_V, cond_true, cond_false, ii_add, ii_sub, ii_mul, ii_neg, bz_0, bz_1, Bool.true_and, Bool.false_and, Bool.and_true, z00, z11, li_0, li_1, e_5, gR_1_3, is_1, c19 hC', hh, not_true, not_false_eq_true, if_true, if_false, and_self, e0, e1, e2, e3]
  rfl
theorem c29n (hC : CS w n g) {k : Int} (hk1 : -2147483648 ≤ k) (hk2 : k ≤ 2147483647) (hkn : ¬ (0 ≤ k ∧ k < n)) : am_F sc 29 [am_R (some 1), am_I (ii k)] (wst w) = some (some (am_I (ii (-1))), wst w) := by
  rw [ft_29]
  simp (disch := omega) only [Option.bind_some, Option.bind_none, r_I, r_L, r_R, r_V, cond_true, cond_false, ii_add, ii_sub, ii_mul, ii_neg, bz_0, bz_1, Bool.true_and, Bool.false_and, Bool.and_true, z00, z11, li_0, li_1, e_5, gR_1_3, is_1, c19 hC, hkn, not_true, not_false_eq_true, if_true, if_false, and_self]
/-- one of the marks of a set is missing: of the last i marks -/
def lmF (g : Int → Int → Int) (k l : Int) : Nat → Bool
  | 0 => false
  | i + 1 => (decide (bt l (5 - i) = 1) && decide (g k (4 + (5 - i)) = -1)) || lmF g k l i
/-- one of the marks of a set is missing -/
def lm (g : Int → Int → Int) (k l : Int) : Bool := lmF g k l 6
theorem c114l (hC : CS w n g) (hg : gK n g) {k l : Int} (hk0 : 0 ≤ k) (hk : k < n) (hl0 : 0 ≤ l) (hl : l < 64) : ∀ (i : Nat), i ≤ 6 → am_W sc 114 (12, [some (am_R (some 1)), some (am_I (ii k)), some (am_I (ii l)), some (am_I (ii (6 - i)))], [], wst w) = some (some (am_I (ii (bz (lmF g k l i = true)))), wst w)
  | 0, _ => by
    rw [wt_114_12]
    simp (disch := omega) only [Option.bind_some, Option.bind_none, r_I, r_L, r_R, r_V, cond_true, cond_false, ii_add, ii_sub, ii_mul, ii_neg, bz_0, bz_1, Bool.true_and, Bool.false_and, Bool.and_true, z00, z11, li_0, li_1, li_31, li_6, is_1, ii_lt]
    rfl
  | i + 1, hi => by
    have ih := c114l hC hg hk0 hk hl0 hl i (by omega)
    have hr := gK_m hg hk0 hk (m := 5 - i) (by omega) (by omega)
    rw [wt_114_12]
    rw [show (6 - ((i + 1 : Nat) : Int)) = 5 - (i : Int) from by omega]
    simp (disch := omega) only [Option.bind_some, Option.bind_none, r_I, r_L, r_R, r_V, cond_true, cond_false, ii_add, ii_sub, ii_mul, ii_neg, bz_0, bz_1, Bool.true_and, Bool.false_and, Bool.and_true, z00, z11, li_0, li_1, li_31, li_6, is_1, ii_lt, bt_ii, bt_0, c21 hC, ii_eq]
    rw [show (5 - (i : Int) + 1) = 6 - (i : Int) from by omega, ih, if_pos (by omega)]
    have hb := bt_ran l (5 - i)
    by_cases q1 : bt l (5 - i) = 0
    · simp [q1, lmF]
    · have q1' : bt l (5 - i) = 1 := by omega
      by_cases q2 : g k (4 + (5 - i)) = -1
      · simp [q1', q2, lmF, bz]
      · simp [q1', q2, lmF]
theorem c114 (hC : CS w n g) (hg : gK n g) {k l : Int} (hk1 : -2147483648 ≤ k) (hk2 : k ≤ 2147483647) (hl0 : 0 ≤ l) (hl : l < 64) : am_F sc 114 [am_R (some 1), am_I (ii k), am_I (ii l)] (wst w) = some (some (am_I (ii (bz (¬ (0 ≤ k ∧ k < n) ∨ lm g k l = true)))), wst w) := by
  rw [ft_114]
  simp (disch := omega) only [Option.bind_some, Option.bind_none, r_I, r_L, r_R, r_V, cond_true, cond_false, ii_add, ii_sub, ii_mul, ii_neg, bz_0, bz_1, Bool.true_and, Bool.false_and, Bool.and_true, z00, z11, li_0, li_1, li_31, li_6, is_1, c19 hC]
  by_cases q : 0 ≤ k ∧ k < n
  · have := c114l (sc := sc) hC hg q.1 q.2 hl0 hl 6 (by omega)
    rw [show (6 - ((6 : Nat) : Int)) = 0 from rfl] at this
    simp only [q, not_true, if_false, and_self, false_or]
    exact this
  · simp only [q, not_false_eq_true, if_true, true_or]
    rfl
/-- the key: of the last i marks -/
def kyF (g : Int → Int → Int) (k l : Int) : Nat → Int → Int
  | 0, a => a
  | i + 1, a => kyF g k l i (if bt l (5 - i) = 1 then a * 10 + g k (4 + (5 - i)) else a)
def ky (g : Int → Int → Int) (k l : Int) : Int := kyF g k l 6 0
theorem c143l (hC : CS w n g) {k l : Int} (hk0 : 0 ≤ k) (hk : k < n) (hl0 : 0 ≤ l) (hl : l < 64) : ∀ (i : Nat) (a : Int), i ≤ 6 → am_W sc 143 (5, [some (am_R (some 1)), some (am_I (ii k)), some (am_I (ii l)), some (am_I (ii a)), some (am_I (ii (6 - i)))], [], wst w) = some (some (am_I (ii (kyF g k l i a))), wst w)
  | 0, a, _ => by
    rw [wt_143_5]
    simp (disch := omega) only [Option.bind_some, Option.bind_none, r_I, r_L, r_R, r_V, cond_true, cond_false, ii_add, ii_sub, ii_mul, ii_neg, bz_0, bz_1, Bool.true_and, Bool.false_and, Bool.and_true, z00, z11, li_0, li_1, li_10, li_31, li_6, is_1, ii_lt]
    rfl
  | i + 1, a, hi => by
    have ih := fun a => c143l hC hk0 hk hl0 hl i a (by omega)
    rw [wt_143_5]
    rw [show (6 - ((i + 1 : Nat) : Int)) = 5 - (i : Int) from by omega]
    simp (disch := omega) only [Option.bind_some, Option.bind_none, r_I, r_L, r_R, r_V, cond_true, cond_false, ii_add, ii_sub, ii_mul, ii_neg, bz_0, bz_1, Bool.true_and, Bool.false_and, Bool.and_true, z00, z11, li_0, li_1, li_10, li_31, li_6, is_1, ii_lt, bt_ii, bt_0, c21 hC, ii_eq]
    rw [show (5 - (i : Int) + 1) = 6 - (i : Int) from by omega, ih, ih, if_pos (by omega)]
    have hb := bt_ran l (5 - i)
    by_cases q1 : bt l (5 - i) = 0
    · simp [q1, kyF]
    · have q1' : bt l (5 - i) = 1 := by omega
      simp [q1', kyF]
theorem c143 (hC : CS w n g) {k l : Int} (hk0 : 0 ≤ k) (hk : k < n) (hl0 : 0 ≤ l) (hl : l < 64) : am_F sc 143 [am_R (some 1), am_I (ii k), am_I (ii l)] (wst w) = some (some (am_I (ii (ky g k l))), wst w) := by
  rw [ft_143]
  have := c143l (sc := sc) hC hk0 hk hl0 hl 6 0 (by omega)
  simp only [li_0, li_1, li_10, li_31, li_6, is_1]
  exact this
/-- what the words of a test stand for -/
def rw1 (g : Int → Int → Int) (k j : Int) : Int := if j < 6 then g k (4 + j) else if j = 6 then g k 0 else if j = 7 then g k 1 else if j = 8 then g k 2 else if j = 9 then (if g k 3 < 0 then 0 else g k 3) else (if g k 3 < 0 then 0 else 1)
-- the other's
theorem d17 {v lo hi : Int} (h11 : -2147483648 ≤ v) (h12 : v ≤ 2147483647) (h21 : -2147483648 ≤ lo) (h22 : lo ≤ 2147483647) (h31 : -2147483648 ≤ hi) (h32 : hi ≤ 2147483647) : am_F sc 17 [am_L (jj v), am_L (jj lo), am_L (jj hi)] (wst w) = some (some (am_I (ii (bz (lo ≤ v ∧ v ≤ hi)))), wst w) := by
  rw [ft_17]
  simp (disch := omega) only [Option.bind_some, Option.bind_none, r_I, r_L, r_R, r_V, cond_true, cond_false, ii_add, ii_sub, ii_mul, ii_neg, bz_0, bz_1, Bool.true_and, Bool.false_and, Bool.and_true, z00, z11, li_0, li_1, lg_lt, lg_gt]
  unfold bz
  repeat' split
  all_goals first | rfl | (exfalso; omega)
theorem d24 (hM : MS w n g) {k : Int} (hk1 : -2147483648 ≤ k) (hk2 : k ≤ 2147483647) : am_F sc 24 [am_R (some 47), am_I (ii k)] (wst w) = some (some (am_I (ii (bz (0 ≤ k ∧ k < n)))), wst w) := by
  obtain ⟨hn, h0, h1, h2⟩ := hM
  rw [ft_24]
  simp (disch := omega) only [Option.bind_some, Option.bind_none, r_I, r_L, r_R, r_V, cond_true, cond_false, ii_add, ii_sub, ii_mul, ii_neg, bz_0, bz_1, Bool.true_and, Bool.false_and, Bool.and_true, z00, z11, li_0, li_1, gI_47_0, ii_lt, hn]
  unfold bz
  repeat' split
  all_goals first | rfl | (exfalso; omega)
theorem d107 (hM : MS w n g) {k m : Int} (hk0 : 0 ≤ k) (hk : k < n) (hm0 : 0 ≤ m) (hm : m < 6) : am_F sc 107 [am_R (some 47), am_I (ii k), am_I (ii m)] (wst w) = some (some (am_I (ii (g k (4 + m)))), wst w) := by
  obtain ⟨hn, h0, h1, h2⟩ := hM
  rw [ft_107]
  simp (disch := omega) only [Option.bind_some, Option.bind_none, r_I, r_L, r_R, r_V, cond_true, cond_false, ii_add, ii_sub, ii_mul, ii_neg, bz_0, bz_1, Bool.true_and, Bool.false_and, Bool.and_true, z00, z11, li_0, li_10, li_4, e_48, gR_47_1]
  rw [show 10 * k + 4 + m = 10 * k + (4 + m) from by omega, h2 k _ hk0 hk (by omega) (by omega)]
theorem d122 (hM : MS w n g) {k : Int} (hk0 : 0 ≤ k) (hk : k < n) : am_F sc 122 [am_R (some 47), am_I (ii k)] (wst w) = some (some (am_I (ii (g k 0))), wst w) := by
  obtain ⟨hn, h0, h1, h2⟩ := hM
  rw [ft_122]
  simp (disch := omega) only [Option.bind_some, Option.bind_none, r_I, r_L, r_R, r_V, cond_true, cond_false, ii_add, ii_sub, ii_mul, ii_neg, bz_0, bz_1, Bool.true_and, Bool.false_and, Bool.and_true, z00, z11, li_0, li_10, e_48, gR_47_1]
  have := h2 k 0 hk0 hk (by omega) (by omega)
  rw [Int.add_zero] at this
  rw [this]
theorem d123 (hM : MS w n g) (hg : gK n g) {k : Int} (hk0 : 0 ≤ k) (hk : k < n) : am_F sc 123 [am_R (some 47), am_I (ii k)] (wst w) = some (some (am_I (ii (bz (g k 2 = 2)))), wst w) := by
  obtain ⟨hn, h0, h1, h2⟩ := hM
  have hr := (hg k hk0 hk).2.2.1
  have e := h2 k 2 hk0 hk (by omega) (by omega)
  rw [ft_123]
  simp (disch := omega) only [Option.bind_some, Option.bind_none, r_I, r_L, r_R, r_V, cond_true, cond_false, ii_add, ii_sub, ii_mul, ii_neg, bz_0, bz_1, Bool.true_and, Bool.false_and, Bool.and_true, z00, z11, li_0, li_1, li_10, li_2, e_48, gR_47_1, e, ii_eq]
  unfold bz
  split <;> rfl
theorem d121l (hM : MS w n g) (hg : gK n g) {k l : Int} (hL : wI w 47 25 = l) (hk0 : 0 ≤ k) (hk : k < n) (hl0 : 0 ≤ l) (hl : l < 64) : ∀ (i : Nat), i ≤ 6 → am_W sc 121 (2, [some (am_R (some 47)), some (am_I (ii k)), some (am_I (ii (6 - i)))], [], wst w) = some (some (am_I (ii (bz (lmF g k l i = true)))), wst w)
  | 0, _ => by
    rw [wt_121_2]
    simp (disch := omega) only [Option.bind_some, Option.bind_none, r_I, r_L, r_R, r_V, cond_true, cond_false, ii_add, ii_sub, ii_mul, ii_neg, bz_0, bz_1, Bool.true_and, Bool.false_and, Bool.and_true, z00, z11, li_0, li_1, li_31, li_6, gI_47_25, is_47, ii_lt]
    rfl
  | i + 1, hi => by
    have ih := d121l hM hg hL hk0 hk hl0 hl i (by omega)
    have hr := gK_m hg hk0 hk (m := 5 - i) (by omega) (by omega)
    rw [wt_121_2]
    rw [show (6 - ((i + 1 : Nat) : Int)) = 5 - (i : Int) from by omega]
    simp (disch := omega) only [Option.bind_some, Option.bind_none, r_I, r_L, r_R, r_V, cond_true, cond_false, ii_add, ii_sub, ii_mul, ii_neg, bz_0, bz_1, Bool.true_and, Bool.false_and, Bool.and_true, z00, z11, li_0, li_1, li_31, li_6, gI_47_25, is_47, hL, ii_lt, bt_ii, bt_1, d107 hM, ii_eq]
    rw [show (5 - (i : Int) + 1) = 6 - (i : Int) from by omega, ih, if_pos (by omega)]
    have hb := bt_ran l (5 - i)
    by_cases q1 : bt l (5 - i) = 0
    · simp [q1, lmF]
    · have q1' : bt l (5 - i) = 1 := by omega
      by_cases q2 : g k (4 + (5 - i)) = -1
      · simp [q1', q2, lmF, bz]
      · have q3 : ¬ g k (4 + (5 - i)) < 0 := by omega
        simp [q1', q2, q3, lmF]
theorem d121 (hM : MS w n g) (hg : gK n g) {k l : Int} (hL : wI w 47 25 = l) (hk0 : 0 ≤ k) (hk : k < n) (hl0 : 0 ≤ l) (hl : l < 64) : am_F sc 121 [am_R (some 47), am_I (ii k)] (wst w) = some (some (am_I (ii (bz (lm g k l = true)))), wst w) := by
  rw [ft_121]
  have := d121l (sc := sc) hM hg hL hk0 hk hl0 hl 6 (by omega)
  simp only [li_0, li_1, li_31, li_6, gI_47_25, is_47]
  exact this
end L2b
