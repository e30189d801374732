/-! RUNS OVER THE WORLD: the base, and the smallest methods -/
theorem z00 : ii 0 &&& ii 1 = ii 0 := by decide
theorem z11 : ii 1 &&& ii 1 = ii 1 := by decide
theorem r_I (x : Int32) (s : am_S) : am_rI (some (some (am_I x), s)) = some (x, s) := rfl
theorem r_L (x : Int64) (s : am_S) : am_rL (some (some (am_L x), s)) = some (x, s) := rfl
theorem r_R (x : Option Nat) (s : am_S) : am_rR (some (some (am_R x), s)) = some (x, s) := rfl
theorem r_V (s : am_S) : am_rV (some (none, s)) = some s := rfl
theorem bz_c {p q : Prop} [Decidable p] [Decidable q] (h : p ↔ q) : bz p = bz q := by
  unfold bz
  by_cases hp : p
  · rw [if_pos hp, if_pos (h.mp hp)]
  · rw [if_neg hp, if_neg (fun z => hp (h.mpr z))]
theorem bz_t {p : Prop} [Decidable p] (h : p) : bz p = 1 := if_pos h
theorem bz_f {p : Prop} [Decidable p] (h : ¬p) : bz p = 0 := if_neg h
theorem lg_1 {a b : Int} (h1 : -9223372036854775808 ≤ a) (h2 : a ≤ 9223372036854775807) (h3 : -9223372036854775808 ≤ b) (h4 : b ≤ 9223372036854775807) : lg_cmp (jj a) (jj b) = ii (if a < b then -1 else if b < a then 1 else 0) := by
  unfold lg_cmp
  simp only [jj_lt h3 h4 h1 h2, jj_eq h1 h2 h3 h4]
  repeat' split
  all_goals first | rfl | (exfalso; omega)
theorem lg_lt {a b : Int} (h1 : -9223372036854775808 ≤ a) (h2 : a ≤ 9223372036854775807) (h3 : -9223372036854775808 ≤ b) (h4 : b ≤ 9223372036854775807) : (lg_cmp (jj a) (jj b) < ii 0) = (a < b) := by
  rw [lg_1 h1 h2 h3 h4, ii_lt (by split <;> first | omega | (split <;> omega)) (by split <;> first | omega | (split <;> omega)) (by omega) (by omega)]
  apply propext
  split
  · omega
  · split <;> omega
theorem lg_gt {a b : Int} (h1 : -9223372036854775808 ≤ a) (h2 : a ≤ 9223372036854775807) (h3 : -9223372036854775808 ≤ b) (h4 : b ≤ 9223372036854775807) : (ii 0 < lg_cmp (jj a) (jj b)) = (b < a) := by
  rw [lg_1 h1 h2 h3 h4, ii_lt (by omega) (by omega) (by split <;> first | omega | (split <;> omega)) (by split <;> first | omega | (split <;> omega))]
  apply propext
  split
  · omega
  · split <;> omega
theorem lg_eq {a b : Int} (h1 : -9223372036854775808 ≤ a) (h2 : a ≤ 9223372036854775807) (h3 : -9223372036854775808 ≤ b) (h4 : b ≤ 9223372036854775807) : (lg_cmp (jj a) (jj b) = ii 0) = (a = b) := by
  rw [lg_1 h1 h2 h3 h4, ii_eq (by split <;> first | omega | (split <;> omega)) (by split <;> first | omega | (split <;> omega)) (by omega) (by omega)]
  apply propext
  split
  · omega
  · split <;> omega
section L2a
variable {sc : am_X} {w : wo}
theorem s11 {x : Int} (hx1 : -2147483648 ≤ x) (hx2 : x ≤ 2147483647) : am_F sc 11 [am_I (ii x)] (wst w) = some (some (am_I (ii (bz (x = 0 ∨ x = 1)))), wst w) := by
  rw [ft_11]
  simp (disch := omega) only [Option.bind_some, Option.bind_none, r_I, r_L, r_R, r_V, cond_true, cond_false, ii_add, ii_sub, ii_mul, ii_neg, bz_0, bz_1, Bool.true_and, Bool.false_and, Bool.and_true, z00, z11, li_0, li_1, ii_lt, ii_eq]
  unfold bz
  repeat' split
  all_goals first | rfl | (exfalso; omega)
theorem s12 {x : Int} (hx1 : -2147483648 ≤ x) (hx2 : x ≤ 2147483647) : am_F sc 12 [am_I (ii x)] (wst w) = some (some (am_I (ii (bz (0 ≤ x ∧ x < 8)))), wst w) := by
  rw [ft_12]
  simp (disch := omega) only [Option.bind_some, Option.bind_none, r_I, r_L, r_R, r_V, cond_true, cond_false, ii_add, ii_sub, ii_mul, ii_neg, bz_0, bz_1, Bool.true_and, Bool.false_and, Bool.and_true, z00, z11, li_0, li_1, li_8, ii_lt, ii_eq]
  unfold bz
  repeat' split
  all_goals first | rfl | (exfalso; omega)
theorem s20 {x : Int} (hx1 : -2147483648 ≤ x) (hx2 : x ≤ 2147483647) : am_F sc 20 [am_I (ii x)] (wst w) = some (some (am_I (ii (bz (0 ≤ x ∧ x < 6)))), wst w) := by
  rw [ft_20]
  simp (disch := omega) only [Option.bind_some, Option.bind_none, r_I, r_L, r_R, r_V, cond_true, cond_false, ii_add, ii_sub, ii_mul, ii_neg, bz_0, bz_1, Bool.true_and, Bool.false_and, Bool.and_true, z00, z11, li_0, li_1, li_6, ii_lt, ii_eq]
  unfold bz
  repeat' split
  all_goals first | rfl | (exfalso; omega)
/-- the cases of the class: how many there are -/
def nC (w : wo) : Int := wI w 1 5
theorem s19 {x : Int} (hx1 : -2147483648 ≤ x) (hx2 : x ≤ 2147483647) (hn1 : -2147483648 ≤ (wI w 1 5)) (hn2 : (wI w 1 5) ≤ 2147483647) : am_F sc 19 [am_R (some 1), am_I (ii x)] (wst w) = some (some (am_I (ii (bz (0 ≤ x ∧ x < wI w 1 5 ∧ x < 200)))), wst w) := by
  rw [ft_19]
  simp (disch := omega) only [Option.bind_some, Option.bind_none, r_I, r_L, r_R, r_V, cond_true, cond_false, ii_add, ii_sub, ii_mul, ii_neg, bz_0, bz_1, Bool.true_and, Bool.false_and, Bool.and_true, z00, z11, li_0, li_1, li_200, gI_1_5, ii_lt, ii_eq]
  unfold bz
  repeat' split
  all_goals first | rfl | (exfalso; omega)
theorem s21 {x y : Int} (hx1 : -2147483648 ≤ x) (hx2 : x ≤ 2147483647) (hy1 : -2147483648 ≤ y) (hy2 : y ≤ 2147483647) (hn1 : -2147483648 ≤ (wI w 1 5)) (hn2 : (wI w 1 5) ≤ 2147483647) : am_F sc 21 [am_R (some 1), am_I (ii x), am_I (ii y)] (wst w) = some (some (am_I (ii (if (0 ≤ x ∧ x < wI w 1 5 ∧ x < 200) ∧ 0 ≤ y ∧ y < 6 then wA w 6 (x * 6 + y) else -1))), wst w) := by
  rw [ft_21]
  simp (disch := omega) only [Option.bind_some, Option.bind_none, r_I, r_L, r_R, r_V, cond_true, cond_false, ii_add, ii_sub, ii_mul, ii_neg, bz_0, bz_1, Bool.true_and, Bool.false_and, Bool.and_true, z00, z11, li_0, li_1, li_6, e_6, gR_1_4, is_1, s19, s20]
  by_cases q1 : 0 ≤ x ∧ x < wI w 1 5 ∧ x < 200
  · by_cases q2 : 0 ≤ y ∧ y < 6
    · simp (disch := omega) only [q1, q2, Option.bind_some, Option.bind_none, r_I, r_L, r_R, r_V, cond_true, cond_false, ii_add, ii_sub, ii_mul, ii_neg, bz_0, bz_1, Bool.true_and, Bool.false_and, Bool.and_true, z00, z11, li_0, li_1, li_6, e_6, gR_1_4, is_1, not_true, if_false, and_self, if_true]
    · simp (disch := omega) only [q1, q2, Option.bind_some, Option.bind_none, r_I, r_L, r_R, r_V, cond_true, cond_false, ii_add, ii_sub, ii_mul, ii_neg, bz_0, bz_1, Bool.true_and, Bool.false_and, Bool.and_true, z00, z11, li_0, li_1, li_6, e_6, gR_1_4, is_1, not_true, not_false_eq_true, and_false, if_false, and_self, if_true]
  · simp (disch := omega) only [q1, Option.bind_some, Option.bind_none, r_I, r_L, r_R, r_V, cond_true, cond_false, ii_add, ii_sub, ii_mul, ii_neg, bz_0, bz_1, Bool.true_and, Bool.false_and, Bool.and_true, z00, z11, li_0, li_1, li_6, e_6, gR_1_4, is_1, not_true, not_false_eq_true, false_and, if_false, and_self, if_true]
end L2a
