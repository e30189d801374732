/-! RUNS OVER THE WORLD: the base, and the smallest methods -/
theorem r_I (x : Int32) (s : am_S) : am_rI (some (some (am_I x), s)) = some (x, s) := rfl
theorem r_L (x : Int64) (s : am_S) : am_rL (some (some (am_L x), s)) = some (x, s) := rfl
theorem r_R (x : Option Nat) (s : am_S) : am_rR (some (some (am_R x), s)) = some (x, s) := rfl
theorem r_V (s : am_S) : am_rV (some (none, s)) = some s := rfl
def i32 (z : Int) : Prop := -2147483648 ≤ z ∧ z ≤ 2147483647
section L2a
variable {sc : am_X} {w : wo}
theorem s11 {x : Int} (hx : i32 x) : am_F sc 11 [am_I (ii x)] (wst w) = some (some (am_I (ii (bz (x = 0 ∨ x = 1)))), wst w) := by
  obtain ⟨h1, h2⟩ := hx
  rw [ft_11]
  simp (disch := omega) only [Option.bind_some, Option.bind_none, r_I, r_L, r_R, r_V, cond_true, cond_false, ii_add, ii_sub, ii_mul, ii_neg, bz_0, bz_1, Bool.true_and, Bool.false_and, Bool.and_true, li_0, li_1, ii_lt, ii_eq]
  unfold bz
  repeat' split
  all_goals first | rfl | (exfalso; omega)
theorem s12 {x : Int} (hx : i32 x) : am_F sc 12 [am_I (ii x)] (wst w) = some (some (am_I (ii (bz (0 ≤ x ∧ x < 8)))), wst w) := by
  obtain ⟨h1, h2⟩ := hx
  rw [ft_12]
  simp (disch := omega) only [Option.bind_some, Option.bind_none, r_I, r_L, r_R, r_V, cond_true, cond_false, ii_add, ii_sub, ii_mul, ii_neg, bz_0, bz_1, Bool.true_and, Bool.false_and, Bool.and_true, li_0, li_1, li_8, ii_lt, ii_eq]
  unfold bz
  repeat' split
  all_goals first | rfl | (exfalso; omega)
theorem s20 {x : Int} (hx : i32 x) : am_F sc 20 [am_I (ii x)] (wst w) = some (some (am_I (ii (bz (0 ≤ x ∧ x < 6)))), wst w) := by
  obtain ⟨h1, h2⟩ := hx
  rw [ft_20]
  simp (disch := omega) only [Option.bind_some, Option.bind_none, r_I, r_L, r_R, r_V, cond_true, cond_false, ii_add, ii_sub, ii_mul, ii_neg, bz_0, bz_1, Bool.true_and, Bool.false_and, Bool.and_true, li_0, li_1, li_6, ii_lt, ii_eq]
  unfold bz
  repeat' split
  all_goals first | rfl | (exfalso; omega)
/-- the cases of the class: how many there are -/
def nC (w : wo) : Int := wI w 1 5
theorem s19 {x : Int} (hx : i32 x) (hn : i32 (wI w 1 5)) : am_F sc 19 [am_R (some 1), am_I (ii x)] (wst w) = some (some (am_I (ii (bz (0 ≤ x ∧ x < wI w 1 5 ∧ x < 200)))), wst w) := by
  obtain ⟨h1, h2⟩ := hx
  obtain ⟨h3, h4⟩ := hn
  rw [ft_19]
  simp (disch := omega) only [Option.bind_some, Option.bind_none, r_I, r_L, r_R, r_V, cond_true, cond_false, ii_add, ii_sub, ii_mul, ii_neg, bz_0, bz_1, Bool.true_and, Bool.false_and, Bool.and_true, li_0, li_1, li_200, gI_1_5, ii_lt, ii_eq]
  unfold bz
  repeat' split
  all_goals first | rfl | (exfalso; omega)
theorem s21 {x y : Int} (hx : i32 x) (hy : i32 y) (hn : i32 (wI w 1 5)) : am_F sc 21 [am_R (some 1), am_I (ii x), am_I (ii y)] (wst w) = some (some (am_I (ii (if (0 ≤ x ∧ x < wI w 1 5 ∧ x < 200) ∧ 0 ≤ y ∧ y < 6 then wA w 6 (x * 6 + y) else -1))), wst w) := by
  rw [ft_21]
  simp (disch := omega) only [Option.bind_some, Option.bind_none, r_I, r_L, r_R, r_V, cond_true, cond_false, ii_add, ii_sub, ii_mul, ii_neg, bz_0, bz_1, Bool.true_and, Bool.false_and, Bool.and_true, li_0, li_1, li_6, e_6, gR_1_4, is_1, s19 hx hn, s20 hy]
  by_cases q1 : 0 ≤ x ∧ x < wI w 1 5 ∧ x < 200
  · by_cases q2 : 0 ≤ y ∧ y < 6
    · simp (disch := omega) only [q1, q2, Option.bind_some, Option.bind_none, r_I, r_L, r_R, r_V, cond_true, cond_false, ii_add, ii_sub, ii_mul, ii_neg, bz_0, bz_1, Bool.true_and, Bool.false_and, Bool.and_true, li_0, li_1, li_6, e_6, gR_1_4, is_1, not_true, if_false, and_self, if_true]
    · simp (disch := omega) only [q1, q2, Option.bind_some, Option.bind_none, r_I, r_L, r_R, r_V, cond_true, cond_false, ii_add, ii_sub, ii_mul, ii_neg, bz_0, bz_1, Bool.true_and, Bool.false_and, Bool.and_true, li_0, li_1, li_6, e_6, gR_1_4, is_1, not_true, not_false_eq_true, and_false, if_false, and_self, if_true]
  · simp (disch := omega) only [q1, Option.bind_some, Option.bind_none, r_I, r_L, r_R, r_V, cond_true, cond_false, ii_add, ii_sub, ii_mul, ii_neg, bz_0, bz_1, Bool.true_and, Bool.false_and, Bool.and_true, li_0, li_1, li_6, e_6, gR_1_4, is_1, not_true, not_false_eq_true, false_and, if_false, and_self, if_true]
end L2a
