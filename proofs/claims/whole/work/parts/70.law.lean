/-! THE LAW'S LOOP -/
theorem lg_self (x : Int64) : (lg_cmp x x = ii 0) = True := by
  have h1 := Int64.le_toInt x
  have h2 := Int64.toInt_lt x
  have h := lg_eq (a := x.toInt) (b := x.toInt) (by omega) (by omega) (by omega) (by omega)
  rw [show jj x.toInt = x from Int64.ofInt_toInt x] at h
  rw [h]
  exact eq_self _
theorem hz_f {L : Nat} {z : Int} {n : Nat} (h0 : 0 ≤ z) (h1 : z ≤ 4000) (hn : n < L) : (ii z < ii 0 ∨ L ≤ n) = False := by
  rw [ii_lt (by omega) (by omega) (by omega) (by omega)]
  exact eq_false (by omega)
theorem hn_f {z : Int} {n : Nat} (h : z = n) (h1 : n ≤ 4000) : (ii z).toNatClampNeg = n := by
  rw [ii_nat (by omega) (by omega), h]
  rfl
section L70
variable {sc : am_X} {w : wo} {c s : Nat}
/-- where the law stands -/
abbrev lst (pc : Nat) (x : Int) (w : wo) : am_T := (pc, [some (am_O 0), some (am_R (some 0)), some (am_R (some 47)), some (am_I (ii x))], [], wst w)
theorem lw_30 {t : Nat} (ht : 6 * t + 6 ≤ sc.1) (hL : sc.1 ≤ 3072) (q : LQ sc w 30 31 [am_I (sc.2 (6 * t + 1)), am_I (sc.2 (6 * t + 2))] c s) : ∃ v, am_W sc 289 (lst 296 (6 * t) w) = am_W sc 289 (lst 1649 (6 * t) v) ∧ LI v c s := by
  obtain ⟨x, u, v, e1, e2, h⟩ := q
  refine ⟨v, ?_, h⟩
  have n1 := hn_f (z := 6 * (t : Int) + 1) (n := 6 * t + 1) (by omega) (by omega)
  have z1 := hz_f (L := sc.1) (z := 6 * (t : Int) + 1) (n := 6 * t + 1) (by omega) (by omega) (by omega)
  have n2 := hn_f (z := 6 * (t : Int) + 2) (n := 6 * t + 2) (by omega) (by omega)
  have z2 := hz_f (L := sc.1) (z := 6 * (t : Int) + 2) (n := 6 * t + 2) (by omega) (by omega) (by omega)
  rw [wq_289_296]
  simp only [qB_s, qC_t, qC_f, qI_T, qI_F, qI_t, qI_f, r_I, r_L, r_R, r_V, ii_add, ii_sub, ii_mul, ii_neg, bz_0, bz_1, Bool.true_and, Bool.false_and, Bool.and_true, z00, z11, li_0, li_1, li_2, li_3, li_4, li_5, is_0, is_47, n1, z1, n2, z2,  e1, e2, eq_self]

theorem lw_105 {t : Nat} (ht : 6 * t + 6 ≤ sc.1) (hL : sc.1 ≤ 3072) (q : LQ sc w 105 112 [am_I (sc.2 (6 * t + 1)), am_I (sc.2 (6 * t + 2))] c s) : ∃ v, am_W sc 289 (lst 441 (6 * t) w) = am_W sc 289 (lst 1649 (6 * t) v) ∧ LI v c s := by
  obtain ⟨x, u, v, e1, e2, h⟩ := q
  refine ⟨v, ?_, h⟩
  have n1 := hn_f (z := 6 * (t : Int) + 1) (n := 6 * t + 1) (by omega) (by omega)
  have z1 := hz_f (L := sc.1) (z := 6 * (t : Int) + 1) (n := 6 * t + 1) (by omega) (by omega) (by omega)
  have n2 := hn_f (z := 6 * (t : Int) + 2) (n := 6 * t + 2) (by omega) (by omega)
  have z2 := hz_f (L := sc.1) (z := 6 * (t : Int) + 2) (n := 6 * t + 2) (by omega) (by omega) (by omega)
  rw [wq_289_441]
  simp only [qB_s, qC_t, qC_f, qI_T, qI_F, qI_t, qI_f, r_I, r_L, r_R, r_V, ii_add, ii_sub, ii_mul, ii_neg, bz_0, bz_1, Bool.true_and, Bool.false_and, Bool.and_true, z00, z11, li_0, li_1, li_2, li_3, li_4, li_5, is_0, is_47, n1, z1, n2, z2,  e1, e2, eq_self]

theorem lw_119 {t : Nat} (ht : 6 * t + 6 ≤ sc.1) (hL : sc.1 ≤ 3072) (q : LQ sc w 119 125 [am_I (sc.2 (6 * t + 1)), am_I (sc.2 (6 * t + 2))] c s) : ∃ v, am_W sc 289 (lst 474 (6 * t) w) = am_W sc 289 (lst 1649 (6 * t) v) ∧ LI v c s := by
  obtain ⟨x, u, v, e1, e2, h⟩ := q
  refine ⟨v, ?_, h⟩
  have n1 := hn_f (z := 6 * (t : Int) + 1) (n := 6 * t + 1) (by omega) (by omega)
  have z1 := hz_f (L := sc.1) (z := 6 * (t : Int) + 1) (n := 6 * t + 1) (by omega) (by omega) (by omega)
  have n2 := hn_f (z := 6 * (t : Int) + 2) (n := 6 * t + 2) (by omega) (by omega)
  have z2 := hz_f (L := sc.1) (z := 6 * (t : Int) + 2) (n := 6 * t + 2) (by omega) (by omega) (by omega)
  rw [wq_289_474]
  simp only [qB_s, qC_t, qC_f, qI_T, qI_F, qI_t, qI_f, r_I, r_L, r_R, r_V, ii_add, ii_sub, ii_mul, ii_neg, bz_0, bz_1, Bool.true_and, Bool.false_and, Bool.and_true, z00, z11, li_0, li_1, li_2, li_3, li_4, li_5, is_0, is_47, n1, z1, n2, z2,  e1, e2, eq_self]

theorem lw_128 {t : Nat} (ht : 6 * t + 6 ≤ sc.1) (hL : sc.1 ≤ 3072) (q : LQ sc w 128 129 [am_I (sc.2 (6 * t + 1)), am_I (sc.2 (6 * t + 2)), am_I (sc.2 (6 * t + 3))] c s) : ∃ v, am_W sc 289 (lst 507 (6 * t) w) = am_W sc 289 (lst 1649 (6 * t) v) ∧ LI v c s := by
  obtain ⟨x, u, v, e1, e2, h⟩ := q
  refine ⟨v, ?_, h⟩
  have n1 := hn_f (z := 6 * (t : Int) + 1) (n := 6 * t + 1) (by omega) (by omega)
  have z1 := hz_f (L := sc.1) (z := 6 * (t : Int) + 1) (n := 6 * t + 1) (by omega) (by omega) (by omega)
  have n2 := hn_f (z := 6 * (t : Int) + 2) (n := 6 * t + 2) (by omega) (by omega)
  have z2 := hz_f (L := sc.1) (z := 6 * (t : Int) + 2) (n := 6 * t + 2) (by omega) (by omega) (by omega)
  have n3 := hn_f (z := 6 * (t : Int) + 3) (n := 6 * t + 3) (by omega) (by omega)
  have z3 := hz_f (L := sc.1) (z := 6 * (t : Int) + 3) (n := 6 * t + 3) (by omega) (by omega) (by omega)
  rw [wq_289_507]
  simp only [qB_s, qC_t, qC_f, qI_T, qI_F, qI_t, qI_f, r_I, r_L, r_R, r_V, ii_add, ii_sub, ii_mul, ii_neg, bz_0, bz_1, Bool.true_and, Bool.false_and, Bool.and_true, z00, z11, li_0, li_1, li_2, li_3, li_4, li_5, is_0, is_47, n1, z1, n2, z2, n3, z3,  e1, e2, eq_self]

theorem lw_134 {t : Nat} (ht : 6 * t + 6 ≤ sc.1) (hL : sc.1 ≤ 3072) (q : LQ sc w 134 137 [am_I (sc.2 (6 * t + 1)), am_I (sc.2 (6 * t + 2))] c s) : ∃ v, am_W sc 289 (lst 550 (6 * t) w) = am_W sc 289 (lst 1649 (6 * t) v) ∧ LI v c s := by
  obtain ⟨x, u, v, e1, e2, h⟩ := q
  refine ⟨v, ?_, h⟩
  have n1 := hn_f (z := 6 * (t : Int) + 1) (n := 6 * t + 1) (by omega) (by omega)
  have z1 := hz_f (L := sc.1) (z := 6 * (t : Int) + 1) (n := 6 * t + 1) (by omega) (by omega) (by omega)
  have n2 := hn_f (z := 6 * (t : Int) + 2) (n := 6 * t + 2) (by omega) (by omega)
  have z2 := hz_f (L := sc.1) (z := 6 * (t : Int) + 2) (n := 6 * t + 2) (by omega) (by omega) (by omega)
  rw [wq_289_550]
  simp only [qB_s, qC_t, qC_f, qI_T, qI_F, qI_t, qI_f, r_I, r_L, r_R, r_V, ii_add, ii_sub, ii_mul, ii_neg, bz_0, bz_1, Bool.true_and, Bool.false_and, Bool.and_true, z00, z11, li_0, li_1, li_2, li_3, li_4, li_5, is_0, is_47, n1, z1, n2, z2,  e1, e2, eq_self]

theorem lw_139 {t : Nat} (ht : 6 * t + 6 ≤ sc.1) (hL : sc.1 ≤ 3072) (q : LQL sc w 139 141 [am_I (sc.2 (6 * t + 1)), am_I (sc.2 (6 * t + 2))] c s) : ∃ v, am_W sc 289 (lst 583 (6 * t) w) = am_W sc 289 (lst 1649 (6 * t) v) ∧ LI v c s := by
  obtain ⟨x, u, v, e1, e2, h⟩ := q
  refine ⟨v, ?_, h⟩
  have n1 := hn_f (z := 6 * (t : Int) + 1) (n := 6 * t + 1) (by omega) (by omega)
  have z1 := hz_f (L := sc.1) (z := 6 * (t : Int) + 1) (n := 6 * t + 1) (by omega) (by omega) (by omega)
  have n2 := hn_f (z := 6 * (t : Int) + 2) (n := 6 * t + 2) (by omega) (by omega)
  have z2 := hz_f (L := sc.1) (z := 6 * (t : Int) + 2) (n := 6 * t + 2) (by omega) (by omega) (by omega)
  rw [wq_289_583]
  simp only [qB_s, qC_t, qC_f, qI_T, qI_F, qI_t, qI_f, r_I, r_L, r_R, r_V, ii_add, ii_sub, ii_mul, ii_neg, bz_0, bz_1, Bool.true_and, Bool.false_and, Bool.and_true, z00, z11, li_0, li_1, li_2, li_3, li_4, li_5, is_0, is_47, n1, z1, n2, z2,  e1, e2, eq_self, lg_self]

theorem lw_150 {t : Nat} (ht : 6 * t + 6 ≤ sc.1) (hL : sc.1 ≤ 3072) (q : LQ sc w 150 155 [am_I (sc.2 (6 * t + 1)), am_I (sc.2 (6 * t + 2)), am_I (sc.2 (6 * t + 3))] c s) : ∃ v, am_W sc 289 (lst 617 (6 * t) w) = am_W sc 289 (lst 1649 (6 * t) v) ∧ LI v c s := by
  obtain ⟨x, u, v, e1, e2, h⟩ := q
  refine ⟨v, ?_, h⟩
  have n1 := hn_f (z := 6 * (t : Int) + 1) (n := 6 * t + 1) (by omega) (by omega)
  have z1 := hz_f (L := sc.1) (z := 6 * (t : Int) + 1) (n := 6 * t + 1) (by omega) (by omega) (by omega)
  have n2 := hn_f (z := 6 * (t : Int) + 2) (n := 6 * t + 2) (by omega) (by omega)
  have z2 := hz_f (L := sc.1) (z := 6 * (t : Int) + 2) (n := 6 * t + 2) (by omega) (by omega) (by omega)
  have n3 := hn_f (z := 6 * (t : Int) + 3) (n := 6 * t + 3) (by omega) (by omega)
  have z3 := hz_f (L := sc.1) (z := 6 * (t : Int) + 3) (n := 6 * t + 3) (by omega) (by omega) (by omega)
  rw [wq_289_617]
  simp only [qB_s, qC_t, qC_f, qI_T, qI_F, qI_t, qI_f, r_I, r_L, r_R, r_V, ii_add, ii_sub, ii_mul, ii_neg, bz_0, bz_1, Bool.true_and, Bool.false_and, Bool.and_true, z00, z11, li_0, li_1, li_2, li_3, li_4, li_5, is_0, is_47, n1, z1, n2, z2, n3, z3,  e1, e2, eq_self]

theorem lw_287 {t : Nat} (ht : 6 * t + 6 ≤ sc.1) (hL : sc.1 ≤ 3072) (q : LQ sc w 287 288 [am_I (sc.2 (6 * t + 1))] c s) : ∃ v, am_W sc 289 (lst 660 (6 * t) w) = am_W sc 289 (lst 1649 (6 * t) v) ∧ LI v c s := by
  obtain ⟨x, u, v, e1, e2, h⟩ := q
  refine ⟨v, ?_, h⟩
  have n1 := hn_f (z := 6 * (t : Int) + 1) (n := 6 * t + 1) (by omega) (by omega)
  have z1 := hz_f (L := sc.1) (z := 6 * (t : Int) + 1) (n := 6 * t + 1) (by omega) (by omega) (by omega)
  rw [wq_289_660]
  simp only [qB_s, qC_t, qC_f, qI_T, qI_F, qI_t, qI_f, r_I, r_L, r_R, r_V, ii_add, ii_sub, ii_mul, ii_neg, bz_0, bz_1, Bool.true_and, Bool.false_and, Bool.and_true, z00, z11, li_0, li_1, li_2, li_3, li_4, li_5, is_0, is_47, n1, z1,  e1, e2, eq_self]

theorem lw_170 {t : Nat} (ht : 6 * t + 6 ≤ sc.1) (hL : sc.1 ≤ 3072) (q : LQ sc w 170 173 [am_I (sc.2 (6 * t + 1)), am_I (sc.2 (6 * t + 2))] c s) : ∃ v, am_W sc 289 (lst 683 (6 * t) w) = am_W sc 289 (lst 1649 (6 * t) v) ∧ LI v c s := by
  obtain ⟨x, u, v, e1, e2, h⟩ := q
  refine ⟨v, ?_, h⟩
  have n1 := hn_f (z := 6 * (t : Int) + 1) (n := 6 * t + 1) (by omega) (by omega)
  have z1 := hz_f (L := sc.1) (z := 6 * (t : Int) + 1) (n := 6 * t + 1) (by omega) (by omega) (by omega)
  have n2 := hn_f (z := 6 * (t : Int) + 2) (n := 6 * t + 2) (by omega) (by omega)
  have z2 := hz_f (L := sc.1) (z := 6 * (t : Int) + 2) (n := 6 * t + 2) (by omega) (by omega) (by omega)
  rw [wq_289_683]
  simp only [qB_s, qC_t, qC_f, qI_T, qI_F, qI_t, qI_f, r_I, r_L, r_R, r_V, ii_add, ii_sub, ii_mul, ii_neg, bz_0, bz_1, Bool.true_and, Bool.false_and, Bool.and_true, z00, z11, li_0, li_1, li_2, li_3, li_4, li_5, is_0, is_47, n1, z1, n2, z2,  e1, e2, eq_self]

theorem lw_175 {t : Nat} (ht : 6 * t + 6 ≤ sc.1) (hL : sc.1 ≤ 3072) (q : LQ sc w 175 176 [am_I (sc.2 (6 * t + 1))] c s) : ∃ v, am_W sc 289 (lst 716 (6 * t) w) = am_W sc 289 (lst 1649 (6 * t) v) ∧ LI v c s := by
  obtain ⟨x, u, v, e1, e2, h⟩ := q
  refine ⟨v, ?_, h⟩
  have n1 := hn_f (z := 6 * (t : Int) + 1) (n := 6 * t + 1) (by omega) (by omega)
  have z1 := hz_f (L := sc.1) (z := 6 * (t : Int) + 1) (n := 6 * t + 1) (by omega) (by omega) (by omega)
  rw [wq_289_716]
  simp only [qB_s, qC_t, qC_f, qI_T, qI_F, qI_t, qI_f, r_I, r_L, r_R, r_V, ii_add, ii_sub, ii_mul, ii_neg, bz_0, bz_1, Bool.true_and, Bool.false_and, Bool.and_true, z00, z11, li_0, li_1, li_2, li_3, li_4, li_5, is_0, is_47, n1, z1,  e1, e2, eq_self]

theorem lw_178 {t : Nat} (ht : 6 * t + 6 ≤ sc.1) (hL : sc.1 ≤ 3072) (q : LQ sc w 178 179 [am_I (sc.2 (6 * t + 1)), am_I (sc.2 (6 * t + 2))] c s) : ∃ v, am_W sc 289 (lst 739 (6 * t) w) = am_W sc 289 (lst 1649 (6 * t) v) ∧ LI v c s := by
  obtain ⟨x, u, v, e1, e2, h⟩ := q
  refine ⟨v, ?_, h⟩
  have n1 := hn_f (z := 6 * (t : Int) + 1) (n := 6 * t + 1) (by omega) (by omega)
  have z1 := hz_f (L := sc.1) (z := 6 * (t : Int) + 1) (n := 6 * t + 1) (by omega) (by omega) (by omega)
  have n2 := hn_f (z := 6 * (t : Int) + 2) (n := 6 * t + 2) (by omega) (by omega)
  have z2 := hz_f (L := sc.1) (z := 6 * (t : Int) + 2) (n := 6 * t + 2) (by omega) (by omega) (by omega)
  rw [wq_289_739]
  simp only [qB_s, qC_t, qC_f, qI_T, qI_F, qI_t, qI_f, r_I, r_L, r_R, r_V, ii_add, ii_sub, ii_mul, ii_neg, bz_0, bz_1, Bool.true_and, Bool.false_and, Bool.and_true, z00, z11, li_0, li_1, li_2, li_3, li_4, li_5, is_0, is_47, n1, z1, n2, z2,  e1, e2, eq_self]

theorem lw_187 {t : Nat} (ht : 6 * t + 6 ≤ sc.1) (hL : sc.1 ≤ 3072) (q : LQ sc w 187 189 [am_I (sc.2 (6 * t + 1)), am_I (sc.2 (6 * t + 2))] c s) : ∃ v, am_W sc 289 (lst 847 (6 * t) w) = am_W sc 289 (lst 1649 (6 * t) v) ∧ LI v c s := by
  obtain ⟨x, u, v, e1, e2, h⟩ := q
  refine ⟨v, ?_, h⟩
  have n1 := hn_f (z := 6 * (t : Int) + 1) (n := 6 * t + 1) (by omega) (by omega)
  have z1 := hz_f (L := sc.1) (z := 6 * (t : Int) + 1) (n := 6 * t + 1) (by omega) (by omega) (by omega)
  have n2 := hn_f (z := 6 * (t : Int) + 2) (n := 6 * t + 2) (by omega) (by omega)
  have z2 := hz_f (L := sc.1) (z := 6 * (t : Int) + 2) (n := 6 * t + 2) (by omega) (by omega) (by omega)
  rw [wq_289_847]
  simp only [qB_s, qC_t, qC_f, qI_T, qI_F, qI_t, qI_f, r_I, r_L, r_R, r_V, ii_add, ii_sub, ii_mul, ii_neg, bz_0, bz_1, Bool.true_and, Bool.false_and, Bool.and_true, z00, z11, li_0, li_1, li_2, li_3, li_4, li_5, is_0, is_47, n1, z1, n2, z2,  e1, e2, eq_self]

theorem lw_192 {t : Nat} (ht : 6 * t + 6 ≤ sc.1) (hL : sc.1 ≤ 3072) (q : LQL sc w 192 193 [am_I (sc.2 (6 * t + 1)), am_I (sc.2 (6 * t + 2))] c s) : ∃ v, am_W sc 289 (lst 880 (6 * t) w) = am_W sc 289 (lst 1649 (6 * t) v) ∧ LI v c s := by
  obtain ⟨x, u, v, e1, e2, h⟩ := q
  refine ⟨v, ?_, h⟩
  have n1 := hn_f (z := 6 * (t : Int) + 1) (n := 6 * t + 1) (by omega) (by omega)
  have z1 := hz_f (L := sc.1) (z := 6 * (t : Int) + 1) (n := 6 * t + 1) (by omega) (by omega) (by omega)
  have n2 := hn_f (z := 6 * (t : Int) + 2) (n := 6 * t + 2) (by omega) (by omega)
  have z2 := hz_f (L := sc.1) (z := 6 * (t : Int) + 2) (n := 6 * t + 2) (by omega) (by omega) (by omega)
  rw [wq_289_880]
  simp only [qB_s, qC_t, qC_f, qI_T, qI_F, qI_t, qI_f, r_I, r_L, r_R, r_V, ii_add, ii_sub, ii_mul, ii_neg, bz_0, bz_1, Bool.true_and, Bool.false_and, Bool.and_true, z00, z11, li_0, li_1, li_2, li_3, li_4, li_5, is_0, is_47, n1, z1, n2, z2,  e1, e2, eq_self, lg_self]

theorem lw_194 {t : Nat} (ht : 6 * t + 6 ≤ sc.1) (hL : sc.1 ≤ 3072) (q : LQL sc w 194 197 [am_I (sc.2 (6 * t + 1)), am_I (sc.2 (6 * t + 2)), am_I (sc.2 (6 * t + 3))] c s) : ∃ v, am_W sc 289 (lst 914 (6 * t) w) = am_W sc 289 (lst 1649 (6 * t) v) ∧ LI v c s := by
  obtain ⟨x, u, v, e1, e2, h⟩ := q
  refine ⟨v, ?_, h⟩
  have n1 := hn_f (z := 6 * (t : Int) + 1) (n := 6 * t + 1) (by omega) (by omega)
  have z1 := hz_f (L := sc.1) (z := 6 * (t : Int) + 1) (n := 6 * t + 1) (by omega) (by omega) (by omega)
  have n2 := hn_f (z := 6 * (t : Int) + 2) (n := 6 * t + 2) (by omega) (by omega)
  have z2 := hz_f (L := sc.1) (z := 6 * (t : Int) + 2) (n := 6 * t + 2) (by omega) (by omega) (by omega)
  have n3 := hn_f (z := 6 * (t : Int) + 3) (n := 6 * t + 3) (by omega) (by omega)
  have z3 := hz_f (L := sc.1) (z := 6 * (t : Int) + 3) (n := 6 * t + 3) (by omega) (by omega) (by omega)
  rw [wq_289_914]
  simp only [qB_s, qC_t, qC_f, qI_T, qI_F, qI_t, qI_f, r_I, r_L, r_R, r_V, ii_add, ii_sub, ii_mul, ii_neg, bz_0, bz_1, Bool.true_and, Bool.false_and, Bool.and_true, z00, z11, li_0, li_1, li_2, li_3, li_4, li_5, is_0, is_47, n1, z1, n2, z2, n3, z3,  e1, e2, eq_self, lg_self]

theorem lw_198 {t : Nat} (ht : 6 * t + 6 ≤ sc.1) (hL : sc.1 ≤ 3072) (q : LQ sc w 198 199 [am_I (sc.2 (6 * t + 1))] c s) : ∃ v, am_W sc 289 (lst 958 (6 * t) w) = am_W sc 289 (lst 1649 (6 * t) v) ∧ LI v c s := by
  obtain ⟨x, u, v, e1, e2, h⟩ := q
  refine ⟨v, ?_, h⟩
  have n1 := hn_f (z := 6 * (t : Int) + 1) (n := 6 * t + 1) (by omega) (by omega)
  have z1 := hz_f (L := sc.1) (z := 6 * (t : Int) + 1) (n := 6 * t + 1) (by omega) (by omega) (by omega)
  rw [wq_289_958]
  simp only [qB_s, qC_t, qC_f, qI_T, qI_F, qI_t, qI_f, r_I, r_L, r_R, r_V, ii_add, ii_sub, ii_mul, ii_neg, bz_0, bz_1, Bool.true_and, Bool.false_and, Bool.and_true, z00, z11, li_0, li_1, li_2, li_3, li_4, li_5, is_0, is_47, n1, z1,  e1, e2, eq_self]

theorem lw_201 {t : Nat} (ht : 6 * t + 6 ≤ sc.1) (hL : sc.1 ≤ 3072) (q : LQ sc w 201 205 [am_I (sc.2 (6 * t + 1)), am_I (sc.2 (6 * t + 2)), am_I (sc.2 (6 * t + 3)), am_I (sc.2 (6 * t + 4))] c s) : ∃ v, am_W sc 289 (lst 981 (6 * t) w) = am_W sc 289 (lst 1649 (6 * t) v) ∧ LI v c s := by
  obtain ⟨x, u, v, e1, e2, h⟩ := q
  refine ⟨v, ?_, h⟩
  have n1 := hn_f (z := 6 * (t : Int) + 1) (n := 6 * t + 1) (by omega) (by omega)
  have z1 := hz_f (L := sc.1) (z := 6 * (t : Int) + 1) (n := 6 * t + 1) (by omega) (by omega) (by omega)
  have n2 := hn_f (z := 6 * (t : Int) + 2) (n := 6 * t + 2) (by omega) (by omega)
  have z2 := hz_f (L := sc.1) (z := 6 * (t : Int) + 2) (n := 6 * t + 2) (by omega) (by omega) (by omega)
  have n3 := hn_f (z := 6 * (t : Int) + 3) (n := 6 * t + 3) (by omega) (by omega)
  have z3 := hz_f (L := sc.1) (z := 6 * (t : Int) + 3) (n := 6 * t + 3) (by omega) (by omega) (by omega)
  have n4 := hn_f (z := 6 * (t : Int) + 4) (n := 6 * t + 4) (by omega) (by omega)
  have z4 := hz_f (L := sc.1) (z := 6 * (t : Int) + 4) (n := 6 * t + 4) (by omega) (by omega) (by omega)
  rw [wq_289_981]
  simp only [qB_s, qC_t, qC_f, qI_T, qI_F, qI_t, qI_f, r_I, r_L, r_R, r_V, ii_add, ii_sub, ii_mul, ii_neg, bz_0, bz_1, Bool.true_and, Bool.false_and, Bool.and_true, z00, z11, li_0, li_1, li_2, li_3, li_4, li_5, is_0, is_47, n1, z1, n2, z2, n3, z3, n4, z4,  e1, e2, eq_self]

theorem lw_207 {t : Nat} (ht : 6 * t + 6 ≤ sc.1) (hL : sc.1 ≤ 3072) (q : LQ sc w 207 208 [am_I (sc.2 (6 * t + 1)), am_I (sc.2 (6 * t + 2)), am_I (sc.2 (6 * t + 3)), am_I (sc.2 (6 * t + 4))] c s) : ∃ v, am_W sc 289 (lst 1034 (6 * t) w) = am_W sc 289 (lst 1649 (6 * t) v) ∧ LI v c s := by
  obtain ⟨x, u, v, e1, e2, h⟩ := q
  refine ⟨v, ?_, h⟩
  have n1 := hn_f (z := 6 * (t : Int) + 1) (n := 6 * t + 1) (by omega) (by omega)
  have z1 := hz_f (L := sc.1) (z := 6 * (t : Int) + 1) (n := 6 * t + 1) (by omega) (by omega) (by omega)
  have n2 := hn_f (z := 6 * (t : Int) + 2) (n := 6 * t + 2) (by omega) (by omega)
  have z2 := hz_f (L := sc.1) (z := 6 * (t : Int) + 2) (n := 6 * t + 2) (by omega) (by omega) (by omega)
  have n3 := hn_f (z := 6 * (t : Int) + 3) (n := 6 * t + 3) (by omega) (by omega)
  have z3 := hz_f (L := sc.1) (z := 6 * (t : Int) + 3) (n := 6 * t + 3) (by omega) (by omega) (by omega)
  have n4 := hn_f (z := 6 * (t : Int) + 4) (n := 6 * t + 4) (by omega) (by omega)
  have z4 := hz_f (L := sc.1) (z := 6 * (t : Int) + 4) (n := 6 * t + 4) (by omega) (by omega) (by omega)
  rw [wq_289_1034]
  simp only [qB_s, qC_t, qC_f, qI_T, qI_F, qI_t, qI_f, r_I, r_L, r_R, r_V, ii_add, ii_sub, ii_mul, ii_neg, bz_0, bz_1, Bool.true_and, Bool.false_and, Bool.and_true, z00, z11, li_0, li_1, li_2, li_3, li_4, li_5, is_0, is_47, n1, z1, n2, z2, n3, z3, n4, z4,  e1, e2, eq_self]

theorem lw_209 {t : Nat} (ht : 6 * t + 6 ≤ sc.1) (hL : sc.1 ≤ 3072) (q : LQ sc w 209 211 [am_I (sc.2 (6 * t + 1)), am_I (sc.2 (6 * t + 2)), am_I (sc.2 (6 * t + 3)), am_I (sc.2 (6 * t + 4))] c s) : ∃ v, am_W sc 289 (lst 1087 (6 * t) w) = am_W sc 289 (lst 1649 (6 * t) v) ∧ LI v c s := by
  obtain ⟨x, u, v, e1, e2, h⟩ := q
  refine ⟨v, ?_, h⟩
  have n1 := hn_f (z := 6 * (t : Int) + 1) (n := 6 * t + 1) (by omega) (by omega)
  have z1 := hz_f (L := sc.1) (z := 6 * (t : Int) + 1) (n := 6 * t + 1) (by omega) (by omega) (by omega)
  have n2 := hn_f (z := 6 * (t : Int) + 2) (n := 6 * t + 2) (by omega) (by omega)
  have z2 := hz_f (L := sc.1) (z := 6 * (t : Int) + 2) (n := 6 * t + 2) (by omega) (by omega) (by omega)
  have n3 := hn_f (z := 6 * (t : Int) + 3) (n := 6 * t + 3) (by omega) (by omega)
  have z3 := hz_f (L := sc.1) (z := 6 * (t : Int) + 3) (n := 6 * t + 3) (by omega) (by omega) (by omega)
  have n4 := hn_f (z := 6 * (t : Int) + 4) (n := 6 * t + 4) (by omega) (by omega)
  have z4 := hz_f (L := sc.1) (z := 6 * (t : Int) + 4) (n := 6 * t + 4) (by omega) (by omega) (by omega)
  rw [wq_289_1087]
  simp only [qB_s, qC_t, qC_f, qI_T, qI_F, qI_t, qI_f, r_I, r_L, r_R, r_V, ii_add, ii_sub, ii_mul, ii_neg, bz_0, bz_1, Bool.true_and, Bool.false_and, Bool.and_true, z00, z11, li_0, li_1, li_2, li_3, li_4, li_5, is_0, is_47, n1, z1, n2, z2, n3, z3, n4, z4,  e1, e2, eq_self]

theorem lw_214 {t : Nat} (ht : 6 * t + 6 ≤ sc.1) (hL : sc.1 ≤ 3072) (q : LQ sc w 214 216 [am_I (sc.2 (6 * t + 1)), am_I (sc.2 (6 * t + 2))] c s) : ∃ v, am_W sc 289 (lst 1140 (6 * t) w) = am_W sc 289 (lst 1649 (6 * t) v) ∧ LI v c s := by
  obtain ⟨x, u, v, e1, e2, h⟩ := q
  refine ⟨v, ?_, h⟩
  have n1 := hn_f (z := 6 * (t : Int) + 1) (n := 6 * t + 1) (by omega) (by omega)
  have z1 := hz_f (L := sc.1) (z := 6 * (t : Int) + 1) (n := 6 * t + 1) (by omega) (by omega) (by omega)
  have n2 := hn_f (z := 6 * (t : Int) + 2) (n := 6 * t + 2) (by omega) (by omega)
  have z2 := hz_f (L := sc.1) (z := 6 * (t : Int) + 2) (n := 6 * t + 2) (by omega) (by omega) (by omega)
  rw [wq_289_1140]
  simp only [qB_s, qC_t, qC_f, qI_T, qI_F, qI_t, qI_f, r_I, r_L, r_R, r_V, ii_add, ii_sub, ii_mul, ii_neg, bz_0, bz_1, Bool.true_and, Bool.false_and, Bool.and_true, z00, z11, li_0, li_1, li_2, li_3, li_4, li_5, is_0, is_47, n1, z1, n2, z2,  e1, e2, eq_self]

theorem lw_218 {t : Nat} (ht : 6 * t + 6 ≤ sc.1) (hL : sc.1 ≤ 3072) (q : LQ sc w 218 219 [am_I (sc.2 (6 * t + 1)), am_I (sc.2 (6 * t + 2))] c s) : ∃ v, am_W sc 289 (lst 1173 (6 * t) w) = am_W sc 289 (lst 1649 (6 * t) v) ∧ LI v c s := by
  obtain ⟨x, u, v, e1, e2, h⟩ := q
  refine ⟨v, ?_, h⟩
  have n1 := hn_f (z := 6 * (t : Int) + 1) (n := 6 * t + 1) (by omega) (by omega)
  have z1 := hz_f (L := sc.1) (z := 6 * (t : Int) + 1) (n := 6 * t + 1) (by omega) (by omega) (by omega)
  have n2 := hn_f (z := 6 * (t : Int) + 2) (n := 6 * t + 2) (by omega) (by omega)
  have z2 := hz_f (L := sc.1) (z := 6 * (t : Int) + 2) (n := 6 * t + 2) (by omega) (by omega) (by omega)
  rw [wq_289_1173]
  simp only [qB_s, qC_t, qC_f, qI_T, qI_F, qI_t, qI_f, r_I, r_L, r_R, r_V, ii_add, ii_sub, ii_mul, ii_neg, bz_0, bz_1, Bool.true_and, Bool.false_and, Bool.and_true, z00, z11, li_0, li_1, li_2, li_3, li_4, li_5, is_0, is_47, n1, z1, n2, z2,  e1, e2, eq_self]

theorem lw_225 {t : Nat} (ht : 6 * t + 6 ≤ sc.1) (hL : sc.1 ≤ 3072) (q : LQ sc w 225 228 [am_I (sc.2 (6 * t + 1)), am_I (sc.2 (6 * t + 2)), am_I (sc.2 (6 * t + 3))] c s) : ∃ v, am_W sc 289 (lst 1206 (6 * t) w) = am_W sc 289 (lst 1649 (6 * t) v) ∧ LI v c s := by
  obtain ⟨x, u, v, e1, e2, h⟩ := q
  refine ⟨v, ?_, h⟩
  have n1 := hn_f (z := 6 * (t : Int) + 1) (n := 6 * t + 1) (by omega) (by omega)
  have z1 := hz_f (L := sc.1) (z := 6 * (t : Int) + 1) (n := 6 * t + 1) (by omega) (by omega) (by omega)
  have n2 := hn_f (z := 6 * (t : Int) + 2) (n := 6 * t + 2) (by omega) (by omega)
  have z2 := hz_f (L := sc.1) (z := 6 * (t : Int) + 2) (n := 6 * t + 2) (by omega) (by omega) (by omega)
  have n3 := hn_f (z := 6 * (t : Int) + 3) (n := 6 * t + 3) (by omega) (by omega)
  have z3 := hz_f (L := sc.1) (z := 6 * (t : Int) + 3) (n := 6 * t + 3) (by omega) (by omega) (by omega)
  rw [wq_289_1206]
  simp only [qB_s, qC_t, qC_f, qI_T, qI_F, qI_t, qI_f, r_I, r_L, r_R, r_V, ii_add, ii_sub, ii_mul, ii_neg, bz_0, bz_1, Bool.true_and, Bool.false_and, Bool.and_true, z00, z11, li_0, li_1, li_2, li_3, li_4, li_5, is_0, is_47, n1, z1, n2, z2, n3, z3,  e1, e2, eq_self]

theorem lw_231 {t : Nat} (ht : 6 * t + 6 ≤ sc.1) (hL : sc.1 ≤ 3072) (q : LQ sc w 231 233 [am_I (sc.2 (6 * t + 1)), am_I (sc.2 (6 * t + 2)), am_I (sc.2 (6 * t + 3))] c s) : ∃ v, am_W sc 289 (lst 1249 (6 * t) w) = am_W sc 289 (lst 1649 (6 * t) v) ∧ LI v c s := by
  obtain ⟨x, u, v, e1, e2, h⟩ := q
  refine ⟨v, ?_, h⟩
  have n1 := hn_f (z := 6 * (t : Int) + 1) (n := 6 * t + 1) (by omega) (by omega)
  have z1 := hz_f (L := sc.1) (z := 6 * (t : Int) + 1) (n := 6 * t + 1) (by omega) (by omega) (by omega)
  have n2 := hn_f (z := 6 * (t : Int) + 2) (n := 6 * t + 2) (by omega) (by omega)
  have z2 := hz_f (L := sc.1) (z := 6 * (t : Int) + 2) (n := 6 * t + 2) (by omega) (by omega) (by omega)
  have n3 := hn_f (z := 6 * (t : Int) + 3) (n := 6 * t + 3) (by omega) (by omega)
  have z3 := hz_f (L := sc.1) (z := 6 * (t : Int) + 3) (n := 6 * t + 3) (by omega) (by omega) (by omega)
  rw [wq_289_1249]
  simp only [qB_s, qC_t, qC_f, qI_T, qI_F, qI_t, qI_f, r_I, r_L, r_R, r_V, ii_add, ii_sub, ii_mul, ii_neg, bz_0, bz_1, Bool.true_and, Bool.false_and, Bool.and_true, z00, z11, li_0, li_1, li_2, li_3, li_4, li_5, is_0, is_47, n1, z1, n2, z2, n3, z3,  e1, e2, eq_self]

theorem lw_241 {t : Nat} (ht : 6 * t + 6 ≤ sc.1) (hL : sc.1 ≤ 3072) (q : LQ sc w 241 243 [am_I (sc.2 (6 * t + 1)), am_I (sc.2 (6 * t + 2)), am_I (sc.2 (6 * t + 3)), am_I (sc.2 (6 * t + 4)), am_I (sc.2 (6 * t + 5))] c s) : ∃ v, am_W sc 289 (lst 1292 (6 * t) w) = am_W sc 289 (lst 1649 (6 * t) v) ∧ LI v c s := by
  obtain ⟨x, u, v, e1, e2, h⟩ := q
  refine ⟨v, ?_, h⟩
  have n1 := hn_f (z := 6 * (t : Int) + 1) (n := 6 * t + 1) (by omega) (by omega)
  have z1 := hz_f (L := sc.1) (z := 6 * (t : Int) + 1) (n := 6 * t + 1) (by omega) (by omega) (by omega)
  have n2 := hn_f (z := 6 * (t : Int) + 2) (n := 6 * t + 2) (by omega) (by omega)
  have z2 := hz_f (L := sc.1) (z := 6 * (t : Int) + 2) (n := 6 * t + 2) (by omega) (by omega) (by omega)
  have n3 := hn_f (z := 6 * (t : Int) + 3) (n := 6 * t + 3) (by omega) (by omega)
  have z3 := hz_f (L := sc.1) (z := 6 * (t : Int) + 3) (n := 6 * t + 3) (by omega) (by omega) (by omega)
  have n4 := hn_f (z := 6 * (t : Int) + 4) (n := 6 * t + 4) (by omega) (by omega)
  have z4 := hz_f (L := sc.1) (z := 6 * (t : Int) + 4) (n := 6 * t + 4) (by omega) (by omega) (by omega)
  have n5 := hn_f (z := 6 * (t : Int) + 5) (n := 6 * t + 5) (by omega) (by omega)
  have z5 := hz_f (L := sc.1) (z := 6 * (t : Int) + 5) (n := 6 * t + 5) (by omega) (by omega) (by omega)
  rw [wq_289_1292]
  simp only [qB_s, qC_t, qC_f, qI_T, qI_F, qI_t, qI_f, r_I, r_L, r_R, r_V, ii_add, ii_sub, ii_mul, ii_neg, bz_0, bz_1, Bool.true_and, Bool.false_and, Bool.and_true, z00, z11, li_0, li_1, li_2, li_3, li_4, li_5, is_0, is_47, n1, z1, n2, z2, n3, z3, n4, z4, n5, z5,  e1, e2, eq_self]

theorem lw_244 {t : Nat} (ht : 6 * t + 6 ≤ sc.1) (hL : sc.1 ≤ 3072) (q : LQ sc w 244 245 [am_I (sc.2 (6 * t + 1)), am_I (sc.2 (6 * t + 2)), am_I (sc.2 (6 * t + 3)), am_I (sc.2 (6 * t + 4)), am_I (sc.2 (6 * t + 5))] c s) : ∃ v, am_W sc 289 (lst 1355 (6 * t) w) = am_W sc 289 (lst 1649 (6 * t) v) ∧ LI v c s := by
  obtain ⟨x, u, v, e1, e2, h⟩ := q
  refine ⟨v, ?_, h⟩
  have n1 := hn_f (z := 6 * (t : Int) + 1) (n := 6 * t + 1) (by omega) (by omega)
  have z1 := hz_f (L := sc.1) (z := 6 * (t : Int) + 1) (n := 6 * t + 1) (by omega) (by omega) (by omega)
  have n2 := hn_f (z := 6 * (t : Int) + 2) (n := 6 * t + 2) (by omega) (by omega)
  have z2 := hz_f (L := sc.1) (z := 6 * (t : Int) + 2) (n := 6 * t + 2) (by omega) (by omega) (by omega)
  have n3 := hn_f (z := 6 * (t : Int) + 3) (n := 6 * t + 3) (by omega) (by omega)
  have z3 := hz_f (L := sc.1) (z := 6 * (t : Int) + 3) (n := 6 * t + 3) (by omega) (by omega) (by omega)
  have n4 := hn_f (z := 6 * (t : Int) + 4) (n := 6 * t + 4) (by omega) (by omega)
  have z4 := hz_f (L := sc.1) (z := 6 * (t : Int) + 4) (n := 6 * t + 4) (by omega) (by omega) (by omega)
  have n5 := hn_f (z := 6 * (t : Int) + 5) (n := 6 * t + 5) (by omega) (by omega)
  have z5 := hz_f (L := sc.1) (z := 6 * (t : Int) + 5) (n := 6 * t + 5) (by omega) (by omega) (by omega)
  rw [wq_289_1355]
  simp only [qB_s, qC_t, qC_f, qI_T, qI_F, qI_t, qI_f, r_I, r_L, r_R, r_V, ii_add, ii_sub, ii_mul, ii_neg, bz_0, bz_1, Bool.true_and, Bool.false_and, Bool.and_true, z00, z11, li_0, li_1, li_2, li_3, li_4, li_5, is_0, is_47, n1, z1, n2, z2, n3, z3, n4, z4, n5, z5,  e1, e2, eq_self]

theorem lw_255 {t : Nat} (ht : 6 * t + 6 ≤ sc.1) (hL : sc.1 ≤ 3072) (q : LQ sc w 255 260 [am_I (sc.2 (6 * t + 1)), am_I (sc.2 (6 * t + 2))] c s) : ∃ v, am_W sc 289 (lst 1418 (6 * t) w) = am_W sc 289 (lst 1649 (6 * t) v) ∧ LI v c s := by
  obtain ⟨x, u, v, e1, e2, h⟩ := q
  refine ⟨v, ?_, h⟩
  have n1 := hn_f (z := 6 * (t : Int) + 1) (n := 6 * t + 1) (by omega) (by omega)
  have z1 := hz_f (L := sc.1) (z := 6 * (t : Int) + 1) (n := 6 * t + 1) (by omega) (by omega) (by omega)
  have n2 := hn_f (z := 6 * (t : Int) + 2) (n := 6 * t + 2) (by omega) (by omega)
  have z2 := hz_f (L := sc.1) (z := 6 * (t : Int) + 2) (n := 6 * t + 2) (by omega) (by omega) (by omega)
  rw [wq_289_1418]
  simp only [qB_s, qC_t, qC_f, qI_T, qI_F, qI_t, qI_f, r_I, r_L, r_R, r_V, ii_add, ii_sub, ii_mul, ii_neg, bz_0, bz_1, Bool.true_and, Bool.false_and, Bool.and_true, z00, z11, li_0, li_1, li_2, li_3, li_4, li_5, is_0, is_47, n1, z1, n2, z2,  e1, e2, eq_self]

theorem lw_261 {t : Nat} (ht : 6 * t + 6 ≤ sc.1) (hL : sc.1 ≤ 3072) (q : LQ sc w 261 262 [am_I (sc.2 (6 * t + 1)), am_I (sc.2 (6 * t + 2)), am_I (sc.2 (6 * t + 3))] c s) : ∃ v, am_W sc 289 (lst 1451 (6 * t) w) = am_W sc 289 (lst 1649 (6 * t) v) ∧ LI v c s := by
  obtain ⟨x, u, v, e1, e2, h⟩ := q
  refine ⟨v, ?_, h⟩
  have n1 := hn_f (z := 6 * (t : Int) + 1) (n := 6 * t + 1) (by omega) (by omega)
  have z1 := hz_f (L := sc.1) (z := 6 * (t : Int) + 1) (n := 6 * t + 1) (by omega) (by omega) (by omega)
  have n2 := hn_f (z := 6 * (t : Int) + 2) (n := 6 * t + 2) (by omega) (by omega)
  have z2 := hz_f (L := sc.1) (z := 6 * (t : Int) + 2) (n := 6 * t + 2) (by omega) (by omega) (by omega)
  have n3 := hn_f (z := 6 * (t : Int) + 3) (n := 6 * t + 3) (by omega) (by omega)
  have z3 := hz_f (L := sc.1) (z := 6 * (t : Int) + 3) (n := 6 * t + 3) (by omega) (by omega) (by omega)
  rw [wq_289_1451]
  simp only [qB_s, qC_t, qC_f, qI_T, qI_F, qI_t, qI_f, r_I, r_L, r_R, r_V, ii_add, ii_sub, ii_mul, ii_neg, bz_0, bz_1, Bool.true_and, Bool.false_and, Bool.and_true, z00, z11, li_0, li_1, li_2, li_3, li_4, li_5, is_0, is_47, n1, z1, n2, z2, n3, z3,  e1, e2, eq_self]

theorem lw_263 {t : Nat} (ht : 6 * t + 6 ≤ sc.1) (hL : sc.1 ≤ 3072) (q : LQ sc w 263 264 [am_I (sc.2 (6 * t + 1)), am_I (sc.2 (6 * t + 2)), am_I (sc.2 (6 * t + 3))] c s) : ∃ v, am_W sc 289 (lst 1494 (6 * t) w) = am_W sc 289 (lst 1649 (6 * t) v) ∧ LI v c s := by
  obtain ⟨x, u, v, e1, e2, h⟩ := q
  refine ⟨v, ?_, h⟩
  have n1 := hn_f (z := 6 * (t : Int) + 1) (n := 6 * t + 1) (by omega) (by omega)
  have z1 := hz_f (L := sc.1) (z := 6 * (t : Int) + 1) (n := 6 * t + 1) (by omega) (by omega) (by omega)
  have n2 := hn_f (z := 6 * (t : Int) + 2) (n := 6 * t + 2) (by omega) (by omega)
  have z2 := hz_f (L := sc.1) (z := 6 * (t : Int) + 2) (n := 6 * t + 2) (by omega) (by omega) (by omega)
  have n3 := hn_f (z := 6 * (t : Int) + 3) (n := 6 * t + 3) (by omega) (by omega)
  have z3 := hz_f (L := sc.1) (z := 6 * (t : Int) + 3) (n := 6 * t + 3) (by omega) (by omega) (by omega)
  rw [wq_289_1494]
  simp only [qB_s, qC_t, qC_f, qI_T, qI_F, qI_t, qI_f, r_I, r_L, r_R, r_V, ii_add, ii_sub, ii_mul, ii_neg, bz_0, bz_1, Bool.true_and, Bool.false_and, Bool.and_true, z00, z11, li_0, li_1, li_2, li_3, li_4, li_5, is_0, is_47, n1, z1, n2, z2, n3, z3,  e1, e2, eq_self]

theorem lw_273 {t : Nat} (ht : 6 * t + 6 ≤ sc.1) (hL : sc.1 ≤ 3072) (q : LQ sc w 273 278 [am_I (sc.2 (6 * t + 1)), am_I (sc.2 (6 * t + 2)), am_I (sc.2 (6 * t + 3))] c s) : ∃ v, am_W sc 289 (lst 1537 (6 * t) w) = am_W sc 289 (lst 1649 (6 * t) v) ∧ LI v c s := by
  obtain ⟨x, u, v, e1, e2, h⟩ := q
  refine ⟨v, ?_, h⟩
  have n1 := hn_f (z := 6 * (t : Int) + 1) (n := 6 * t + 1) (by omega) (by omega)
  have z1 := hz_f (L := sc.1) (z := 6 * (t : Int) + 1) (n := 6 * t + 1) (by omega) (by omega) (by omega)
  have n2 := hn_f (z := 6 * (t : Int) + 2) (n := 6 * t + 2) (by omega) (by omega)
  have z2 := hz_f (L := sc.1) (z := 6 * (t : Int) + 2) (n := 6 * t + 2) (by omega) (by omega) (by omega)
  have n3 := hn_f (z := 6 * (t : Int) + 3) (n := 6 * t + 3) (by omega) (by omega)
  have z3 := hz_f (L := sc.1) (z := 6 * (t : Int) + 3) (n := 6 * t + 3) (by omega) (by omega) (by omega)
  rw [wq_289_1537]
  simp only [qB_s, qC_t, qC_f, qI_T, qI_F, qI_t, qI_f, r_I, r_L, r_R, r_V, ii_add, ii_sub, ii_mul, ii_neg, bz_0, bz_1, Bool.true_and, Bool.false_and, Bool.and_true, z00, z11, li_0, li_1, li_2, li_3, li_4, li_5, is_0, is_47, n1, z1, n2, z2, n3, z3,  e1, e2, eq_self]

theorem lw_16 {t : Nat} (ht : 6 * t + 6 ≤ sc.1) (hL : sc.1 ≤ 3072) (q : LQ sc w 16 18 [am_I (sc.2 (6 * t + 1)), am_I (sc.2 (6 * t + 2)), am_I (sc.2 (6 * t + 3)), am_I (sc.2 (6 * t + 4))] c s) : ∃ v, am_W sc 289 (lst 200 (6 * t) w) = am_W sc 289 (lst 1649 (6 * t) v) ∧ LI v c s := by
  obtain ⟨x, u, v, e1, e2, h⟩ := q
  refine ⟨v, ?_, h⟩
  have n1 := hn_f (z := 6 * (t : Int) + 1) (n := 6 * t + 1) (by omega) (by omega)
  have z1 := hz_f (L := sc.1) (z := 6 * (t : Int) + 1) (n := 6 * t + 1) (by omega) (by omega) (by omega)
  have n2 := hn_f (z := 6 * (t : Int) + 2) (n := 6 * t + 2) (by omega) (by omega)
  have z2 := hz_f (L := sc.1) (z := 6 * (t : Int) + 2) (n := 6 * t + 2) (by omega) (by omega) (by omega)
  have n3 := hn_f (z := 6 * (t : Int) + 3) (n := 6 * t + 3) (by omega) (by omega)
  have z3 := hz_f (L := sc.1) (z := 6 * (t : Int) + 3) (n := 6 * t + 3) (by omega) (by omega) (by omega)
  have n4 := hn_f (z := 6 * (t : Int) + 4) (n := 6 * t + 4) (by omega) (by omega)
  have z4 := hz_f (L := sc.1) (z := 6 * (t : Int) + 4) (n := 6 * t + 4) (by omega) (by omega) (by omega)
  rw [wq_289_200]
  simp only [qB_s, qC_t, qC_f, qI_T, qI_F, qI_t, qI_f, r_I, r_L, r_R, r_V, ii_add, ii_sub, ii_mul, ii_neg, bz_0, bz_1, Bool.true_and, Bool.false_and, Bool.and_true, z00, z11, li_0, li_1, li_2, li_3, li_4, li_5, is_0, is_47, n1, z1, n2, z2, n3, z3, n4, z4,  e1, e2, eq_self]

theorem lw_23 {t : Nat} (ht : 6 * t + 6 ≤ sc.1) (hL : sc.1 ≤ 3072) (q : LQ sc w 23 25 [am_I (sc.2 (6 * t + 1)), am_I (sc.2 (6 * t + 2)), am_I (sc.2 (6 * t + 3))] c s) : ∃ v, am_W sc 289 (lst 253 (6 * t) w) = am_W sc 289 (lst 1649 (6 * t) v) ∧ LI v c s := by
  obtain ⟨x, u, v, e1, e2, h⟩ := q
  refine ⟨v, ?_, h⟩
  have n1 := hn_f (z := 6 * (t : Int) + 1) (n := 6 * t + 1) (by omega) (by omega)
  have z1 := hz_f (L := sc.1) (z := 6 * (t : Int) + 1) (n := 6 * t + 1) (by omega) (by omega) (by omega)
  have n2 := hn_f (z := 6 * (t : Int) + 2) (n := 6 * t + 2) (by omega) (by omega)
  have z2 := hz_f (L := sc.1) (z := 6 * (t : Int) + 2) (n := 6 * t + 2) (by omega) (by omega) (by omega)
  have n3 := hn_f (z := 6 * (t : Int) + 3) (n := 6 * t + 3) (by omega) (by omega)
  have z3 := hz_f (L := sc.1) (z := 6 * (t : Int) + 3) (n := 6 * t + 3) (by omega) (by omega) (by omega)
  rw [wq_289_253]
  simp only [qB_s, qC_t, qC_f, qI_T, qI_F, qI_t, qI_f, r_I, r_L, r_R, r_V, ii_add, ii_sub, ii_mul, ii_neg, bz_0, bz_1, Bool.true_and, Bool.false_and, Bool.and_true, z00, z11, li_0, li_1, li_2, li_3, li_4, li_5, is_0, is_47, n1, z1, n2, z2, n3, z3,  e1, e2, eq_self]

theorem lw_33 {t : Nat} (ht : 6 * t + 6 ≤ sc.1) (hL : sc.1 ≤ 3072) (q : LQ sc w 33 35 [am_I (sc.2 (6 * t + 1)), am_I (sc.2 (6 * t + 2)), am_I (sc.2 (6 * t + 3)), am_I (sc.2 (6 * t + 4)), am_I (sc.2 (6 * t + 5))] c s) : ∃ v, am_W sc 289 (lst 329 (6 * t) w) = am_W sc 289 (lst 1649 (6 * t) v) ∧ LI v c s := by
  obtain ⟨x, u, v, e1, e2, h⟩ := q
  refine ⟨v, ?_, h⟩
  have n1 := hn_f (z := 6 * (t : Int) + 1) (n := 6 * t + 1) (by omega) (by omega)
  have z1 := hz_f (L := sc.1) (z := 6 * (t : Int) + 1) (n := 6 * t + 1) (by omega) (by omega) (by omega)
  have n2 := hn_f (z := 6 * (t : Int) + 2) (n := 6 * t + 2) (by omega) (by omega)
  have z2 := hz_f (L := sc.1) (z := 6 * (t : Int) + 2) (n := 6 * t + 2) (by omega) (by omega) (by omega)
  have n3 := hn_f (z := 6 * (t : Int) + 3) (n := 6 * t + 3) (by omega) (by omega)
  have z3 := hz_f (L := sc.1) (z := 6 * (t : Int) + 3) (n := 6 * t + 3) (by omega) (by omega) (by omega)
  have n4 := hn_f (z := 6 * (t : Int) + 4) (n := 6 * t + 4) (by omega) (by omega)
  have z4 := hz_f (L := sc.1) (z := 6 * (t : Int) + 4) (n := 6 * t + 4) (by omega) (by omega) (by omega)
  have n5 := hn_f (z := 6 * (t : Int) + 5) (n := 6 * t + 5) (by omega) (by omega)
  have z5 := hz_f (L := sc.1) (z := 6 * (t : Int) + 5) (n := 6 * t + 5) (by omega) (by omega) (by omega)
  rw [wq_289_329]
  simp only [qB_s, qC_t, qC_f, qI_T, qI_F, qI_t, qI_f, r_I, r_L, r_R, r_V, ii_add, ii_sub, ii_mul, ii_neg, bz_0, bz_1, Bool.true_and, Bool.false_and, Bool.and_true, z00, z11, li_0, li_1, li_2, li_3, li_4, li_5, is_0, is_47, n1, z1, n2, z2, n3, z3, n4, z4, n5, z5,  e1, e2, eq_self]

theorem lw_36 {t : Nat} (ht : 6 * t + 6 ≤ sc.1) (hL : sc.1 ≤ 3072) (q : LQ sc w 36 37 [am_I (sc.2 (6 * t + 1))] c s) : ∃ v, am_W sc 289 (lst 392 (6 * t) w) = am_W sc 289 (lst 1649 (6 * t) v) ∧ LI v c s := by
  obtain ⟨x, u, v, e1, e2, h⟩ := q
  refine ⟨v, ?_, h⟩
  have n1 := hn_f (z := 6 * (t : Int) + 1) (n := 6 * t + 1) (by omega) (by omega)
  have z1 := hz_f (L := sc.1) (z := 6 * (t : Int) + 1) (n := 6 * t + 1) (by omega) (by omega) (by omega)
  rw [wq_289_392]
  simp only [qB_s, qC_t, qC_f, qI_T, qI_F, qI_t, qI_f, r_I, r_L, r_R, r_V, ii_add, ii_sub, ii_mul, ii_neg, bz_0, bz_1, Bool.true_and, Bool.false_and, Bool.and_true, z00, z11, li_0, li_1, li_2, li_3, li_4, li_5, is_0, is_47, n1, z1,  e1, e2, eq_self]

theorem lw_74 {t : Nat} (ht : 6 * t + 6 ≤ sc.1) (hL : sc.1 ≤ 3072) (q : LQ sc w 74 96 [] c s) : ∃ v, am_W sc 289 (lst 415 (6 * t) w) = am_W sc 289 (lst 1649 (6 * t) v) ∧ LI v c s := by
  obtain ⟨x, u, v, e1, e2, h⟩ := q
  refine ⟨v, ?_, h⟩
  rw [wq_289_415]
  simp only [qB_s, qC_t, qC_f, qI_T, qI_F, qI_t, qI_f, r_I, r_L, r_R, r_V, ii_add, ii_sub, ii_mul, ii_neg, bz_0, bz_1, Bool.true_and, Bool.false_and, Bool.and_true, z00, z11, li_0, li_1, li_2, li_3, li_4, li_5, is_0, is_47,  e1, e2, eq_self]

theorem lw_98 {t : Nat} (ht : 6 * t + 6 ≤ sc.1) (hL : sc.1 ≤ 3072) (q : LQ sc w 98 99 [] c s) : ∃ v, am_W sc 289 (lst 428 (6 * t) w) = am_W sc 289 (lst 1649 (6 * t) v) ∧ LI v c s := by
  obtain ⟨x, u, v, e1, e2, h⟩ := q
  refine ⟨v, ?_, h⟩
  rw [wq_289_428]
  simp only [qB_s, qC_t, qC_f, qI_T, qI_F, qI_t, qI_f, r_I, r_L, r_R, r_V, ii_add, ii_sub, ii_mul, ii_neg, bz_0, bz_1, Bool.true_and, Bool.false_and, Bool.and_true, z00, z11, li_0, li_1, li_2, li_3, li_4, li_5, is_0, is_47,  e1, e2, eq_self]

theorem lw_281 {t : Nat} (ht : 6 * t + 6 ≤ sc.1) (hL : sc.1 ≤ 3072) (q : LQ sc w 281 282 [am_I (sc.2 (6 * t + 1))] c s) : ∃ v, am_W sc 289 (lst 1580 (6 * t) w) = am_W sc 289 (lst 1649 (6 * t) v) ∧ LI v c s := by
  obtain ⟨x, u, v, e1, e2, h⟩ := q
  refine ⟨v, ?_, h⟩
  have n1 := hn_f (z := 6 * (t : Int) + 1) (n := 6 * t + 1) (by omega) (by omega)
  have z1 := hz_f (L := sc.1) (z := 6 * (t : Int) + 1) (n := 6 * t + 1) (by omega) (by omega) (by omega)
  rw [wq_289_1580]
  simp only [qB_s, qC_t, qC_f, qI_T, qI_F, qI_t, qI_f, r_I, r_L, r_R, r_V, ii_add, ii_sub, ii_mul, ii_neg, bz_0, bz_1, Bool.true_and, Bool.false_and, Bool.and_true, z00, z11, li_0, li_1, li_2, li_3, li_4, li_5, is_0, is_47, n1, z1,  e1, e2, eq_self]

theorem lw_283 {t : Nat} (ht : 6 * t + 6 ≤ sc.1) (hL : sc.1 ≤ 3072) (q : LQ sc w 283 284 [am_I (sc.2 (6 * t + 1))] c s) : ∃ v, am_W sc 289 (lst 1603 (6 * t) w) = am_W sc 289 (lst 1649 (6 * t) v) ∧ LI v c s := by
  obtain ⟨x, u, v, e1, e2, h⟩ := q
  refine ⟨v, ?_, h⟩
  have n1 := hn_f (z := 6 * (t : Int) + 1) (n := 6 * t + 1) (by omega) (by omega)
  have z1 := hz_f (L := sc.1) (z := 6 * (t : Int) + 1) (n := 6 * t + 1) (by omega) (by omega) (by omega)
  rw [wq_289_1603]
  simp only [qB_s, qC_t, qC_f, qI_T, qI_F, qI_t, qI_f, r_I, r_L, r_R, r_V, ii_add, ii_sub, ii_mul, ii_neg, bz_0, bz_1, Bool.true_and, Bool.false_and, Bool.and_true, z00, z11, li_0, li_1, li_2, li_3, li_4, li_5, is_0, is_47, n1, z1,  e1, e2, eq_self]

theorem lw_285 {t : Nat} (ht : 6 * t + 6 ≤ sc.1) (hL : sc.1 ≤ 3072) (q : LQ sc w 285 286 [am_I (sc.2 (6 * t + 1))] c s) : ∃ v, am_W sc 289 (lst 1626 (6 * t) w) = am_W sc 289 (lst 1649 (6 * t) v) ∧ LI v c s := by
  obtain ⟨x, u, v, e1, e2, h⟩ := q
  refine ⟨v, ?_, h⟩
  have n1 := hn_f (z := 6 * (t : Int) + 1) (n := 6 * t + 1) (by omega) (by omega)
  have z1 := hz_f (L := sc.1) (z := 6 * (t : Int) + 1) (n := 6 * t + 1) (by omega) (by omega) (by omega)
  rw [wq_289_1626]
  simp only [qB_s, qC_t, qC_f, qI_T, qI_F, qI_t, qI_f, r_I, r_L, r_R, r_V, ii_add, ii_sub, ii_mul, ii_neg, bz_0, bz_1, Bool.true_and, Bool.false_and, Bool.and_true, z00, z11, li_0, li_1, li_2, li_3, li_4, li_5, is_0, is_47, n1, z1,  e1, e2, eq_self]

theorem lw_772 {t : Nat} (ht : 6 * t + 6 ≤ sc.1) (hL : sc.1 ≤ 3072) (h : LI w c s) : ∃ v, am_W sc 289 (lst 772 (6 * t) w) = am_W sc 289 (lst 1649 (6 * t) v) ∧ LI v c s := by
  have n1 := hn_f (z := 6 * (t : Int) + 1) (n := 6 * t + 1) (by omega) (by omega)
  have z1 := hz_f (L := sc.1) (z := 6 * (t : Int) + 1) (n := 6 * t + 1) (by omega) (by omega) (by omega)
  have n2 := hn_f (z := 6 * (t : Int) + 2) (n := 6 * t + 2) (by omega) (by omega)
  have z2 := hz_f (L := sc.1) (z := 6 * (t : Int) + 2) (n := 6 * t + 2) (by omega) (by omega) (by omega)
  have n3 := hn_f (z := 6 * (t : Int) + 3) (n := 6 * t + 3) (by omega) (by omega)
  have z3 := hz_f (L := sc.1) (z := 6 * (t : Int) + 3) (n := 6 * t + 3) (by omega) (by omega) (by omega)
  by_cases p2 : sc.2 (6 * t + 2) = ii 0
  · by_cases p3 : sc.2 (6 * t + 3) = ii 0
    · obtain ⟨x, u, v, e1, e2, h⟩ := lq_181 (sc := sc) h (sc.2 (6 * t + 1)) (b1 := 0) (b2 := 0) (.inl rfl) (.inl rfl)
      refine ⟨v, ?_, h⟩
      have p2' := eq_true p2
      have p3' := eq_true p3
      rw [wq_289_772]
      simp only [qB_s, qC_t, qC_f, qI_T, qI_F, qI_t, qI_f, r_I, r_L, r_R, r_V, ii_add, ii_sub, ii_mul, ii_neg, bz_0, bz_1, Bool.true_and, Bool.false_and, Bool.and_true, z00, z11, li_0, li_1, li_2, li_3, is_0, is_47, n1, z1, n2, z2, n3, z3, p2', p3', e1, e2, eq_self]
    · obtain ⟨x, u, v, e1, e2, h⟩ := lq_181 (sc := sc) h (sc.2 (6 * t + 1)) (b1 := 0) (b2 := 1) (.inl rfl) (.inr rfl)
      refine ⟨v, ?_, h⟩
      have p2' := eq_true p2
      have p3' := eq_false p3
      rw [wq_289_772]
      simp only [qB_s, qC_t, qC_f, qI_T, qI_F, qI_t, qI_f, r_I, r_L, r_R, r_V, ii_add, ii_sub, ii_mul, ii_neg, bz_0, bz_1, Bool.true_and, Bool.false_and, Bool.and_true, z00, z11, li_0, li_1, li_2, li_3, is_0, is_47, n1, z1, n2, z2, n3, z3, p2', p3', e1, e2, eq_self]
  · by_cases p3 : sc.2 (6 * t + 3) = ii 0
    · obtain ⟨x, u, v, e1, e2, h⟩ := lq_181 (sc := sc) h (sc.2 (6 * t + 1)) (b1 := 1) (b2 := 0) (.inr rfl) (.inl rfl)
      refine ⟨v, ?_, h⟩
      have p2' := eq_false p2
      have p3' := eq_true p3
      rw [wq_289_772]
      simp only [qB_s, qC_t, qC_f, qI_T, qI_F, qI_t, qI_f, r_I, r_L, r_R, r_V, ii_add, ii_sub, ii_mul, ii_neg, bz_0, bz_1, Bool.true_and, Bool.false_and, Bool.and_true, z00, z11, li_0, li_1, li_2, li_3, is_0, is_47, n1, z1, n2, z2, n3, z3, p2', p3', e1, e2, eq_self]
    · obtain ⟨x, u, v, e1, e2, h⟩ := lq_181 (sc := sc) h (sc.2 (6 * t + 1)) (b1 := 1) (b2 := 1) (.inr rfl) (.inr rfl)
      refine ⟨v, ?_, h⟩
      have p2' := eq_false p2
      have p3' := eq_false p3
      rw [wq_289_772]
      simp only [qB_s, qC_t, qC_f, qI_T, qI_F, qI_t, qI_f, r_I, r_L, r_R, r_V, ii_add, ii_sub, ii_mul, ii_neg, bz_0, bz_1, Bool.true_and, Bool.false_and, Bool.and_true, z00, z11, li_0, li_1, li_2, li_3, is_0, is_47, n1, z1, n2, z2, n3, z3, p2', p3', e1, e2, eq_self]
theorem w1649 (t : Nat) (w : wo) : am_W sc 289 (lst 1649 (6 * t) w) = am_W sc 289 (lst 18 (6 * (t + 1 : Nat)) w) := by
  rw [wq_289_1649, li_6, ii_add, show 6 * (t : Int) + 6 = 6 * ((t + 1 : Nat) : Int) by omega]
theorem lw_step {t : Nat} (ht : 6 * t + 6 ≤ sc.1) (hL : sc.1 ≤ 3072) (h : LI w c s) : ∃ v, am_W sc 289 (lst 18 (6 * t) w) = am_W sc 289 (lst 18 (6 * (t + 1 : Nat)) v) ∧ LI v (c + 20) (s + 3000) := by
  have c0 : ¬ (Int32.ofNat sc.1 - 6 < ii (6 * (t : Int))) := by
    rw [li_nat, li_6, ii_sub, ii_lt (by omega) (by omega) (by omega) (by omega)]
    omega
  have c1 : ¬ (ii (6 * (t : Int)) < 0 ∨ sc.1 ≤ (ii (6 * (t : Int))).toNatClampNeg) := by
    rw [hn_f (z := 6 * (t : Int)) (n := 6 * t) (by omega) (by omega), li_0, hz_f (by omega) (by omega) (by omega)]
    exact id
  rw [wq_289_18, qI_f c0, qI_f c1]
  generalize sc.2 (ii (6 * (t : Int))).toNatClampNeg &&& 63 = y
  by_cases q0 : y = 0
  · rw [qI_t q0]
    obtain ⟨v, e, hv⟩ := lw_16 (sc := sc) ht hL (lq_16 h _ _ _ _)
    exact ⟨v, e.trans (w1649 t v), LI_m hv (by omega) (by omega)⟩
  rw [qI_f q0]
  by_cases q1 : y = 1
  · rw [qI_t q1]
    obtain ⟨v, e, hv⟩ := lw_23 (sc := sc) ht hL (lq_23 h _ _ _)
    exact ⟨v, e.trans (w1649 t v), LI_m hv (by omega) (by omega)⟩
  rw [qI_f q1]
  by_cases q2 : y = 2
  · rw [qI_t q2]
    obtain ⟨v, e, hv⟩ := lw_30 (sc := sc) ht hL (lq_30 h _ _)
    exact ⟨v, e.trans (w1649 t v), LI_m hv (by omega) (by omega)⟩
  rw [qI_f q2]
  by_cases q3 : y = 3
  · rw [qI_t q3]
    obtain ⟨v, e, hv⟩ := lw_33 (sc := sc) ht hL (lq_33 h _ _ _ _ _)
    exact ⟨v, e.trans (w1649 t v), LI_m hv (by omega) (by omega)⟩
  rw [qI_f q3]
  by_cases q4 : y = 4
  · rw [qI_t q4]
    obtain ⟨v, e, hv⟩ := lw_36 (sc := sc) ht hL (lq_36 h _)
    exact ⟨v, e.trans (w1649 t v), LI_m hv (by omega) (by omega)⟩
  rw [qI_f q4]
  by_cases q5 : y = 5
  · rw [qI_t q5]
    obtain ⟨v, e, hv⟩ := lw_74 (sc := sc) ht hL (lq_74 h)
    exact ⟨v, e.trans (w1649 t v), LI_m hv (by omega) (by omega)⟩
  rw [qI_f q5]
  by_cases q6 : y = 6
  · rw [qI_t q6]
    obtain ⟨v, e, hv⟩ := lw_98 (sc := sc) ht hL (lq_98 h)
    exact ⟨v, e.trans (w1649 t v), LI_m hv (by omega) (by omega)⟩
  rw [qI_f q6]
  by_cases q7 : y = 7
  · rw [qI_t q7]
    obtain ⟨v, e, hv⟩ := lw_105 (sc := sc) ht hL (lq_105 h _ _)
    exact ⟨v, e.trans (w1649 t v), LI_m hv (by omega) (by omega)⟩
  rw [qI_f q7]
  by_cases q8 : y = 8
  · rw [qI_t q8]
    obtain ⟨v, e, hv⟩ := lw_119 (sc := sc) ht hL (lq_119 h _ _)
    exact ⟨v, e.trans (w1649 t v), LI_m hv (by omega) (by omega)⟩
  rw [qI_f q8]
  by_cases q9 : y = 9
  · rw [qI_t q9]
    obtain ⟨v, e, hv⟩ := lw_128 (sc := sc) ht hL (lq_128 h _ _ _)
    exact ⟨v, e.trans (w1649 t v), LI_m hv (by omega) (by omega)⟩
  rw [qI_f q9]
  by_cases q10 : y = 10
  · rw [qI_t q10]
    obtain ⟨v, e, hv⟩ := lw_134 (sc := sc) ht hL (lq_134 h _ _)
    exact ⟨v, e.trans (w1649 t v), LI_m hv (by omega) (by omega)⟩
  rw [qI_f q10]
  by_cases q11 : y = 11
  · rw [qI_t q11]
    obtain ⟨v, e, hv⟩ := lw_139 (sc := sc) ht hL (lq_139 h _ _)
    exact ⟨v, e.trans (w1649 t v), LI_m hv (by omega) (by omega)⟩
  rw [qI_f q11]
  by_cases q12 : y = 12
  · rw [qI_t q12]
    obtain ⟨v, e, hv⟩ := lw_150 (sc := sc) ht hL (lq_150 h _ _ _)
    exact ⟨v, e.trans (w1649 t v), LI_m hv (by omega) (by omega)⟩
  rw [qI_f q12]
  by_cases q13 : y = 13
  · rw [qI_t q13]
    obtain ⟨v, e, hv⟩ := lw_287 (sc := sc) ht hL (lq_287 h _)
    exact ⟨v, e.trans (w1649 t v), LI_m hv (by omega) (by omega)⟩
  rw [qI_f q13]
  by_cases q14 : y = 14
  · rw [qI_t q14]
    obtain ⟨v, e, hv⟩ := lw_170 (sc := sc) ht hL (lq_170 h _ _)
    exact ⟨v, e.trans (w1649 t v), LI_m hv (by omega) (by omega)⟩
  rw [qI_f q14]
  by_cases q15 : y = 15
  · rw [qI_t q15]
    obtain ⟨v, e, hv⟩ := lw_175 (sc := sc) ht hL (lq_175 h _)
    exact ⟨v, e.trans (w1649 t v), LI_m hv (by omega) (by omega)⟩
  rw [qI_f q15]
  by_cases q16 : y = 16
  · rw [qI_t q16]
    obtain ⟨v, e, hv⟩ := lw_178 (sc := sc) ht hL (lq_178 h _ _)
    exact ⟨v, e.trans (w1649 t v), LI_m hv (by omega) (by omega)⟩
  rw [qI_f q16]
  by_cases q17 : y = 17
  · rw [qI_t q17]
    obtain ⟨v, e, hv⟩ := lw_772 (sc := sc) ht hL h
    exact ⟨v, e.trans (w1649 t v), LI_m hv (by omega) (by omega)⟩
  rw [qI_f q17]
  by_cases q18 : y = 18
  · rw [qI_t q18]
    obtain ⟨v, e, hv⟩ := lw_187 (sc := sc) ht hL (lq_187 h _ _)
    exact ⟨v, e.trans (w1649 t v), LI_m hv (by omega) (by omega)⟩
  rw [qI_f q18]
  by_cases q19 : y = 19
  · rw [qI_t q19]
    obtain ⟨v, e, hv⟩ := lw_192 (sc := sc) ht hL (lq_192 h _ _)
    exact ⟨v, e.trans (w1649 t v), LI_m hv (by omega) (by omega)⟩
  rw [qI_f q19]
  by_cases q20 : y = 20
  · rw [qI_t q20]
    obtain ⟨v, e, hv⟩ := lw_194 (sc := sc) ht hL (lq_194 h _ _ _)
    exact ⟨v, e.trans (w1649 t v), LI_m hv (by omega) (by omega)⟩
  rw [qI_f q20]
  by_cases q21 : y = 21
  · rw [qI_t q21]
    obtain ⟨v, e, hv⟩ := lw_198 (sc := sc) ht hL (lq_198 h _)
    exact ⟨v, e.trans (w1649 t v), LI_m hv (by omega) (by omega)⟩
  rw [qI_f q21]
  by_cases q22 : y = 22
  · rw [qI_t q22]
    obtain ⟨v, e, hv⟩ := lw_201 (sc := sc) ht hL (lq_201 h _ _ _ _)
    exact ⟨v, e.trans (w1649 t v), LI_m hv (by omega) (by omega)⟩
  rw [qI_f q22]
  by_cases q23 : y = 23
  · rw [qI_t q23]
    obtain ⟨v, e, hv⟩ := lw_207 (sc := sc) ht hL (lq_207 h _ _ _ _)
    exact ⟨v, e.trans (w1649 t v), LI_m hv (by omega) (by omega)⟩
  rw [qI_f q23]
  by_cases q24 : y = 24
  · rw [qI_t q24]
    obtain ⟨v, e, hv⟩ := lw_209 (sc := sc) ht hL (lq_209 h _ _ _ _)
    exact ⟨v, e.trans (w1649 t v), LI_m hv (by omega) (by omega)⟩
  rw [qI_f q24]
  by_cases q25 : y = 25
  · rw [qI_t q25]
    obtain ⟨v, e, hv⟩ := lw_214 (sc := sc) ht hL (lq_214 h _ _)
    exact ⟨v, e.trans (w1649 t v), LI_m hv (by omega) (by omega)⟩
  rw [qI_f q25]
  by_cases q26 : y = 26
  · rw [qI_t q26]
    obtain ⟨v, e, hv⟩ := lw_218 (sc := sc) ht hL (lq_218 h _ _)
    exact ⟨v, e.trans (w1649 t v), LI_m hv (by omega) (by omega)⟩
  rw [qI_f q26]
  by_cases q27 : y = 27
  · rw [qI_t q27]
    obtain ⟨v, e, hv⟩ := lw_225 (sc := sc) ht hL (lq_225 h _ _ _)
    exact ⟨v, e.trans (w1649 t v), LI_m hv (by omega) (by omega)⟩
  rw [qI_f q27]
  by_cases q28 : y = 28
  · rw [qI_t q28]
    obtain ⟨v, e, hv⟩ := lw_231 (sc := sc) ht hL (lq_231 h _ _ _)
    exact ⟨v, e.trans (w1649 t v), LI_m hv (by omega) (by omega)⟩
  rw [qI_f q28]
  by_cases q29 : y = 29
  · rw [qI_t q29]
    obtain ⟨v, e, hv⟩ := lw_241 (sc := sc) ht hL (lq_241 h _ _ _ _ _)
    exact ⟨v, e.trans (w1649 t v), LI_m hv (by omega) (by omega)⟩
  rw [qI_f q29]
  by_cases q30 : y = 30
  · rw [qI_t q30]
    obtain ⟨v, e, hv⟩ := lw_244 (sc := sc) ht hL (lq_244 h _ _ _ _ _)
    exact ⟨v, e.trans (w1649 t v), LI_m hv (by omega) (by omega)⟩
  rw [qI_f q30]
  by_cases q31 : y = 31
  · rw [qI_t q31]
    obtain ⟨v, e, hv⟩ := lw_255 (sc := sc) ht hL (lq_255 h _ _)
    exact ⟨v, e.trans (w1649 t v), LI_m hv (by omega) (by omega)⟩
  rw [qI_f q31]
  by_cases q32 : y = 32
  · rw [qI_t q32]
    obtain ⟨v, e, hv⟩ := lw_261 (sc := sc) ht hL (lq_261 h _ _ _)
    exact ⟨v, e.trans (w1649 t v), LI_m hv (by omega) (by omega)⟩
  rw [qI_f q32]
  by_cases q33 : y = 33
  · rw [qI_t q33]
    obtain ⟨v, e, hv⟩ := lw_263 (sc := sc) ht hL (lq_263 h _ _ _)
    exact ⟨v, e.trans (w1649 t v), LI_m hv (by omega) (by omega)⟩
  rw [qI_f q33]
  by_cases q34 : y = 34
  · rw [qI_t q34]
    obtain ⟨v, e, hv⟩ := lw_273 (sc := sc) ht hL (lq_273 h _ _ _)
    exact ⟨v, e.trans (w1649 t v), LI_m hv (by omega) (by omega)⟩
  rw [qI_f q34]
  by_cases q35 : y = 35
  · rw [qI_t q35]
    obtain ⟨v, e, hv⟩ := lw_281 (sc := sc) ht hL (lq_281 h _)
    exact ⟨v, e.trans (w1649 t v), LI_m hv (by omega) (by omega)⟩
  rw [qI_f q35]
  by_cases q36 : y = 36
  · rw [qI_t q36]
    obtain ⟨v, e, hv⟩ := lw_283 (sc := sc) ht hL (lq_283 h _)
    exact ⟨v, e.trans (w1649 t v), LI_m hv (by omega) (by omega)⟩
  rw [qI_f q36]
  by_cases q37 : y = 37
  · rw [qI_t q37]
    obtain ⟨v, e, hv⟩ := lw_285 (sc := sc) ht hL (lq_285 h _)
    exact ⟨v, e.trans (w1649 t v), LI_m hv (by omega) (by omega)⟩
  rw [qI_f q37]
  exact ⟨w, w1649 t w, LI_m h (by omega) (by omega)⟩
theorem lw_all (hL : sc.1 ≤ 3072) : ∀ (d t : Nat) (w : wo) (c s : Nat), LI w c s → t + d = sc.1 / 6 → ∃ u, am_W sc 289 (lst 18 (6 * t) w) = some (some (am_I 1), wst u) ∧ LI u (c + 20 * d) (s + 3000 * d)
  | 0, t, w, c, s, h, e => by
    refine ⟨w, ?_, h⟩
    have c0 : Int32.ofNat sc.1 - 6 < ii (6 * (t : Int)) := by
      rw [li_nat, li_6, ii_sub, ii_lt (by omega) (by omega) (by omega) (by omega)]
      omega
    rw [wq_289_18, qI_t c0]
  | d + 1, t, w, c, s, h, e => by
    obtain ⟨v, e1, hv⟩ := lw_step (sc := sc) (t := t) (by omega) hL h
    obtain ⟨u, e2, hu⟩ := lw_all hL d (t + 1) v (c + 20) (s + 3000) hv (by omega)
    exact ⟨u, e1.trans e2, LI_m hu (by omega) (by omega)⟩

end L70
