/-! THE CALLS THAT COUNT THOSE TAKEN -/
/-- all that the class' calls may leave otherwise, and the other's -/
def scC : List Nat := [2203, 2204, 2208, 2399, 2499, 2599, 2699, 2799, 2800, 2801, 2909, 2910, 3099, 3199, 3299, 3399, 3499, 3599, 3699, 3799, 3899, 4099, 4199, 4202, 4203, 4204, 4205, 4399, 4499, 4500, 4501, 4502, 4503, 4504, 4699]
def scM : List Nat := [4714, 4715, 4716, 4717, 4718, 4719, 5799, 4721, 5899, 4723, 4724, 4725, 4726, 5999, 6099, 6199, 4730, 4731, 4733, 6399, 6499, 6599, 6699, 4739, 4740, 6799, 4742, 4743, 4744, 6899, 6999, 7099, 7199, 7299, 7399, 4751, 4752, 4753, 7499]
section L21
variable {sc : am_X} {w : wo} {A : ab} {ow : Nat → Nat}
theorem RC_c {v : wo} (h : RC ow w A) (f : fr scC w v) : RC ow v A := RC_fr h f rfl rfl
theorem RC_m {v : wo} (h : RC ow w A) (f : fr scM w v) : RC ow v A := RC_fr h f rfl rfl
theorem RM_c {v : wo} (h : RM w A) (f : fr scC w v) : RM v A := RM_fr h f rfl
theorem RM_m {v : wo} (h : RM w A) (f : fr scM w v) : RM v A := RM_fr h f rfl
theorem s126 {x : Int} (hx1 : -2147483648 ≤ x) (hx2 : x ≤ 2147483647) : am_F sc 126 [am_I (ii x)] (wst w) = some (some (am_I (ii (bz (x = 0 ∨ x = 1)))), wst w) := by
  rw [fq_126]
  by_cases q : x = 0 ∨ x = 1
  · rw [bz_t q]
    rcases q with q | q
    · simp (disch := omega) only [qB_s, qC_t, qC_f, qI_T, qI_F, qI_t, qI_f, r_I, r_L, r_R, r_V, ii_add, ii_sub, ii_mul, ii_neg, bz_0, bz_1, Bool.true_and, Bool.false_and, Bool.and_true, z00, z11, li_0, li_1, ii_lt, ii_eq]
    · simp (disch := omega) only [qB_s, qC_t, qC_f, qI_T, qI_F, qI_t, qI_f, r_I, r_L, r_R, r_V, ii_add, ii_sub, ii_mul, ii_neg, bz_0, bz_1, Bool.true_and, Bool.false_and, Bool.and_true, z00, z11, li_0, li_1, ii_lt, ii_eq]
  · rw [bz_f q]
    simp (disch := omega) only [qB_s, qC_t, qC_f, qI_T, qI_F, qI_t, qI_f, r_I, r_L, r_R, r_V, ii_add, ii_sub, ii_mul, ii_neg, bz_0, bz_1, Bool.true_and, Bool.false_and, Bool.and_true, z00, z11, li_0, li_1, ii_lt, ii_eq]
theorem s183 {x : Int} (hx1 : -2147483648 ≤ x) (hx2 : x ≤ 2147483647) : am_F sc 183 [am_I (ii x)] (wst w) = some (some (am_I (ii (bz (x = -1 ∨ (0 ≤ x ∧ x < 8))))), wst w) := by
  rw [fq_183]
  by_cases q : x = -1 ∨ (0 ≤ x ∧ x < 8)
  · rw [bz_t q]
    rcases q with q | q
    · simp (disch := omega) only [qB_s, qC_t, qC_f, qI_T, qI_F, qI_t, qI_f, r_I, r_L, r_R, r_V, ii_add, ii_sub, ii_mul, ii_neg, bz_0, bz_1, Bool.true_and, Bool.false_and, Bool.and_true, z00, z11, li_0, li_1, ii_lt, ii_eq]
    · simp (disch := omega) only [qB_s, qC_t, qC_f, qI_T, qI_F, qI_t, qI_f, r_I, r_L, r_R, r_V, ii_add, ii_sub, ii_mul, ii_neg, bz_0, bz_1, Bool.true_and, Bool.false_and, Bool.and_true, z00, z11, li_0, li_1, ii_lt, ii_eq, s12]
  · rw [bz_f q]
    simp (disch := omega) only [qB_s, qC_t, qC_f, qI_T, qI_F, qI_t, qI_f, r_I, r_L, r_R, r_V, ii_add, ii_sub, ii_mul, ii_neg, bz_0, bz_1, Bool.true_and, Bool.false_and, Bool.and_true, z00, z11, li_0, li_1, ii_lt, ii_eq, s12]
theorem s200 {x y : Int} (hx1 : -2147483648 ≤ x) (hx2 : x ≤ 2147483647) (hy1 : -2147483648 ≤ y) (hy2 : y ≤ 2147483647) : am_F sc 200 [am_I (ii x), am_I (ii y)] (wst w) = some (some (am_I (ii (bz (0 ≤ x ∧ x ≤ 999 ∧ 0 ≤ y ∧ y ≤ 999)))), wst w) := by
  rw [fq_200]
  by_cases q : 0 ≤ x ∧ x ≤ 999 ∧ 0 ≤ y ∧ y ≤ 999
  · rw [bz_t q]
    simp (disch := omega) only [qB_s, qC_t, qC_f, qI_T, qI_F, qI_t, qI_f, r_I, r_L, r_R, r_V, ii_add, ii_sub, ii_mul, ii_neg, bz_0, bz_1, Bool.true_and, Bool.false_and, Bool.and_true, z00, z11, li_0, li_1, li_999, ii_lt, ii_eq]
  · rw [bz_f q]
    by_cases q1 : x < 0
    · simp (disch := omega) only [qB_s, qC_t, qC_f, qI_T, qI_F, qI_t, qI_f, r_I, r_L, r_R, r_V, ii_add, ii_sub, ii_mul, ii_neg, bz_0, bz_1, Bool.true_and, Bool.false_and, Bool.and_true, z00, z11, li_0, li_1, li_999, ii_lt]
    · by_cases q2 : 999 < x
      · simp (disch := omega) only [qB_s, qC_t, qC_f, qI_T, qI_F, qI_t, qI_f, r_I, r_L, r_R, r_V, ii_add, ii_sub, ii_mul, ii_neg, bz_0, bz_1, Bool.true_and, Bool.false_and, Bool.and_true, z00, z11, li_0, li_1, li_999, ii_lt]
      · by_cases q3 : y < 0
        · simp (disch := omega) only [qB_s, qC_t, qC_f, qI_T, qI_F, qI_t, qI_f, r_I, r_L, r_R, r_V, ii_add, ii_sub, ii_mul, ii_neg, bz_0, bz_1, Bool.true_and, Bool.false_and, Bool.and_true, z00, z11, li_0, li_1, li_999, ii_lt]
        · simp (disch := omega) only [qB_s, qC_t, qC_f, qI_T, qI_F, qI_t, qI_f, r_I, r_L, r_R, r_V, ii_add, ii_sub, ii_mul, ii_neg, bz_0, bz_1, Bool.true_and, Bool.false_and, Bool.and_true, z00, z11, li_0, li_1, li_999, ii_lt]
theorem s202 {x y : Int} (hx1 : -2147483648 ≤ x) (hx2 : x ≤ 2147483647) (hy1 : -2147483648 ≤ y) (hy2 : y ≤ 2147483647) : am_F sc 202 [am_R (some 47), am_I (ii x), am_I (ii y)] (wst w) = some (some (am_I (ii (bz (0 ≤ x ∧ x ≤ 999 ∧ 0 ≤ y ∧ y ≤ 999)))), wst w) := by
  rw [fq_202]
  by_cases q : 0 ≤ x ∧ x ≤ 999 ∧ 0 ≤ y ∧ y ≤ 999
  · rw [bz_t q]
    simp (disch := omega) only [qB_s, qC_t, qC_f, qI_T, qI_F, qI_t, qI_f, r_I, r_L, r_R, r_V, ii_add, ii_sub, ii_mul, ii_neg, bz_0, bz_1, Bool.true_and, Bool.false_and, Bool.and_true, z00, z11, li_0, li_1, lj_0, lj_999, ii_lt, ii_eq, ii_jj, d17]
  · rw [bz_f q]
    by_cases q1 : 0 ≤ x ∧ x ≤ 999
    · simp (disch := omega) only [qB_s, qC_t, qC_f, qI_T, qI_F, qI_t, qI_f, r_I, r_L, r_R, r_V, ii_add, ii_sub, ii_mul, ii_neg, bz_0, bz_1, Bool.true_and, Bool.false_and, Bool.and_true, z00, z11, li_0, li_1, lj_0, lj_999, ii_lt, ii_eq, ii_jj, d17]
    · simp (disch := omega) only [qB_s, qC_t, qC_f, qI_T, qI_F, qI_t, qI_f, r_I, r_L, r_R, r_V, ii_add, ii_sub, ii_mul, ii_neg, bz_0, bz_1, Bool.true_and, Bool.false_and, Bool.and_true, z00, z11, li_0, li_1, lj_0, lj_999, ii_lt, ii_eq, ii_jj, d17]
theorem s220 {x : Int} (hx1 : -2147483648 ≤ x) (hx2 : x ≤ 2147483647) : am_F sc 220 [am_I (ii x)] (wst w) = some (some (am_I (ii (bz (0 ≤ x ∧ x < 4)))), wst w) := by
  rw [fq_220]
  by_cases q : 0 ≤ x ∧ x < 4
  · rw [bz_t q]
    simp (disch := omega) only [qB_s, qC_t, qC_f, qI_T, qI_F, qI_t, qI_f, r_I, r_L, r_R, r_V, ii_add, ii_sub, ii_mul, ii_neg, bz_0, bz_1, Bool.true_and, Bool.false_and, Bool.and_true, z00, z11, li_0, li_1, li_4, ii_lt]
  · rw [bz_f q]
    by_cases q1 : x < 0
    · simp (disch := omega) only [qB_s, qC_t, qC_f, qI_T, qI_F, qI_t, qI_f, r_I, r_L, r_R, r_V, ii_add, ii_sub, ii_mul, ii_neg, bz_0, bz_1, Bool.true_and, Bool.false_and, Bool.and_true, z00, z11, li_0, li_1, li_4, ii_lt]
    · simp (disch := omega) only [qB_s, qC_t, qC_f, qI_T, qI_F, qI_t, qI_f, r_I, r_L, r_R, r_V, ii_add, ii_sub, ii_mul, ii_neg, bz_0, bz_1, Bool.true_and, Bool.false_and, Bool.and_true, z00, z11, li_0, li_1, li_4, ii_lt]
theorem s229 {x : Int} (hx1 : -2147483648 ≤ x) (hx2 : x ≤ 2147483647) : am_F sc 229 [am_I (ii x)] (wst w) = some (some (am_I (ii (bz (0 ≤ x ∧ x ≤ 1000)))), wst w) := by
  rw [fq_229]
  by_cases q : 0 ≤ x ∧ x ≤ 1000
  · rw [bz_t q]
    simp (disch := omega) only [qB_s, qC_t, qC_f, qI_T, qI_F, qI_t, qI_f, r_I, r_L, r_R, r_V, ii_add, ii_sub, ii_mul, ii_neg, bz_0, bz_1, Bool.true_and, Bool.false_and, Bool.and_true, z00, z11, li_0, li_1, li_1000, ii_lt]
  · rw [bz_f q]
    by_cases q1 : x < 0
    · simp (disch := omega) only [qB_s, qC_t, qC_f, qI_T, qI_F, qI_t, qI_f, r_I, r_L, r_R, r_V, ii_add, ii_sub, ii_mul, ii_neg, bz_0, bz_1, Bool.true_and, Bool.false_and, Bool.and_true, z00, z11, li_0, li_1, li_1000, ii_lt]
    · simp (disch := omega) only [qB_s, qC_t, qC_f, qI_T, qI_F, qI_t, qI_f, r_I, r_L, r_R, r_V, ii_add, ii_sub, ii_mul, ii_neg, bz_0, bz_1, Bool.true_and, Bool.false_and, Bool.and_true, z00, z11, li_0, li_1, li_1000, ii_lt]
theorem stg {A : ab} (hA : okA A) (v : Int) : ∀ i, i < vM A v → (0 ≤ aG A (vF A v i) 0 ∧ aG A (vF A v i) 0 ≤ 1) ∧ 0 ≤ aG A (vF A v i) 2 ∧ aG A (vF A v i) 2 ≤ 2 := fun i hi => by
  have h := vF_ok hA v hi
  have := hA.1.2.2.1 (vF A v i) h.1 h.2
  exact ⟨this.1, this.2.2.1⟩
theorem x_119 (hC : RC ow w A) (hA : okA A) {v k : Int} (hv1 : -2147483648 ≤ v) (hv2 : v ≤ 2147483647) (hk1 : -2147483648 ≤ k) (hk2 : k ≤ 2147483647) : ∃ u, am_F sc 119 [am_R (some 0), am_I (ii v), am_I (ii k)] (wst w) = some (some (am_I (ii (if (0 ≤ v ∧ v < A.2.2.1.1) then if k = -1 then (vM A v : Int) else if 0 ≤ k ∧ k < vM A v then vF A v k.toNat else -1 else -1))), wst u) ∧ fr scC w u := by
  have hn8 := hA.2.2.1.2.1
  have hn0 := hA.2.2.1.1
  by_cases q1 : 0 ≤ v ∧ v < A.2.2.1.1
  · skip
    rw [if_pos (by omega)]
    obtain ⟨u, e1, f1, t1, -⟩ := (c117 (sc := sc) hC hA hv1 hv2).1 q1
    have hm := vM_le hA v
    have hs := t1.1
    refine ⟨u, ?_, fr_m f1 rfl⟩
    rw [fq_119]
    by_cases q2 : k = -1
    · rw [if_pos q2]
      simp (disch := omega) only [qB_s, qC_t, qC_f, qI_T, qI_F, qI_t, qI_f, r_I, r_L, r_R, r_V, ii_add, ii_sub, ii_mul, ii_neg, bz_0, bz_1, Bool.true_and, Bool.false_and, Bool.and_true, z00, z11, li_0, li_1, gI_22_3, gR_0_9, is_0, is_22, e1, ii_eq, hs]
    · rw [if_neg q2]
      by_cases q3 : 0 ≤ k ∧ k < vM A v
      · rw [if_pos q3]
        have e2 := c118 (sc := sc) t1 hm (i := k.toNat) (by omega)
        rw [Int.toNat_of_nonneg q3.1] at e2
        simp (disch := omega) only [qB_s, qC_t, qC_f, qI_T, qI_F, qI_t, qI_f, r_I, r_L, r_R, r_V, ii_add, ii_sub, ii_mul, ii_neg, bz_0, bz_1, Bool.true_and, Bool.false_and, Bool.and_true, z00, z11, li_0, li_1, gI_22_3, gR_0_9, is_0, is_22, e1, ii_eq, e2]
      · rw [if_neg q3]
        have e2 := c118n (sc := sc) t1 hm hk1 hk2 q3
        simp (disch := omega) only [qB_s, qC_t, qC_f, qI_T, qI_F, qI_t, qI_f, r_I, r_L, r_R, r_V, ii_add, ii_sub, ii_mul, ii_neg, bz_0, bz_1, Bool.true_and, Bool.false_and, Bool.and_true, z00, z11, li_0, li_1, gI_22_3, gR_0_9, is_0, is_22, e1, ii_eq, e2]
  · rw [if_neg (by omega)]
    have h117 := (c117 (sc := sc) hC hA hv1 hv2).2 q1
    exact ⟨w, by
      rw [fq_119]
      simp (disch := omega) only [qB_s, qC_t, qC_f, qI_T, qI_F, qI_t, qI_f, r_I, r_L, r_R, r_V, ii_add, ii_sub, ii_mul, ii_neg, bz_0, bz_1, Bool.true_and, Bool.false_and, Bool.and_true, z00, z11, li_0, li_1, gI_22_3, gR_0_9, is_0, is_22, ii_lt, ii_eq, ii_jj, jj_neg, h117], fr_r _ _⟩

theorem y_125 (hM : RM w A) (hA : okA A) {v k : Int} (hv1 : -2147483648 ≤ v) (hv2 : v ≤ 2147483647) (hk1 : -2147483648 ≤ k) (hk2 : k ≤ 2147483647) : ∃ u, am_F sc 125 [am_R (some 47), am_I (ii v), am_I (ii k)] (wst w) = some (some (am_I (ii (if (0 ≤ v ∧ v < A.2.2.1.1) then if k = -1 then (vM A v : Int) else if 0 ≤ k ∧ k < vM A v then vF A v k.toNat else -1 else -1))), wst u) ∧ fr scM w u := by
  have hn8 := hA.2.2.1.2.1
  have hn0 := hA.2.2.1.1
  have h120 := d120 (sc := sc) hM hn8 hn0 (v := v) hv1 hv2
  by_cases q1 : 0 ≤ v ∧ v < A.2.2.1.1
  · skip
    rw [if_pos (by omega)]
    obtain ⟨u, e1, f1, t1, -, -⟩ := d124v (sc := sc) hM hA q1
    have hm := vM_le hA v
    have hs := t1.1
    refine ⟨u, ?_, fr_m f1 rfl⟩
    rw [fq_125]
    by_cases q2 : k = -1
    · rw [if_pos q2]
      simp (disch := omega) only [qB_s, qC_t, qC_f, qI_T, qI_F, qI_t, qI_f, r_I, r_L, r_R, r_V, ii_add, ii_sub, ii_mul, ii_neg, bz_0, bz_1, Bool.true_and, Bool.false_and, Bool.and_true, z00, z11, li_0, li_1, lj_0, e_59, gI_47_26, gR_47_27, is_47, h120, e1, ii_eq, hs]
    · rw [if_neg q2]
      by_cases q3 : 0 ≤ k ∧ k < vM A v
      · rw [if_pos q3]
        have e2 := t1.2 k.toNat (by omega)
        rw [Int.toNat_of_nonneg q3.1] at e2
        simp (disch := omega) only [qB_s, qC_t, qC_f, qI_T, qI_F, qI_t, qI_f, r_I, r_L, r_R, r_V, ii_add, ii_sub, ii_mul, ii_neg, bz_0, bz_1, Bool.true_and, Bool.false_and, Bool.and_true, z00, z11, li_0, li_1, lj_0, e_59, gI_47_26, gR_47_27, is_47, h120, e1, ii_eq, ii_jj, hs, d17, e2]
      · rw [if_neg q3]
        simp (disch := omega) only [qB_s, qC_t, qC_f, qI_T, qI_F, qI_t, qI_f, r_I, r_L, r_R, r_V, ii_add, ii_sub, ii_mul, ii_neg, bz_0, bz_1, Bool.true_and, Bool.false_and, Bool.and_true, z00, z11, li_0, li_1, lj_0, e_59, gI_47_26, gR_47_27, is_47, h120, e1, ii_eq, ii_jj, hs, d17]
  · rw [if_neg (by omega)]
    exact ⟨w, by
      rw [fq_125]
      simp (disch := omega) only [qB_s, qC_t, qC_f, qI_T, qI_F, qI_t, qI_f, r_I, r_L, r_R, r_V, ii_add, ii_sub, ii_mul, ii_neg, bz_0, bz_1, Bool.true_and, Bool.false_and, Bool.and_true, z00, z11, li_0, li_1, lj_0, e_59, gI_47_26, gR_47_27, is_47, ii_lt, ii_eq, ii_jj, jj_neg, h120], fr_r _ _⟩

theorem x_128 (hC : RC ow w A) (hA : okA A) {v t o : Int} (hv1 : -2147483648 ≤ v) (hv2 : v ≤ 2147483647) (ht1 : -2147483648 ≤ t) (ht2 : t ≤ 2147483647) (ho1 : -2147483648 ≤ o) (ho2 : o ≤ 2147483647) : ∃ u, am_F sc 128 [am_R (some 0), am_I (ii v), am_I (ii t), am_I (ii o)] (wst w) = some (some (am_I (ii (if (t = 0 ∨ t = 1) ∧ (o = 0 ∨ o = 1) ∧ (0 ≤ v ∧ v < A.2.2.1.1) then if o = 0 then cA (aG A) (vF A v) t (vM A v) else cL (aG A) (vF A v) t (vM A v) else -1))), wst u) ∧ fr scC w u := by
  have hn8 := hA.2.2.1.2.1
  have hn0 := hA.2.2.1.1
  by_cases q1 : t = 0 ∨ t = 1
  · skip
    by_cases q2 : o = 0 ∨ o = 1
    · skip
      by_cases q3 : 0 ≤ v ∧ v < A.2.2.1.1
      · skip
        rw [if_pos (by omega)]
        obtain ⟨u, e1, f1, t1, -⟩ := (c117 (sc := sc) hC hA hv1 hv2).1 q3
        have hCu := RC_c hC (fr_m f1 rfl)
        have hm := vM_le hA v
        have hg := hA.1.2.2.1
        have hst := stg hA v
        have hok : ∀ i, i < vM A v → 0 ≤ vF A v i ∧ vF A v i < A.1.1 := fun i hi => vF_ok hA v hi
        refine ⟨u, ?_, fr_m f1 rfl⟩
        rw [fq_128]
        by_cases q4 : o = 0
        · have e2 := c127 (sc := sc) hCu.1 hg t1 hm hok (st := 0) (tr := t) (o := -1) (by decide) (by omega) (by decide)
          rw [if_pos q4, ← aL_A (aG A) (vF A v) t (vM A v) (fun i hi => (hst i hi).2.1)]
          simp (disch := omega) only [qB_s, qC_t, qC_f, qI_T, qI_F, qI_t, qI_f, r_I, r_L, r_R, r_V, ii_add, ii_sub, ii_mul, ii_neg, bz_0, bz_1, Bool.true_and, Bool.false_and, Bool.and_true, z00, z11, li_0, li_1, li_2, gR_0_9, is_0, is_22, s11, s126, e1, ii_eq, e2]
          rfl
        · have e2 := c127 (sc := sc) hCu.1 hg t1 hm hok (st := 2) (tr := t) (o := -1) (by decide) (by omega) (by decide)
          rw [if_neg q4, ← aL_L (aG A) (vF A v) t (vM A v) (fun i hi => (hst i hi).2.2)]
          simp (disch := omega) only [qB_s, qC_t, qC_f, qI_T, qI_F, qI_t, qI_f, r_I, r_L, r_R, r_V, ii_add, ii_sub, ii_mul, ii_neg, bz_0, bz_1, Bool.true_and, Bool.false_and, Bool.and_true, z00, z11, li_0, li_1, li_2, gR_0_9, is_0, is_22, s11, s126, e1, ii_eq, e2]
          rfl
      · rw [if_neg (by omega)]
        have h117 := (c117 (sc := sc) hC hA hv1 hv2).2 q3
        exact ⟨w, by
          rw [fq_128]
          simp (disch := omega) only [qB_s, qC_t, qC_f, qI_T, qI_F, qI_t, qI_f, r_I, r_L, r_R, r_V, ii_add, ii_sub, ii_mul, ii_neg, bz_0, bz_1, Bool.true_and, Bool.false_and, Bool.and_true, z00, z11, li_0, li_1, li_2, gR_0_9, is_0, is_22, ii_lt, ii_eq, ii_jj, jj_neg, h117, s11, s11, s126], fr_r _ _⟩
    · rw [if_neg (by omega)]
      exact ⟨w, by
        rw [fq_128]
        simp (disch := omega) only [qB_s, qC_t, qC_f, qI_T, qI_F, qI_t, qI_f, r_I, r_L, r_R, r_V, ii_add, ii_sub, ii_mul, ii_neg, bz_0, bz_1, Bool.true_and, Bool.false_and, Bool.and_true, z00, z11, li_0, li_1, li_2, gR_0_9, is_0, is_22, ii_lt, ii_eq, ii_jj, jj_neg, s11, s126], fr_r _ _⟩
  · rw [if_neg (by omega)]
    exact ⟨w, by
      rw [fq_128]
      simp (disch := omega) only [qB_s, qC_t, qC_f, qI_T, qI_F, qI_t, qI_f, r_I, r_L, r_R, r_V, ii_add, ii_sub, ii_mul, ii_neg, bz_0, bz_1, Bool.true_and, Bool.false_and, Bool.and_true, z00, z11, li_0, li_1, li_2, gR_0_9, is_0, is_22, ii_lt, ii_eq, ii_jj, jj_neg, s11], fr_r _ _⟩

theorem y_129 (hM : RM w A) (hA : okA A) {v t o : Int} (hv1 : -2147483648 ≤ v) (hv2 : v ≤ 2147483647) (ht1 : -2147483648 ≤ t) (ht2 : t ≤ 2147483647) (ho1 : -2147483648 ≤ o) (ho2 : o ≤ 2147483647) : ∃ u, am_F sc 129 [am_R (some 47), am_I (ii v), am_I (ii t), am_I (ii o)] (wst w) = some (some (am_I (ii (if (0 ≤ v ∧ v < A.2.2.1.1) ∧ (t = 0 ∨ t = 1) ∧ (o = 0 ∨ o = 1) then if o = 0 then cA (aG A) (vF A v) t (vM A v) else cL (aG A) (vF A v) t (vM A v) else -1))), wst u) ∧ fr scM w u := by
  have hn8 := hA.2.2.1.2.1
  have hn0 := hA.2.2.1.1
  have h120 := d120 (sc := sc) hM hn8 hn0 (v := v) hv1 hv2
  by_cases q1 : 0 ≤ v ∧ v < A.2.2.1.1
  · skip
    by_cases q2 : t = 0 ∨ t = 1
    · skip
      by_cases q3 : o = 0 ∨ o = 1
      · skip
        rw [if_pos (by omega)]
        obtain ⟨u, e1, f1, t1, -, a0, a1, a2, a3⟩ := d124v (sc := sc) hM hA q1
        refine ⟨u, ?_, fr_m f1 rfl⟩
        rw [fq_129]
        have ht : t = 0 ∨ t = 1 := by omega
        by_cases q4 : o = 0
        · rw [if_pos q4]
          rcases ht with ht | ht
          · subst ht
            simp (disch := omega) only [qB_s, qC_t, qC_f, qI_T, qI_F, qI_t, qI_f, r_I, r_L, r_R, r_V, ii_add, ii_sub, ii_mul, ii_neg, bz_0, bz_1, Bool.true_and, Bool.false_and, Bool.and_true, z00, z11, li_0, li_1, lj_0, lj_1, e_60, e_61, gR_47_28, gR_47_29, is_47, h120, e1, ii_eq, ii_jj, d17, a0]
          · subst ht
            simp (disch := omega) only [qB_s, qC_t, qC_f, qI_T, qI_F, qI_t, qI_f, r_I, r_L, r_R, r_V, ii_add, ii_sub, ii_mul, ii_neg, bz_0, bz_1, Bool.true_and, Bool.false_and, Bool.and_true, z00, z11, li_0, li_1, lj_0, lj_1, e_60, e_61, gR_47_28, gR_47_29, is_47, h120, e1, ii_eq, ii_jj, d17, a1]
        · rw [if_neg q4]
          rcases ht with ht | ht
          · subst ht
            simp (disch := omega) only [qB_s, qC_t, qC_f, qI_T, qI_F, qI_t, qI_f, r_I, r_L, r_R, r_V, ii_add, ii_sub, ii_mul, ii_neg, bz_0, bz_1, Bool.true_and, Bool.false_and, Bool.and_true, z00, z11, li_0, li_1, lj_0, lj_1, e_60, e_61, gR_47_28, gR_47_29, is_47, h120, e1, ii_eq, ii_jj, d17, a2]
          · subst ht
            simp (disch := omega) only [qB_s, qC_t, qC_f, qI_T, qI_F, qI_t, qI_f, r_I, r_L, r_R, r_V, ii_add, ii_sub, ii_mul, ii_neg, bz_0, bz_1, Bool.true_and, Bool.false_and, Bool.and_true, z00, z11, li_0, li_1, lj_0, lj_1, e_60, e_61, gR_47_28, gR_47_29, is_47, h120, e1, ii_eq, ii_jj, d17, a3]
      · rw [if_neg (by omega)]
        exact ⟨w, by
          rw [fq_129]
          simp (disch := omega) only [qB_s, qC_t, qC_f, qI_T, qI_F, qI_t, qI_f, r_I, r_L, r_R, r_V, ii_add, ii_sub, ii_mul, ii_neg, bz_0, bz_1, Bool.true_and, Bool.false_and, Bool.and_true, z00, z11, li_0, li_1, lj_0, lj_1, e_60, e_61, gR_47_28, gR_47_29, is_47, ii_lt, ii_eq, ii_jj, jj_neg, h120, d17], fr_r _ _⟩
    · rw [if_neg (by omega)]
      exact ⟨w, by
        rw [fq_129]
        simp (disch := omega) only [qB_s, qC_t, qC_f, qI_T, qI_F, qI_t, qI_f, r_I, r_L, r_R, r_V, ii_add, ii_sub, ii_mul, ii_neg, bz_0, bz_1, Bool.true_and, Bool.false_and, Bool.and_true, z00, z11, li_0, li_1, lj_0, lj_1, e_60, e_61, gR_47_28, gR_47_29, is_47, ii_lt, ii_eq, ii_jj, jj_neg, h120, d17], fr_r _ _⟩
  · rw [if_neg (by omega)]
    exact ⟨w, by
      rw [fq_129]
      simp (disch := omega) only [qB_s, qC_t, qC_f, qI_T, qI_F, qI_t, qI_f, r_I, r_L, r_R, r_V, ii_add, ii_sub, ii_mul, ii_neg, bz_0, bz_1, Bool.true_and, Bool.false_and, Bool.and_true, z00, z11, li_0, li_1, lj_0, lj_1, e_60, e_61, gR_47_28, gR_47_29, is_47, ii_lt, ii_eq, ii_jj, jj_neg, h120], fr_r _ _⟩

end L21
