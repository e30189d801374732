/-! GAP, ENDS, CLAIM, SIGHT -/
section L22
variable {sc : am_X} {w : wo} {A : ab} {ow : Nat → Nat}
theorem c132 {n : Int} {g : Int → Int → Int} (hC : CS w n g) (hg : gK n g) {m : Nat} {f : Nat → Int} (hT : TK w m f) (hm : m ≤ 200) (hf : ∀ i, i < m → 0 ≤ f i ∧ f i < n) {a b c d : Int} (ha : 0 ≤ a ∧ a ≤ 999) (hb : 0 ≤ b ∧ b ≤ 999) (hc : 0 ≤ c ∧ c ≤ 999) (hd : 0 ≤ d ∧ d ≤ 999) : ∃ v, am_F sc 132 [am_R (some 0), am_I (ii a), am_I (ii b), am_I (ii c), am_I (ii d)] (wst w) = some (none, wst v) ∧ fr [2800, 2801] w v ∧ wJ v 28 0 = frU (cL g f 0 m + a) (cA g f 0 m + b) (cL g f 1 m + c) (cA g f 1 m + d) ∧ wJ v 28 1 = frD (cL g f 0 m + a) (cA g f 0 m + b) (cL g f 1 m + c) (cA g f 1 m + d) := by
  have e1 := c127 (sc := sc) hC hg hT hm hf (st := 2) (tr := 0) (o := -1) (by decide) (by decide) (by decide)
  have e2 := c127 (sc := sc) hC hg hT hm hf (st := 0) (tr := 0) (o := -1) (by decide) (by decide) (by decide)
  have e3 := c127 (sc := sc) hC hg hT hm hf (st := 2) (tr := 1) (o := -1) (by decide) (by decide) (by decide)
  have e4 := c127 (sc := sc) hC hg hT hm hf (st := 0) (tr := 1) (o := -1) (by decide) (by decide) (by decide)
  have hst : ∀ i, i < m → 0 ≤ g (f i) 2 ∧ g (f i) 2 ≤ 2 := fun i hi => (hg (f i) (hf i hi).1 (hf i hi).2).2.2.1
  rw [aL_L g f _ m (fun i hi => (hst i hi).2)] at e1 e3
  rw [aL_A g f _ m (fun i hi => (hst i hi).1)] at e2 e4
  have r1 := cL_ran g f 0 m
  have r2 := cA_ran g f 0 m
  have r3 := cL_ran g f 1 m
  have r4 := cA_ran g f 1 m
  obtain ⟨v, e5, f5, h5⟩ := c131 (sc := sc) (w := w) (a := cL g f 0 m + a) (b := cA g f 0 m + b) (c := cL g f 1 m + c) (d := cA g f 1 m + d) (by omega) (by omega) (by omega) (by omega)
  refine ⟨v, ?_, f5, h5⟩
  rw [fq_132]
  simp (disch := omega) only [qB_s, qC_t, qC_f, qI_T, qI_F, qI_t, qI_f, r_I, r_L, r_R, r_V, ii_add, ii_sub, ii_mul, ii_neg, bz_0, bz_1, Bool.true_and, Bool.false_and, Bool.and_true, z00, z11, li_0, li_1, li_2, gR_0_10, gR_0_9, is_22, is_28, e1, e2, e3, e4, e5]
theorem c133 {p : Int} (hp : p = 0 ∨ p = 1) : am_F sc 133 [am_R (some 28), am_I (ii p)] (wst w) = some (some (am_I (ii (if p = 0 then wJ w 28 0 else wJ w 28 1))), wst w) := by
  rw [fq_133]
  rcases hp with hp | hp
  · rw [if_pos hp]
    simp (disch := omega) only [qB_s, qC_t, qC_f, qI_T, qI_F, qI_t, qI_f, r_I, r_L, r_R, r_V, ii_add, ii_sub, ii_mul, ii_neg, bz_0, bz_1, Bool.true_and, Bool.false_and, Bool.and_true, z00, z11, li_0, gL_28_0, gL_28_1, ii_eq, jj_ii]
  · rw [if_neg (by omega)]
    simp (disch := omega) only [qB_s, qC_t, qC_f, qI_T, qI_F, qI_t, qI_f, r_I, r_L, r_R, r_V, ii_add, ii_sub, ii_mul, ii_neg, bz_0, bz_1, Bool.true_and, Bool.false_and, Bool.and_true, z00, z11, li_0, gL_28_0, gL_28_1, ii_eq, jj_ii]
theorem c206 {t U D : Int} (ht : -1000 ≤ t ∧ t ≤ 1000) (h1 : wJ w 28 0 = U) (h2 : wJ w 28 1 = D) (hU : -4000000 ≤ U ∧ U ≤ 4000000) (hD : 0 ≤ D ∧ D ≤ 4000000) : am_F sc 206 [am_R (some 28), am_I (ii t)] (wst w) = some (some (am_I (ii (bz (0 < D ∧ t * D ≤ U * 1000)))), wst w) := by
  have b1 : -4000000000 ≤ t * D := Int.le_trans (by omega) (Int.mul_le_mul_of_nonneg_right (a := -1000) (b := t) (c := D) (by omega) (by omega))
  have b2 : t * D ≤ 4000000000 := Int.le_trans (Int.mul_le_mul_of_nonneg_right (a := t) (b := 1000) (c := D) (by omega) (by omega)) (by omega)
  have l1 : (ii 0 < lg_cmp (jj D) (jj 0)) = (0 < D) := lg_gt (by omega) (by omega) (by omega) (by omega)
  have l2 : (lg_cmp (jj (U * 1000)) (jj (t * D)) < ii 0) = (U * 1000 < t * D) := lg_lt (by omega) (by omega) (by omega) (by omega)
  have l3 : jj U * jj 1000 = jj (U * 1000) := jj_mul _ _
  have l4 : (ii t).toInt64 * jj D = jj (t * D) := by rw [ii_jj (by omega) (by omega), jj_mul]
  rw [fq_206, li_0, lj_0, lj_1000, gL_28_1, qB_s, h2]
  by_cases q1 : 0 < D
  · have i1 : ii 0 < lg_cmp (jj D) (jj 0) := by rw [l1]; exact q1
    rw [qI_t i1, gL_28_0, qB_s, h1, qB_s, l3, l4]
    by_cases q2 : t * D ≤ U * 1000
    · rw [bz_t ⟨q1, q2⟩, qI_f (by rw [l2]; omega)]
      rfl
    · rw [bz_f (fun z => q2 z.2), qI_t (by rw [l2]; omega)]
  · have i1 : ¬ (ii 0 < lg_cmp (jj D) (jj 0)) := by rw [l1]; exact q1
    rw [qI_f i1, bz_f (fun z => q1 z.1)]
theorem d203 {a0 a1 l0 l1 p q : Int} (h1 : wA w 60 0 = a0) (h2 : wA w 60 1 = a1) (h3 : wA w 61 0 = l0) (h4 : wA w 61 1 = l1) (r1 : 0 ≤ a0 ∧ a0 ≤ 200) (r2 : 0 ≤ a1 ∧ a1 ≤ 200) (r3 : 0 ≤ l0 ∧ l0 ≤ 200) (r4 : 0 ≤ l1 ∧ l1 ≤ 200) (hp : 0 ≤ p ∧ p ≤ 999) (hq : 0 ≤ q ∧ q ≤ 999) : ∃ v, am_F sc 203 [am_R (some 47), am_I (ii p), am_I (ii q)] (wst w) = some (none, wst v) ∧ fr [4730, 4731] w v ∧ wJ v 47 30 = frU l0 (a0 + p) (l1 + q) (a1 + q) ∧ wJ v 47 31 = frD l0 (a0 + p) (l1 + q) (a1 + q) := by
  obtain ⟨v, e, f, h⟩ := d136 (sc := sc) (w := w) (a := l0) (b := a0 + p) (c := l1 + q) (d := a1 + q) (by omega) (by omega) (by omega) (by omega)
  refine ⟨v, ?_, f, h⟩
  rw [fq_203]
  simp (disch := omega) only [qB_s, qC_t, qC_f, qI_T, qI_F, qI_t, qI_f, r_I, r_L, r_R, r_V, ii_add, ii_sub, ii_mul, ii_neg, bz_0, bz_1, Bool.true_and, Bool.false_and, Bool.and_true, z00, z11, li_0, li_1, e_60, e_61, gR_47_28, gR_47_29, is_47, h1, h2, h3, h4, ii_jj, e]
theorem d204 {a0 a1 l0 l1 p q : Int} (h1 : wA w 60 0 = a0) (h2 : wA w 60 1 = a1) (h3 : wA w 61 0 = l0) (h4 : wA w 61 1 = l1) (r1 : 0 ≤ a0 ∧ a0 ≤ 200) (r2 : 0 ≤ a1 ∧ a1 ≤ 200) (r3 : 0 ≤ l0 ∧ l0 ≤ 200) (r4 : 0 ≤ l1 ∧ l1 ≤ 200) (hp : 0 ≤ p ∧ p ≤ 999) (hq : 0 ≤ q ∧ q ≤ 999) : ∃ v, am_F sc 204 [am_R (some 47), am_I (ii p), am_I (ii q)] (wst w) = some (none, wst v) ∧ fr [4730, 4731] w v ∧ wJ v 47 30 = frU (l0 + p) (a0 + p) l1 (a1 + q) ∧ wJ v 47 31 = frD (l0 + p) (a0 + p) l1 (a1 + q) := by
  obtain ⟨v, e, f, h⟩ := d136 (sc := sc) (w := w) (a := l0 + p) (b := a0 + p) (c := l1) (d := a1 + q) (by omega) (by omega) (by omega) (by omega)
  refine ⟨v, ?_, f, h⟩
  rw [fq_204]
  simp (disch := omega) only [qB_s, qC_t, qC_f, qI_T, qI_F, qI_t, qI_f, r_I, r_L, r_R, r_V, ii_add, ii_sub, ii_mul, ii_neg, bz_0, bz_1, Bool.true_and, Bool.false_and, Bool.and_true, z00, z11, li_0, li_1, e_60, e_61, gR_47_28, gR_47_29, is_47, h1, h2, h3, h4, ii_jj, e]
theorem frUD_ran {a b c d : Int} (ha : 0 ≤ a ∧ a ≤ 2000) (hb : 0 ≤ b ∧ b ≤ 2000) (hc : 0 ≤ c ∧ c ≤ 2000) (hd : 0 ≤ d ∧ d ≤ 2000) : (-4000000 ≤ frU a b c d ∧ frU a b c d ≤ 4000000) ∧ (0 ≤ frD a b c d ∧ frD a b c d ≤ 4000000) := by
  by_cases q : b = 0 ∨ d = 0
  · unfold frU frD
    rw [if_pos q, if_pos q]
    decide
  · have hb' : 0 < b ∧ b ≤ 2000 := by omega
    have hd' : 0 < d ∧ d ≤ 2000 := by omega
    obtain ⟨G, U, D, g0, g1, g2, g3, g4, g5, g6, g7, g8, g9, g10, -⟩ := gUD (a := a) (b := b) (c := c) (d := d) ha hb' hc hd'
    rw [g4, g5]
    exact ⟨⟨g9, g10⟩, Int.le_of_lt g6, g7⟩
/-- the least and the greatest gap of a view, with so many more -/
def lsU (A : ab) (v p q : Int) : Int := frU (cL (aG A) (vF A v) 0 (vM A v)) (cA (aG A) (vF A v) 0 (vM A v) + p) (cL (aG A) (vF A v) 1 (vM A v) + q) (cA (aG A) (vF A v) 1 (vM A v) + q)
def lsD (A : ab) (v p q : Int) : Int := frD (cL (aG A) (vF A v) 0 (vM A v)) (cA (aG A) (vF A v) 0 (vM A v) + p) (cL (aG A) (vF A v) 1 (vM A v) + q) (cA (aG A) (vF A v) 1 (vM A v) + q)
def gsU (A : ab) (v p q : Int) : Int := frU (cL (aG A) (vF A v) 0 (vM A v) + p) (cA (aG A) (vF A v) 0 (vM A v) + p) (cL (aG A) (vF A v) 1 (vM A v)) (cA (aG A) (vF A v) 1 (vM A v) + q)
def gsD (A : ab) (v p q : Int) : Int := frD (cL (aG A) (vF A v) 0 (vM A v) + p) (cA (aG A) (vF A v) 0 (vM A v) + p) (cL (aG A) (vF A v) 1 (vM A v)) (cA (aG A) (vF A v) 1 (vM A v) + q)
theorem c4_ran {A : ab} (hA : okA A) (v : Int) : (0 ≤ cA (aG A) (vF A v) 0 (vM A v) ∧ cA (aG A) (vF A v) 0 (vM A v) ≤ 200) ∧ (0 ≤ cA (aG A) (vF A v) 1 (vM A v) ∧ cA (aG A) (vF A v) 1 (vM A v) ≤ 200) ∧ (0 ≤ cL (aG A) (vF A v) 0 (vM A v) ∧ cL (aG A) (vF A v) 0 (vM A v) ≤ 200) ∧ (0 ≤ cL (aG A) (vF A v) 1 (vM A v) ∧ cL (aG A) (vF A v) 1 (vM A v) ≤ 200) := by
  have hm := vM_le hA v
  have r1 := cL_ran (aG A) (vF A v) 0 (vM A v)
  have r2 := cA_ran (aG A) (vF A v) 0 (vM A v)
  have r3 := cL_ran (aG A) (vF A v) 1 (vM A v)
  have r4 := cA_ran (aG A) (vF A v) 1 (vM A v)
  omega
theorem x_134 (hC : RC ow w A) (hA : okA A) {v o : Int} (hv1 : -2147483648 ≤ v) (hv2 : v ≤ 2147483647) (ho1 : -2147483648 ≤ o) (ho2 : o ≤ 2147483647) : ∃ u, am_F sc 134 [am_R (some 0), am_I (ii v), am_I (ii o)] (wst w) = some (some (am_I (ii (if (o = 0 ∨ o = 1) ∧ (0 ≤ v ∧ v < A.2.2.1.1) then if o = 0 then frU (cL (aG A) (vF A v) 0 (vM A v)) (cA (aG A) (vF A v) 0 (vM A v)) (cL (aG A) (vF A v) 1 (vM A v)) (cA (aG A) (vF A v) 1 (vM A v)) else frD (cL (aG A) (vF A v) 0 (vM A v)) (cA (aG A) (vF A v) 0 (vM A v)) (cL (aG A) (vF A v) 1 (vM A v)) (cA (aG A) (vF A v) 1 (vM A v)) else -1))), wst u) ∧ fr scC w u := by
  have hn8 := hA.2.2.1.2.1
  have hn0 := hA.2.2.1.1
  by_cases q1 : o = 0 ∨ o = 1
  · skip
    by_cases q2 : 0 ≤ v ∧ v < A.2.2.1.1
    · skip
      rw [if_pos (by omega)]
      obtain ⟨u, e1, f1, t1, -⟩ := (c117 (sc := sc) hC hA hv1 hv2).1 q2
      have hCu := RC_c hC (fr_m f1 rfl)
      have hm := vM_le hA v
      have hg := hA.1.2.2.1
      have hst := stg hA v
      have hok : ∀ i, i < vM A v → 0 ≤ vF A v i ∧ vF A v i < A.1.1 := fun i hi => vF_ok hA v hi
      obtain ⟨u2, e2, f2, j0, j1⟩ := c132 (sc := sc) hCu.1 hg t1 hm hok (a := 0) (b := 0) (c := 0) (d := 0) (by decide) (by decide) (by decide) (by decide)
      simp only [Int.add_zero] at j0 j1
      have e3 := c133 (sc := sc) (w := u2) (p := o) q1
      rw [j0, j1] at e3
      refine ⟨u2, ?_, fr_t (fr_m f1 rfl) (fr_m f2 rfl)⟩
      rw [fq_134]
      simp (disch := omega) only [qB_s, qC_t, qC_f, qI_T, qI_F, qI_t, qI_f, r_I, r_L, r_R, r_V, ii_add, ii_sub, ii_mul, ii_neg, bz_0, bz_1, Bool.true_and, Bool.false_and, Bool.and_true, z00, z11, li_0, li_1, gR_0_10, is_0, is_28, s126, e1, ii_eq, e2, e3]
      rfl
    · rw [if_neg (by omega)]
      have h117 := (c117 (sc := sc) hC hA hv1 hv2).2 q2
      exact ⟨w, by
        rw [fq_134]
        simp (disch := omega) only [qB_s, qC_t, qC_f, qI_T, qI_F, qI_t, qI_f, r_I, r_L, r_R, r_V, ii_add, ii_sub, ii_mul, ii_neg, bz_0, bz_1, Bool.true_and, Bool.false_and, Bool.and_true, z00, z11, li_0, li_1, gR_0_10, is_0, is_28, ii_lt, ii_eq, ii_jj, jj_neg, h117, s126], fr_r _ _⟩
  · rw [if_neg (by omega)]
    exact ⟨w, by
      rw [fq_134]
      simp (disch := omega) only [qB_s, qC_t, qC_f, qI_T, qI_F, qI_t, qI_f, r_I, r_L, r_R, r_V, ii_add, ii_sub, ii_mul, ii_neg, bz_0, bz_1, Bool.true_and, Bool.false_and, Bool.and_true, z00, z11, li_0, li_1, gR_0_10, is_0, is_28, ii_lt, ii_eq, ii_jj, jj_neg, s126], fr_r _ _⟩

theorem y_137 (hM : RM w A) (hA : okA A) {v o : Int} (hv1 : -2147483648 ≤ v) (hv2 : v ≤ 2147483647) (ho1 : -2147483648 ≤ o) (ho2 : o ≤ 2147483647) : ∃ u, am_F sc 137 [am_R (some 47), am_I (ii v), am_I (ii o)] (wst w) = some (some (am_I (ii (if (0 ≤ v ∧ v < A.2.2.1.1) ∧ (o = 0 ∨ o = 1) then if o = 0 then frU (cL (aG A) (vF A v) 0 (vM A v)) (cA (aG A) (vF A v) 0 (vM A v)) (cL (aG A) (vF A v) 1 (vM A v)) (cA (aG A) (vF A v) 1 (vM A v)) else frD (cL (aG A) (vF A v) 0 (vM A v)) (cA (aG A) (vF A v) 0 (vM A v)) (cL (aG A) (vF A v) 1 (vM A v)) (cA (aG A) (vF A v) 1 (vM A v)) else -1))), wst u) ∧ fr scM w u := by
  have hn8 := hA.2.2.1.2.1
  have hn0 := hA.2.2.1.1
  have h120 := d120 (sc := sc) hM hn8 hn0 (v := v) hv1 hv2
  by_cases q1 : 0 ≤ v ∧ v < A.2.2.1.1
  · skip
    by_cases q2 : o = 0 ∨ o = 1
    · skip
      rw [if_pos (by omega)]
      obtain ⟨u, e1, f1, t1, -, a0, a1, a2, a3⟩ := d124v (sc := sc) hM hA q1
      obtain ⟨r1, r2, r3, r4⟩ := c4_ran hA v
      obtain ⟨u2, e2, f2, j0, j1⟩ := d136 (sc := sc) (w := u) (a := cL (aG A) (vF A v) 0 (vM A v)) (b := cA (aG A) (vF A v) 0 (vM A v)) (c := cL (aG A) (vF A v) 1 (vM A v)) (d := cA (aG A) (vF A v) 1 (vM A v)) (by omega) (by omega) (by omega) (by omega)
      refine ⟨u2, ?_, fr_t (fr_m f1 rfl) (fr_m f2 rfl)⟩
      rw [fq_137]
      by_cases q4 : o = 0
      · rw [if_pos q4]
        simp (disch := omega) only [qB_s, qC_t, qC_f, qI_T, qI_F, qI_t, qI_f, r_I, r_L, r_R, r_V, ii_add, ii_sub, ii_mul, ii_neg, bz_0, bz_1, Bool.true_and, Bool.false_and, Bool.and_true, z00, z11, li_0, li_1, lj_0, lj_1, e_60, e_61, gL_47_30, gL_47_31, gR_47_28, gR_47_29, is_47, h120, e1, ii_eq, ii_jj, d17, a0, a1, a2, a3, e2, j0, jj_ii]
      · rw [if_neg q4]
        simp (disch := omega) only [qB_s, qC_t, qC_f, qI_T, qI_F, qI_t, qI_f, r_I, r_L, r_R, r_V, ii_add, ii_sub, ii_mul, ii_neg, bz_0, bz_1, Bool.true_and, Bool.false_and, Bool.and_true, z00, z11, li_0, li_1, lj_0, lj_1, e_60, e_61, gL_47_30, gL_47_31, gR_47_28, gR_47_29, is_47, h120, e1, ii_eq, ii_jj, d17, a0, a1, a2, a3, e2, j1, jj_ii]
    · rw [if_neg (by omega)]
      exact ⟨w, by
        rw [fq_137]
        simp (disch := omega) only [qB_s, qC_t, qC_f, qI_T, qI_F, qI_t, qI_f, r_I, r_L, r_R, r_V, ii_add, ii_sub, ii_mul, ii_neg, bz_0, bz_1, Bool.true_and, Bool.false_and, Bool.and_true, z00, z11, li_0, li_1, lj_0, lj_1, e_60, e_61, gL_47_30, gL_47_31, gR_47_28, gR_47_29, is_47, ii_lt, ii_eq, ii_jj, jj_neg, h120, d17], fr_r _ _⟩
  · rw [if_neg (by omega)]
    exact ⟨w, by
      rw [fq_137]
      simp (disch := omega) only [qB_s, qC_t, qC_f, qI_T, qI_F, qI_t, qI_f, r_I, r_L, r_R, r_V, ii_add, ii_sub, ii_mul, ii_neg, bz_0, bz_1, Bool.true_and, Bool.false_and, Bool.and_true, z00, z11, li_0, li_1, lj_0, lj_1, e_60, e_61, gL_47_30, gL_47_31, gR_47_28, gR_47_29, is_47, ii_lt, ii_eq, ii_jj, jj_neg, h120], fr_r _ _⟩

theorem x_201 (hC : RC ow w A) (hA : okA A) {v p q o : Int} (hv1 : -2147483648 ≤ v) (hv2 : v ≤ 2147483647) (hp1 : -2147483648 ≤ p) (hp2 : p ≤ 2147483647) (hq1 : -2147483648 ≤ q) (hq2 : q ≤ 2147483647) (ho1 : -2147483648 ≤ o) (ho2 : o ≤ 2147483647) : ∃ u, am_F sc 201 [am_R (some 0), am_I (ii v), am_I (ii p), am_I (ii q), am_I (ii o)] (wst w) = some (some (am_I (ii (if (0 ≤ o ∧ o ≤ 3) ∧ (0 ≤ p ∧ p ≤ 999 ∧ 0 ≤ q ∧ q ≤ 999) ∧ (0 ≤ v ∧ v < A.2.2.1.1) then if o = 0 then lsU A v p q else if o = 1 then lsD A v p q else if o = 2 then gsU A v p q else gsD A v p q else -2000000))), wst u) ∧ fr scC w u := by
  have hn8 := hA.2.2.1.2.1
  have hn0 := hA.2.2.1.1
  by_cases q1 : 0 ≤ o ∧ o ≤ 3
  · skip
    by_cases q2 : 0 ≤ p ∧ p ≤ 999 ∧ 0 ≤ q ∧ q ≤ 999
    · skip
      by_cases q3 : 0 ≤ v ∧ v < A.2.2.1.1
      · skip
        rw [if_pos (by omega)]
        obtain ⟨u, e1, f1, t1, -⟩ := (c117 (sc := sc) hC hA hv1 hv2).1 q3
        have hCu := RC_c hC (fr_m f1 rfl)
        have hm := vM_le hA v
        have hg := hA.1.2.2.1
        have hst := stg hA v
        have hok : ∀ i, i < vM A v → 0 ≤ vF A v i ∧ vF A v i < A.1.1 := fun i hi => vF_ok hA v hi
        have hp : p ≤ 999 ∧ 0 ≤ p := by omega
        have hq : q ≤ 999 ∧ 0 ≤ q := by omega
        have ho : o = 0 ∨ o = 1 ∨ o = 2 ∨ o = 3 := by omega
        rw [fq_201]
        rcases ho with ho | ho | ho | ho
        · subst ho
          obtain ⟨u2, e2, f2, j0, j1⟩ := c132 (sc := sc) hCu.1 hg t1 hm hok (a := 0) (b := p) (c := q) (d := q) (by decide) (by omega) (by omega) (by omega)
          simp only [Int.add_zero] at j0 j1
          have e3 := c133 (sc := sc) (w := u2) (p := 0) (by decide)
          refine ⟨u2, ?_, fr_t (fr_m f1 rfl) (fr_m f2 rfl)⟩
          have hr : (ii 0 - ii 0 / ii 2 * ii 2) = ii 0 := by decide
          have hj : (if (0 : Int) = 0 then wJ u2 28 0 else wJ u2 28 1) = lsU A v p q := j0
          rw [hj] at e3
          simp (disch := omega) only [qB_s, qC_t, qC_f, qI_T, qI_F, qI_t, qI_f, r_I, r_L, r_R, r_V, ii_add, ii_sub, ii_mul, ii_neg, bz_0, bz_1, Bool.true_and, Bool.false_and, Bool.and_true, z00, z11, li_0, li_2, li_2000000, li_3, gR_0_10, is_0, is_28, s200, e1, ii_lt, ii_eq, e2, hr, e3, Int.reduceLT, Int.reduceEq, if_true, if_false]
        · subst ho
          obtain ⟨u2, e2, f2, j0, j1⟩ := c132 (sc := sc) hCu.1 hg t1 hm hok (a := 0) (b := p) (c := q) (d := q) (by decide) (by omega) (by omega) (by omega)
          simp only [Int.add_zero] at j0 j1
          have e3 := c133 (sc := sc) (w := u2) (p := 1) (by decide)
          refine ⟨u2, ?_, fr_t (fr_m f1 rfl) (fr_m f2 rfl)⟩
          have hr : (ii 1 - ii 1 / ii 2 * ii 2) = ii 1 := by decide
          have hj : (if (1 : Int) = 0 then wJ u2 28 0 else wJ u2 28 1) = lsD A v p q := j1
          rw [hj] at e3
          simp (disch := omega) only [qB_s, qC_t, qC_f, qI_T, qI_F, qI_t, qI_f, r_I, r_L, r_R, r_V, ii_add, ii_sub, ii_mul, ii_neg, bz_0, bz_1, Bool.true_and, Bool.false_and, Bool.and_true, z00, z11, li_0, li_2, li_2000000, li_3, gR_0_10, is_0, is_28, s200, e1, ii_lt, ii_eq, e2, hr, e3, Int.reduceLT, Int.reduceEq, if_true, if_false]
        · subst ho
          obtain ⟨u2, e2, f2, j0, j1⟩ := c132 (sc := sc) hCu.1 hg t1 hm hok (a := p) (b := p) (c := 0) (d := q) (by omega) (by omega) (by decide) (by omega)
          simp only [Int.add_zero] at j0 j1
          have e3 := c133 (sc := sc) (w := u2) (p := 0) (by decide)
          refine ⟨u2, ?_, fr_t (fr_m f1 rfl) (fr_m f2 rfl)⟩
          have hr : (ii 2 - ii 2 / ii 2 * ii 2) = ii 0 := by decide
          have hj : (if (0 : Int) = 0 then wJ u2 28 0 else wJ u2 28 1) = gsU A v p q := j0
          rw [hj] at e3
          simp (disch := omega) only [qB_s, qC_t, qC_f, qI_T, qI_F, qI_t, qI_f, r_I, r_L, r_R, r_V, ii_add, ii_sub, ii_mul, ii_neg, bz_0, bz_1, Bool.true_and, Bool.false_and, Bool.and_true, z00, z11, li_0, li_2, li_2000000, li_3, gR_0_10, is_0, is_28, s200, e1, ii_lt, ii_eq, e2, hr, e3, Int.reduceLT, Int.reduceEq, if_true, if_false]
        · subst ho
          obtain ⟨u2, e2, f2, j0, j1⟩ := c132 (sc := sc) hCu.1 hg t1 hm hok (a := p) (b := p) (c := 0) (d := q) (by omega) (by omega) (by decide) (by omega)
          simp only [Int.add_zero] at j0 j1
          have e3 := c133 (sc := sc) (w := u2) (p := 1) (by decide)
          refine ⟨u2, ?_, fr_t (fr_m f1 rfl) (fr_m f2 rfl)⟩
          have hr : (ii 3 - ii 3 / ii 2 * ii 2) = ii 1 := by decide
          have hj : (if (1 : Int) = 0 then wJ u2 28 0 else wJ u2 28 1) = gsD A v p q := j1
          rw [hj] at e3
          simp (disch := omega) only [qB_s, qC_t, qC_f, qI_T, qI_F, qI_t, qI_f, r_I, r_L, r_R, r_V, ii_add, ii_sub, ii_mul, ii_neg, bz_0, bz_1, Bool.true_and, Bool.false_and, Bool.and_true, z00, z11, li_0, li_2, li_2000000, li_3, gR_0_10, is_0, is_28, s200, e1, ii_lt, ii_eq, e2, hr, e3, Int.reduceLT, Int.reduceEq, if_true, if_false]
      · rw [if_neg (by omega)]
        have h117 := (c117 (sc := sc) hC hA hv1 hv2).2 q3
        exact ⟨w, by
          rw [fq_201]
          simp (disch := omega) only [qB_s, qC_t, qC_f, qI_T, qI_F, qI_t, qI_f, r_I, r_L, r_R, r_V, ii_add, ii_sub, ii_mul, ii_neg, bz_0, bz_1, Bool.true_and, Bool.false_and, Bool.and_true, z00, z11, li_0, li_2, li_2000000, li_3, gR_0_10, is_0, is_28, ii_lt, ii_eq, ii_jj, jj_neg, h117, s200], fr_r _ _⟩
    · rw [if_neg (by omega)]
      exact ⟨w, by
        rw [fq_201]
        simp (disch := omega) only [qB_s, qC_t, qC_f, qI_T, qI_F, qI_t, qI_f, r_I, r_L, r_R, r_V, ii_add, ii_sub, ii_mul, ii_neg, bz_0, bz_1, Bool.true_and, Bool.false_and, Bool.and_true, z00, z11, li_0, li_2, li_2000000, li_3, gR_0_10, is_0, is_28, ii_lt, ii_eq, ii_jj, jj_neg, s200], fr_r _ _⟩
  · rw [if_neg (by omega)]
    exact ⟨w, by
      rw [fq_201]
      by_cases zz : o < 0
      · simp (disch := omega) only [qB_s, qC_t, qC_f, qI_T, qI_F, qI_t, qI_f, r_I, r_L, r_R, r_V, ii_add, ii_sub, ii_mul, ii_neg, bz_0, bz_1, Bool.true_and, Bool.false_and, Bool.and_true, z00, z11, li_0, li_2, li_2000000, li_3, gR_0_10, is_0, is_28, ii_lt, ii_eq, ii_jj, jj_neg]
      · simp (disch := omega) only [qB_s, qC_t, qC_f, qI_T, qI_F, qI_t, qI_f, r_I, r_L, r_R, r_V, ii_add, ii_sub, ii_mul, ii_neg, bz_0, bz_1, Bool.true_and, Bool.false_and, Bool.and_true, z00, z11, li_0, li_2, li_2000000, li_3, gR_0_10, is_0, is_28, ii_lt, ii_eq, ii_jj, jj_neg], fr_r _ _⟩

theorem y_205 (hM : RM w A) (hA : okA A) {v p q o : Int} (hv1 : -2147483648 ≤ v) (hv2 : v ≤ 2147483647) (hp1 : -2147483648 ≤ p) (hp2 : p ≤ 2147483647) (hq1 : -2147483648 ≤ q) (hq2 : q ≤ 2147483647) (ho1 : -2147483648 ≤ o) (ho2 : o ≤ 2147483647) : ∃ u, am_F sc 205 [am_R (some 47), am_I (ii v), am_I (ii p), am_I (ii q), am_I (ii o)] (wst w) = some (some (am_I (ii (if (0 ≤ v ∧ v < A.2.2.1.1) ∧ (0 ≤ p ∧ p ≤ 999 ∧ 0 ≤ q ∧ q ≤ 999) ∧ (0 ≤ o ∧ o ≤ 3) then if o = 0 then lsU A v p q else if o = 1 then lsD A v p q else if o = 2 then gsU A v p q else gsD A v p q else -2000000))), wst u) ∧ fr scM w u := by
  have hn8 := hA.2.2.1.2.1
  have hn0 := hA.2.2.1.1
  have h120 := d120 (sc := sc) hM hn8 hn0 (v := v) hv1 hv2
  by_cases q1 : 0 ≤ v ∧ v < A.2.2.1.1
  · skip
    by_cases q2 : 0 ≤ p ∧ p ≤ 999 ∧ 0 ≤ q ∧ q ≤ 999
    · skip
      by_cases q3 : 0 ≤ o ∧ o ≤ 3
      · skip
        rw [if_pos (by omega)]
        obtain ⟨u, e1, f1, t1, -, a0, a1, a2, a3⟩ := d124v (sc := sc) hM hA q1
        obtain ⟨r1, r2, r3, r4⟩ := c4_ran hA v
        obtain ⟨u2, e2, f2, j0, j1⟩ := d203 (sc := sc) a0 a1 a2 a3 r1 r2 r3 r4 (p := p) (q := q) (by omega) (by omega)
        obtain ⟨u3, e3, f3, j2, j3⟩ := d204 (sc := sc) a0 a1 a2 a3 r1 r2 r3 r4 (p := p) (q := q) (by omega) (by omega)
        have ho : o = 0 ∨ o = 1 ∨ o = 2 ∨ o = 3 := by omega
        rw [fq_205]
        rcases ho with ho | ho | ho | ho
        · subst ho
          refine ⟨u2, ?_, fr_t (fr_m f1 rfl) (fr_m f2 rfl)⟩
          have hr : (ii 0 - ii 0 / ii 2 * ii 2) = ii 0 := by decide
          have hj : wJ u2 47 30 = lsU A v p q := j0
          simp (disch := omega) only [qB_s, qC_t, qC_f, qI_T, qI_F, qI_t, qI_f, r_I, r_L, r_R, r_V, ii_add, ii_sub, ii_mul, ii_neg, bz_0, bz_1, Bool.true_and, Bool.false_and, Bool.and_true, z00, z11, li_0, li_2, li_2000000, lj_0, lj_3, gL_47_30, gL_47_31, is_47, h120, s202, e1, ii_lt, ii_eq, ii_jj, d17, e2, e3, hr, hj, jj_ii, Int.reduceLT, Int.reduceEq, if_true, if_false]
        · subst ho
          refine ⟨u2, ?_, fr_t (fr_m f1 rfl) (fr_m f2 rfl)⟩
          have hr : (ii 1 - ii 1 / ii 2 * ii 2) = ii 1 := by decide
          have hj : wJ u2 47 31 = lsD A v p q := j1
          simp (disch := omega) only [qB_s, qC_t, qC_f, qI_T, qI_F, qI_t, qI_f, r_I, r_L, r_R, r_V, ii_add, ii_sub, ii_mul, ii_neg, bz_0, bz_1, Bool.true_and, Bool.false_and, Bool.and_true, z00, z11, li_0, li_2, li_2000000, lj_0, lj_3, gL_47_30, gL_47_31, is_47, h120, s202, e1, ii_lt, ii_eq, ii_jj, d17, e2, e3, hr, hj, jj_ii, Int.reduceLT, Int.reduceEq, if_true, if_false]
        · subst ho
          refine ⟨u3, ?_, fr_t (fr_m f1 rfl) (fr_m f3 rfl)⟩
          have hr : (ii 2 - ii 2 / ii 2 * ii 2) = ii 0 := by decide
          have hj : wJ u3 47 30 = gsU A v p q := j2
          simp (disch := omega) only [qB_s, qC_t, qC_f, qI_T, qI_F, qI_t, qI_f, r_I, r_L, r_R, r_V, ii_add, ii_sub, ii_mul, ii_neg, bz_0, bz_1, Bool.true_and, Bool.false_and, Bool.and_true, z00, z11, li_0, li_2, li_2000000, lj_0, lj_3, gL_47_30, gL_47_31, is_47, h120, s202, e1, ii_lt, ii_eq, ii_jj, d17, e2, e3, hr, hj, jj_ii, Int.reduceLT, Int.reduceEq, if_true, if_false]
        · subst ho
          refine ⟨u3, ?_, fr_t (fr_m f1 rfl) (fr_m f3 rfl)⟩
          have hr : (ii 3 - ii 3 / ii 2 * ii 2) = ii 1 := by decide
          have hj : wJ u3 47 31 = gsD A v p q := j3
          simp (disch := omega) only [qB_s, qC_t, qC_f, qI_T, qI_F, qI_t, qI_f, r_I, r_L, r_R, r_V, ii_add, ii_sub, ii_mul, ii_neg, bz_0, bz_1, Bool.true_and, Bool.false_and, Bool.and_true, z00, z11, li_0, li_2, li_2000000, lj_0, lj_3, gL_47_30, gL_47_31, is_47, h120, s202, e1, ii_lt, ii_eq, ii_jj, d17, e2, e3, hr, hj, jj_ii, Int.reduceLT, Int.reduceEq, if_true, if_false]
      · rw [if_neg (by omega)]
        exact ⟨w, by
          rw [fq_205]
          simp (disch := omega) only [qB_s, qC_t, qC_f, qI_T, qI_F, qI_t, qI_f, r_I, r_L, r_R, r_V, ii_add, ii_sub, ii_mul, ii_neg, bz_0, bz_1, Bool.true_and, Bool.false_and, Bool.and_true, z00, z11, li_0, li_2, li_2000000, lj_0, lj_3, gL_47_30, gL_47_31, is_47, ii_lt, ii_eq, ii_jj, jj_neg, h120, s202, d17], fr_r _ _⟩
    · rw [if_neg (by omega)]
      exact ⟨w, by
        rw [fq_205]
        simp (disch := omega) only [qB_s, qC_t, qC_f, qI_T, qI_F, qI_t, qI_f, r_I, r_L, r_R, r_V, ii_add, ii_sub, ii_mul, ii_neg, bz_0, bz_1, Bool.true_and, Bool.false_and, Bool.and_true, z00, z11, li_0, li_2, li_2000000, lj_0, lj_3, gL_47_30, gL_47_31, is_47, ii_lt, ii_eq, ii_jj, jj_neg, h120, s202], fr_r _ _⟩
  · rw [if_neg (by omega)]
    exact ⟨w, by
      rw [fq_205]
      simp (disch := omega) only [qB_s, qC_t, qC_f, qI_T, qI_F, qI_t, qI_f, r_I, r_L, r_R, r_V, ii_add, ii_sub, ii_mul, ii_neg, bz_0, bz_1, Bool.true_and, Bool.false_and, Bool.and_true, z00, z11, li_0, li_2, li_2000000, lj_0, lj_3, gL_47_30, gL_47_31, is_47, ii_lt, ii_eq, ii_jj, jj_neg, h120], fr_r _ _⟩

theorem x_207 (hC : RC ow w A) (hA : okA A) {v p q t : Int} (hv1 : -2147483648 ≤ v) (hv2 : v ≤ 2147483647) (hp1 : -2147483648 ≤ p) (hp2 : p ≤ 2147483647) (hq1 : -2147483648 ≤ q) (hq2 : q ≤ 2147483647) (ht1 : -2147483648 ≤ t) (ht2 : t ≤ 2147483647) : ∃ u, am_F sc 207 [am_R (some 0), am_I (ii v), am_I (ii p), am_I (ii q), am_I (ii t)] (wst w) = some (some (am_I (ii (if (-1000 ≤ t ∧ t ≤ 1000) ∧ (0 ≤ p ∧ p ≤ 999 ∧ 0 ≤ q ∧ q ≤ 999) ∧ (0 ≤ v ∧ v < A.2.2.1.1) then if lsD A v p q = 0 then -1 else if t * lsD A v p q ≤ lsU A v p q * 1000 then 2 else if 0 < gsD A v p q ∧ t * gsD A v p q ≤ gsU A v p q * 1000 then 1 else 0 else -1))), wst u) ∧ fr scC w u := by
  have hn8 := hA.2.2.1.2.1
  have hn0 := hA.2.2.1.1
  by_cases q1 : -1000 ≤ t ∧ t ≤ 1000
  · skip
    by_cases q2 : 0 ≤ p ∧ p ≤ 999 ∧ 0 ≤ q ∧ q ≤ 999
    · skip
      by_cases q3 : 0 ≤ v ∧ v < A.2.2.1.1
      · skip
        rw [if_pos (by omega)]
        obtain ⟨u, e1, f1, t1, -⟩ := (c117 (sc := sc) hC hA hv1 hv2).1 q3
        have hCu := RC_c hC (fr_m f1 rfl)
        have hm := vM_le hA v
        have hg := hA.1.2.2.1
        have hst := stg hA v
        have hok : ∀ i, i < vM A v → 0 ≤ vF A v i ∧ vF A v i < A.1.1 := fun i hi => vF_ok hA v hi
        have hp : p ≤ 999 ∧ 0 ≤ p := by omega
        have hq : q ≤ 999 ∧ 0 ≤ q := by omega
        obtain ⟨r1, r2, r3, r4⟩ := c4_ran hA v
        obtain ⟨u2, e2, f2, j0, j1⟩ := c132 (sc := sc) hCu.1 hg t1 hm hok (a := 0) (b := p) (c := q) (d := q) (by decide) (by omega) (by omega) (by omega)
        simp only [Int.add_zero] at j0 j1
        have j0' : wJ u2 28 0 = lsU A v p q := j0
        have j1' : wJ u2 28 1 = lsD A v p q := j1
        have hCu2 := RC_c hCu (fr_m f2 (m := scC) rfl)
        have t2 : TK u2 (vM A v) (vF A v) := ⟨by rw [fr_I f2 rfl]; exact t1.1, by rw [fr_A (a := 24) f2 rfl]; exact t1.2⟩
        obtain ⟨u3, e3, f3, k0, k1⟩ := c132 (sc := sc) hCu2.1 hg t2 hm hok (a := p) (b := p) (c := 0) (d := q) (by omega) (by omega) (by decide) (by omega)
        simp only [Int.add_zero] at k0 k1
        have k0' : wJ u3 28 0 = gsU A v p q := k0
        have k1' : wJ u3 28 1 = gsD A v p q := k1
        have w1 : (-4000000 ≤ lsU A v p q ∧ lsU A v p q ≤ 4000000) ∧ (0 ≤ lsD A v p q ∧ lsD A v p q ≤ 4000000) := frUD_ran (by omega) (by omega) (by omega) (by omega)
        have w2 : (-4000000 ≤ gsU A v p q ∧ gsU A v p q ≤ 4000000) ∧ (0 ≤ gsD A v p q ∧ gsD A v p q ≤ 4000000) := frUD_ran (by omega) (by omega) (by omega) (by omega)
        have e4 := c206 (sc := sc) q1 j0' j1' w1.1 w1.2
        have e5 := c206 (sc := sc) q1 k0' k1' w2.1 w2.2
        clear j0 j1 k0 k1 r1 r2 r3 r4 hst hok
        rw [fq_207]
        by_cases z1 : lsD A v p q = 0
        · rw [if_pos z1]
          refine ⟨u2, ?_, fr_t (fr_m f1 rfl) (fr_m f2 rfl)⟩
          simp (disch := omega) only [qB_s, qC_t, qC_f, qI_T, qI_F, qI_t, qI_f, r_I, r_L, r_R, r_V, ii_add, ii_sub, ii_mul, ii_neg, bz_0, bz_1, Bool.true_and, Bool.false_and, Bool.and_true, z00, z11, li_0, li_1, li_1000, li_2, lj_0, gL_28_1, gR_0_10, is_0, is_28, s200, e1, ii_lt, ii_eq, e2, j1', lg_eq]
        · rw [if_neg z1]
          by_cases z2 : t * lsD A v p q ≤ lsU A v p q * 1000
          · rw [if_pos z2]
            rw [bz_t ⟨by omega, z2⟩] at e4
            refine ⟨u2, ?_, fr_t (fr_m f1 rfl) (fr_m f2 rfl)⟩
            simp (disch := omega) only [qB_s, qC_t, qC_f, qI_T, qI_F, qI_t, qI_f, r_I, r_L, r_R, r_V, ii_add, ii_sub, ii_mul, ii_neg, bz_0, bz_1, Bool.true_and, Bool.false_and, Bool.and_true, z00, z11, li_0, li_1, li_1000, li_2, lj_0, gL_28_1, gR_0_10, is_0, is_28, s200, e1, ii_lt, ii_eq, e2, j1', lg_eq, e4]
          · rw [if_neg z2]
            rw [bz_f (fun z => z2 z.2)] at e4
            refine ⟨u3, ?_, fr_t (fr_m f1 rfl) (fr_t (fr_m f2 rfl) (fr_m f3 rfl))⟩
            by_cases z3 : 0 < gsD A v p q ∧ t * gsD A v p q ≤ gsU A v p q * 1000
            · rw [if_pos z3]
              rw [bz_t z3] at e5
              simp (disch := omega) only [qB_s, qC_t, qC_f, qI_T, qI_F, qI_t, qI_f, r_I, r_L, r_R, r_V, ii_add, ii_sub, ii_mul, ii_neg, bz_0, bz_1, Bool.true_and, Bool.false_and, Bool.and_true, z00, z11, li_0, li_1, li_1000, li_2, lj_0, gL_28_1, gR_0_10, is_0, is_28, s200, e1, ii_lt, ii_eq, e2, j1', lg_eq, e4, e3, e5]
            · rw [if_neg z3]
              rw [bz_f z3] at e5
              simp (disch := omega) only [qB_s, qC_t, qC_f, qI_T, qI_F, qI_t, qI_f, r_I, r_L, r_R, r_V, ii_add, ii_sub, ii_mul, ii_neg, bz_0, bz_1, Bool.true_and, Bool.false_and, Bool.and_true, z00, z11, li_0, li_1, li_1000, li_2, lj_0, gL_28_1, gR_0_10, is_0, is_28, s200, e1, ii_lt, ii_eq, e2, j1', lg_eq, e4, e3, e5]
      · rw [if_neg (by omega)]
        have h117 := (c117 (sc := sc) hC hA hv1 hv2).2 q3
        exact ⟨w, by
          rw [fq_207]
          simp (disch := omega) only [qB_s, qC_t, qC_f, qI_T, qI_F, qI_t, qI_f, r_I, r_L, r_R, r_V, ii_add, ii_sub, ii_mul, ii_neg, bz_0, bz_1, Bool.true_and, Bool.false_and, Bool.and_true, z00, z11, li_0, li_1, li_1000, li_2, lj_0, gL_28_1, gR_0_10, is_0, is_28, ii_lt, ii_eq, ii_jj, jj_neg, h117, s200], fr_r _ _⟩
    · rw [if_neg (by omega)]
      exact ⟨w, by
        rw [fq_207]
        simp (disch := omega) only [qB_s, qC_t, qC_f, qI_T, qI_F, qI_t, qI_f, r_I, r_L, r_R, r_V, ii_add, ii_sub, ii_mul, ii_neg, bz_0, bz_1, Bool.true_and, Bool.false_and, Bool.and_true, z00, z11, li_0, li_1, li_1000, li_2, lj_0, gL_28_1, gR_0_10, is_0, is_28, ii_lt, ii_eq, ii_jj, jj_neg, s200], fr_r _ _⟩
  · rw [if_neg (by omega)]
    exact ⟨w, by
      rw [fq_207]
      by_cases zz : t < -1000
      · simp (disch := omega) only [qB_s, qC_t, qC_f, qI_T, qI_F, qI_t, qI_f, r_I, r_L, r_R, r_V, ii_add, ii_sub, ii_mul, ii_neg, bz_0, bz_1, Bool.true_and, Bool.false_and, Bool.and_true, z00, z11, li_0, li_1, li_1000, li_2, lj_0, gL_28_1, gR_0_10, is_0, is_28, ii_lt, ii_eq, ii_jj, jj_neg]
      · simp (disch := omega) only [qB_s, qC_t, qC_f, qI_T, qI_F, qI_t, qI_f, r_I, r_L, r_R, r_V, ii_add, ii_sub, ii_mul, ii_neg, bz_0, bz_1, Bool.true_and, Bool.false_and, Bool.and_true, z00, z11, li_0, li_1, li_1000, li_2, lj_0, gL_28_1, gR_0_10, is_0, is_28, ii_lt, ii_eq, ii_jj, jj_neg], fr_r _ _⟩

end L22
