/-! LUCK -/
def scN : List Nat := 6299 :: scM
def lkF (a1 m L : Int) (h : Nat) : Int := cg a1 h * cg (m - a1) (L - h)
section L36
variable {sc : am_X} {w : wo} {A : ab} {ow : Nat → Nat} {n : Int} {g : Int → Int → Int}
theorem WY_fr {v : wo} {l : List Nat} (h : WY w) (q : fr l w v) (z : fhas l 6299 = false) : WY v := by
  unfold WY WYr
  rw [fr_B (a := 62) q z]
  exact h
theorem c139 {m : Nat} {f : Nat → Int} (hT : TK w m f) (hm : m ≤ 60) {a1 l1 L : Int} (ha : 0 ≤ a1 ∧ a1 ≤ m) (hl : 0 ≤ l1 ∧ l1 ≤ m) (hL : 0 ≤ L ∧ L ≤ m) : am_W sc 139 (93, [some (am_R (some 0)), none, none, some (am_I (ii a1)), some (am_I (ii l1)), some (am_I (ii L)), some (am_L (jj 0)), none, some (am_I (ii 0))], [], wst w) = some (some (am_L (jj (sm (lkF a1 m L) (l1 + 1).toNat))), wst w) := by
  have hs := hT.1
  have e := lp_0 (am_W sc 139) (fun h : Nat => (93, [some (am_R (some 0)), none, none, some (am_I (ii a1)), some (am_I (ii l1)), some (am_I (ii L)), some (am_L (jj (sm (lkF a1 m L) h))), none, some (am_I (ii h))], [], wst w)) (l1 + 1).toNat (fun h hh => by
    have p1 := c138 (sc := sc) (w := w) (n := a1) (k := h) (by omega) (by omega) (by omega) (by omega)
    have p2 := c138 (sc := sc) (w := w) (n := m - a1) (k := L - h) (by omega) (by omega) (by omega) (by omega)
    rw [wq_139_93, show sm (lkF a1 m L) (h + 1) = sm (lkF a1 m L) h + cg a1 h * cg (m - a1) (L - h) from rfl]
    simp (disch := omega) only [qB_s, qC_t, qC_f, qI_T, qI_F, qI_t, qI_f, r_I, r_L, r_R, r_V, ii_add, ii_sub, ii_mul, ii_neg, bz_0, bz_1, Bool.true_and, Bool.false_and, Bool.and_true, z00, z11, li_0, li_1, li_2, li_60, lj_0, lj_1, gI_22_3, gR_0_9, is_0, is_22, hs, ii_lt, p1, p2, jj_mul, jj_add, nat_1])
  have e' : am_W sc 139 (93, [some (am_R (some 0)), none, none, some (am_I (ii a1)), some (am_I (ii l1)), some (am_I (ii L)), some (am_L (jj 0)), none, some (am_I (ii 0))], [], wst w) = _ := e
  rw [e', wq_139_93]
  simp (disch := omega) only [qB_s, qC_t, qC_f, qI_T, qI_F, qI_t, qI_f, r_I, r_L, r_R, r_V, ii_add, ii_sub, ii_mul, ii_neg, bz_0, bz_1, Bool.true_and, Bool.false_and, Bool.and_true, z00, z11, li_0, li_1, li_2, li_60, lj_0, lj_1, gI_22_3, gR_0_9, is_0, is_22, ii_lt]
theorem d141 (hw : WY w) {m : Int} (hm : m ≤ 60) {a0 a1 l1 L : Int} (h0 : wA w 60 0 = a0) (h1 : wA w 60 1 = a1) (h2 : wA w 61 1 = l1) (hm2 : a0 = m - a1) (ha : 0 ≤ a1 ∧ a1 ≤ m) (hl : 0 ≤ l1 ∧ l1 ≤ m) (hL : 0 ≤ L ∧ L ≤ m) : ∃ u, am_W sc 141 (76, [some (am_R (some 47)), none, none, some (am_I (ii L)), some (am_L (jj 0)), none, some (am_I (ii 0))], [], wst w) = some (some (am_L (jj (sm (lkF a1 m L) (l1 + 1).toNat))), wst u) ∧ fr [6299] w u ∧ WY u := by
  obtain ⟨u, e, hfr, hu⟩ := lp_s0 (am_W sc 141) (fun (h : Nat) (u : wo) => (76, [some (am_R (some 47)), none, none, some (am_I (ii L)), some (am_L (jj (sm (lkF a1 m L) h))), none, some (am_I (ii h))], [], wst u)) (fun h u => fr [6299] w u ∧ WY u) (l1 + 1).toNat (fun h u hh hu => by
    obtain ⟨u1, p1, f1, y1⟩ := d140 (sc := sc) hu.2 (n := a1) (k := h) (by omega) (by omega) (by omega) (by omega)
    obtain ⟨u2, p2, f2, y2⟩ := d140 (sc := sc) (w := u1) (.inr y1) (n := m - a1) (k := L - h) (by omega) (by omega) (by omega) (by omega)
    have k1 : wA u 60 1 = a1 := by rw [fr_A (a := 60) hu.1 rfl]; exact h1
    have k2 : wA u 61 1 = l1 := by rw [fr_A (a := 61) hu.1 rfl]; exact h2
    have k0 : wA u1 60 0 = m - a1 := by rw [fr_A (a := 60) f1 rfl, fr_A (a := 60) hu.1 rfl, h0, hm2]
    refine ⟨u2, ?_, fr_t hu.1 (fr_t f1 f2), .inr y2⟩
    rw [wq_141_76, show sm (lkF a1 m L) (h + 1) = sm (lkF a1 m L) h + cg a1 h * cg (m - a1) (L - h) from rfl]
    simp (disch := omega) only [qB_s, qC_t, qC_f, qI_T, qI_F, qI_t, qI_f, r_I, r_L, r_R, r_V, ii_add, ii_sub, ii_mul, ii_neg, bz_0, bz_1, Bool.true_and, Bool.false_and, Bool.and_true, z00, z11, li_0, li_1, li_60, lj_0, lj_1, e_60, e_61, gI_47_26, gR_47_28, gR_47_29, is_47, k0, k1, k2, ii_lt, p1, p2, jj_mul, jj_add, nat_1]) w ⟨fr_r _ _, hw⟩
  have e' : am_W sc 141 (76, [some (am_R (some 47)), none, none, some (am_I (ii L)), some (am_L (jj 0)), none, some (am_I (ii 0))], [], wst w) = _ := e
  have k2 : wA u 61 1 = l1 := by rw [fr_A (a := 61) hfr rfl]; exact h2
  refine ⟨u, ?_, hfr, hu⟩
  rw [e', wq_141_76]
  simp (disch := omega) only [qB_s, qC_t, qC_f, qI_T, qI_F, qI_t, qI_f, r_I, r_L, r_R, r_V, ii_add, ii_sub, ii_mul, ii_neg, bz_0, bz_1, Bool.true_and, Bool.false_and, Bool.and_true, z00, z11, li_0, li_1, li_60, lj_0, lj_1, e_60, e_61, gI_47_26, gR_47_28, gR_47_29, is_47, k2, ii_lt]
theorem x_139 (hC : RC ow w A) (hA : okA A) {v x : Int} (hv1 : -2147483648 ≤ v) (hv2 : v ≤ 2147483647) (hx1 : -2147483648 ≤ x) (hx2 : x ≤ 2147483647) : ∃ u, am_F sc 139 [am_R (some 0), am_I (ii v), am_I (ii x)] (wst w) = some (some (am_L (jj (if (x = 0 ∨ x = 1) ∧ (0 ≤ v ∧ v < A.2.2.1.1) then if (60 : Int) < vM A v then -1 else if x = 1 then cg (vM A v) (cL (aG A) (vF A v) 0 (vM A v) + cL (aG A) (vF A v) 1 (vM A v)) else sm (lkF (cA (aG A) (vF A v) 1 (vM A v)) (vM A v) (cL (aG A) (vF A v) 0 (vM A v) + cL (aG A) (vF A v) 1 (vM A v))) (cL (aG A) (vF A v) 1 (vM A v) + 1).toNat else -1))), wst u) ∧ fr scC w u := by
  have hn8 := hA.2.2.1.2.1
  have hn0 := hA.2.2.1.1
  by_cases q1 : x = 0 ∨ x = 1
  · skip
    by_cases q2 : 0 ≤ v ∧ v < A.2.2.1.1
    · skip
      rw [if_pos (by omega)]
      obtain ⟨u, e1, f1, t1, -⟩ := (c117 (sc := sc) hC hA hv1 hv2).1 q2
      have hCu := RC_c hC (fr_m f1 rfl)
      have hm := vM_le hA v
      have hg := hA.1.2.2.1
      have hst := stg hA v
      have hok : ∀ i, i < vM A v → 0 ≤ vF A v i ∧ vF A v i < A.1.1 := fun i hi => vF_ok hA v hi
      have ra := cA_ran (aG A) (vF A v) 1 (vM A v)
      have r0 := cA_ran (aG A) (vF A v) 0 (vM A v)
      have rl := cL_ran (aG A) (vF A v) 1 (vM A v)
      have rl0 := cL_ran (aG A) (vF A v) 0 (vM A v)
      have rb := cL_cA (aG A) (vF A v) 1 (vM A v)
      have rb0 := cL_cA (aG A) (vF A v) 0 (vM A v)
      have r2 := cA_2 (g := aG A) (f := vF A v) (m := vM A v) (fun i hi => (stg hA v i hi).1)
      have hs := t1.1
      have p1 := c127 (sc := sc) hCu.1 hg t1 hm hok (st := 0) (tr := 1) (o := -1) (by decide) (by omega) (by decide)
      have p2 := c127 (sc := sc) hCu.1 hg t1 hm hok (st := 2) (tr := 1) (o := -1) (by decide) (by omega) (by decide)
      have p3 := c127 (sc := sc) hCu.1 hg t1 hm hok (st := 2) (tr := 0) (o := -1) (by decide) (by omega) (by decide)
      have b1 := aL_A (aG A) (vF A v) 1 (vM A v) (fun i hi => (hst i hi).2.1)
      have b2 := aL_L (aG A) (vF A v) 1 (vM A v) (fun i hi => (hst i hi).2.2)
      have b3 := aL_L (aG A) (vF A v) 0 (vM A v) (fun i hi => (hst i hi).2.2)
      unfold aG at b1 b2 b3
      rw [b1] at p1
      rw [b2] at p2
      rw [b3] at p3
      unfold aG at ra r0 rl rl0 rb rb0 r2 ⊢
      have hsum : cL A.1.2.1 (vF A v) 1 (vM A v) + cL A.1.2.1 (vF A v) 0 (vM A v) = cL A.1.2.1 (vF A v) 0 (vM A v) + cL A.1.2.1 (vF A v) 1 (vM A v) := Int.add_comm _ _
      refine ⟨u, ?_, fr_m f1 rfl⟩
      rw [fq_139]
      by_cases q3 : (60 : Int) < vM A v
      · rw [if_pos q3]
        simp (disch := omega) only [qB_s, qC_t, qC_f, qI_T, qI_F, qI_t, qI_f, r_I, r_L, r_R, r_V, ii_add, ii_sub, ii_mul, ii_neg, bz_0, bz_1, Bool.true_and, Bool.false_and, Bool.and_true, z00, z11, li_0, li_1, li_2, li_60, lj_0, lj_1, gI_22_3, gR_0_9, is_0, is_22, s126, e1, hs, ii_lt, ii_eq, jj_neg]
      · rw [if_neg q3]
        by_cases q4 : x = 1
        · rw [if_pos q4]
          have e4 := c138 (sc := sc) (w := u) (n := vM A v) (k := cL A.1.2.1 (vF A v) 0 (vM A v) + cL A.1.2.1 (vF A v) 1 (vM A v)) (by omega) (by omega) (by omega) (by omega)
          simp (disch := omega) only [qB_s, qC_t, qC_f, qI_T, qI_F, qI_t, qI_f, r_I, r_L, r_R, r_V, ii_add, ii_sub, ii_mul, ii_neg, bz_0, bz_1, Bool.true_and, Bool.false_and, Bool.and_true, z00, z11, li_0, li_1, li_2, li_60, lj_0, lj_1, gI_22_3, gR_0_9, is_0, is_22, s126, e1, hs, ii_lt, ii_eq, p1, p2, p3, hsum, e4]
        · rw [if_neg q4]
          have e4 := c139 (sc := sc) t1 (by omega) (a1 := cA A.1.2.1 (vF A v) 1 (vM A v)) (l1 := cL A.1.2.1 (vF A v) 1 (vM A v)) (L := cL A.1.2.1 (vF A v) 0 (vM A v) + cL A.1.2.1 (vF A v) 1 (vM A v)) ra rl (by omega)
          simp (disch := omega) only [qB_s, qC_t, qC_f, qI_T, qI_F, qI_t, qI_f, r_I, r_L, r_R, r_V, ii_add, ii_sub, ii_mul, ii_neg, bz_0, bz_1, Bool.true_and, Bool.false_and, Bool.and_true, z00, z11, li_0, li_1, li_2, li_60, lj_0, lj_1, gI_22_3, gR_0_9, is_0, is_22, s126, e1, hs, ii_lt, ii_eq, p1, p2, p3, hsum, e4]
    · rw [if_neg (by omega)]
      have h117 := (c117 (sc := sc) hC hA hv1 hv2).2 q2
      exact ⟨w, by
        rw [fq_139]
        simp (disch := omega) only [qB_s, qC_t, qC_f, qI_T, qI_F, qI_t, qI_f, r_I, r_L, r_R, r_V, ii_add, ii_sub, ii_mul, ii_neg, bz_0, bz_1, Bool.true_and, Bool.false_and, Bool.and_true, z00, z11, li_0, li_1, li_2, li_60, lj_0, lj_1, gI_22_3, gR_0_9, is_0, is_22, ii_lt, ii_eq, ii_jj, jj_neg, h117, s126], fr_r _ _⟩
  · rw [if_neg (by omega)]
    exact ⟨w, by
      rw [fq_139]
      simp (disch := omega) only [qB_s, qC_t, qC_f, qI_T, qI_F, qI_t, qI_f, r_I, r_L, r_R, r_V, ii_add, ii_sub, ii_mul, ii_neg, bz_0, bz_1, Bool.true_and, Bool.false_and, Bool.and_true, z00, z11, li_0, li_1, li_2, li_60, lj_0, lj_1, gI_22_3, gR_0_9, is_0, is_22, ii_lt, ii_eq, ii_jj, jj_neg, s126], fr_r _ _⟩

theorem y_141 (hM : RM w A) (hw : WY w) (hA : okA A) {v x : Int} (hv1 : -2147483648 ≤ v) (hv2 : v ≤ 2147483647) (hx1 : -2147483648 ≤ x) (hx2 : x ≤ 2147483647) : ∃ u, am_F sc 141 [am_R (some 47), am_I (ii v), am_I (ii x)] (wst w) = some (some (am_L (jj (if (0 ≤ v ∧ v < A.2.2.1.1) ∧ (x = 0 ∨ x = 1) then if (60 : Int) < vM A v then -1 else if x = 1 then cg (vM A v) (cL (aG A) (vF A v) 0 (vM A v) + cL (aG A) (vF A v) 1 (vM A v)) else sm (lkF (cA (aG A) (vF A v) 1 (vM A v)) (vM A v) (cL (aG A) (vF A v) 0 (vM A v) + cL (aG A) (vF A v) 1 (vM A v))) (cL (aG A) (vF A v) 1 (vM A v) + 1).toNat else -1))), wst u) ∧ fr scN w u ∧ WY u := by
  have hn8 := hA.2.2.1.2.1
  have hn0 := hA.2.2.1.1
  have h120 := d120 (sc := sc) hM hn8 hn0 (v := v) hv1 hv2
  by_cases q1 : 0 ≤ v ∧ v < A.2.2.1.1
  · skip
    by_cases q2 : x = 0 ∨ x = 1
    · skip
      rw [if_pos (by omega)]
      obtain ⟨u, e1, f1, t1, -, a0, a1, a2, a3⟩ := d124v (sc := sc) hM hA q1
      have hs := t1.1
      have hm := vM_le hA v
      have hwu := WY_fr hw f1 rfl
      have ra := cA_ran (aG A) (vF A v) 1 (vM A v)
      have r0 := cA_ran (aG A) (vF A v) 0 (vM A v)
      have rl := cL_ran (aG A) (vF A v) 1 (vM A v)
      have rl0 := cL_ran (aG A) (vF A v) 0 (vM A v)
      have rb := cL_cA (aG A) (vF A v) 1 (vM A v)
      have rb0 := cL_cA (aG A) (vF A v) 0 (vM A v)
      have r2 := cA_2 (g := aG A) (f := vF A v) (m := vM A v) (fun i hi => (stg hA v i hi).1)
      by_cases q3 : (60 : Int) < vM A v
      · rw [if_pos q3]
        refine ⟨u, ?_, fr_m f1 rfl, hwu⟩
        rw [fq_141]
        simp (disch := omega) only [qB_s, qC_t, qC_f, qI_T, qI_F, qI_t, qI_f, r_I, r_L, r_R, r_V, ii_add, ii_sub, ii_mul, ii_neg, bz_0, bz_1, Bool.true_and, Bool.false_and, Bool.and_true, z00, z11, li_0, li_1, li_60, lj_0, lj_1, e_60, e_61, gI_47_26, gR_47_28, gR_47_29, is_47, h120, d17, ii_jj, e1, hs, ii_lt, ii_eq, jj_neg]
      · rw [if_neg q3]
        by_cases q4 : x = 1
        · rw [if_pos q4]
          obtain ⟨u2, e4, f4, y4⟩ := d140 (sc := sc) hwu (n := vM A v) (k := cL (aG A) (vF A v) 0 (vM A v) + cL (aG A) (vF A v) 1 (vM A v)) (by omega) (by omega) (by omega) (by omega)
          refine ⟨u2, ?_, fr_t (fr_m f1 rfl) (fr_m f4 rfl), .inr y4⟩
          rw [fq_141]
          simp (disch := omega) only [qB_s, qC_t, qC_f, qI_T, qI_F, qI_t, qI_f, r_I, r_L, r_R, r_V, ii_add, ii_sub, ii_mul, ii_neg, bz_0, bz_1, Bool.true_and, Bool.false_and, Bool.and_true, z00, z11, li_0, li_1, li_60, lj_0, lj_1, e_60, e_61, gI_47_26, gR_47_28, gR_47_29, is_47, h120, d17, ii_jj, e1, hs, ii_lt, ii_eq, a2, a3, e4]
        · rw [if_neg q4]
          obtain ⟨u2, e4, f4, y4⟩ := d141 (sc := sc) hwu (m := vM A v) (by omega) (L := cL (aG A) (vF A v) 0 (vM A v) + cL (aG A) (vF A v) 1 (vM A v)) a0 a1 a3 (by omega) ra rl (by omega)
          refine ⟨u2, ?_, fr_t (fr_m f1 rfl) (fr_m f4 rfl), y4⟩
          rw [fq_141]
          simp (disch := omega) only [qB_s, qC_t, qC_f, qI_T, qI_F, qI_t, qI_f, r_I, r_L, r_R, r_V, ii_add, ii_sub, ii_mul, ii_neg, bz_0, bz_1, Bool.true_and, Bool.false_and, Bool.and_true, z00, z11, li_0, li_1, li_60, lj_0, lj_1, e_60, e_61, gI_47_26, gR_47_28, gR_47_29, is_47, h120, d17, ii_jj, e1, hs, ii_lt, ii_eq, a2, a3, e4]
    · rw [if_neg (by omega)]
      exact ⟨w, by
        rw [fq_141]
        simp (disch := omega) only [qB_s, qC_t, qC_f, qI_T, qI_F, qI_t, qI_f, r_I, r_L, r_R, r_V, ii_add, ii_sub, ii_mul, ii_neg, bz_0, bz_1, Bool.true_and, Bool.false_and, Bool.and_true, z00, z11, li_0, li_1, li_60, lj_0, lj_1, e_60, e_61, gI_47_26, gR_47_28, gR_47_29, is_47, ii_lt, ii_eq, ii_jj, jj_neg, h120, d17], fr_r _ _, hw⟩
  · rw [if_neg (by omega)]
    exact ⟨w, by
      rw [fq_141]
      simp (disch := omega) only [qB_s, qC_t, qC_f, qI_T, qI_F, qI_t, qI_f, r_I, r_L, r_R, r_V, ii_add, ii_sub, ii_mul, ii_neg, bz_0, bz_1, Bool.true_and, Bool.false_and, Bool.and_true, z00, z11, li_0, li_1, li_60, lj_0, lj_1, e_60, e_61, gI_47_26, gR_47_28, gR_47_29, is_47, ii_lt, ii_eq, ii_jj, jj_neg, h120], fr_r _ _, hw⟩

end L36
