/-! IMAGE, BACK IN THE OTHER -/
def sIm : List Nat := [7599, 7699]
def sBm : List Nat := [4700, 4702, 4899, 4999]
section L52
variable {sc : am_X} {w : wo} {A : ab}
theorem y_282 (hM : RM w A) (hA : okA A) {k : Nat} (hk : k < 4) : ∃ u, am_F sc 282 [am_R (some 47), am_I (ii k)] (wst w) = some (some (am_I (ii A.1.1)), wst u) ∧ fr sIm w u ∧ RM u (imA A k) := by
  obtain ⟨h1, h2, h3, h4, h5, h6⟩ := hM
  have hn0 := hA.1.1
  have hn2 := hA.1.2.1
  have hm0 := hA.1.2.2.2.1
  have hm2 := hA.1.2.2.2.2.1
  have p0 := h1.1
  have p1 := h2.1
  obtain ⟨F, hF⟩ : ∃ F, F = fu (fu (wA w 75) (2602 * k) A.1.1) (2602 * k + 1) A.1.2.2.1 := ⟨_, rfl⟩
  have f0 : fr sIm w (uA (uA (uA w 76 (fu (wA w 76) k 1)) 75 (fu (wA w 75) (2602 * k) A.1.1)) 75 F) := fr_uA (fr_uA (fr_uA (fr_r _ _) rfl) rfl) rfl
  obtain ⟨v1, e1, f1, g1⟩ := lp_s0 (am_W sc 282) (fun (i : Nat) (v : wo) => (51, [some (am_R (some 47)), none, some (am_I (ii (2602 * k))), some (am_I (ii i))], [], wst v)) (fun i v => fr sIm w v ∧ (wA v 76 = fu (wA w 76) k 1 ∧ ∀ j : Int, wA v 75 j = if 2602 * k + 2 ≤ j ∧ j < 2602 * k + 2 + i then wA w 48 (j - (2602 * k + 2)) else F j)) 2000 (fun i v hi hv => by
    obtain ⟨fv, h76, hv⟩ := hv
    have h48 : wA v 48 = wA w 48 := fr_A fv rfl
    refine ⟨uA v 75 (fu (wA v 75) (2602 * k + 2 + i) (wA v 48 i)), ?_, fr_uA fv rfl, h76, fun j => ?_⟩
    · rw [wq_282_51]
      simp (disch := omega) only [qB_s, qC_t, qC_f, qI_T, qI_F, qI_t, qI_f, r_I, r_L, r_R, r_V, ii_add, ii_sub, ii_mul, ii_neg, bz_0, bz_1, Bool.true_and, Bool.false_and, Bool.and_true, z00, z11, li_0, li_1, li_2, li_2000, li_2002, li_2602, li_600, lj_0, lj_3, e_48, e_49, e_75, e_76, gI_47_0, gI_47_2, gR_47_1, gR_47_3, gR_47_55, gR_47_56, t_48, t_49, t_75, t_76, ii_lt, nat_1]
    · rw [rA, fu_at, hv j, h48]
      by_cases q : j = 2602 * k + 2 + i
      · rw [if_pos q, if_pos (by omega)]
        congr 1
        omega
      · rw [if_neg q]
        by_cases q2 : 2602 * (k : Int) + 2 ≤ j ∧ j < 2602 * k + 2 + i
        · rw [if_pos q2, if_pos (by omega)]
        · rw [if_neg q2, if_neg (by omega)]) _ ⟨f0, rfl, fun j => by rw [rA, if_neg (by omega)]⟩
  obtain ⟨v2, e2, f2, g2⟩ := lp_s0 (am_W sc 282) (fun (i : Nat) (v : wo) => (82, [some (am_R (some 47)), none, some (am_I (ii (2602 * k))), some (am_I (ii i))], [], wst v)) (fun i v => fr sIm w v ∧ (wA v 76 = fu (wA w 76) k 1 ∧ ∀ j : Int, wA v 75 j = if 2602 * k + 2002 ≤ j ∧ j < 2602 * k + 2002 + i then wA w 49 (j - (2602 * k + 2002)) else wA v1 75 j)) 600 (fun i v hi hv => by
    obtain ⟨fv, h76, hv⟩ := hv
    have h49 : wA v 49 = wA w 49 := fr_A fv rfl
    refine ⟨uA v 75 (fu (wA v 75) (2602 * k + 2002 + i) (wA v 49 i)), ?_, fr_uA fv rfl, h76, fun j => ?_⟩
    · rw [wq_282_82]
      simp (disch := omega) only [qB_s, qC_t, qC_f, qI_T, qI_F, qI_t, qI_f, r_I, r_L, r_R, r_V, ii_add, ii_sub, ii_mul, ii_neg, bz_0, bz_1, Bool.true_and, Bool.false_and, Bool.and_true, z00, z11, li_0, li_1, li_2, li_2000, li_2002, li_2602, li_600, lj_0, lj_3, e_48, e_49, e_75, e_76, gI_47_0, gI_47_2, gR_47_1, gR_47_3, gR_47_55, gR_47_56, t_48, t_49, t_75, t_76, ii_lt, nat_1]
    · rw [rA, fu_at, hv j, h49]
      by_cases q : j = 2602 * k + 2002 + i
      · rw [if_pos q, if_pos (by omega)]
        congr 1
        omega
      · rw [if_neg q]
        by_cases q2 : 2602 * (k : Int) + 2002 ≤ j ∧ j < 2602 * k + 2002 + i
        · rw [if_pos q2, if_pos (by omega)]
        · rw [if_neg q2, if_neg (by omega)]) v1 ⟨f1, g1.1, fun j => by rw [if_neg (by omega)]⟩
  have hv75 : ∀ j : Int, wA v2 75 j = if 2602 * k + 2002 ≤ j ∧ j < 2602 * k + 2602 then wA w 49 (j - (2602 * k + 2002)) else if 2602 * k + 2 ≤ j ∧ j < 2602 * k + 2002 then wA w 48 (j - (2602 * k + 2)) else F j := fun j => by
    rw [g2.2 j, g1.2 j]
    by_cases q : 2602 * (k : Int) + 2002 ≤ j ∧ j < 2602 * k + 2602
    · rw [if_pos (by omega), if_pos q]
    · rw [if_neg (by omega), if_neg q]
      by_cases q2 : 2602 * (k : Int) + 2 ≤ j ∧ j < 2602 * k + 2002
      · rw [if_pos (by omega), if_pos q2]
      · rw [if_neg (by omega), if_neg q2]
  have p0v : wI v2 47 0 = A.1.1 := by rw [fr_I f2 rfl]; exact p0
  refine ⟨v2, ?_, f2, MS_g h1 f2 rfl, ML_g h2 f2 rfl, MT_g h3 f2 rfl, MV_g h4 f2 rfl, MR_g h5 f2 rfl, fun j hj => ?_⟩
  · have e1' : am_W sc 282 (51, [some (am_R (some 47)), none, some (am_I (ii (2602 * k))), some (am_I (ii 0))], [], wst (uA (uA (uA w 76 (fu (wA w 76) k 1)) 75 (fu (wA w 75) (2602 * k) A.1.1)) 75 F)) = _ := e1
    have e2' : am_W sc 282 (82, [some (am_R (some 47)), none, some (am_I (ii (2602 * k))), some (am_I (ii 0))], [], wst v1) = _ := e2
    rw [hF] at e1'
    have a75 : wA (uA w 76 (fu (wA w 76) k 1)) 75 = wA w 75 := rfl
    rw [fq_282]
    simp (disch := omega) only [qB_s, qC_t, qC_f, qI_T, qI_F, qI_t, qI_f, r_I, r_L, r_R, r_V, ii_add, ii_sub, ii_mul, ii_neg, bz_0, bz_1, Bool.true_and, Bool.false_and, Bool.and_true, z00, z11, li_0, li_1, li_2, li_2000, li_2002, li_2602, li_600, lj_0, lj_3, e_48, e_49, e_75, e_76, gI_47_0, gI_47_2, gR_47_1, gR_47_3, gR_47_55, gR_47_56, t_48, t_49, t_75, t_76, ii_jj, d17, ii_eq, p0, p1, uA_I, a75, rA]
    rw [e1', wq_282_51]
    simp (disch := omega) only [qB_s, qC_t, qC_f, qI_T, qI_F, qI_t, qI_f, r_I, r_L, r_R, r_V, ii_add, ii_sub, ii_mul, ii_neg, bz_0, bz_1, Bool.true_and, Bool.false_and, Bool.and_true, z00, z11, li_0, li_1, li_2, li_2000, li_2002, li_2602, li_600, lj_0, lj_3, e_48, e_49, e_75, e_76, gI_47_0, gI_47_2, gR_47_1, gR_47_3, gR_47_55, gR_47_56, t_48, t_49, t_75, t_76, ii_lt]
    rw [e2', wq_282_82]
    simp (disch := omega) only [qB_s, qC_t, qC_f, qI_T, qI_F, qI_t, qI_f, r_I, r_L, r_R, r_V, ii_add, ii_sub, ii_mul, ii_neg, bz_0, bz_1, Bool.true_and, Bool.false_and, Bool.and_true, z00, z11, li_0, li_1, li_2, li_2000, li_2002, li_2602, li_600, lj_0, lj_3, e_48, e_49, e_75, e_76, gI_47_0, gI_47_2, gR_47_1, gR_47_3, gR_47_55, gR_47_56, t_48, t_49, t_75, t_76, ii_lt, p0v]
  · rw [g2.1, fu_at]
    by_cases q : j = k
    · rw [q]
      refine .inr ⟨A.1, if_pos rfl, if_pos rfl, ?_, ?_, fun x y x0 x1 y0 y1 => ?_, fun x y x0 x1 y0 y1 => ?_⟩
      · rw [hv75, if_neg (by omega), if_neg (by omega), hF, fu_at, if_neg (by omega), fu_at, if_pos rfl]
      · rw [hv75, if_neg (by omega), if_neg (by omega), hF, fu_at, if_pos rfl]
      · rw [hv75, if_neg (by omega), if_pos (by omega), show 2602 * (k : Int) + 2 + (10 * x + y) - (2602 * k + 2) = 10 * x + y by omega]
        exact h1.2.2.2 x y x0 x1 y0 y1
      · rw [hv75, if_pos (by omega), show 2602 * (k : Int) + 2002 + (3 * x + y) - (2602 * k + 2002) = 3 * x + y by omega]
        exact h2.2 x y x0 x1 y0 y1
    · rw [if_neg (by omega)]
      have keep : ∀ i : Int, 2602 * (j : Int) ≤ i → i < 2602 * j + 2602 → wA v2 75 i = wA w 75 i := fun i i0 i1 => by
        rw [hv75, if_neg (by omega), if_neg (by omega), hF, fu_at, if_neg (by omega), fu_at, if_neg (by omega)]
      rcases h6 j hj with ⟨q1, q2⟩ | ⟨c, q1, q2, q3, q4, q5, q6⟩
      · exact .inl ⟨(if_neg q).trans q1, q2⟩
      · have hc := hA.2.2.2.2 j c hj q1
        have hc2 := hc.2.1
        have hc3 := hc.2.2.2.2.1
        refine .inr ⟨c, (if_neg q).trans q1, q2, ?_, ?_, fun x y x0 x1 y0 y1 => ?_, fun x y x0 x1 y0 y1 => ?_⟩
        · rw [keep _ (by omega) (by omega)]; exact q3
        · rw [keep _ (by omega) (by omega)]; exact q4
        · rw [keep _ (by omega) (by omega)]; exact q5 x y x0 x1 y0 y1
        · rw [keep _ (by omega) (by omega)]; exact q6 x y x0 x1 y0 y1
theorem y_282n {k : Int} (hk1 : -2147483648 ≤ k) (hk2 : k ≤ 2147483647) (h : ¬ (0 ≤ k ∧ k < 4)) : am_F sc 282 [am_R (some 47), am_I (ii k)] (wst w) = some (some (am_I (ii (-1))), wst w) := by
  rw [fq_282]
  simp (disch := omega) only [qB_s, qC_t, qC_f, qI_T, qI_F, qI_t, qI_f, r_I, r_L, r_R, r_V, ii_add, ii_sub, ii_mul, ii_neg, bz_0, bz_1, Bool.true_and, Bool.false_and, Bool.and_true, z00, z11, li_0, li_1, li_2, li_2000, li_2002, li_2602, li_600, lj_0, lj_3, e_48, e_49, e_75, e_76, gI_47_0, gI_47_2, gR_47_1, gR_47_3, gR_47_55, gR_47_56, t_48, t_49, t_75, t_76, ii_jj, d17, ii_eq]
theorem y_284 (hM : RM w A) (hA : okA A) {k : Nat} (hk : k < 4) {c : cl} (h : A.2.2.2.2 k = some c) : ∃ u, am_F sc 284 [am_R (some 47), am_I (ii k)] (wst w) = some (some (am_I (ii c.1)), wst u) ∧ fr sBm w u ∧ RM u (abC A c) := by
  obtain ⟨h1, h2, h3, h4, h5, h6⟩ := hM
  have hc := hA.2.2.2.2 k c hk h
  have hn0 := hc.1
  have hn2 := hc.2.1
  have hm0 := hc.2.2.2.1
  have hm2 := hc.2.2.2.2.1
  rcases h6 k hk with ⟨q1, -⟩ | ⟨c', q1, q2, q3, q4, q5, q6⟩
  · rw [h] at q1
    cases q1
  · have ec : c = c' := Option.some.inj (h.symm.trans q1)
    subst ec
    have f0 : fr sBm w (uI (uI w 47 0 c.1) 47 2 c.2.2.1) := fr_uI (fr_uI (fr_r _ _) rfl) rfl
    obtain ⟨v1, e1, f1, g1⟩ := lp_s0 (am_W sc 284) (fun (i : Nat) (v : wo) => (53, [some (am_R (some 47)), none, some (am_I (ii (2602 * k))), some (am_I (ii i))], [], wst v)) (fun i v => fr sBm w v ∧ (wI v 47 0 = c.1 ∧ wI v 47 2 = c.2.2.1 ∧ ∀ j : Int, 0 ≤ j → j < i → wA v 48 j = wA w 75 (2602 * k + 2 + j))) 2000 (fun i v hi hv => by
      obtain ⟨fv, a1, a2, hv⟩ := hv
      have h75 : wA v 75 = wA w 75 := fr_A fv rfl
      refine ⟨uA v 48 (fu (wA v 48) i (wA v 75 (2602 * k + 2 + i))), ?_, fr_uA fv rfl, a1, a2, fun j j0 j1 => ?_⟩
      · rw [wq_284_53]
        simp (disch := omega) only [qB_s, qC_t, qC_f, qI_T, qI_F, qI_t, qI_f, r_I, r_L, r_R, r_V, ii_add, ii_sub, ii_mul, ii_neg, bz_0, bz_1, Bool.true_and, Bool.false_and, Bool.and_true, z00, z11, li_0, li_1, li_2, li_2000, li_2002, li_2602, li_600, lj_0, lj_3, e_48, e_49, e_75, e_76, gI_47_0, gR_47_1, gR_47_3, gR_47_55, gR_47_56, pI_47_0, pI_47_2, t_48, t_49, t_75, ii_lt, nat_1]
      · rw [rA, fu_at, h75]
        by_cases q : j = i
        · rw [if_pos q, q]
        · rw [if_neg q]
          exact hv j j0 (by omega)) _ ⟨f0, rfl, rfl, fun j j0 j1 => absurd j1 (by omega)⟩
    obtain ⟨v2, e2, f2, g2⟩ := lp_s0 (am_W sc 284) (fun (i : Nat) (v : wo) => (84, [some (am_R (some 47)), none, some (am_I (ii (2602 * k))), some (am_I (ii i))], [], wst v)) (fun i v => fr sBm w v ∧ (wI v 47 0 = c.1 ∧ wI v 47 2 = c.2.2.1 ∧ wA v 48 = wA v1 48 ∧ ∀ j : Int, 0 ≤ j → j < i → wA v 49 j = wA w 75 (2602 * k + 2002 + j))) 600 (fun i v hi hv => by
      obtain ⟨fv, a1, a2, a3, hv⟩ := hv
      have h75 : wA v 75 = wA w 75 := fr_A fv rfl
      refine ⟨uA v 49 (fu (wA v 49) i (wA v 75 (2602 * k + 2002 + i))), ?_, fr_uA fv rfl, a1, a2, a3, fun j j0 j1 => ?_⟩
      · rw [wq_284_84]
        simp (disch := omega) only [qB_s, qC_t, qC_f, qI_T, qI_F, qI_t, qI_f, r_I, r_L, r_R, r_V, ii_add, ii_sub, ii_mul, ii_neg, bz_0, bz_1, Bool.true_and, Bool.false_and, Bool.and_true, z00, z11, li_0, li_1, li_2, li_2000, li_2002, li_2602, li_600, lj_0, lj_3, e_48, e_49, e_75, e_76, gI_47_0, gR_47_1, gR_47_3, gR_47_55, gR_47_56, pI_47_0, pI_47_2, t_48, t_49, t_75, ii_lt, nat_1]
      · rw [rA, fu_at, h75]
        by_cases q : j = i
        · rw [if_pos q, q]
        · rw [if_neg q]
          exact hv j j0 (by omega)) v1 ⟨f1, g1.1, g1.2.1, rfl, fun j j0 j1 => absurd j1 (by omega)⟩
    obtain ⟨a1, a2, a3, a4⟩ := g2
    refine ⟨v2, ?_, f2, ⟨a1, hn0, hn2, fun x y x0 x1 y0 y1 => ?_⟩, ⟨a2, fun x y x0 x1 y0 y1 => ?_⟩, MT_g h3 f2 rfl, MV_g h4 f2 rfl, MR_g h5 f2 rfl, MI_g h6 f2 rfl⟩
    · have e1' : am_W sc 284 (53, [some (am_R (some 47)), none, some (am_I (ii (2602 * k))), some (am_I (ii 0))], [], wst (uI (uI w 47 0 c.1) 47 2 c.2.2.1)) = _ := e1
      have e2' : am_W sc 284 (84, [some (am_R (some 47)), none, some (am_I (ii (2602 * k))), some (am_I (ii 0))], [], wst v1) = _ := e2
      rw [fq_284]
      simp (disch := omega) only [qB_s, qC_t, qC_f, qI_T, qI_F, qI_t, qI_f, r_I, r_L, r_R, r_V, ii_add, ii_sub, ii_mul, ii_neg, bz_0, bz_1, Bool.true_and, Bool.false_and, Bool.and_true, z00, z11, li_0, li_1, li_2, li_2000, li_2002, li_2602, li_600, lj_0, lj_3, e_48, e_49, e_75, e_76, gI_47_0, gR_47_1, gR_47_3, gR_47_55, gR_47_56, pI_47_0, pI_47_2, t_48, t_49, t_75, ii_jj, d17, ii_eq, q2, q3, q4, uI_A]
      rw [e1', wq_284_53]
      simp (disch := omega) only [qB_s, qC_t, qC_f, qI_T, qI_F, qI_t, qI_f, r_I, r_L, r_R, r_V, ii_add, ii_sub, ii_mul, ii_neg, bz_0, bz_1, Bool.true_and, Bool.false_and, Bool.and_true, z00, z11, li_0, li_1, li_2, li_2000, li_2002, li_2602, li_600, lj_0, lj_3, e_48, e_49, e_75, e_76, gI_47_0, gR_47_1, gR_47_3, gR_47_55, gR_47_56, pI_47_0, pI_47_2, t_48, t_49, t_75, ii_lt]
      rw [e2', wq_284_84]
      simp (disch := omega) only [qB_s, qC_t, qC_f, qI_T, qI_F, qI_t, qI_f, r_I, r_L, r_R, r_V, ii_add, ii_sub, ii_mul, ii_neg, bz_0, bz_1, Bool.true_and, Bool.false_and, Bool.and_true, z00, z11, li_0, li_1, li_2, li_2000, li_2002, li_2602, li_600, lj_0, lj_3, e_48, e_49, e_75, e_76, gI_47_0, gR_47_1, gR_47_3, gR_47_55, gR_47_56, pI_47_0, pI_47_2, t_48, t_49, t_75, ii_lt, a1]
    · have x1' : x < c.1 := x1
      rw [a3, g1.2.2 _ (by omega) (by omega)]
      exact q5 x y x0 x1 y0 y1
    · have x1' : x < c.2.2.1 := x1
      rw [a4 _ (by omega) (by omega)]
      exact q6 x y x0 x1 y0 y1
theorem y_284n (hM : RM w A) {k : Int} (hk1 : -2147483648 ≤ k) (hk2 : k ≤ 2147483647) (h : ∀ n : Nat, k = n → n < 4 → A.2.2.2.2 n = none) : am_F sc 284 [am_R (some 47), am_I (ii k)] (wst w) = some (some (am_I (ii (-1))), wst w) := by
  rw [fq_284]
  by_cases q : 0 ≤ k ∧ k ≤ 3
  · obtain ⟨n, rfl⟩ := Int.eq_ofNat_of_zero_le q.1
    have hn := h n rfl (by omega)
    rcases hM.2.2.2.2.2 n (by omega) with ⟨-, r⟩ | ⟨c, e, -⟩
    · simp (disch := omega) only [qB_s, qC_t, qC_f, qI_T, qI_F, qI_t, qI_f, r_I, r_L, r_R, r_V, ii_add, ii_sub, ii_mul, ii_neg, bz_0, bz_1, Bool.true_and, Bool.false_and, Bool.and_true, z00, z11, li_0, li_1, li_2, li_2000, li_2002, li_2602, li_600, lj_0, lj_3, e_48, e_49, e_75, e_76, gI_47_0, gR_47_1, gR_47_3, gR_47_55, gR_47_56, pI_47_0, pI_47_2, t_48, t_49, t_75, ii_jj, d17, ii_eq, r]
    · rw [hn] at e
      cases e
  · simp (disch := omega) only [qB_s, qC_t, qC_f, qI_T, qI_F, qI_t, qI_f, r_I, r_L, r_R, r_V, ii_add, ii_sub, ii_mul, ii_neg, bz_0, bz_1, Bool.true_and, Bool.false_and, Bool.and_true, z00, z11, li_0, li_1, li_2, li_2000, li_2002, li_2602, li_600, lj_0, lj_3, e_48, e_49, e_75, e_76, gI_47_0, gR_47_1, gR_47_3, gR_47_55, gR_47_56, pI_47_0, pI_47_2, t_48, t_49, t_75, ii_jj, d17, ii_eq]
end L52
