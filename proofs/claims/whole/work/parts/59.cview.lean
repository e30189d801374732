/-! VIEW AND RULE, THE CLASS -/
/-- a view in the making -/
def VW (w : wo) (p : Nat) (x : vw) : Prop := (77 ≤ p ∧ p + 2 ≤ wn w) ∧ (wS w p = some (0, 10, 0) ∧ wF w p 3 = some (p + 1) ∧ wS w (p + 1) = some (1, 0, 6)) ∧ ((x.1 = none ∧ wF w p 0 = none) ∨ (∃ P t, x.1 = some P ∧ wF w p 0 = some t ∧ p + 2 ≤ t ∧ t + 2 ≤ wn w ∧ TN w t P)) ∧ wI w p 1 = x.2.1 ∧ (0 ≤ wI w p 2 ∧ wI w p 2 < 64 ∧ ∀ m, 0 ≤ m → m < 6 → (bt (wI w p 2) m = 1 ↔ x.2.2.1 m ≠ 0)) ∧ (∀ m, 0 ≤ m → m < 6 → x.2.2.1 m ≠ 0 → wA w (p + 1) m = x.2.2.1 m) ∧ wI w p 4 = x.2.2.2
/-- cells from 77 to m are the same -/
def hiS (m : Nat) (w u : wo) : Prop := (∀ a, 77 ≤ a → a < m → (∀ k, wI u a k = wI w a k ∧ wF u a k = wF w a k) ∧ wA u a = wA w a ∧ wS u a = wS w a) ∧ wn w ≤ wn u
theorem hiS_fr {l : List Nat} {w u : wo} (f : fr l w u) (q : flow l = true) (m : Nat) : hiS m w u := ⟨fun a ha _ => ⟨fun k => ⟨fr_I f (flow_of q ha), fr_F f a k⟩, fr_A f (flow_of q ha), fr_S f a⟩, Nat.le_of_eq (fr_n f).symm⟩
theorem hiS_X {m : Nat} {w u : wo} (h : eX m w u) : hiS m w u := ⟨fun a _ hb => ⟨fun k => ⟨((h.1 a hb).1 k).1, ((h.1 a hb).1 k).2.2⟩, (h.1 a hb).2.1, (h.1 a hb).2.2.2.2⟩, h.2⟩
theorem TN_h {w u : wo} {m p : Nat} {P : pg} (h : TN w p P) (s : hiS m w u) (h1 : 77 ≤ p) (h2 : p + 2 ≤ m) : TN u p P := by
  obtain ⟨a1, a2, a3⟩ := s.1 p h1 (by omega)
  obtain ⟨b1, b2, b3⟩ := s.1 (p + 1) (by omega) (by omega)
  exact TN_e h ⟨a3, b3⟩ (a1 0).2 b2 (a1 1).1
theorem VW_h {w u : wo} {p : Nat} {x : vw} (h : VW w p x) (s : hiS (wn w) w u) : VW u p x := by
  obtain ⟨⟨h1, h2⟩, ⟨h3, h4, h5⟩, h6, h7, h8, h9, h10⟩ := h
  obtain ⟨a1, a2, a3⟩ := s.1 p h1 (by omega)
  obtain ⟨b1, b2, b3⟩ := s.1 (p + 1) (by omega) (by omega)
  refine ⟨⟨h1, Nat.le_trans h2 s.2⟩, ⟨by rw [a3]; exact h3, by rw [(a1 3).2]; exact h4, by rw [b3]; exact h5⟩, ?_, by rw [(a1 1).1]; exact h7, by rw [(a1 2).1]; exact h8, by rw [b2]; exact h9, by rw [(a1 4).1]; exact h10⟩
  rw [(a1 0).2]
  rcases h6 with h6 | ⟨P, t, q1, q2, q3, q4, q5⟩
  · exact .inl h6
  · exact .inr ⟨P, t, q1, q2, q3, Nat.le_trans q4 s.2, TN_h q5 s (by omega) q4⟩
def bC (x : vw) : Nat := bif x.1.isNone then 2 else 0
def bL (x : vw) : Nat := bif x.1.isNone then 242 else 0
section L59
variable {sc : am_X} {w : wo} {b : Nat → Int} {L T : Nat}
def CV (w u : wo) (b : Nat → Int) (L T p : Nat) (x : vw) (r : Sum Int (Nat × vw)) : Prop := match r with
  | .inl c => CY u b L T c 700 ∧ wn u ≤ wn w + bC x ∧ wl u ≤ wl w + bL x
  | .inr s => CQ u b L T s.1 ∧ VW u p s.2 ∧ wn u + bC s.2 ≤ wn w + bC x ∧ wl u + bL s.2 ≤ wl w + bL x
theorem CQ_X {u : wo} {j : Nat} (h : CQ w b L T j) {m : Nat} (x : eX m w u) (hm : 77 ≤ m) : CQ u b L T j := by
  have x1 := (x.1 13 (by omega)).1
  exact ⟨CK_X h.1 x hm, by rw [(x1 6).1]; exact h.2.1, by rw [(x1 13).1]; exact h.2.2⟩
theorem CY_X2 {u : wo} {c : Int} {N : Nat} (h : CY w b L T c N) {m : Nat} (x : eX m w u) (hm : 77 ≤ m) : CY u b L T c N := by
  have x1 := (x.1 13 (by omega)).1
  obtain ⟨h1, h2, h3, j, h4, h5⟩ := h
  exact ⟨CK_X h1 x hm, by rw [(x1 13).1]; exact h2, h3, j, by rw [(x1 6).1]; exact h4, h5⟩
theorem CY_m {c : Int} {N M : Nat} (h : CY w b L T c N) (hm : N ≤ M) : CY w b L T c M := by
  obtain ⟨h1, h2, h3, j, h4, h5⟩ := h
  exact ⟨h1, h2, h3, j, h4, by omega⟩
/-- what is read of a view -/
theorem VW_g {p : Nat} {x : vw} (h : VW w p x) : am_gR (wst w) p 10 0 = some (wF w p 0) ∧ (x.1.isNone = (wF w p 0).isNone) ∧ am_gI (wst w) p 10 4 = some (ii x.2.2.2) ∧ am_gI (wst w) p 10 1 = some (ii x.2.1) ∧ am_gI (wst w) p 10 2 = some (ii (wI w p 2)) ∧ am_is (wst w) p 10 = true ∧ shp w p = some (0, 10, 0) := by
  obtain ⟨⟨h1, h2⟩, ⟨h3, h4, h5⟩, h6, h7, h8, h9, h10⟩ := h
  have hs : shp w p = some (0, 10, 0) := by rw [shp_hi h1, h3]
  refine ⟨by rw [gR_of hs rfl, ref_hi h1], ?_, by rw [gI_of hs rfl, h10], by rw [gI_of hs rfl, h7], gI_of hs rfl, is_of hs, hs⟩
  rcases h6 with ⟨q1, q2⟩ | ⟨P, t, q1, q2, -⟩
  · rw [q1, q2]; rfl
  · rw [q1, q2]; rfl
theorem c72f {p : Nat} {K c : Int} (h13 : wI w 13 13 = c) (hc : 1 ≤ c ∧ c ≤ 10000) : am_W sc 72 (54, [some (am_R (some 13)), some (am_R (some p)), some (am_I (ii K)), none, none], [], wst w) = some (none, wst w) := by
  rw [wq_72_54]
  simp (disch := omega) only [qB_s, qC_t, qC_f, qI_T, qI_F, qI_t, qI_f, r_I, r_L, r_R, r_V, ii_add, ii_sub, ii_mul, ii_neg, bz_0, bz_1, Bool.true_and, Bool.false_and, Bool.and_true, z00, z11, li_0, li_1, li_11, li_13, li_14, li_31, li_4, li_99, li_999, gI_13_13, gI_13_6, is_13, pI_13_6, ii_eq, h13]
/-- the clause has a fault at once -/
theorem c72b (hT : TT b L T) {j p : Nat} {x : vw} (hj : j ≤ T) (hQ : CQ w b L T j) (hV : VW w p x) {c : Int} (hc : 0 ≤ c ∧ c ≤ 7) (he : am_F sc 72 [am_R (some 13), am_R (some p)] (wst w) = am_W sc 72 (54, [some (am_R (some 13)), some (am_R (some p)), some (am_I (ii (tK b j))), none, none], [], wst (uI w 13 13 (fl b j c)))) : ∃ u, am_F sc 72 [am_R (some 13), am_R (some p)] (wst w) = some (none, wst u) ∧ eF lR p w u ∧ CV w u b L T p x (.inl (fl b j c)) := by
  obtain ⟨f1, y1⟩ := CY_f hT hQ hc
  have hT4 := hT.2.1
  refine ⟨uI w 13 13 (fl b j c), ?_, eF_fr f1 p, CY_m y1 (by omega), Nat.le_add_right _ _, Nat.le_add_right _ _⟩
  rw [he]
  exact c72f (rI _ _ _ _) (fl_r hT j hc.1 hc.2)
theorem c71 {p : Nat} {x : vw} (hV : VW w p x) {m n : Int} (h0 : 0 ≤ m) (h6 : m < 6) : am_F sc 71 [am_R (some p), am_I (ii m), am_I (ii n)] (wst w) = some (none, wst (uA (uI w p 2 (orB (wI w p 2) m)) (p + 1) (fu (wA w (p + 1)) m n))) := by
  have hg := VW_g hV
  obtain ⟨⟨h1, h2⟩, ⟨h3, h4, h5⟩, -, -, h8, -⟩ := hV
  obtain ⟨o1, -⟩ := orB_ii h8.1 h8.2.1 h0 h6
  have h20 := s20 (sc := sc) (w := w) (x := m) (by omega) (by omega)
  rw [bz_t ⟨h0, h6⟩] at h20
  have e1 : am_pf (wst w) p 10 2 (am_I (ii (orB (wI w p 2) m))) = some (wst (uI w p 2 (orB (wI w p 2) m))) := pI_of hg.2.2.2.2.2.2 rfl
  have sp : shp (uI w p 2 (orB (wI w p 2) m)) p = some (0, 10, 0) := by rw [shp_hi h1]; exact h3
  have sq : shp (uI w p 2 (orB (wI w p 2) m)) (p + 1) = some (1, 0, 6) := by rw [shp_hi (by omega)]; exact h5
  have e2 : am_gR (wst (uI w p 2 (orB (wI w p 2) m))) p 10 3 = some (some (p + 1)) := by rw [gR_of sp rfl, ref_hi h1]; exact congrArg some h4
  have e3 : am_tI (wst (uI w p 2 (orB (wI w p 2) m))) (p + 1) (ii m) (ii n) = some (wst (uA (uI w p 2 (orB (wI w p 2) m)) (p + 1) (fu (wA w (p + 1)) m n))) := tI_of (n := 6) sq h0 h6 (by decide)
  have g2 := hg.2.2.2.2.1
  rw [fq_71]
  simp (disch := omega) only [qB_s, qC_t, qC_f, qI_T, qI_F, qI_t, qI_f, r_I, r_L, r_R, r_V, ii_add, ii_sub, ii_mul, ii_neg, bz_0, bz_1, Bool.true_and, Bool.false_and, Bool.and_true, z00, z11, li_0, li_1, li_31, ii_eq, h20, g2, o1, e1, e2, e3]
theorem c72 (hT : TT b L T) {j p : Nat} {x : vw} (hj : j ≤ T) (hQ : CQ w b L T j) (hV : VW w p x) (hx : okV x) : ∃ u, am_F sc 72 [am_R (some 13), am_R (some p)] (wst w) = some (none, wst u) ∧ eF lR p w u ∧ CV w u b L T p x (aCls b (j, x)) := by
  obtain ⟨q1, q2, q3⟩ := id hQ
  have hT4 := hT.2.1
  have hk := tK_r hT.1 j
  have h54 := c54 (sc := sc) hT q1 q2 (by omega)
  obtain ⟨g0, g00, g4, g1, g2, gi, gs⟩ := VW_g hV
  have b55 := fun c => c55 (sc := sc) hT q1 q2 (by omega) q3 (c := c)
  have b55x := fun (c : Int) (hc : 0 ≤ c ∧ c ≤ 7) (y : Int32) => c55x (sc := sc) (w := uI w 13 13 (fl b j c)) (rI _ _ _ _) (fl_r hT j hc.1 hc.2) (x := y)
  have b55y := b55x 4 ⟨by decide, by decide⟩
  have hV0 := hV
  obtain ⟨⟨v1, v2⟩, ⟨v3, v4, v5⟩, v6, v7, v8, v9, v10⟩ := hV
  have f1 : fr lR w (uI w 13 6 (j + 1)) := fr_uI (fr_r _ _) rfl
  have hQ1 : CQ (uI w 13 6 (j + 1)) b L T (j + 1) := ⟨CK_R q1 f1, by rw [rI, nat_1], q3⟩
  have hV1 : VW (uI w 13 6 (j + 1)) p x := VW_h hV0 (hiS_fr f1 rfl _)
  obtain ⟨k0, k00, k4, k1, k2, ki, ks⟩ := VW_g hV1
  have n1 : wn (uI w 13 6 (j + 1)) = wn w := fr_n f1
  have l1 : wl (uI w 13 6 (j + 1)) = wl w := fr_l f1
  unfold aCls
  by_cases y1 : tK b j = 11
  · have hjT := (TT_lt hT hj (by omega)).1
    rw [if_pos y1]
    by_cases y2 : x.1.isNone = true
    · rw [if_pos y2]
      have y2' : (wF w p 0).isNone = true := by rw [← g00]; exact y2
      obtain ⟨u1, q, m1, m2⟩ := c68 (sc := sc) (w := uI w 13 6 (j + 1)) hT (j := j + 1) (by omega) (by rw [n1]; omega) hQ1
      have hb2 : bC x = 2 := by unfold bC; rw [y2]; rfl
      have hl2 : bL x = 242 := by unfold bL; rw [y2]; rfl
      have run : ∀ u2 : wo, am_pf (wst u1) p 10 0 (am_R q) = some (wst u2) → am_F sc 72 [am_R (some 13), am_R (some p)] (wst w) = some (none, wst u2) := fun u2 e => by
        have h54' := h54
        rw [y1] at h54'
        rw [fq_72]
        simp (disch := omega) only [qB_s, qC_t, qC_f, qI_T, qI_F, qI_t, qI_f, r_I, r_L, r_R, r_V, ii_add, ii_sub, ii_mul, ii_neg, bz_0, bz_1, Bool.true_and, Bool.false_and, Bool.and_true, z00, z11, li_0, li_1, li_11, li_13, li_14, li_31, li_4, li_99, li_999, gI_13_13, gI_13_6, is_13, pI_13_6, ii_lt, ii_eq, h54', g0, y2']
        rw [wq_72_54]
        simp (disch := omega) only [qB_s, qC_t, qC_f, qI_T, qI_F, qI_t, qI_f, r_I, r_L, r_R, r_V, ii_add, ii_sub, ii_mul, ii_neg, bz_0, bz_1, Bool.true_and, Bool.false_and, Bool.and_true, z00, z11, li_0, li_1, li_11, li_13, li_14, li_31, li_4, li_99, li_999, gI_13_13, gI_13_6, is_13, pI_13_6, ii_lt, ii_eq, q3, q2, m1, e]
      revert m2
      cases hr : aTst b (j + 1) with
      | inl c =>
        intro m2
        have m2 : q = none ∧ fr lR (uI w 13 6 (j + 1)) u1 ∧ CX u1 b L T c 600 := m2
        obtain ⟨m3, m4, m5⟩ := m2
        have f2 := fr_t f1 m4
        have s1 : shp u1 p = some (0, 10, 0) := by rw [shp_hi v1, fr_S f2]; exact v3
        rw [m3] at run
        refine ⟨uF u1 p 0 none, run _ (pR_of v1 s1 rfl), eF_t (eF_fr f2 p) (eF_X (eX_F (Nat.le_refl p) _ _) (Nat.le_refl _)), CY_X2 (CY_m (CY_X m5) (by omega)) (eX_F v1 _ _) (Nat.le_refl _), ?_, ?_⟩
        · show wn u1 ≤ _
          rw [fr_n f2]
          omega
        · show wl u1 ≤ _
          rw [fr_l f2]
          omega
      | inr t =>
        intro m2
        have m2 : q = some (wn (uI w 13 6 (j + 1))) ∧ ∃ v, fr lR (uI w 13 6 (j + 1)) v ∧ CW v b L T t ∧ eX (wn (uI w 13 6 (j + 1))) v u1 ∧ wn u1 = wn (uI w 13 6 (j + 1)) + 2 ∧ wl u1 = wl (uI w 13 6 (j + 1)) + 2 + t.2.2.2.1 ∧ TN u1 (wn (uI w 13 6 (j + 1))) t.2.2.2 := m2
        obtain ⟨m3, v, m4, m5, m6, m7, m8, m9⟩ := m2
        rw [n1] at m3 m6 m7 m9
        rw [l1] at m8
        obtain ⟨i1, i2, i3, i4, i5⟩ := aTst_I hT (by omega) hr
        have f2 := fr_t f1 m4
        have nv : wn v = wn w := fr_n f2
        have s1 : shp u1 p = some (0, 10, 0) := by rw [shp_hi v1, (m6.1 p (by omega)).2.2.2.2, fr_S f2]; exact v3
        rw [m3] at run
        have hVv := VW_h hV0 (hiS_fr f2 rfl _)
        have hVu := VW_h hVv (by rw [nv]; exact hiS_X m6)
        have xF : eX p u1 (uF u1 p 0 (some (wn w))) := eX_F (Nat.le_refl p) _ _
        refine ⟨uF u1 p 0 (some (wn w)), run _ (pR_of v1 s1 rfl), eF_t (eF_t (eF_fr f2 p) (eF_X (eX_le m6 (by omega)) (by rw [m8, fr_l f2]; omega))) (eF_X xF (Nat.le_refl _)), CQ_X (CQ_X (CQ_W m5) m6 (by omega)) (eX_F v1 _ _) (Nat.le_refl _), ?_, ?_, ?_⟩
        · obtain ⟨⟨a1, a2⟩, ⟨a3, a4, a5⟩, a6, a7, a8, a9, a10⟩ := hVu
          refine ⟨⟨a1, a2⟩, ⟨a3, ?_, a5⟩, .inr ⟨t.2.2.2, wn w, rfl, if_pos ⟨rfl, rfl⟩, v2, ?_, ?_⟩, a7, a8, a9, a10⟩
          · show (if p = p ∧ 3 = 0 then _ else wF u1 p 3) = _
            rw [if_neg (by omega)]
            exact a4
          · show wn w + 2 ≤ wn u1
            omega
          · refine TN_e m9 ⟨rfl, rfl⟩ ?_ rfl rfl
            show (if wn w = p ∧ 0 = 0 then _ else wF u1 (wn w) 0) = _
            rw [if_neg (by omega)]
        · show wn u1 + 0 ≤ _
          omega
        · show wl u1 + 0 ≤ _
          omega
    · rw [if_neg y2]
      have y2' : (wF w p 0).isNone = false := by rw [← g00]; exact Bool.eq_false_iff.mpr y2
      refine c72b hT hj hQ hV0 (c := 4) ⟨by decide, by decide⟩ ?_
      have h54' := h54
      rw [y1] at h54' ⊢
      rw [fq_72]
      simp (disch := omega) only [qB_s, qC_t, qC_f, qI_T, qI_F, qI_t, qI_f, r_I, r_L, r_R, r_V, ii_add, ii_sub, ii_mul, ii_neg, bz_0, bz_1, Bool.true_and, Bool.false_and, Bool.and_true, z00, z11, li_0, li_1, li_11, li_13, li_14, li_31, li_4, li_99, li_999, gI_13_13, gI_13_6, is_13, pI_13_6, ii_lt, ii_eq, h54', g0, y2', b55]
  · rw [if_neg y1]
    by_cases y2 : tK b j = 14
    · have hjT := (TT_lt hT hj (by omega)).1
      rw [if_pos y2]
      have h54' := h54
      rw [y2] at h54'
      by_cases y3 : x.2.2.2 = -1
      · rw [if_pos y3]
        obtain ⟨u1, v, m1, m2, m3⟩ := c69 (sc := sc) hT (j := j + 1) (by omega) hQ1 (lo := 0) (hi := 999) ⟨by decide, by decide⟩ ⟨by decide, by decide⟩
        have f2 := fr_t f1 m2
        have s1 : shp u1 p = some (0, 10, 0) := by rw [shp_hi v1, fr_S f2]; exact v3
        have run : am_F sc 72 [am_R (some 13), am_R (some p)] (wst w) = some (none, wst (uI u1 p 4 v)) := by
          have e := pI_of (w := u1) (x := v) s1 (show (wk 10)[4]? = some 0 from rfl)
          rw [fq_72]
          simp (disch := omega) only [qB_s, qC_t, qC_f, qI_T, qI_F, qI_t, qI_f, r_I, r_L, r_R, r_V, ii_add, ii_sub, ii_mul, ii_neg, bz_0, bz_1, Bool.true_and, Bool.false_and, Bool.and_true, z00, z11, li_0, li_1, li_11, li_13, li_14, li_31, li_4, li_99, li_999, gI_13_13, gI_13_6, is_13, pI_13_6, ii_lt, ii_eq, h54', g4]
          rw [wq_72_54]
          simp (disch := omega) only [qB_s, qC_t, qC_f, qI_T, qI_F, qI_t, qI_f, r_I, r_L, r_R, r_V, ii_add, ii_sub, ii_mul, ii_neg, bz_0, bz_1, Bool.true_and, Bool.false_and, Bool.and_true, z00, z11, li_0, li_1, li_11, li_13, li_14, li_31, li_4, li_99, li_999, gI_13_13, gI_13_6, is_13, pI_13_6, ii_lt, ii_eq, q3, q2, m1, e]
        have hVu := VW_h hV0 (hiS_fr f2 rfl _)
        refine ⟨uI u1 p 4 v, run, eF_t (eF_fr f2 p) (eF_X (eX_I (Nat.le_refl p) _ _) (Nat.le_refl _)), ?_⟩
        show CV w (uI u1 p 4 v) b L T p x (bd (aNum b 0 999 (j + 1)) fun n => .inr (j + 2, x.1, x.2.1, x.2.2.1, n))
        revert m3
        cases hr : aNum b 0 999 (j + 1) with
        | inl c =>
          intro m3
          have m3 : CY u1 b L T c (j + 1 + 1) := m3
          exact ⟨CY_X2 (CY_m m3 (by omega)) (eX_I v1 _ _) (Nat.le_refl _), by show wn u1 ≤ _; rw [fr_n f2]; omega, by show wl u1 ≤ _; rw [fr_l f2]; omega⟩
        | inr n =>
          intro m3
          have m3 : v = n ∧ CQ u1 b L T (j + 1 + 1) := m3
          obtain ⟨m3, m4⟩ := m3
          subst m3
          refine ⟨CQ_X m4 (eX_I v1 _ _) (Nat.le_refl _), ?_, by show wn u1 + bC x ≤ _; rw [fr_n f2]; omega, by show wl u1 + bL x ≤ _; rw [fr_l f2]; omega⟩
          obtain ⟨⟨a1, a2⟩, ⟨a3, a4, a5⟩, a6, a7, a8, a9, a10⟩ := hVu
          refine ⟨⟨a1, a2⟩, ⟨a3, a4, a5⟩, ?_, ?_, ?_, a9, rI _ _ _ _⟩
          · rcases a6 with a6 | ⟨P, t, q1, q2, q3, q4, q5⟩
            · exact .inl a6
            · exact .inr ⟨P, t, q1, q2, q3, q4, TN_e q5 ⟨rfl, rfl⟩ rfl rfl (if_neg (by omega))⟩
          · exact (if_neg (by omega)).trans a7
          · rw [show wI (uI u1 p 4 v) p 2 = wI u1 p 2 from if_neg (by omega)]
            exact a8
      · rw [if_neg y3]
        have hw := hx.2.2.2
        refine c72b hT hj hQ hV0 (c := 4) ⟨by decide, by decide⟩ ?_
        rw [y2, fq_72]
        simp (disch := omega) only [qB_s, qC_t, qC_f, qI_T, qI_F, qI_t, qI_f, r_I, r_L, r_R, r_V, ii_add, ii_sub, ii_mul, ii_neg, bz_0, bz_1, Bool.true_and, Bool.false_and, Bool.and_true, z00, z11, li_0, li_1, li_11, li_13, li_14, li_31, li_4, li_99, li_999, gI_13_13, gI_13_6, is_13, pI_13_6, ii_lt, ii_eq, h54', g4, b55]
    · rw [if_neg y2]
      by_cases y34 : tK b j = 12 ∨ tK b j = 13
      · have hjT := (TT_lt hT hj (by omega)).1
        obtain ⟨o1, o2, o3, o4⟩ := or_ii hx.2.1.1 hx.2.1.2 v8.1 v8.2.1
        have kk2 : wI (uI w 13 6 (j + 1)) p 2 = wI w p 2 := fr_I f1 (flow_of rfl v1)
        rw [kk2] at k2
        obtain ⟨u1, m, m1, m2, m3⟩ := c70 (sc := sc) hT (j := j + 1) (by omega) hQ1 (nm := orI x.2.1 (wI w p 2)) ⟨o2, o3⟩
        have f2 := fr_t f1 m2
        have hVu := VW_h hV0 (hiS_fr f2 rfl _)
        have hk1 := tK_r hT.1 (j + 1)
        have eM : aM0 b (orI x.2.1 (wI w p 2)) (j + 1) = aMk b x (j + 1) := by
          unfold aM0 aMk
          by_cases z : tK b (j + 1) < 6
          · rw [if_pos z, if_pos z]
            have e1 := o4 (tK b (j + 1)) hk1.1 z
            have e2 := v8.2.2 (tK b (j + 1)) hk1.1 z
            by_cases z2 : bt x.2.1 (tK b (j + 1)) = 1 ∨ x.2.2.1 (tK b (j + 1)) ≠ 0
            · rw [if_pos z2, if_pos (by rw [e1, e2]; exact z2)]
            · rw [if_neg z2, if_neg (by rw [e1, e2]; exact z2)]
          · rw [if_neg z, if_neg z]
        rw [eM] at m3
        obtain ⟨h0, h00, h4, h1, h2, hi, hs⟩ := VW_g hVu
        rcases y34 with y3 | y3
        · rw [if_pos y3]
          have h54' := h54
          rw [y3] at h54'
          have pre : am_F sc 72 [am_R (some 13), am_R (some p)] (wst w) = am_W sc 72 (54, [some (am_R (some 13)), some (am_R (some p)), some (am_I (ii 12)), none, none], [], wst w) := by
            rw [fq_72]
            simp (disch := omega) only [qB_s, qC_t, qC_f, qI_T, qI_F, qI_t, qI_f, r_I, r_L, r_R, r_V, ii_add, ii_sub, ii_mul, ii_neg, bz_0, bz_1, Bool.true_and, Bool.false_and, Bool.and_true, z00, z11, li_0, li_1, li_11, li_13, li_14, li_31, li_4, li_99, li_999, gI_13_13, gI_13_6, is_13, pI_13_6, ii_lt, ii_eq, h54']
          show ∃ u, _ ∧ _ ∧ CV w u b L T p x (bd (aMk b x (j + 1)) fun m => .inr (j + 2, x.1, orB x.2.1 m, x.2.2))
          revert m3
          cases hr : aMk b x (j + 1) with
          | inl c =>
            intro m3
            have m3 : CY u1 b L T c (j + 1 + 1) := m3
            have g13 := m3.2.1
            have g14 := m3.2.2.1
            refine ⟨u1, ?_, eF_fr f2 p, CY_m m3 (by omega), by rw [fr_n f2]; omega, by rw [fr_l f2]; omega⟩
            rw [pre, wq_72_54]
            simp (disch := omega) only [qB_s, qC_t, qC_f, qI_T, qI_F, qI_t, qI_f, r_I, r_L, r_R, r_V, ii_add, ii_sub, ii_mul, ii_neg, bz_0, bz_1, Bool.true_and, Bool.false_and, Bool.and_true, z00, z11, li_0, li_1, li_11, li_13, li_14, li_31, li_4, li_99, li_999, gI_13_13, gI_13_6, is_13, pI_13_6, ii_lt, ii_eq, q3, q2, k1, k2, o1, m1, g13]
          | inr n =>
            intro m3
            have m3 : m = n ∧ CQ u1 b L T (j + 1 + 1) := m3
            obtain ⟨m3, m4⟩ := m3
            subst m3
            have g13 := m4.2.2
            obtain ⟨-, n0, n6, -⟩ := aMk_I hT (by omega) hr
            obtain ⟨r1, r2, r3, r4⟩ := orB_ii hx.2.1.1 hx.2.1.2 n0 n6
            have e := pI_of (w := u1) (x := orB x.2.1 m) hs (show (wk 10)[1]? = some 0 from rfl)
            refine ⟨uI u1 p 1 (orB x.2.1 m), ?_, eF_t (eF_fr f2 p) (eF_X (eX_I (Nat.le_refl p) _ _) (Nat.le_refl _)), CQ_X m4 (eX_I v1 _ _) (Nat.le_refl _), ?_, by show wn u1 + bC x ≤ _; rw [fr_n f2]; omega, by show wl u1 + bL x ≤ _; rw [fr_l f2]; omega⟩
            · rw [pre, wq_72_54]
              simp (disch := omega) only [qB_s, qC_t, qC_f, qI_T, qI_F, qI_t, qI_f, r_I, r_L, r_R, r_V, ii_add, ii_sub, ii_mul, ii_neg, bz_0, bz_1, Bool.true_and, Bool.false_and, Bool.and_true, z00, z11, li_0, li_1, li_11, li_13, li_14, li_31, li_4, li_99, li_999, gI_13_13, gI_13_6, is_13, pI_13_6, ii_lt, ii_eq, q3, q2, k1, k2, o1, m1, g13, h1, r1, e]
            · obtain ⟨⟨a1, a2⟩, ⟨a3, a4, a5⟩, a6, a7, a8, a9, a10⟩ := hVu
              refine ⟨⟨a1, a2⟩, ⟨a3, a4, a5⟩, ?_, rI _ _ _ _, ?_, a9, ?_⟩
              · rcases a6 with a6 | ⟨P, t, q1, q2, q3, q4, q5⟩
                · exact .inl a6
                · exact .inr ⟨P, t, q1, q2, q3, q4, TN_e q5 ⟨rfl, rfl⟩ rfl rfl (if_neg (by omega))⟩
              · rw [show wI (uI u1 p 1 (orB x.2.1 m)) p 2 = wI u1 p 2 from if_neg (by omega)]
                exact a8
              · exact (if_neg (by omega)).trans a10
        · rw [if_neg (show ¬ tK b (j, x).1 = 12 by rw [show tK b (j, x).1 = tK b j from rfl]; omega), if_pos y3]
          have h54' := h54
          rw [y3] at h54'
          have pre : am_F sc 72 [am_R (some 13), am_R (some p)] (wst w) = am_W sc 72 (54, [some (am_R (some 13)), some (am_R (some p)), some (am_I (ii 13)), none, none], [], wst w) := by
            rw [fq_72]
            simp (disch := omega) only [qB_s, qC_t, qC_f, qI_T, qI_F, qI_t, qI_f, r_I, r_L, r_R, r_V, ii_add, ii_sub, ii_mul, ii_neg, bz_0, bz_1, Bool.true_and, Bool.false_and, Bool.and_true, z00, z11, li_0, li_1, li_11, li_13, li_14, li_31, li_4, li_99, li_999, gI_13_13, gI_13_6, is_13, pI_13_6, ii_lt, ii_eq, h54']
          show ∃ u, _ ∧ _ ∧ CV w u b L T p x (bd (aMk b x (j + 1)) fun m => bd (aNum b 1 99 (j + 2)) fun n => .inr (j + 3, x.1, x.2.1, fu x.2.2.1 m n, x.2.2.2))
          revert m3
          cases hr : aMk b x (j + 1) with
          | inl c =>
            intro m3
            have m3 : CY u1 b L T c (j + 1 + 1) := m3
            obtain ⟨u2, v, n1, n2, n3⟩ := c69x (sc := sc) hT m3 (by omega) (lo := 1) (hi := 99) ⟨by decide, by decide⟩ ⟨by decide, by decide⟩
            have g13 := n3.2.1
            have g14 := n3.2.2.1
            have f3 := fr_t f2 n2
            refine ⟨u2, ?_, eF_fr f3 p, CY_m n3 (by omega), by rw [fr_n f3]; omega, by rw [fr_l f3]; omega⟩
            rw [pre, wq_72_54]
            simp (disch := omega) only [qB_s, qC_t, qC_f, qI_T, qI_F, qI_t, qI_f, r_I, r_L, r_R, r_V, ii_add, ii_sub, ii_mul, ii_neg, bz_0, bz_1, Bool.true_and, Bool.false_and, Bool.and_true, z00, z11, li_0, li_1, li_11, li_13, li_14, li_31, li_4, li_99, li_999, gI_13_13, gI_13_6, is_13, pI_13_6, ii_lt, ii_eq, q3, q2, k1, k2, o1, m1, n1, g13]
          | inr m' =>
            intro m3
            have m3 : m = m' ∧ CQ u1 b L T (j + 1 + 1) := m3
            obtain ⟨m3, m4⟩ := m3
            subst m3
            obtain ⟨-, n0, n6, -, z1, z2⟩ := aMk_I hT (by omega) hr
            obtain ⟨u2, v, n1, n2, n3⟩ := c69 (sc := sc) hT (j := j + 2) (by omega) m4 (lo := 1) (hi := 99) ⟨by decide, by decide⟩ ⟨by decide, by decide⟩
            have f3 := fr_t f2 n2
            show ∃ u, _ ∧ _ ∧ CV w u b L T p x (bd (aNum b 1 99 (j + 2)) fun n => .inr (j + 3, x.1, x.2.1, fu x.2.2.1 m n, x.2.2.2))
            revert n3
            cases hr2 : aNum b 1 99 (j + 2) with
            | inl c =>
              intro n3
              have n3 : CY u2 b L T c (j + 2 + 1) := n3
              have g13 := n3.2.1
              have g14 := n3.2.2.1
              refine ⟨u2, ?_, eF_fr f3 p, CY_m n3 (by omega), by rw [fr_n f3]; omega, by rw [fr_l f3]; omega⟩
              rw [pre, wq_72_54]
              simp (disch := omega) only [qB_s, qC_t, qC_f, qI_T, qI_F, qI_t, qI_f, r_I, r_L, r_R, r_V, ii_add, ii_sub, ii_mul, ii_neg, bz_0, bz_1, Bool.true_and, Bool.false_and, Bool.and_true, z00, z11, li_0, li_1, li_11, li_13, li_14, li_31, li_4, li_99, li_999, gI_13_13, gI_13_6, is_13, pI_13_6, ii_lt, ii_eq, q3, q2, k1, k2, o1, m1, n1, g13]
            | inr n =>
              intro n3
              have n3 : v = n ∧ CQ u2 b L T (j + 2 + 1) := n3
              obtain ⟨n3, n4⟩ := n3
              subst n3
              have hn := aNum_I hT (by have := (TT_lt hT (j := j + 1) (by omega) (by have := (aMk_I hT (by omega) hr).1; omega)).1; omega) hr2
              have g13 := n4.2.2
              have hV3 := VW_h hV0 (hiS_fr f3 rfl _)
              have e71 := c71 (sc := sc) hV3 (m := m) (n := v) n0 n6
              have hi3 := (VW_g hV3).2.2.2.2.2.1
              have e2 : wI u2 p 2 = wI w p 2 := fr_I f3 (flow_of rfl v1)
              obtain ⟨r1, r2, r3, r4⟩ := orB_ii v8.1 v8.2.1 n0 n6
              obtain ⟨u3, hu3⟩ : ∃ z, z = uA (uI u2 p 2 (orB (wI u2 p 2) m)) (p + 1) (fu (wA u2 (p + 1)) m v) := ⟨_, rfl⟩
              rw [← hu3] at e71
              have x3 : ∀ q, q ≤ p → eX q u2 u3 := fun q hq => by
                rw [hu3]
                exact eX_t (eX_I hq _ _) (eX_A (by omega) _)
              refine ⟨u3, ?_, eF_t (eF_fr f3 p) (eF_X (x3 p (Nat.le_refl _)) (by rw [hu3]; exact Nat.le_refl _)), CQ_X n4 (x3 77 v1) (Nat.le_refl _), ?_, by rw [hu3]; show wn u2 + bC x ≤ _; rw [fr_n f3]; omega, by rw [hu3]; show wl u2 + bL x ≤ _; rw [fr_l f3]; omega⟩
              · rw [pre, wq_72_54]
                simp (disch := omega) only [qB_s, qC_t, qC_f, qI_T, qI_F, qI_t, qI_f, r_I, r_L, r_R, r_V, ii_add, ii_sub, ii_mul, ii_neg, bz_0, bz_1, Bool.true_and, Bool.false_and, Bool.and_true, z00, z11, li_0, li_1, li_11, li_13, li_14, li_31, li_4, li_99, li_999, gI_13_13, gI_13_6, is_13, pI_13_6, ii_lt, ii_eq, q3, q2, k1, k2, o1, m1, n1, g13, hi3, e71]
              · obtain ⟨⟨a1, a2⟩, ⟨a3, a4, a5⟩, a6, a7, a8, a9, a10⟩ := hV3
                have i2 : wI u3 p 2 = orB (wI w p 2) m := by
                  rw [hu3]
                  show (if p = p ∧ 2 = 2 then _ else _) = _
                  rw [if_pos ⟨rfl, rfl⟩, e2]
                have iA : wA u3 (p + 1) = fu (wA u2 (p + 1)) m v := by rw [hu3, rA]
                have io : ∀ a k, a ≠ p ∨ k ≠ 2 → wI u3 a k = wI u2 a k := fun a k hh => by
                  rw [hu3]
                  exact if_neg (by omega)
                have iAo : ∀ a, a ≠ p + 1 → wA u3 a = wA u2 a := fun a hh => by
                  rw [hu3]
                  exact if_neg hh
                have iF : wF u3 = wF u2 := by rw [hu3]; rfl
                have iS : wS u3 = wS u2 := by rw [hu3]; rfl
                have iN : wn u3 = wn u2 := by rw [hu3]; rfl
                refine ⟨⟨a1, by rw [iN]; exact a2⟩, ⟨by rw [iS]; exact a3, by rw [iF]; exact a4, by rw [iS]; exact a5⟩, ?_, by rw [io p 1 (.inr (by decide))]; exact a7, ?_, ?_, by rw [io p 4 (.inr (by decide))]; exact a10⟩
                · rw [iF, iN]
                  rcases a6 with a6 | ⟨P, t, q1, q2, q3, q4, q5⟩
                  · exact .inl a6
                  · exact .inr ⟨P, t, q1, q2, q3, q4, TN_e q5 (by rw [iS]; exact ⟨rfl, rfl⟩) (by rw [iF]) (iAo _ (by omega)) (io _ _ (.inl (by omega)))⟩
                · rw [i2]
                  refine ⟨r2, r3, fun k kk0 kk6 => ?_⟩
                  rw [r4 k kk0 kk6, v8.2.2 k kk0 kk6]
                  show _ ↔ fu x.2.2.1 m v k ≠ 0
                  rw [fu_at]
                  by_cases z : k = m
                  · rw [if_pos z]
                    exact ⟨fun _ => by omega, fun _ => .inr z⟩
                  · rw [if_neg z]
                    exact ⟨fun y => y.resolve_right z, fun y => .inl y⟩
                · intro k kk0 kk6 hh
                  have hh : fu x.2.2.1 m v k ≠ 0 := hh
                  show wA u3 (p + 1) k = fu x.2.2.1 m v k
                  rw [iA]
                  rw [fu_at] at hh ⊢
                  rw [fu_at]
                  by_cases z : k = m
                  · rw [if_pos z, if_pos z]
                  · rw [if_neg z] at hh
                    rw [if_neg z, if_neg z]
                    exact a9 k kk0 kk6 hh
      · rw [if_neg (show ¬ tK b (j, x).1 = 12 from fun y => y34 (.inl y)), if_neg (show ¬ tK b (j, x).1 = 13 from fun y => y34 (.inr y))]
        refine c72b hT hj hQ hV0 (c := 0) ⟨by decide, by decide⟩ ?_
        rw [fq_72]
        by_cases z : tK b j < 11
        · simp (disch := omega) only [qB_s, qC_t, qC_f, qI_T, qI_F, qI_t, qI_f, r_I, r_L, r_R, r_V, ii_add, ii_sub, ii_mul, ii_neg, bz_0, bz_1, Bool.true_and, Bool.false_and, Bool.and_true, z00, z11, li_0, li_1, li_11, li_13, li_14, li_31, li_4, li_99, li_999, gI_13_13, gI_13_6, is_13, pI_13_6, ii_lt, ii_eq, h54, b55]
        · simp (disch := omega) only [qB_s, qC_t, qC_f, qI_T, qI_F, qI_t, qI_f, r_I, r_L, r_R, r_V, ii_add, ii_sub, ii_mul, ii_neg, bz_0, bz_1, Bool.true_and, Bool.false_and, Bool.and_true, z00, z11, li_0, li_1, li_11, li_13, li_14, li_31, li_4, li_99, li_999, gI_13_13, gI_13_6, is_13, pI_13_6, ii_lt, ii_eq, h54, b55]
end L59
