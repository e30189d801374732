/-! VIEW AND RULE, THE CLASS, WHOLE -/
def lS : List Nat := [1305, 1306, 1308, 1309, 1310, 1312, 1313, 1599, 1699, 1799, 1899, 1999]
theorem eF_s {l l' : List Nat} {m : Nat} {w u : wo} (h : eF l m w u) (q : fsub l l' = true) : eF l' m w u := ⟨fun a k ha hk => h.1 a k ha (fsub_of q hk), fun a ha hk => h.2.1 a ha (fsub_of q hk), h.2.2⟩
theorem aVwL_I {b : Nat → Int} {L T : Nat} (hT : TT b L T) : ∀ (d : Nat) (s s' : Nat × vw), s.1 ≤ T → okV s.2 → aVwL b d s = .inr s' → okV s'.2
  | 0, s, s', hj, hx, q => by
    have q : aFn b s = .inr s' := q
    unfold aFn at q
    split at q
    · cases q
      exact hx
    · cases q
  | d + 1, s, s', hj, hx, q => by
    unfold aVwL at q
    by_cases y : tK b s.1 = 59
    · rw [if_pos y] at q
      obtain ⟨s1, q1, q2⟩ := bd_i q
      have hjT := (TT_lt hT hj (by omega)).1
      obtain ⟨i1, i2, i3⟩ := aCls_I hT (s := (s.1 + 1, s.2)) (by show s.1 + 1 ≤ T; omega) hx q1
      exact aVwL_I hT d s1 s' i1 i3 q2
    · rw [if_neg y] at q
      unfold aFn at q
      split at q
      · cases q
        exact hx
      · cases q
section L59b
variable {sc : am_X} {w : wo} {b : Nat → Int} {L T : Nat}
/-- what becomes of a view -/
def CF (w u : wo) (b : Nat → Int) (L T p : Nat) (x : vw) (q : Option Nat) (r : Sum Int (Nat × vw)) : Prop := (match r with
  | .inl c => q = none ∧ wI u 13 13 = c ∧ 1 ≤ c ∧ c ≤ 10000
  | .inr s => q = some p ∧ VW u p s.2 ∧ wI u 13 13 = 0) ∧ wn u ≤ wn w + bC x ∧ wl u ≤ wl w + bL x
theorem CF_t {w v u : wo} {p : Nat} {x y : vw} {q : Option Nat} {r : Sum Int (Nat × vw)} (h : CF v u b L T p y q r) (h1 : wn v + bC y ≤ wn w + bC x) (h2 : wl v + bL y ≤ wl w + bL x) : CF w u b L T p x q r := ⟨h.1, by have := h.2.1; omega, by have := h.2.2; omega⟩
theorem c73x (hT : TT b L T) {c : Int} (h : CY w b L T c 700) {p i : Nat} (hi : i ≤ 400) : am_W sc 73 (19, [some (am_R (some 13)), some (am_R (some p)), some (am_I (ii i))], [], wst w) = some (some (am_R none), wst w) := by
  obtain ⟨h1, h2, h3, j, h4, h5⟩ := h
  have h54 := c54 (sc := sc) hT h1 h4 (by omega)
  have hk := tK_r hT.1 j
  have b55 := c55x (sc := sc) h2 h3 (x := 0)
  rw [wq_73_19]
  by_cases z : i < 400
  · by_cases y : tK b j = 204
    · simp (disch := omega) only [qB_s, qC_t, qC_f, qI_T, qI_F, qI_t, qI_f, r_I, r_L, r_R, r_V, ii_add, ii_sub, ii_mul, ii_neg, bz_0, bz_1, Bool.true_and, Bool.false_and, Bool.and_true, z00, z11, li_0, li_1, li_204, li_400, li_59, gI_13_13, gI_13_6, is_13, pI_13_6, ii_lt, ii_eq, h2, h54]
    · have b55 : am_F sc 55 [am_R (some 13), am_I (ii 0)] (wst w) = some (none, wst w) := b55
      simp (disch := omega) only [qB_s, qC_t, qC_f, qI_T, qI_F, qI_t, qI_f, r_I, r_L, r_R, r_V, ii_add, ii_sub, ii_mul, ii_neg, bz_0, bz_1, Bool.true_and, Bool.false_and, Bool.and_true, z00, z11, li_0, li_1, li_204, li_400, li_59, gI_13_13, gI_13_6, is_13, pI_13_6, ii_lt, ii_eq, h2, h54, b55]
  · by_cases y : tK b j = 204
    · simp (disch := omega) only [qB_s, qC_t, qC_f, qI_T, qI_F, qI_t, qI_f, r_I, r_L, r_R, r_V, ii_add, ii_sub, ii_mul, ii_neg, bz_0, bz_1, Bool.true_and, Bool.false_and, Bool.and_true, z00, z11, li_0, li_1, li_204, li_400, li_59, gI_13_13, gI_13_6, is_13, pI_13_6, ii_lt, ii_eq, h2, h54]
    · have b55 : am_F sc 55 [am_R (some 13), am_I (ii 0)] (wst w) = some (none, wst w) := b55
      simp (disch := omega) only [qB_s, qC_t, qC_f, qI_T, qI_F, qI_t, qI_f, r_I, r_L, r_R, r_V, ii_add, ii_sub, ii_mul, ii_neg, bz_0, bz_1, Bool.true_and, Bool.false_and, Bool.and_true, z00, z11, li_0, li_1, li_204, li_400, li_59, gI_13_13, gI_13_6, is_13, pI_13_6, ii_lt, ii_eq, h2, h54, b55]
theorem c73e (hT : TT b L T) {p i : Nat} {s : Nat × vw} (hi : i ≤ 400) (h59 : i = 400 ∨ tK b s.1 ≠ 59) (hj : s.1 ≤ T) (hQ : CQ w b L T s.1) (hV : VW w p s.2) : ∃ (u : wo) (q : Option Nat), am_W sc 73 (19, [some (am_R (some 13)), some (am_R (some p)), some (am_I (ii i))], [], wst w) = some (some (am_R q), wst u) ∧ eF lR p w u ∧ CF w u b L T p s.2 q (aFn b s) := by
  obtain ⟨q1, q2, q3⟩ := id hQ
  have hT4 := hT.2.1
  have h54 := c54 (sc := sc) hT q1 q2 (by omega)
  have hk := tK_r hT.1 s.1
  unfold aFn
  by_cases y : tK b s.1 = 204
  · rw [if_pos y]
    refine ⟨w, some p, ?_, eF_fr (fr_r _ _) p, ⟨rfl, hV, q3⟩, Nat.le_add_right _ _, Nat.le_add_right _ _⟩
    rw [wq_73_19]
    by_cases z : i < 400
    · simp (disch := omega) only [qB_s, qC_t, qC_f, qI_T, qI_F, qI_t, qI_f, r_I, r_L, r_R, r_V, ii_add, ii_sub, ii_mul, ii_neg, bz_0, bz_1, Bool.true_and, Bool.false_and, Bool.and_true, z00, z11, li_0, li_1, li_204, li_400, li_59, gI_13_13, gI_13_6, is_13, pI_13_6, ii_lt, ii_eq, q3, h54]
    · simp (disch := omega) only [qB_s, qC_t, qC_f, qI_T, qI_F, qI_t, qI_f, r_I, r_L, r_R, r_V, ii_add, ii_sub, ii_mul, ii_neg, bz_0, bz_1, Bool.true_and, Bool.false_and, Bool.and_true, z00, z11, li_0, li_1, li_204, li_400, li_59, gI_13_13, gI_13_6, is_13, pI_13_6, ii_lt, ii_eq, q3, h54]
  · rw [if_neg y]
    obtain ⟨f1, y1⟩ := CY_f hT hQ (c := 0) ⟨by decide, by decide⟩
    have b55 := c55 (sc := sc) hT q1 q2 (by omega) q3 (c := 0)
    have g13 := y1.2.1
    have g14 := y1.2.2.1
    refine ⟨uI w 13 13 (fl b s.1 0), none, ?_, eF_fr f1 p, ⟨rfl, g13, g14⟩, Nat.le_add_right _ _, Nat.le_add_right _ _⟩
    rw [wq_73_19]
    by_cases z : i < 400
    · simp (disch := omega) only [qB_s, qC_t, qC_f, qI_T, qI_F, qI_t, qI_f, r_I, r_L, r_R, r_V, ii_add, ii_sub, ii_mul, ii_neg, bz_0, bz_1, Bool.true_and, Bool.false_and, Bool.and_true, z00, z11, li_0, li_1, li_204, li_400, li_59, gI_13_13, gI_13_6, is_13, pI_13_6, ii_lt, ii_eq, q3, h54, b55, g13]
    · simp (disch := omega) only [qB_s, qC_t, qC_f, qI_T, qI_F, qI_t, qI_f, r_I, r_L, r_R, r_V, ii_add, ii_sub, ii_mul, ii_neg, bz_0, bz_1, Bool.true_and, Bool.false_and, Bool.and_true, z00, z11, li_0, li_1, li_204, li_400, li_59, gI_13_13, gI_13_6, is_13, pI_13_6, ii_lt, ii_eq, q3, h54, b55, g13]
theorem c73l (hT : TT b L T) {p : Nat} : ∀ (d i : Nat) (w : wo) (s : Nat × vw), i + d = 400 → s.1 ≤ T → okV s.2 → CQ w b L T s.1 → VW w p s.2 → ∃ (u : wo) (q : Option Nat), am_W sc 73 (19, [some (am_R (some 13)), some (am_R (some p)), some (am_I (ii i))], [], wst w) = some (some (am_R q), wst u) ∧ eF lR p w u ∧ CF w u b L T p s.2 q (aVwL b d s)
  | 0, i, w, s, hd, hj, hx, hQ, hV => c73e hT (by omega) (.inl (by omega)) hj hQ hV
  | d + 1, i, w, s, hd, hj, hx, hQ, hV => by
    by_cases y : tK b s.1 = 59
    · rw [show aVwL b (d + 1) s = bd (aCls b (s.1 + 1, s.2)) (aVwL b d) from if_pos y]
      obtain ⟨q1, q2, q3⟩ := id hQ
      have hT4 := hT.2.1
      have h54 := c54 (sc := sc) hT q1 q2 (by omega)
      rw [y] at h54
      have hjT := (TT_lt hT hj (by omega)).1
      have f1 : fr lR w (uI w 13 6 (s.1 + 1)) := fr_uI (fr_r _ _) rfl
      have hQ1 : CQ (uI w 13 6 (s.1 + 1)) b L T (s.1 + 1) := ⟨CK_R q1 f1, by rw [rI, nat_1], q3⟩
      have hV1 := VW_h hV (hiS_fr f1 rfl _)
      obtain ⟨u1, m1, m2, m3⟩ := c72 (sc := sc) hT (p := p) (by omega) hQ1 hV1 hx
      have f2 := eF_t (eF_fr f1 p) m2
      have go : am_W sc 73 (19, [some (am_R (some 13)), some (am_R (some p)), some (am_I (ii i))], [], wst w) = am_W sc 73 (19, [some (am_R (some 13)), some (am_R (some p)), some (am_I (ii ((i + 1 : Nat) : Int)))], [], wst u1) := by
        rw [wq_73_19, nat_1]
        simp (disch := omega) only [qB_s, qC_t, qC_f, qI_T, qI_F, qI_t, qI_f, r_I, r_L, r_R, r_V, ii_add, ii_sub, ii_mul, ii_neg, bz_0, bz_1, Bool.true_and, Bool.false_and, Bool.and_true, z00, z11, li_0, li_1, li_204, li_400, li_59, gI_13_13, gI_13_6, is_13, pI_13_6, ii_lt, ii_eq, q3, h54, q2, m1]
      rw [go]
      revert m3
      cases hr : aCls b (s.1 + 1, s.2) with
      | inl c =>
        intro m3
        have m3 : CY u1 b L T c 700 ∧ wn u1 ≤ wn w + bC s.2 ∧ wl u1 ≤ wl w + bL s.2 := m3
        exact ⟨u1, none, c73x hT m3.1 (by omega), f2, ⟨rfl, m3.1.2.1, m3.1.2.2.1⟩, m3.2⟩
      | inr s1 =>
        intro m3
        have m3 : CQ u1 b L T s1.1 ∧ VW u1 p s1.2 ∧ wn u1 + bC s1.2 ≤ wn w + bC s.2 ∧ wl u1 + bL s1.2 ≤ wl w + bL s.2 := m3
        obtain ⟨i1, i2, i3⟩ := aCls_I hT (s := (s.1 + 1, s.2)) (by show s.1 + 1 ≤ T; omega) hx hr
        obtain ⟨u, q, n1, n2, n3⟩ := c73l hT d (i + 1) u1 s1 (by omega) i1 i3 m3.1 m3.2.1
        exact ⟨u, q, n1, eF_t f2 n2, CF_t n3 m3.2.2.1 m3.2.2.2⟩
    · rw [show aVwL b (d + 1) s = aFn b s from if_neg y]
      exact c73e hT (by omega) (.inr y) hj hQ hV
def vwZ : vw := (none, 0, fun _ => 0, -1)
theorem vwZ_ok : okV vwZ := ⟨fun P h => (by cases h), ⟨Int.le_refl _, (by decide : (0 : Int) < 64)⟩, fun m _ _ => ⟨Int.le_refl _, (by decide : (0 : Int) ≤ 99)⟩, Int.le_refl _, (by decide : (-1 : Int) ≤ 999)⟩
theorem c53 (h77 : 77 ≤ wn w) {p : Nat} (hp : p < wn w) (h7 : 77 ≤ p) (hs : wS w p = some (0, 10, 0)) : ∃ u, am_F sc 53 [am_R (some p)] (wst w) = some (none, wst u) ∧ u = uI (nAr w p 3 0 6) p 4 (-1) := by
  refine ⟨_, ?_, rfl⟩
  obtain ⟨e1, e2⟩ := nAr_r (w := w) (p := p) (ci := 10) (k := 3) (t := 0) (n := 6) h77 h7 hp hs rfl (by decide)
  have hs2 : shp (nAr w p 3 0 6) p = some (0, 10, 0) := by
    rw [shp_hi h7, nAr_S, if_neg (by omega)]
    exact hs
  have e3 : am_pf (wst (nAr w p 3 0 6)) p 10 4 (am_I (ii (-1))) = some (wst (uI (nAr w p 3 0 6) p 4 (-1))) := pI_of hs2 rfl
  have e1 : am_nwA (wst w) 0 (6 : Int32) = _ := e1
  rw [fq_53, e1, qB_s, e2, qB_s]
  have e3 : am_pf (wst (nAr w p 3 0 6)) p 10 4 (am_I (-1 : Int32)) = _ := e3
  rw [e3, qB_s]
theorem c73 (hb : TP b L) (hC : CT w b L) (h77 : 77 ≤ wn w) : ∃ (u : wo) (q : Option Nat), am_F sc 73 [am_R (some 13)] (wst w) = some (some (am_R q), wst u) ∧ eF lS (wn w) w u ∧ (match aVw b with
  | .inl c => q = none ∧ wI u 13 13 = c ∧ 1 ≤ c ∧ c ≤ 10000
  | .inr s => q = some (wn w) ∧ VW u (wn w) s.2 ∧ okV s.2) ∧ wn u ≤ wn w + 4 ∧ wl u ≤ wl w + 300 := by
  obtain ⟨w1, T, e1, f1, hK, h6, h13⟩ := c52 (sc := sc) hb hC
  have hT := TT_of hb hK
  have n1 : wn w1 = wn w := fr_n f1
  obtain ⟨p, hp⟩ : ∃ p, p = wn w := ⟨_, rfl⟩
  obtain ⟨w2, hw2⟩ : ∃ v, v = uN w1 (0, 10, 0) 5 := ⟨_, rfl⟩
  have n2 : wn w2 = p + 1 := by rw [hw2, uN_n, n1, hp]
  have al : am_al (wst w1) (.inr (10, am_dfs.getD 10 [])) (am_dfs.getD 10 []).length = wst w2 := by rw [hw2]; exact al_wst (by omega) rfl
  have s2 : wS w2 p = some (0, 10, 0) := by rw [hw2, hp, ← n1, uN_Sn]
  obtain ⟨w3, e3, h3⟩ := c53 (sc := sc) (w := w2) (by omega) (p := p) (by omega) (by omega) s2
  have n3 : wn w3 = p + 2 := by rw [h3]; show wn w2 + 1 = _; omega
  have l3 : wl w3 = wl w + 11 := by
    rw [h3]
    show wl w2 + 6 = _
    rw [hw2]
    show wl w1 + 5 + 6 = _
    rw [fr_l f1]
  have x2 : eX p w1 w2 := by rw [hw2]; exact eX_N (by omega) _ _
  have x3 : eX p w2 w3 := by rw [h3]; exact eX_t (nAr_X (Nat.le_refl p) (by omega) _ _ _) (eX_I (Nat.le_refl p) _ _)
  have x13 := eX_t x2 x3
  have hQ3 : CQ w3 b L T 0 := CQ_X (m := p) ⟨hK, h6, h13⟩ x13 (by omega)
  have hI0 : ∀ k, wI w2 p k = 0 := fun k => by rw [hw2, hp, ← n1, uN_In]
  have hI1 : ∀ k, wI (nAr w2 p 3 0 6) p k = 0 := fun k => (uN_I w2 (1, 0, 6) 6 (b := p) (by omega) k).trans (hI0 k)
  have hV3 : VW w3 p vwZ := by
    refine ⟨⟨by omega, by omega⟩, ⟨?_, ?_, ?_⟩, .inl ⟨rfl, ?_⟩, ?_, ?_, fun m _ _ hm => absurd rfl hm, ?_⟩
    · rw [h3]; show wS (nAr w2 p 3 0 6) p = _; rw [nAr_S, if_neg (by omega)]; exact s2
    · rw [h3]; show wF (nAr w2 p 3 0 6) p 3 = _; rw [nAr_F, if_pos ⟨rfl, rfl⟩, n2]
    · rw [h3]; show wS (nAr w2 p 3 0 6) (p + 1) = _; rw [nAr_S, if_pos n2.symm]
    · rw [h3]; show wF (nAr w2 p 3 0 6) p 0 = _; rw [nAr_F, if_neg (by omega), if_neg (by omega), hw2, hp, ← n1, uN_Fn]
    · rw [h3]; exact (if_neg (by omega)).trans (hI1 1)
    · have : wI w3 p 2 = 0 := by rw [h3]; exact (if_neg (by omega)).trans (hI1 2)
      rw [this]
      refine ⟨Int.le_refl _, by decide, fun m m0 m6 => ?_⟩
      have hb0 : bt 0 m = 0 := by unfold bt; simp
      rw [hb0]
      exact ⟨fun h => by omega, fun h => absurd rfl h⟩
    · rw [h3]; exact if_pos ⟨rfl, rfl⟩
  obtain ⟨u1, m1, m2, m3⟩ := c72 (sc := sc) hT (p := p) (Nat.zero_le T) hQ3 hV3 vwZ_ok
  have h21 : (wst w1).2.1 = p := by rw [hp, ← n1]; rfl
  have f13 : eF lS p w w3 := eF_t (eF_fr (fr_m f1 rfl) p) (eF_X x13 (by rw [l3, fr_l f1]; omega))
  have f1u : eF lS p w u1 := eF_t f13 (eF_s m2 rfl)
  have go : am_F sc 73 [am_R (some 13)] (wst w) = am_W sc 73 (19, [some (am_R (some 13)), some (am_R (some p)), some (am_I (ii ((0 : Nat) : Int)))], [], wst u1) := by
    rw [fq_73]
    simp (disch := omega) only [qB_s, qC_t, qC_f, qI_T, qI_F, qI_t, qI_f, r_I, r_L, r_R, r_V, ii_add, ii_sub, ii_mul, ii_neg, bz_0, bz_1, Bool.true_and, Bool.false_and, Bool.and_true, z00, z11, li_0, li_1, li_204, li_400, li_59, gI_13_13, gI_13_6, is_13, pI_13_6, e1, al, h21, e3, m1]
    rfl
  rw [go, ← hp]
  unfold aVw
  show ∃ u q, _ ∧ _ ∧ (match bd (aCls b (0, vwZ)) (aVwL b 400) with
    | .inl c => q = none ∧ wI u 13 13 = c ∧ 1 ≤ c ∧ c ≤ 10000
    | .inr s => q = some p ∧ VW u p s.2 ∧ okV s.2) ∧ _
  have b0 : bC vwZ = 2 := rfl
  have b1 : bL vwZ = 242 := rfl
  revert m3
  cases hr : aCls b (0, vwZ) with
  | inl c =>
    intro m3
    have m3 : CY u1 b L T c 700 ∧ wn u1 ≤ wn w3 + bC vwZ ∧ wl u1 ≤ wl w3 + bL vwZ := m3
    exact ⟨u1, none, c73x hT m3.1 (Nat.zero_le _), f1u, ⟨rfl, m3.1.2.1, m3.1.2.2.1⟩, by omega, by omega⟩
  | inr s1 =>
    intro m3
    have m3 : CQ u1 b L T s1.1 ∧ VW u1 p s1.2 ∧ wn u1 + bC s1.2 ≤ wn w3 + bC vwZ ∧ wl u1 + bL s1.2 ≤ wl w3 + bL vwZ := m3
    obtain ⟨i1, i2, i3⟩ := aCls_I hT (s := (0, vwZ)) (Nat.zero_le T) vwZ_ok hr
    obtain ⟨u, q, k1, k2, k3, k4, k5⟩ := c73l (sc := sc) hT (p := p) 400 0 u1 s1 (Nat.zero_add 400) i1 i3 m3.1 m3.2.1
    refine ⟨u, q, k1, eF_t f1u (eF_s k2 rfl), ?_, by omega, by omega⟩
    show (match aVwL b 400 s1 with
      | .inl c => q = none ∧ wI u 13 13 = c ∧ 1 ≤ c ∧ c ≤ 10000
      | .inr s => q = some p ∧ VW u p s.2 ∧ okV s.2)
    revert k3
    cases hr2 : aVwL b 400 s1 with
    | inl c => exact fun k3 => k3
    | inr s2 =>
      intro k3
      have k3 : q = some p ∧ VW u p s2.2 ∧ wI u 13 13 = 0 := k3
      exact ⟨k3.1, k3.2.1, (aVwL_I hT 400 s1 s2 i1 i3 hr2)⟩
theorem c97 (hb : TP b L) (hC : CT w b L) (h77 : 77 ≤ wn w) : ∃ (u : wo) (q : Option Nat), am_F sc 97 [am_R (some 13)] (wst w) = some (some (am_R q), wst u) ∧ eF lS (wn w) w u ∧ (match aRul b with
  | .inl c => q = none ∧ wI u 13 13 = c ∧ 1 ≤ c ∧ c ≤ 10000
  | .inr P => q = some (wn w) ∧ TN u (wn w) P ∧ okP P ∧ wn u = wn w + 2) ∧ wn u ≤ wn w + 4 ∧ wl u ≤ wl w + 300 := by
  obtain ⟨w1, T, e1, f1, hK, h6, h13⟩ := c52 (sc := sc) hb hC
  have hT := TT_of hb hK
  have hT4 := hT.2.1
  have n1 : wn w1 = wn w := fr_n f1
  have l1 : wl w1 = wl w := fr_l f1
  obtain ⟨u1, q, m1, m2⟩ := c68 (sc := sc) (w := w1) hT (j := 0) (Nat.zero_le T) (by omega) ⟨hK, h6, h13⟩
  unfold aRul
  revert m2
  cases hr : aTst b 0 with
  | inl c =>
    intro m2
    have m2 : q = none ∧ fr lR w1 u1 ∧ CX u1 b L T c 600 := m2
    obtain ⟨m3, m4, m5⟩ := m2
    subst m3
    obtain ⟨g1, g2, g3, ⟨j, g4, g5⟩, -⟩ := m5
    have h54 := c54 (sc := sc) hT g1 g4 (by omega)
    have hk := tK_r hT.1 j
    have b55 : am_F sc 55 [am_R (some 13), am_I (ii 0)] (wst u1) = some (none, wst u1) := c55x (sc := sc) g2 g3 (x := ii 0)
    refine ⟨u1, none, ?_, eF_t (eF_fr (fr_m f1 rfl) _) (eF_fr (fr_m m4 rfl) _), ⟨rfl, g2, g3⟩, by rw [fr_n m4]; omega, by rw [fr_l m4]; omega⟩
    rw [fq_97]
    by_cases y : tK b j = 204
    · simp (disch := omega) only [qB_s, qC_t, qC_f, qI_T, qI_F, qI_t, qI_f, r_I, r_L, r_R, r_V, ii_add, ii_sub, ii_mul, ii_neg, bz_0, bz_1, Bool.true_and, Bool.false_and, Bool.and_true, z00, z11, li_0, li_204, gI_13_13, is_13, ii_eq, e1, m1, h54, g2]
    · simp (disch := omega) only [qB_s, qC_t, qC_f, qI_T, qI_F, qI_t, qI_f, r_I, r_L, r_R, r_V, ii_add, ii_sub, ii_mul, ii_neg, bz_0, bz_1, Bool.true_and, Bool.false_and, Bool.and_true, z00, z11, li_0, li_204, gI_13_13, is_13, ii_eq, e1, m1, h54, g2, b55]
  | inr t =>
    intro m2
    have m2 : q = some (wn w1) ∧ ∃ v, fr lR w1 v ∧ CW v b L T t ∧ eX (wn w1) v u1 ∧ wn u1 = wn w1 + 2 ∧ wl u1 = wl w1 + 2 + t.2.2.2.1 ∧ TN u1 (wn w1) t.2.2.2 := m2
    obtain ⟨m3, v, m4, m5, m6, m7, m8, m9⟩ := m2
    subst m3
    rw [n1] at m6 m7 m9
    rw [l1] at m8
    obtain ⟨i1, i2, i3, i4, i5⟩ := aTst_I hT (Nat.zero_le T) hr
    have hQ := CQ_X (CQ_W m5) m6 (by omega)
    obtain ⟨g1, g2, g3⟩ := id hQ
    have h1T := i1.1
    have h54 := c54 (sc := sc) hT g1 g2 (by omega)
    have hk := tK_r hT.1 t.1
    have fu1 : eF lS (wn w) w u1 := eF_t (eF_t (eF_fr (fr_m f1 rfl) _) (eF_fr (fr_m m4 rfl) _)) (eF_X m6 (by rw [m8, fr_l m4, l1]; omega))
    show ∃ u q, _ ∧ _ ∧ (match (if tK b t.1 = 204 then Sum.inr t.2.2.2 else Sum.inl (fl b t.1 0) : Sum Int pg) with
      | .inl c => q = none ∧ wI u 13 13 = c ∧ 1 ≤ c ∧ c ≤ 10000
      | .inr P => q = some (wn w) ∧ TN u (wn w) P ∧ okP P ∧ wn u = wn w + 2) ∧ _
    by_cases y : tK b t.1 = 204
    · rw [if_pos y]
      refine ⟨u1, some (wn w), ?_, fu1, ⟨rfl, m9, i3, m7⟩, by omega, by omega⟩
      rw [fq_97]
      rw [n1] at m1
      simp (disch := omega) only [qB_s, qC_t, qC_f, qI_T, qI_F, qI_t, qI_f, r_I, r_L, r_R, r_V, ii_add, ii_sub, ii_mul, ii_neg, bz_0, bz_1, Bool.true_and, Bool.false_and, Bool.and_true, z00, z11, li_0, li_204, gI_13_13, is_13, ii_eq, e1, m1, h54, g3]
    · rw [if_neg y]
      obtain ⟨f3, y3⟩ := CY_f hT hQ (c := 0) ⟨by decide, by decide⟩
      have b55 := c55 (sc := sc) hT g1 g2 (by omega) g3 (c := 0)
      have z13 := y3.2.1
      have z14 := y3.2.2.1
      refine ⟨uI u1 13 13 (fl b t.1 0), none, ?_, eF_t fu1 (eF_fr (fr_m f3 rfl) _), ⟨rfl, z13, z14⟩, by show wn u1 ≤ _; omega, by show wl u1 ≤ _; omega⟩
      rw [fq_97]
      rw [n1] at m1
      simp (disch := omega) only [qB_s, qC_t, qC_f, qI_T, qI_F, qI_t, qI_f, r_I, r_L, r_R, r_V, ii_add, ii_sub, ii_mul, ii_neg, bz_0, bz_1, Bool.true_and, Bool.false_and, Bool.and_true, z00, z11, li_0, li_204, gI_13_13, is_13, ii_eq, e1, m1, h54, b55, z13]
end L59b
/-- what is held elsewhere -/
theorem RC_g {ow ow' : Nat → Nat} {w u : wo} {A : ab} (hC : RC ow w A) (h : eF lS (wn w) w u) (how : ∀ a, a < wn w → ow' a = ow a) (hnew : ∀ a, wn w ≤ a → ow' a = 100) : CS u A.1.1 A.1.2.1 ∧ LTS u A.1.2.2.1 A.1.2.2.2 ∧ BS u ∧ (wI u 13 1 = A.2.1.1 ∧ wA u 14 = wA w 14) ∧ (wI u 0 7 = A.2.2.1.1 ∧ ∀ v, 0 ≤ v → v < A.2.2.1.1 → ∃ a, wR u 20 v = some a ∧ CVo ow' u a (A.2.2.1.2 v)) ∧ (wI u 0 8 = A.2.2.2.1.1 ∧ ∀ v, 0 ≤ v → v < A.2.2.2.1.1 → ∃ a, wR u 21 v = some a ∧ PTo ow' u a (A.2.2.2.1.2 v)) ∧ IS ow' u A.2.2.2.2 ∧ 77 ≤ wn u := by
  obtain ⟨h1, h2, h3, h4, h5, h6, h7, h8⟩ := hC
  have hn := h.2.2.2.1
  have hI : ∀ a k, a < 77 → fhas lS (a * 100 + k) = false → wI u a k = wI w a k := fun a k ha q => (h.1 a k (by omega) q).1
  have hA : ∀ a, a < 77 → fhas lS (a * 100 + 99) = false → wA u a = wA w a := fun a ha q => (h.2.1 a (by omega) q).1
  have hR : ∀ a, a < 77 → wR u a = wR w a := fun a ha => (h.2.2.1 a (by omega)).2.1
  have hd : ∀ a, 77 ≤ a → a < wn w → (∀ k, wI u a k = wI w a k ∧ wF u a k = wF w a k) ∧ wA u a = wA w a ∧ wS u a = wS w a := fun a h77 ha => ⟨fun k => ⟨(h.1 a k ha (flow_of rfl h77)).1, (h.2.2.1 a ha).1 k⟩, (h.2.1 a ha (flow_of (k := 99) rfl h77)).1, (h.2.2.1 a ha).2.2⟩
  have hPT : ∀ a P, PTo ow w a P → PTo ow' u a P := fun a P hP => by
    obtain ⟨⟨g1, g2, g3, g4⟩, ⟨b, g5, ⟨g6, g7, g8, g9⟩, g10⟩, g11, g12⟩ := hP
    obtain ⟨x1, x2, x3⟩ := hd a g1 g2
    obtain ⟨y1, y2, y3⟩ := hd b g6 g7
    refine ⟨⟨g1, by omega, by rw [how a g2]; exact g3, by rw [x3]; exact g4⟩, ⟨b, by rw [(x1 0).2]; exact g5, ⟨g6, by omega, by rw [how b g7]; exact g8, by rw [y3]; exact g9⟩, by rw [y2]; exact g10⟩, ?_⟩
    rw [(x1 1).1]
    exact ⟨g11, g12⟩
  have hCV : ∀ a x, CVo ow w a x → CVo ow' u a x := fun a x hV => by
    obtain ⟨⟨g1, g2, g3, g4⟩, g5, g6, g7, ⟨b, g8, ⟨g9, g10, g11, g12⟩, g13⟩, g14⟩ := hV
    obtain ⟨x1, x2, x3⟩ := hd a g1 g2
    obtain ⟨y1, y2, y3⟩ := hd b g9 g10
    refine ⟨⟨g1, by omega, by rw [how a g2]; exact g3, by rw [x3]; exact g4⟩, ?_, by rw [(x1 1).1]; exact g6, by rw [(x1 2).1]; exact g7, ⟨b, by rw [(x1 3).2]; exact g8, ⟨g9, by omega, by rw [how b g10]; exact g11, by rw [y3]; exact g12⟩, by rw [y2]; exact g13⟩, by rw [(x1 4).1]; exact g14⟩
    rcases g5 with ⟨q1, q2⟩ | ⟨P, t, q1, q2, q3⟩
    · exact .inl ⟨q1, by rw [(x1 0).2]; exact q2⟩
    · exact .inr ⟨P, t, q1, by rw [(x1 0).2]; exact q2, hPT t P q3⟩
  refine ⟨?_, ?_, ?_, ⟨?_, ?_⟩, ⟨?_, fun v v0 v1 => ?_⟩, ⟨?_, fun v v0 v1 => ?_⟩, fun k hk => ?_, by omega⟩
  · refine CS_a h1 (hI 1 5 (by decide) rfl) (fun a a2 a7 => hA a (by omega) ?_)
    rcases (by omega : a = 2 ∨ a = 3 ∨ a = 4 ∨ a = 5 ∨ a = 6) with y | y | y | y | y <;> subst y <;> rfl
  · unfold LTS at h2 ⊢
    rw [hI 7 3 (by decide) rfl, hA 8 (by decide) rfl, hA 9 (by decide) rfl, hA 10 (by decide) rfl]
    exact h2
  · unfold BS at h3 ⊢
    rw [hA 9 (by decide) rfl, hA 10 (by decide) rfl]
    exact h3
  · rw [hI 13 1 (by decide) rfl]
    exact h4.1
  · exact hA 14 (by decide) rfl
  · rw [hI 0 7 (by decide) rfl]
    exact h5.1
  · obtain ⟨a, q1, q2⟩ := h5.2 v v0 v1
    exact ⟨a, by rw [hR 20 (by decide)]; exact q1, hCV a _ q2⟩
  · rw [hI 0 8 (by decide) rfl]
    exact h6.1
  · obtain ⟨a, q1, q2⟩ := h6.2 v v0 v1
    exact ⟨a, by rw [hR 21 (by decide)]; exact q1, hPT a _ q2⟩
  · rw [hR 11 (by decide), hR 12 (by decide)]
    rcases h7 k hk with q | ⟨c, p, q1, q2, q3, q4⟩
    · exact .inl q
    · exact .inr ⟨c, p, q1, q2, q3, CIo_p q4 how hn (fun a a77 ha _ _ => hd a a77 ha) (fun a ha => by rw [hnew a ha]; omega)⟩
section L59c
variable {sc : am_X} {w : wo} {A : ab} {ow : Nat → Nat}
/-- the tape is empty -/
def eA (A : ab) : ab := (A.1, (0, A.2.1.2), A.2.2)
def vA (A : ab) (x : vw) : ab := (A.1, (0, A.2.1.2), (A.2.2.1.1 + 1, fun v => if v = A.2.2.1.1 then x else A.2.2.1.2 v), A.2.2.2)
def rA' (A : ab) (P : pg) : ab := (A.1, (0, A.2.1.2), A.2.2.1, (A.2.2.2.1.1 + 1, fun v => if v = A.2.2.2.1.1 then P else A.2.2.2.1.2 v), A.2.2.2.2)
def tB (A : ab) : Nat → Int := bA A.2.1.2 A.2.1.1
theorem tB_P (hA : okA A) : TP (tB A) A.2.1.1.toNat := by
  obtain ⟨h1, h2, h3⟩ := hA.2.1
  refine ⟨by omega, fun p hp => ?_, fun p hp => ?_⟩
  · show 0 ≤ bA A.2.1.2 A.2.1.1 p ∧ _
    unfold tB bA
    rw [if_pos (by omega)]
    exact h3 p (by omega) (by omega)
  · unfold tB bA
    exact if_neg (by omega)
theorem tB_C (hC : RC ow w A) (hA : okA A) : CT w (tB A) A.2.1.1.toNat := by
  obtain ⟨h1, h2⟩ := hC.2.2.2.1
  have h0 := hA.2.1.1
  refine ⟨by rw [h1]; omega, fun p hp => ?_⟩
  rw [h2 p (by omega) (by omega)]
  unfold tB bA
  rw [if_pos (by omega)]
def owN (ow : Nat → Nat) (n : Nat) : Nat → Nat := fun a => if a < n then ow a else 100
theorem x_74n (h8 : wI w 0 7 = 8) : am_F sc 74 [am_R (some 0)] (wst w) = some (some (am_I (ii (-1))), wst w) := by
  rw [fq_74]
  simp (disch := omega) only [qB_s, qC_t, qC_f, qI_T, qI_F, qI_t, qI_f, r_I, r_L, r_R, r_V, ii_add, ii_sub, ii_mul, ii_neg, bz_0, bz_1, Bool.true_and, Bool.false_and, Bool.and_true, z00, z11, li_0, li_1, li_2, li_8, gI_0_7, gI_13_13, gR_0_4, gR_0_5, is_13, pI_0_7, pI_13_1, t_20, ii_lt, h8]
theorem x_98n (h8 : wI w 0 8 = 8) : am_F sc 98 [am_R (some 0)] (wst w) = some (some (am_I (ii (-1))), wst w) := by
  rw [fq_98]
  simp (disch := omega) only [qB_s, qC_t, qC_f, qI_T, qI_F, qI_t, qI_f, r_I, r_L, r_R, r_V, ii_add, ii_sub, ii_mul, ii_neg, bz_0, bz_1, Bool.true_and, Bool.false_and, Bool.and_true, z00, z11, li_0, li_1, li_2, li_8, gI_0_8, gI_13_13, gR_0_4, gR_0_6, is_13, pI_0_8, pI_13_1, t_21, ii_lt, h8]
/-- what is left alone -/
def kW (w u : wo) : Prop := ∀ a, 47 ≤ a → a < 77 → (∀ k, wI u a k = wI w a k ∧ wJ u a k = wJ w a k) ∧ wA u a = wA w a ∧ wB u a = wB w a
theorem kW_e {w u : wo} (h : eF lS (wn w) w u) (h77 : 77 ≤ wn w) : kW w u := fun a h1 h2 => by
  have hn : ∀ k, fhas lS (a * 100 + k) = false := fun k => by
    cases e : fhas lS (a * 100 + k) with
    | false => rfl
    | true =>
      have e1 := fhas_of.mp e
      have : ∀ c ∈ lS, c < 4700 := by decide
      have := this _ e1
      omega
  exact ⟨fun k => h.1 a k (by omega) (hn k), h.2.1 a (by omega) (hn 99)⟩
theorem x_74 (hC : RC ow w A) (hA : okA A) (h8 : A.2.2.1.1 < 8) : match aVw (tB A) with
    | .inl c => (1 ≤ c ∧ c ≤ 10000) ∧ ∃ u ow', am_F sc 74 [am_R (some 0)] (wst w) = some (some (am_I (ii (-2 - c))), wst u) ∧ kM w u ∧ RC ow' u (eA A) ∧ wn u ≤ wn w + 4 ∧ wl u ≤ wl w + 300
    | .inr s => okV s.2 ∧ ∃ u ow', am_F sc 74 [am_R (some 0)] (wst w) = some (some (am_I (ii A.2.2.1.1)), wst u) ∧ kM w u ∧ RC ow' u (vA A s.2) ∧ wn u ≤ wn w + 4 ∧ wl u ≤ wl w + 300 := by
  have h77 := hC.2.2.2.2.2.2.2
  have hn0 := hA.2.2.1.1
  obtain ⟨u1, q, e1, f1, m, hn, hl⟩ := c73 (sc := sc) (tB_P hA) (tB_C hC hA) h77
  obtain ⟨how, hnew⟩ : (∀ a, a < wn w → owN ow (wn w) a = ow a) ∧ (∀ a, wn w ≤ a → owN ow (wn w) a = 100) := ⟨fun a ha => if_pos ha, fun a ha => if_neg (by omega)⟩
  have hG := RC_g hC f1 how hnew
  have hk := kW_e f1 h77
  generalize owN ow (wn w) = ow' at how hnew hG
  have h7 : wI w 0 7 = A.2.2.1.1 := hC.2.2.2.2.1.1
  obtain ⟨g1, g2, g3, ⟨g4, g4'⟩, ⟨g5, g5'⟩, ⟨g6, g6'⟩, g7, g8⟩ := hG
  have a77 : (77 : Nat) ≤ wn u1 := g8
  revert m
  cases hr : aVw (tB A) with
  | inl c =>
    intro m
    obtain ⟨m1, m2, m3, m4⟩ := m
    subst m1
    have f2 : fr [1301] u1 (uI u1 13 1 0) := fr_uI (fr_r _ _) rfl
    refine ⟨⟨m3, m4⟩, uI u1 13 1 0, ow', ?_, fun a b1 b2 => ?_, ⟨?_, ?_, ?_, ⟨rI _ _ _ _, fun i i0 i1 => ?_⟩, ⟨g5, fun v v0 v1 => ?_⟩, ⟨g6, fun v v0 v1 => ?_⟩, ?_, g8⟩, hn, hl⟩
    · have m2' : wI (uI u1 13 1 0) 13 13 = c := m2
      rw [fq_74]
      simp (disch := omega) only [qB_s, qC_t, qC_f, qI_T, qI_F, qI_t, qI_f, r_I, r_L, r_R, r_V, ii_add, ii_sub, ii_mul, ii_neg, bz_0, bz_1, Bool.true_and, Bool.false_and, Bool.and_true, z00, z11, li_0, li_1, li_2, li_8, gI_0_7, gI_13_13, gR_0_4, gR_0_5, is_13, pI_0_7, pI_13_1, t_20, ii_lt, h7, e1, Option.isNone_none, m2']
    · have := hk a b1 b2
      exact ⟨fun k => ⟨(if_neg (by omega)).trans (this.1 k).1, (this.1 k).2⟩, this.2⟩
    · exact CS_fr g1 f2 rfl
    · exact ⟨g2.1, g2.2⟩
    · exact g3
    · have i1 : i < 0 := i1
      omega
    · obtain ⟨a, q1, q2⟩ := g5' v v0 v1
      exact ⟨a, q1, CVo_d q2 (fr_d f2 rfl _)⟩
    · obtain ⟨a, q1, q2⟩ := g6' v v0 v1
      exact ⟨a, q1, PTo_d q2 (fr_d f2 rfl _)⟩
    · exact IS_fr g7 f2 rfl
  | inr s =>
    intro m
    obtain ⟨m1, m2, m3⟩ := m
    subst m1
    refine ⟨m3, ?_⟩
    obtain ⟨p, hp⟩ : ∃ p, p = wn w := ⟨_, rfl⟩
    rw [← hp] at m2 e1
    obtain ⟨⟨z1, z2⟩, ⟨z3, z4, z5⟩, z6, z7, z8, z9, z10⟩ := id m2
    obtain ⟨n, hnn⟩ : ∃ n, n = A.2.2.1.1 := ⟨_, rfl⟩
    rw [← hnn] at h8 hn0 h7 g5 g5' ⊢
    obtain ⟨u2, hu2⟩ : ∃ v, v = uI (uR (uI u1 13 1 0) 20 (fu (wR u1 20) n (some p))) 0 7 (n + 1) := ⟨_, rfl⟩
    have iI : ∀ a k, (a ≠ 13 ∨ k ≠ 1) → (a ≠ 0 ∨ k ≠ 7) → wI u2 a k = wI u1 a k := fun a k y1 y2 => by
      rw [hu2]
      show (if a = 0 ∧ k = 7 then _ else if a = 13 ∧ k = 1 then _ else wI u1 a k) = _
      rw [if_neg (by omega), if_neg (by omega)]
    have iA : wA u2 = wA u1 := by rw [hu2]; rfl
    have iF : wF u2 = wF u1 := by rw [hu2]; rfl
    have iS : wS u2 = wS u1 := by rw [hu2]; rfl
    have iB : wB u2 = wB u1 := by rw [hu2]; rfl
    have iJ : wJ u2 = wJ u1 := by rw [hu2]; rfl
    have iN : wn u2 = wn u1 := by rw [hu2]; rfl
    have iL : wl u2 = wl u1 := by rw [hu2]; rfl
    have iR : ∀ a, a ≠ 20 → wR u2 a = wR u1 a := fun a ha => by
      rw [hu2]
      exact if_neg ha
    have iR20 : wR u2 20 = fu (wR u1 20) n (some p) := by
      rw [hu2]
      rfl
    have dd : ∀ P, dsm P u1 u2 := fun P => ⟨fun a ha _ => ⟨fun k => ⟨iI a k (.inl (by omega)) (.inl (by omega)), by rw [iF]⟩, by rw [iA], by rw [iS]⟩, by rw [iN]; exact Nat.le_refl _⟩
    have hV2 : VW u2 p s.2 := VW_h m2 ⟨fun a ha _ => ⟨fun k => ⟨iI a k (.inl (by omega)) (.inl (by omega)), by rw [iF]⟩, by rw [iA], by rw [iS]⟩, by rw [iN]; exact Nat.le_refl _⟩
    refine ⟨u2, ow', ?_, fun a b1 b2 => ?_, ⟨?_, ?_, ?_, ⟨?_, fun i i0 i1 => ?_⟩, ⟨?_, fun v v0 v1 => ?_⟩, ⟨?_, fun v v0 v1 => ?_⟩, fun k hk4 => ?_, by rw [iN]; exact g8⟩, by rw [iN]; exact hn, by rw [iL]; exact hl⟩
    · have hv : shp (uI u1 13 1 0) p = some (0, 10, 0) := by rw [shp_hi z1]; exact z3
      have t20 := t_20 (uI u1 13 1 0) hv hn0 h8
      have g7' : wI (uI u1 13 1 0) 0 7 = n := g5
      have g7'' : wI (uR (uI u1 13 1 0) 20 (fu (wR (uI u1 13 1 0) 20) n (some p))) 0 7 = n := g5
      rw [fq_74, hu2]
      simp (disch := omega) only [qB_s, qC_t, qC_f, qI_T, qI_F, qI_t, qI_f, r_I, r_L, r_R, r_V, ii_add, ii_sub, ii_mul, ii_neg, bz_0, bz_1, Bool.true_and, Bool.false_and, Bool.and_true, z00, z11, li_0, li_1, li_2, li_8, gI_0_7, gI_13_13, gR_0_4, gR_0_5, is_13, pI_0_7, pI_13_1, t_20, ii_lt, h7, e1, Option.isNone_some, g7', t20, g7'', rI]
      rw [show n + 1 - 1 = n by omega]
      rfl
    · have := hk a b1 b2
      exact ⟨fun k => ⟨(iI a k (.inl (by omega)) (.inl (by omega))).trans (this.1 k).1, by rw [iJ]; exact (this.1 k).2⟩, by rw [iA]; exact this.2.1, by rw [iB]; exact this.2.2⟩
    · exact CS_a g1 (iI 1 5 (.inl (by decide)) (.inl (by decide))) (fun a _ _ => by rw [iA])
    · unfold LTS at g2 ⊢
      rw [iI 7 3 (.inl (by decide)) (.inl (by decide)), iA]
      exact g2
    · unfold BS at g3 ⊢
      rw [iA]
      exact g3
    · rw [hu2]
      rfl
    · have i1 : i < 0 := i1
      omega
    · rw [hu2]
      show n + 1 = (vA A s.2).2.2.1.1
      rw [hnn]
      rfl
    · have v1 : v < A.2.2.1.1 + 1 := v1
      rw [iR20, fu_at]
      show ∃ a, _ ∧ CVo ow' u2 a (if v = A.2.2.1.1 then s.2 else A.2.2.1.2 v)
      by_cases y : v = n
      · rw [if_pos y, if_pos (by omega)]
        obtain ⟨⟨b1, b2⟩, ⟨b3, b4, b5⟩, b6, b7, b8, b9, b10⟩ := hV2
        refine ⟨p, rfl, ⟨b1, by omega, hnew p (by omega), b3⟩, ?_, b7, b8, ⟨p + 1, b4, ⟨by omega, by omega, hnew (p + 1) (by omega), b5⟩, b9⟩, b10⟩
        rcases b6 with b6 | ⟨P, t, q1, q2, q3, q4, ⟨q5, q6, q7, q8⟩, q9⟩
        · exact .inl b6
        · exact .inr ⟨P, t, q1, q2, ⟨by omega, by omega, hnew t (by omega), q5⟩, ⟨t + 1, q6, ⟨by omega, by omega, hnew (t + 1) (by omega), q7⟩, q8⟩, q9⟩
      · rw [if_neg y, if_neg (by omega)]
        obtain ⟨a, q1, q2⟩ := g5' v v0 (by omega)
        exact ⟨a, q1, CVo_d q2 (dd _)⟩
    · rw [iI 0 8 (.inl (by decide)) (.inr (by decide))]
      exact g6
    · obtain ⟨a, q1, q2⟩ := g6' v v0 v1
      exact ⟨a, by rw [iR 21 (by decide)]; exact q1, PTo_d q2 (dd _)⟩
    · rw [iR 11 (by decide), iR 12 (by decide)]
      rcases g7 k hk4 with y | ⟨c, r, y1, y2, y3, y4⟩
      · exact .inl y
      · exact .inr ⟨c, r, y1, y2, y3, CIo_d y4 (dd _)⟩
theorem x_98 (hC : RC ow w A) (hA : okA A) (h8 : A.2.2.2.1.1 < 8) : match aRul (tB A) with
    | .inl c => (1 ≤ c ∧ c ≤ 10000) ∧ ∃ u ow', am_F sc 98 [am_R (some 0)] (wst w) = some (some (am_I (ii (-2 - c))), wst u) ∧ kM w u ∧ RC ow' u (eA A) ∧ wn u ≤ wn w + 4 ∧ wl u ≤ wl w + 300
    | .inr P => okP P ∧ ∃ u ow', am_F sc 98 [am_R (some 0)] (wst w) = some (some (am_I (ii A.2.2.2.1.1)), wst u) ∧ kM w u ∧ RC ow' u (rA' A P) ∧ wn u ≤ wn w + 4 ∧ wl u ≤ wl w + 300 := by
  have h77 := hC.2.2.2.2.2.2.2
  have hn0 := hA.2.2.2.1.1
  obtain ⟨u1, q, e1, f1, m, hn, hl⟩ := c97 (sc := sc) (tB_P hA) (tB_C hC hA) h77
  obtain ⟨how, hnew⟩ : (∀ a, a < wn w → owN ow (wn w) a = ow a) ∧ (∀ a, wn w ≤ a → owN ow (wn w) a = 100) := ⟨fun a ha => if_pos ha, fun a ha => if_neg (by omega)⟩
  have hG := RC_g hC f1 how hnew
  have hk := kW_e f1 h77
  generalize owN ow (wn w) = ow' at how hnew hG
  have h7 : wI w 0 8 = A.2.2.2.1.1 := hC.2.2.2.2.2.1.1
  obtain ⟨g1, g2, g3, ⟨g4, g4'⟩, ⟨g5, g5'⟩, ⟨g6, g6'⟩, g7, g8⟩ := hG
  have a77 : (77 : Nat) ≤ wn u1 := g8
  revert m
  cases hr : aRul (tB A) with
  | inl c =>
    intro m
    obtain ⟨m1, m2, m3, m4⟩ := m
    subst m1
    have f2 : fr [1301] u1 (uI u1 13 1 0) := fr_uI (fr_r _ _) rfl
    refine ⟨⟨m3, m4⟩, uI u1 13 1 0, ow', ?_, fun a b1 b2 => ?_, ⟨?_, ?_, ?_, ⟨rI _ _ _ _, fun i i0 i1 => ?_⟩, ⟨g5, fun v v0 v1 => ?_⟩, ⟨g6, fun v v0 v1 => ?_⟩, ?_, g8⟩, hn, hl⟩
    · have m2' : wI (uI u1 13 1 0) 13 13 = c := m2
      rw [fq_98]
      simp (disch := omega) only [qB_s, qC_t, qC_f, qI_T, qI_F, qI_t, qI_f, r_I, r_L, r_R, r_V, ii_add, ii_sub, ii_mul, ii_neg, bz_0, bz_1, Bool.true_and, Bool.false_and, Bool.and_true, z00, z11, li_0, li_1, li_2, li_8, gI_0_8, gI_13_13, gR_0_4, gR_0_6, is_13, pI_0_8, pI_13_1, t_21, ii_lt, h7, e1, Option.isNone_none, m2']
    · have := hk a b1 b2
      exact ⟨fun k => ⟨(if_neg (by omega)).trans (this.1 k).1, (this.1 k).2⟩, this.2⟩
    · exact CS_fr g1 f2 rfl
    · exact ⟨g2.1, g2.2⟩
    · exact g3
    · have i1 : i < 0 := i1
      omega
    · obtain ⟨a, q1, q2⟩ := g5' v v0 v1
      exact ⟨a, q1, CVo_d q2 (fr_d f2 rfl _)⟩
    · obtain ⟨a, q1, q2⟩ := g6' v v0 v1
      exact ⟨a, q1, PTo_d q2 (fr_d f2 rfl _)⟩
    · exact IS_fr g7 f2 rfl
  | inr P =>
    intro m
    obtain ⟨m1, m2, m3, m4⟩ := m
    subst m1
    refine ⟨m3, ?_⟩
    obtain ⟨p, hp⟩ : ∃ p, p = wn w := ⟨_, rfl⟩
    rw [← hp] at m2 m4 e1
    obtain ⟨⟨z3, z4, z5, z6⟩, z7⟩ := id m2
    obtain ⟨n, hnn⟩ : ∃ n, n = A.2.2.2.1.1 := ⟨_, rfl⟩
    rw [← hnn] at h8 hn0 h7 g6 g6' ⊢
    obtain ⟨u2, hu2⟩ : ∃ v, v = uI (uR (uI u1 13 1 0) 21 (fu (wR u1 21) n (some p))) 0 8 (n + 1) := ⟨_, rfl⟩
    have iI : ∀ a k, (a ≠ 13 ∨ k ≠ 1) → (a ≠ 0 ∨ k ≠ 8) → wI u2 a k = wI u1 a k := fun a k y1 y2 => by
      rw [hu2]
      show (if a = 0 ∧ k = 8 then _ else if a = 13 ∧ k = 1 then _ else wI u1 a k) = _
      rw [if_neg (by omega), if_neg (by omega)]
    have iA : wA u2 = wA u1 := by rw [hu2]; rfl
    have iF : wF u2 = wF u1 := by rw [hu2]; rfl
    have iS : wS u2 = wS u1 := by rw [hu2]; rfl
    have iB : wB u2 = wB u1 := by rw [hu2]; rfl
    have iJ : wJ u2 = wJ u1 := by rw [hu2]; rfl
    have iN : wn u2 = wn u1 := by rw [hu2]; rfl
    have iL : wl u2 = wl u1 := by rw [hu2]; rfl
    have iR : ∀ a, a ≠ 21 → wR u2 a = wR u1 a := fun a ha => by
      rw [hu2]
      exact if_neg ha
    have iR21 : wR u2 21 = fu (wR u1 21) n (some p) := by
      rw [hu2]
      rfl
    have dd : ∀ P, dsm P u1 u2 := fun P => ⟨fun a ha _ => ⟨fun k => ⟨iI a k (.inl (by omega)) (.inl (by omega)), by rw [iF]⟩, by rw [iA], by rw [iS]⟩, by rw [iN]; exact Nat.le_refl _⟩
    have p77 : 77 ≤ p := by omega
    have hV2 : TN u2 p P := TN_e m2 (by rw [iS]; exact ⟨rfl, rfl⟩) (by rw [iF]) (by rw [iA]) (iI p 1 (.inl (by omega)) (.inl (by omega)))
    refine ⟨u2, ow', ?_, fun a b1 b2 => ?_, ⟨?_, ?_, ?_, ⟨?_, fun i i0 i1 => ?_⟩, ⟨?_, fun v v0 v1 => ?_⟩, ⟨?_, fun v v0 v1 => ?_⟩, fun k hk4 => ?_, by rw [iN]; exact g8⟩, by rw [iN]; exact hn, by rw [iL]; exact hl⟩
    · have hv : shp (uI u1 13 1 0) p = some (0, 9, 0) := by rw [shp_hi p77]; exact z3
      have t21 := t_21 (uI u1 13 1 0) hv hn0 h8
      have g7' : wI (uI u1 13 1 0) 0 8 = n := g6
      have g7'' : wI (uR (uI u1 13 1 0) 21 (fu (wR (uI u1 13 1 0) 21) n (some p))) 0 8 = n := g6
      rw [fq_98, hu2]
      simp (disch := omega) only [qB_s, qC_t, qC_f, qI_T, qI_F, qI_t, qI_f, r_I, r_L, r_R, r_V, ii_add, ii_sub, ii_mul, ii_neg, bz_0, bz_1, Bool.true_and, Bool.false_and, Bool.and_true, z00, z11, li_0, li_1, li_2, li_8, gI_0_8, gI_13_13, gR_0_4, gR_0_6, is_13, pI_0_8, pI_13_1, t_21, ii_lt, h7, e1, Option.isNone_some, g7', t21, g7'', rI]
      rw [show n + 1 - 1 = n by omega]
      rfl
    · have := hk a b1 b2
      exact ⟨fun k => ⟨(iI a k (.inl (by omega)) (.inl (by omega))).trans (this.1 k).1, by rw [iJ]; exact (this.1 k).2⟩, by rw [iA]; exact this.2.1, by rw [iB]; exact this.2.2⟩
    · exact CS_a g1 (iI 1 5 (.inl (by decide)) (.inl (by decide))) (fun a _ _ => by rw [iA])
    · unfold LTS at g2 ⊢
      rw [iI 7 3 (.inl (by decide)) (.inl (by decide)), iA]
      exact g2
    · unfold BS at g3 ⊢
      rw [iA]
      exact g3
    · rw [hu2]
      rfl
    · have i1 : i < 0 := i1
      omega
    · rw [iI 0 7 (.inl (by decide)) (.inr (by decide))]
      exact g5
    · obtain ⟨a, q1, q2⟩ := g5' v v0 v1
      exact ⟨a, by rw [iR 20 (by decide)]; exact q1, CVo_d q2 (dd _)⟩
    · rw [hu2]
      show n + 1 = (rA' A P).2.2.2.1.1
      rw [hnn]
      rfl
    · have v1 : v < A.2.2.2.1.1 + 1 := v1
      rw [iR21, fu_at]
      show ∃ a, _ ∧ PTo ow' u2 a (if v = A.2.2.2.1.1 then P else A.2.2.2.1.2 v)
      by_cases y : v = n
      · rw [if_pos y, if_pos (by omega)]
        obtain ⟨⟨q5, q6, q7, q8⟩, q9⟩ := hV2
        exact ⟨p, rfl, ⟨p77, by omega, hnew p (by omega), q5⟩, ⟨p + 1, q6, ⟨by omega, by omega, hnew (p + 1) (by omega), q7⟩, q8⟩, q9⟩
      · rw [if_neg y, if_neg (by omega)]
        obtain ⟨a, q1, q2⟩ := g6' v v0 (by omega)
        exact ⟨a, q1, PTo_d q2 (dd _)⟩
    · rw [iR 11 (by decide), iR 12 (by decide)]
      rcases g7 k hk4 with y | ⟨c, r, y1, y2, y3, y4⟩
      · exact .inl y
      · exact .inr ⟨c, r, y1, y2, y3, CIo_d y4 (dd _)⟩
end L59c
