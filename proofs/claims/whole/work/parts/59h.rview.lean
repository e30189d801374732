/-! VIEW AND RULE, THE OTHER, WHOLE -/
theorem PM_8 {w u : wo} {t t' : Int} {P : pg} (h : PM w t' P) (g : (∀ z, z < 400 * t ∨ 400 * t + 400 ≤ z → wA u 51 z = wA w 51 z) ∧ ∀ z, z ≠ t → wA u 52 z = wA w 52 z) (ht : t' ≠ t) : PM u t' P := by
  obtain ⟨h1, h2, h3⟩ := h
  refine ⟨by rw [g.2 t' ht]; exact h1, h2, fun k hk => ?_⟩
  have p0 := pof_0 P k
  have hl := pof_lt (P := P) (k := k) (n := P.1) hk
  have hb := bz_ran (p := P.2.1 k = 1 ∨ P.2.1 k = 2)
  rw [g.1 _ (by omega)]
  refine ⟨(h3 k hk).1, fun y => ?_⟩
  rw [bz_t y] at hl
  rw [g.1 _ (by omega)]
  exact (h3 k hk).2 y
theorem MVo_8 {w u : wo} {t t' : Int} {x : vw} (h : MVo w t' x) (g : hV8 t w u) (ht : t' ≠ t) : MVo u t' x := by
  obtain ⟨h1, h2, h3, h4⟩ := h
  obtain ⟨e1, e2, e3⟩ := g.2.2.1 t' ht
  refine ⟨?_, by rw [e2]; exact h2, fun m m0 m6 => ?_, by rw [e3]; exact h4⟩
  · rw [e1]
    rcases h1 with h1 | ⟨P, q1, q2, q3⟩
    · exact .inl h1
    · exact .inr ⟨P, q1, q2, PM_8 q3 g.2.1 ht⟩
  · rw [g.2.2.2 _ (by omega)]
    exact h3 m m0 m6
section L59h
variable {sc : am_X} {w : wo} {b : Nat → Int} {L T : Nat} {t : Int}
theorem d75 (ht : 0 ≤ t ∧ t < 16) : am_F sc 75 [am_R (some 47), am_I (ii t)] (wst w) = some (none, wst (uI (uI (uI (uA (uI w 47 17 t) 52 (fu (wA w 52) t 0)) 47 14 0) 47 15 0) 47 18 0)) := by
  rw [fq_75]
  simp (disch := omega) only [qB_s, qC_t, qC_f, qI_T, qI_F, qI_t, qI_f, r_I, r_L, r_R, r_V, ii_add, ii_sub, ii_mul, ii_neg, bz_0, bz_1, Bool.true_and, Bool.false_and, Bool.and_true, z00, z11, li_0, gR_47_7, pI_47_14, pI_47_15, pI_47_17, pI_47_18, t_52]
  rfl
/-- what becomes of it -/
def oV (w u : wo) (t : Int) (x : Int) (r : Sum Int (Nat × vw)) : Prop := fr (4705 :: 4708 :: lV) w u ∧ hV8 t u u ∧ wI u 47 5 = 0 ∧ ((∀ z, z < 400 * t ∨ 400 * t + 400 ≤ z → wA u 51 z = wA w 51 z) ∧ ∀ z, z ≠ t → wA u 52 z = wA w 52 z) ∧ (∀ z, z ≠ t → wA u 53 z = wA w 53 z ∧ wA u 54 z = wA w 54 z ∧ wA u 56 z = wA w 56 z) ∧ (∀ z, z < 6 * t ∨ 6 * t + 6 ≤ z → wA u 55 z = wA w 55 z) ∧ (match r with
  | .inl c => x = -2 - c ∧ wI u 47 8 = wI w 47 8
  | .inr s => x = t ∧ wI u 47 8 = wI w 47 8 + 1 ∧ MVo u t s.2)
theorem hV8_r (w : wo) : hV8 t w w := ⟨fr_r _ _, ⟨fun _ _ => rfl, fun _ _ => rfl⟩, fun _ _ => ⟨rfl, rfl, rfl⟩, fun _ _ => rfl⟩
theorem oV_f {v : wo} (g : hV8 t w v) {c : Int} (h15 : wI v 47 15 = c) : oV w (uI v 47 5 0) t (-2 - c) (.inl c) := by
  refine ⟨fr_uI (fr_m g.1 rfl) rfl, hV8_r _, rI _ _ _ _, g.2.1, g.2.2.1, g.2.2.2, rfl, ?_⟩
  show wI v 47 8 = _
  exact fr_I g.1 rfl
theorem oV_s {v : wo} (g : hV8 t w v) {s : Nat × vw} (hM : MVo v t s.2) : oV w (uI (uI v 47 5 0) 47 8 (wI w 47 8 + 1)) t t (.inr s) := by
  have f : fr [4705, 4708] v (uI (uI v 47 5 0) 47 8 (wI w 47 8 + 1)) := fr_uI (fr_uI (fr_r _ _) rfl) rfl
  refine ⟨fr_t (fr_m g.1 rfl) (fr_m f rfl), hV8_r _, rfl, g.2.1, g.2.2.1, g.2.2.2, rfl, rI _ _ _ _, ?_⟩
  obtain ⟨h1, h2, h3, h4⟩ := hM
  exact ⟨h1, h2, h3, h4⟩
theorem oV_w {v u : wo} {x : Int} {r : Sum Int (Nat × vw)} (g : hV8 t w v) (h : oV v u t x r) : oV w u t x r := by
  obtain ⟨h1, h2, h3, h4, h5, h6, h7⟩ := h
  have e8 : wI v 47 8 = wI w 47 8 := fr_I g.1 rfl
  refine ⟨fr_t (fr_m g.1 rfl) h1, h2, h3, ⟨fun z hz => (h4.1 z hz).trans (g.2.1.1 z hz), fun z hz => (h4.2 z hz).trans (g.2.1.2 z hz)⟩, fun z hz => ⟨(h5 z hz).1.trans (g.2.2.1 z hz).1, (h5 z hz).2.1.trans (g.2.2.1 z hz).2.1, (h5 z hz).2.2.trans (g.2.2.1 z hz).2.2⟩, fun z hz => (h6 z hz).trans (g.2.2.2 z hz), ?_⟩
  rw [← e8]
  exact h7
/-- a fault -/
theorem d96x {c : Int} (h15 : wI w 47 15 = c) (hc : 1 ≤ c ∧ c ≤ 10000) : am_W sc 96 (74, [some (am_R (some 47)), some (am_I (ii t)), some (am_I (ii 0))], [], wst w) = some (some (am_I (ii (-2 - c))), wst (uI w 47 5 0)) := by
  have e : wI (uI w 47 5 0) 47 15 = c := h15
  rw [wq_96_74]
  simp (disch := omega) only [qB_s, qC_t, qC_f, qI_T, qI_F, qI_t, qI_f, r_I, r_L, r_R, r_V, ii_add, ii_sub, ii_mul, ii_neg, bz_0, bz_1, Bool.true_and, Bool.false_and, Bool.and_true, z00, z11, li_0, li_1, li_2, li_59, li_6, li_8, gI_47_14, gI_47_15, gI_47_8, gR_47_10, gR_47_11, gR_47_12, gR_47_13, is_47, pI_47_14, pI_47_5, pI_47_8, t_53, t_54, t_55, t_56, ii_lt, ii_eq, e]
theorem d96l (hT : TT b L T) (ht : 0 ≤ t ∧ t < 8) (h8 : wI w 47 8 = t) : ∀ (d : Nat) (v : wo) (s : Nat × vw), T < s.1 + d → s.1 ≤ T → okV s.2 → hV8 t w v → oC v b L t s.1 s.2 → (∀ c, aVwL b d s = .inl c → 1 ≤ c ∧ c ≤ 10000) → ∃ (u : wo) (x : Int), am_W sc 96 (74, [some (am_R (some 47)), some (am_I (ii t)), some (am_I (ii 1))], [], wst v) = some (some (am_I (ii x)), wst u) ∧ oV w u t x (aVwL b d s)
  | 0, v, s, hd, hj, hx, g, hC, hc => by omega
  | d + 1, v, s, hd, hj, hx, g, hC, hc => by
    have hb := TP_b hT.1 (tS b s.1)
    obtain ⟨u1, k1, k2, k3⟩ := d76 (sc := sc) hT hC.1
    have h59 := tK_s (b := b) (j := s.1) (c := 59) (by omega)
    have hS := k3.2
    have h15 : wI u1 47 15 = 0 := by rw [fr_I k2 rfl]; exact hC.2.1
    by_cases y1 : tK b s.1 = 59
    · have hlt := TT_lt hT hj (by omega)
      have eb := h59.1.mp y1
      have eE := h59.2 y1
      rw [eb] at k1
      have eA : aVwL b (d + 1) s = bd (aCls b (s.1 + 1, s.2)) (aVwL b d) := if_pos y1
      rw [eA] at hc ⊢
      have f2 : fr [4714] u1 (uI u1 47 14 (tS b s.1 + 1)) := fr_uI (fr_r _ _) rfl
      have hp2 := oP_1 hT k3 f2 rfl hlt.2.2 (by rw [rI, eE]; omega)
      have hC2 : oC (uI u1 47 14 (tS b s.1 + 1)) b L t (s.1 + 1) s.2 := oC_n hC (fr_m (fr_t k2 f2) rfl) h15 hp2
      obtain ⟨u3, y, m1, m2, m3⟩ := d95 (sc := sc) hT ht (j := s.1 + 1) (x := s.2) (by omega) hx hC2
      have g3 : hV8 t w u3 := hV8_t (hV8_t g (hV8_M (gM_fr (fr_t k2 f2) rfl rfl))) m2
      have go : am_W sc 96 (74, [some (am_R (some 47)), some (am_I (ii t)), some (am_I (ii 1))], [], wst v) = am_W sc 96 (74, [some (am_R (some 47)), some (am_I (ii t)), some (am_I (ii y))], [], wst u3) := by
        rw [wq_96_74]
        simp (disch := omega) only [qB_s, qC_t, qC_f, qI_T, qI_F, qI_t, qI_f, r_I, r_L, r_R, r_V, ii_add, ii_sub, ii_mul, ii_neg, bz_0, bz_1, Bool.true_and, Bool.false_and, Bool.and_true, z00, z11, li_0, li_1, li_2, li_59, li_6, li_8, gI_47_14, gI_47_15, gI_47_8, gR_47_10, gR_47_11, gR_47_12, gR_47_13, is_47, pI_47_14, pI_47_5, pI_47_8, t_53, t_54, t_55, t_56, ii_eq, k1, hS, m1]
      rw [go]
      revert m3 hc
      cases hr : aCls b (s.1 + 1, s.2) with
      | inl c =>
        intro hc m3
        obtain ⟨m3, m4⟩ := m3
        subst m3
        exact ⟨_, _, d96x m4 (hc c rfl), oV_f g3 m4⟩
      | inr s1 =>
        intro hc m3
        obtain ⟨m3, m4⟩ := m3
        subst m3
        obtain ⟨i1, i2, i3⟩ := aCls_I hT (s := (s.1 + 1, s.2)) (by show s.1 + 1 ≤ T; omega) hx hr
        have i2 : s.1 + 1 + 1 ≤ s1.1 := i2
        exact d96l hT ht h8 d u3 s1 (by omega) i1 i3 g3 m4 hc
    · have eb : b (tS b s.1) ≠ 59 := fun y => y1 (h59.1.mpr y)
      have eA : aVwL b (d + 1) s = aFn b s := if_neg y1
      rw [eA] at hc ⊢
      obtain ⟨u2, m1, m2, m3⟩ := d76 (sc := sc) hT (oP_of hT k3)
      have f2 : fr [4714] v u2 := fr_t k2 m2
      have g2 : hV8 t w u2 := hV8_t g (hV8_M (gM_fr f2 rfl rfl))
      have h15' : wI u2 47 15 = 0 := by rw [fr_I f2 rfl]; exact hC.2.1
      have hS2 := m3.2
      by_cases y2 : tK b s.1 = 204
      · have eF : aFn b s = .inr s := if_pos y2
        rw [eF]
        have eS := (tK_end hT.1).mp y2
        have e1 : b (tS b s.1) = -1 := by rw [eS]; exact hT.1.2.2 L (Nat.le_refl L)
        rw [e1] at k1 m1
        have e8 : wI (uI u2 47 5 0) 47 8 = t := by
          show wI u2 47 8 = t
          rw [fr_I g2.1 rfl, h8]
        have e15 : wI (uI u2 47 5 0) 47 15 = 0 := h15'
        have hM : MVo u2 t s.2 := MVo_fr hC.2.2.2.2 f2 rfl
        have := oV_s g2 hM
        rw [h8] at this
        refine ⟨_, t, ?_, this⟩
        rw [wq_96_74]
        simp (disch := omega) only [qB_s, qC_t, qC_f, qI_T, qI_F, qI_t, qI_f, r_I, r_L, r_R, r_V, ii_add, ii_sub, ii_mul, ii_neg, bz_0, bz_1, Bool.true_and, Bool.false_and, Bool.and_true, z00, z11, li_0, li_1, li_2, li_59, li_6, li_8, gI_47_14, gI_47_15, gI_47_8, gR_47_10, gR_47_11, gR_47_12, gR_47_13, is_47, pI_47_14, pI_47_5, pI_47_8, t_53, t_54, t_55, t_56, ii_lt, ii_eq, k1, m1, e15, e8]
      · have eF : aFn b s = .inl (fl b s.1 0) := if_neg y2
        rw [eF] at hc ⊢
        have hc' := hc _ rfl
        have e1 : b (tS b s.1) ≠ -1 := fun y => y2 (by unfold tK tkK; rw [if_pos y])
        have e80 := d80 (sc := sc) (c := 0) (x := tS b s.1) h15'
        have g3 : hV8 t w (uI u2 47 15 (1 + 8 * (tS b s.1 : Int) + 0)) := hV8_t g2 (hV8_M (gM_fr (l := [4715]) (fr_uI (fr_r _ _) rfl) rfl rfl))
        have e15 : wI (uI (uI u2 47 15 (1 + 8 * (tS b s.1 : Int) + 0)) 47 5 0) 47 15 = fl b s.1 0 := rfl
        refine ⟨_, _, ?_, oV_f g3 (rI _ _ _ _)⟩
        show _ = some (some (am_I (ii (-2 - fl b s.1 0))), _)
        rw [wq_96_74]
        simp (disch := omega) only [qB_s, qC_t, qC_f, qI_T, qI_F, qI_t, qI_f, r_I, r_L, r_R, r_V, ii_add, ii_sub, ii_mul, ii_neg, bz_0, bz_1, Bool.true_and, Bool.false_and, Bool.and_true, z00, z11, li_0, li_1, li_2, li_59, li_6, li_8, gI_47_14, gI_47_15, gI_47_8, gR_47_10, gR_47_11, gR_47_12, gR_47_13, is_47, pI_47_14, pI_47_5, pI_47_8, t_53, t_54, t_55, t_56, ii_lt, ii_eq, k1, m1, hS2, e80, e15]
end L59h
/-- outside of t all stays -/
def hO8 (t : Int) (w u : wo) : Prop := ((∀ z, z < 400 * t ∨ 400 * t + 400 ≤ z → wA u 51 z = wA w 51 z) ∧ ∀ z, z ≠ t → wA u 52 z = wA w 52 z) ∧ (∀ z, z ≠ t → wA u 53 z = wA w 53 z ∧ wA u 54 z = wA w 54 z ∧ wA u 56 z = wA w 56 z) ∧ ∀ z, z < 6 * t ∨ 6 * t + 6 ≤ z → wA u 55 z = wA w 55 z
theorem hO8_t {t : Int} {w v u : wo} (h : hO8 t w v) (k : hO8 t v u) : hO8 t w u := ⟨⟨fun z hz => (k.1.1 z hz).trans (h.1.1 z hz), fun z hz => (k.1.2 z hz).trans (h.1.2 z hz)⟩, fun z hz => ⟨(k.2.1 z hz).1.trans (h.2.1 z hz).1, (k.2.1 z hz).2.1.trans (h.2.1 z hz).2.1, (k.2.1 z hz).2.2.trans (h.2.1 z hz).2.2⟩, fun z hz => (k.2.2 z hz).trans (h.2.2 z hz)⟩
theorem MVo_O {w u : wo} {t t' : Int} {x : vw} (h : MVo w t' x) (g : hO8 t w u) (ht : t' ≠ t) : MVo u t' x := by
  obtain ⟨h1, h2, h3, h4⟩ := h
  obtain ⟨e1, e2, e3⟩ := g.2.1 t' ht
  refine ⟨?_, by rw [e2]; exact h2, fun m m0 m6 => ?_, by rw [e3]; exact h4⟩
  · rw [e1]
    rcases h1 with h1 | ⟨P, q1, q2, q3⟩
    · exact .inl h1
    · exact .inr ⟨P, q1, q2, PM_8 q3 g.1 ht⟩
  · rw [g.2.2 _ (by omega)]
    exact h3 m m0 m6
def lF : List Nat := 4705 :: 4708 :: 4709 :: 4717 :: lV
theorem first_of {f : Nat → Nat} {L : Nat} (h : ∃ j, f j = L) : ∃ j, f j = L ∧ ∀ i, i < j → f i ≠ L := by
  have key : ∀ n, (∃ j, j < n ∧ f j = L ∧ ∀ i, i < j → f i ≠ L) ∨ ∀ i, i < n → f i ≠ L := fun n => by
    induction n with
    | zero => exact .inr fun i hi => absurd hi (Nat.not_lt_zero i)
    | succ n ih =>
      rcases ih with ⟨j, h1, h2⟩ | h
      · exact .inl ⟨j, by omega, h2⟩
      · by_cases y : f n = L
        · exact .inl ⟨n, by omega, y, h⟩
        · exact .inr fun i hi => by
            by_cases z : i = n
            · rw [z]; exact y
            · exact h i (by omega)
  obtain ⟨j, hj⟩ := h
  rcases key (j + 1) with ⟨i, -, h2⟩ | h
  · exact ⟨i, h2⟩
  · exact absurd hj (h j (by omega))
section L59i
variable {sc : am_X} {w : wo} {A : ab}
theorem oB_of (hM : RM w A) (hA : okA A) : oB w (tB A) A.2.1.1.toNat := by
  obtain ⟨h1, h2⟩ := hM.2.2.1
  obtain ⟨a1, a2, a3⟩ := hA.2.1
  refine ⟨by rw [h1]; omega, fun p hp => ?_⟩
  have hr := a3 p (by omega) (by omega)
  rw [h2 p (by omega) (by omega), sBy_bm hr.1 hr.2]
  unfold tB bA
  rw [if_pos (by omega)]
theorem RM_8 {u : wo} (hM : RM w A) (f : fr lF w u) : MS u A.1.1 A.1.2.1 ∧ ML u A.1.2.2.1 A.1.2.2.2 ∧ MI u A.2.2.2.2 := by
  obtain ⟨h1, h2, h3, h4, h5, h6⟩ := hM
  refine ⟨MS_fr h1 f rfl, ?_, ?_⟩
  · unfold ML at h2 ⊢
    rw [fr_I f rfl, fr_A (a := 49) f rfl]
    exact h2
  · unfold MI MIo at h6 ⊢
    rw [fr_A (a := 76) f rfl, fr_A (a := 75) f rfl]
    exact h6
theorem y_96n (h8 : wI w 47 8 = 8) : am_F sc 96 [am_R (some 47)] (wst w) = some (some (am_I (ii (-1))), wst w) := by
  rw [fq_96]
  simp (disch := omega) only [qB_s, qC_t, qC_f, qI_T, qI_F, qI_t, qI_f, r_I, r_L, r_R, r_V, ii_add, ii_sub, ii_mul, ii_neg, bz_0, bz_1, Bool.true_and, Bool.false_and, Bool.and_true, z00, z11, li_0, li_1, li_2, li_59, li_6, li_8, gI_47_14, gI_47_15, gI_47_8, gR_47_10, gR_47_11, gR_47_12, gR_47_13, is_47, pI_47_14, pI_47_5, pI_47_8, t_53, t_54, t_55, t_56, ii_eq, h8]
theorem y_99n (h8 : wI w 47 9 = 8) : am_F sc 99 [am_R (some 47)] (wst w) = some (some (am_I (ii (-1))), wst w) := by
  rw [fq_99]
  simp (disch := omega) only [qB_s, qC_t, qC_f, qI_T, qI_F, qI_t, qI_f, r_I, r_L, r_R, r_V, ii_add, ii_sub, ii_mul, ii_neg, bz_0, bz_1, Bool.true_and, Bool.false_and, Bool.and_true, z00, z11, li_0, li_1, li_2, li_8, gI_47_14, gI_47_15, gI_47_9, is_47, pI_47_5, pI_47_9, ii_eq, h8]
theorem tB_T (hA : okA A) : ∃ T, TT (tB A) A.2.1.1.toNat T := by
  have hP := tB_P hA
  have h4 := hP.1
  have ex : ∃ j, tS (tB A) j = A.2.1.1.toNat := by
    rcases tS_ge hP (A.2.1.1.toNat) with h | h
    · exact ⟨_, h⟩
    · exact ⟨_, Nat.le_antisymm (tS_r hP _).1 h⟩
  obtain ⟨T, h1, h2⟩ := first_of ex
  refine ⟨T, hP, ?_, h1, h2⟩
  rcases Nat.eq_zero_or_pos T with h | h
  · omega
  · have h3 := h2 (T - 1) (by omega)
    have h5 := (tS_r hP (T - 1)).1
    rcases tS_ge hP (T - 1) with h6 | h6
    · exact absurd h6 h3
    · omega
/-- a text begins -/
theorem d75w {b : Nat → Int} {L : Nat} {t : Int} (ht : 0 ≤ t ∧ t < 16) (hB : oB w b L) : ∃ u, am_F sc 75 [am_R (some 47), am_I (ii t)] (wst w) = some (none, wst u) ∧ fr lF w u ∧ hO8 t w u ∧ oP u b L 0 ∧ wI u 47 15 = 0 ∧ wI u 47 17 = t ∧ wI u 47 18 = 0 ∧ wA u 52 t = 0 ∧ wI u 47 8 = wI w 47 8 ∧ wI u 47 9 = wI w 47 9 := by
  have f : fr lF w (uI (uI (uI (uA (uI w 47 17 t) 52 (fu (wA w 52) t 0)) 47 14 0) 47 15 0) 47 18 0) := fr_uI (fr_uI (fr_uI (fr_uA (fr_uI (fr_r _ _) rfl) rfl) rfl) rfl) rfl
  have e52 : wA (uI (uI (uI (uA (uI w 47 17 t) 52 (fu (wA w 52) t 0)) 47 14 0) 47 15 0) 47 18 0) 52 = fu (wA w 52) t 0 := rA _ _ _
  refine ⟨_, d75 ht, f, ⟨⟨fun _ _ => rfl, fun z hz => ?_⟩, fun _ _ => ⟨rfl, rfl, rfl⟩, fun _ _ => rfl⟩, ⟨⟨hB.1, hB.2⟩, 0, rfl, Nat.zero_le L, rfl⟩, rfl, rfl, rfl, ?_, rfl, rfl⟩
  · rw [e52, fu_at, if_neg hz]
  · rw [e52, fu_at, if_pos rfl]
theorem d96a {t : Int} (ht : 0 ≤ t ∧ t < 8) : ∃ u, am_W sc 96 (44, [some (am_R (some 47)), some (am_I (ii t)), some (am_I (ii 0))], [], wst w) = am_W sc 96 (44, [some (am_R (some 47)), some (am_I (ii t)), some (am_I (ii 6))], [], wst u) ∧ fr [5599] w u ∧ (∀ m : Int, 0 ≤ m → m < 6 → wA u 55 (6 * t + m) = 0) ∧ ∀ z, z < 6 * t ∨ 6 * t + 6 ≤ z → wA u 55 z = wA w 55 z := by
  obtain ⟨u, e, f1, h1, h2⟩ := lp_s0 (am_W sc 96) (fun (m : Nat) (u : wo) => (44, [some (am_R (some 47)), some (am_I (ii t)), some (am_I (ii m))], [], wst u)) (fun m u => fr [5599] w u ∧ (∀ i : Int, 0 ≤ i → i < m → wA u 55 (6 * t + i) = 0) ∧ ∀ z, z < 6 * t ∨ 6 * t + 6 ≤ z → wA u 55 z = wA w 55 z) 6 (fun m u hm hu => by
    obtain ⟨f1, h1, h2⟩ := hu
    refine ⟨uA u 55 (fu (wA u 55) (6 * t + m) 0), ?_, fr_uA f1 rfl, fun i i0 i1 => ?_, fun z hz => ?_⟩
    · rw [wq_96_44]
      simp (disch := omega) only [qB_s, qC_t, qC_f, qI_T, qI_F, qI_t, qI_f, r_I, r_L, r_R, r_V, ii_add, ii_sub, ii_mul, ii_neg, bz_0, bz_1, Bool.true_and, Bool.false_and, Bool.and_true, z00, z11, li_0, li_1, li_2, li_59, li_6, li_8, gI_47_14, gI_47_15, gI_47_8, gR_47_10, gR_47_11, gR_47_12, gR_47_13, is_47, pI_47_14, pI_47_5, pI_47_8, t_53, t_54, t_55, t_56, ii_lt, nat_1]
    · rw [rA, fu_at]
      by_cases y : i = m
      · rw [if_pos (by omega)]
      · rw [if_neg (by omega)]
        exact h1 i i0 (by omega)
    · rw [rA, fu_at, if_neg (by omega)]
      exact h2 z hz) w ⟨fr_r _ _, fun i i0 i1 => by omega, fun _ _ => rfl⟩
  exact ⟨u, e, f1, fun i i0 i6 => h1 i i0 (by omega), h2⟩
theorem y_96 (hM : RM w A) (hA : okA A) (h8 : A.2.2.1.1 < 8) (hc : ∀ c, aVw (tB A) = .inl c → 1 ≤ c ∧ c ≤ 10000) : match aVw (tB A) with
    | .inl c => ∃ u, am_F sc 96 [am_R (some 47)] (wst w) = some (some (am_I (ii (-2 - c))), wst u) ∧ fr lF w u ∧ RM u (eA A)
    | .inr s => ∃ u, am_F sc 96 [am_R (some 47)] (wst w) = some (some (am_I (ii A.2.2.1.1)), wst u) ∧ fr lF w u ∧ RM u (vA A s.2) := by
  obtain ⟨T, hT⟩ := tB_T hA
  have hT4 := hT.2.1
  have hn0 := hA.2.2.1.1
  have h47 : wI w 47 8 = A.2.2.1.1 := hM.2.2.2.1.1
  have hMV := hM.2.2.2.1.2
  have hMR := hM.2.2.2.2.1
  have hr0 := hA.2.2.2.1.1
  obtain ⟨t, htt⟩ : ∃ t, t = A.2.2.1.1 := ⟨_, rfl⟩
  rw [← htt] at h8 hn0 h47 hMV ⊢
  have ht : 0 ≤ t ∧ t < 8 := ⟨hn0, h8⟩
  obtain ⟨w1, e1, f1, g1, p1, a15, a17, a18, a52, a8, a9⟩ := d75w (sc := sc) (t := t) (by omega) (oB_of hM hA)
  obtain ⟨w2, hw2⟩ : ∃ v, v = uA (uA (uA w1 53 (fu (wA w1 53) t 0)) 54 (fu (wA w1 54) t 0)) 56 (fu (wA w1 56) t (-1)) := ⟨_, rfl⟩
  have f2 : fr [5399, 5499, 5699] w1 w2 := by
    rw [hw2]
    exact fr_uA (fr_uA (fr_uA (fr_r _ _) rfl) rfl) rfl
  have g2 : hO8 t w1 w2 := by
    rw [hw2]
    refine ⟨⟨fun _ _ => rfl, fun _ _ => rfl⟩, fun z hz => ⟨?_, ?_, ?_⟩, fun _ _ => rfl⟩
    · rw [rAn _ _ rfl, rAn _ _ rfl, rA, fu_at, if_neg hz]
    · rw [rAn _ _ rfl, rA, fu_at, if_neg hz]
    · rw [rA, fu_at, if_neg hz]
  obtain ⟨w3, e3, f3, n3, g3⟩ := d96a (sc := sc) (w := w2) ht
  have gg3 : hO8 t w2 w3 := ⟨⟨fun z _ => by rw [fr_A (a := 51) f3 rfl], fun z _ => by rw [fr_A (a := 52) f3 rfl]⟩, fun z _ => ⟨by rw [fr_A (a := 53) f3 rfl], by rw [fr_A (a := 54) f3 rfl], by rw [fr_A (a := 56) f3 rfl]⟩, g3⟩
  have F3 : fr lF w w3 := fr_t (fr_t f1 (fr_m f2 rfl)) (fr_m f3 rfl)
  have G3 : hO8 t w w3 := hO8_t (hO8_t g1 g2) gg3
  have F13 : fr [5399, 5499, 5699, 5599] w1 w3 := fr_t (fr_m f2 rfl) (fr_m f3 rfl)
  have hC3 : oC w3 (tB A) A.2.1.1.toNat t 0 vwZ := by
    refine ⟨⟨oB_fr p1.1 F13 rfl, by rw [fr_I F13 rfl]; exact p1.2⟩, by rw [fr_I F13 rfl]; exact a15, by rw [fr_I F13 rfl]; exact a17, fun _ => ⟨by rw [fr_I F13 rfl]; exact a18, by rw [fr_A (a := 52) F13 rfl]; exact a52⟩, .inl ⟨rfl, ?_⟩, ?_, fun m m0 m6 => n3 m m0 m6, ?_⟩
    · rw [fr_A (a := 53) f3 rfl, hw2, rAn _ _ rfl, rAn _ _ rfl, rA, fu_at, if_pos rfl]
    · rw [fr_A (a := 54) f3 rfl, hw2, rAn _ _ rfl, rA, fu_at, if_pos rfl]
      rfl
    · rw [fr_A (a := 56) f3 rfl, hw2, rA, fu_at, if_pos rfl]
      rfl
  have h83 : wI w3 47 8 = t := by rw [fr_I F13 rfl, a8, h47]
  have go : am_F sc 96 [am_R (some 47)] (wst w) = am_W sc 96 (44, [some (am_R (some 47)), some (am_I (ii t)), some (am_I (ii 6))], [], wst w3) := by
    rw [← e3, fq_96, hw2]
    simp (disch := omega) only [qB_s, qC_t, qC_f, qI_T, qI_F, qI_t, qI_f, r_I, r_L, r_R, r_V, ii_add, ii_sub, ii_mul, ii_neg, bz_0, bz_1, Bool.true_and, Bool.false_and, Bool.and_true, z00, z11, li_0, li_1, li_2, li_59, li_6, li_8, gI_47_14, gI_47_15, gI_47_8, gR_47_10, gR_47_11, gR_47_12, gR_47_13, is_47, pI_47_14, pI_47_5, pI_47_8, t_53, t_54, t_55, t_56, ii_eq, h47, e1, uA_A, if_false, Nat.reduceEqDiff]
  obtain ⟨u4, y, m1, m2, m3⟩ := d95 (sc := sc) hT ht (j := 0) (Nat.zero_le T) vwZ_ok hC3
  have go2 : am_F sc 96 [am_R (some 47)] (wst w) = am_W sc 96 (74, [some (am_R (some 47)), some (am_I (ii t)), some (am_I (ii y))], [], wst u4) := by
    rw [go, wq_96_44]
    simp (disch := omega) only [qB_s, qC_t, qC_f, qI_T, qI_F, qI_t, qI_f, r_I, r_L, r_R, r_V, ii_add, ii_sub, ii_mul, ii_neg, bz_0, bz_1, Bool.true_and, Bool.false_and, Bool.and_true, z00, z11, li_0, li_1, li_2, li_59, li_6, li_8, gI_47_14, gI_47_15, gI_47_8, gR_47_10, gR_47_11, gR_47_12, gR_47_13, is_47, pI_47_14, pI_47_5, pI_47_8, t_53, t_54, t_55, t_56, ii_lt, m1]
  -- the end
  have fin : ∀ (u : wo) (x : Int) (r : Sum Int (Nat × vw)), oV w3 u t x r → fr lF w u ∧ (match r with
      | .inl c => x = -2 - c ∧ RM u (eA A)
      | .inr s => x = t ∧ RM u (vA A s.2)) := fun u x r h => by
    obtain ⟨h1, -, h5, h4, h6, h7, h9⟩ := h
    have Fu : fr lF w u := fr_t F3 (fr_m h1 rfl)
    have Gu : hO8 t w u := hO8_t G3 ⟨h4, h6, h7⟩
    obtain ⟨r1, r2, r3⟩ := RM_8 hM Fu
    have rR : MR u A.2.2.2.1.1 A.2.2.2.1.2 := ⟨by rw [fr_I h1 rfl, fr_I F13 rfl, a9]; exact hMR.1, fun r r0 rr => PM_8 (hMR.2 r r0 rr) Gu.1 (by omega)⟩
    refine ⟨Fu, ?_⟩
    cases r with
    | inl c =>
      obtain ⟨x1, x2⟩ := h9
      exact ⟨x1, r1, r2, ⟨h5, fun i i0 i1 => by have i1 : i < 0 := i1; omega⟩, ⟨by rw [x2, h83, htt]; rfl, fun v v0 v1 => MVo_O (hMV v v0 (by rw [htt]; exact v1)) Gu (by have v1 : v < A.2.2.1.1 := v1; omega)⟩, rR, r3⟩
    | inr s =>
      obtain ⟨x1, x2, x3⟩ := h9
      refine ⟨x1, r1, r2, ⟨h5, fun i i0 i1 => by have i1 : i < 0 := i1; omega⟩, ⟨by rw [x2, h83, htt]; rfl, fun v v0 v1 => ?_⟩, rR, r3⟩
      have v1 : v < A.2.2.1.1 + 1 := v1
      show MVo u v (if v = A.2.2.1.1 then s.2 else A.2.2.1.2 v)
      by_cases z : v = t
      · rw [if_pos (by omega), z]
        exact x3
      · rw [if_neg (by omega)]
        exact MVo_O (hMV v v0 (by omega)) Gu z
  have g4 : hV8 t w3 u4 := m2
  unfold aVw at hc ⊢
  have ev : aCls (tB A) (0, none, 0, (fun _ => 0), -1) = aCls (tB A) (0, vwZ) := rfl
  rw [ev] at hc ⊢
  revert m3 hc
  cases hr : aCls (tB A) (0, vwZ) with
  | inl c =>
    intro hc m3
    obtain ⟨m3, m4⟩ := m3
    subst m3
    have hc' := hc c rfl
    have := fin _ _ _ (oV_f g4 m4)
    exact ⟨_, go2.trans (d96x m4 hc'), this.1, this.2.2⟩
  | inr s1 =>
    intro hc m3
    obtain ⟨m3, m4⟩ := m3
    subst m3
    obtain ⟨i1, i2, i3⟩ := aCls_I hT (s := (0, vwZ)) (Nat.zero_le T) vwZ_ok hr
    have i2 : 0 + 1 ≤ s1.1 := i2
    obtain ⟨u, x, o1, o2⟩ := d96l (sc := sc) hT ht h83 400 u4 s1 (by omega) i1 i3 g4 m4 hc
    have := fin u x _ o2
    show (match aVwL (tB A) 400 s1 with
      | .inl c => ∃ u, am_F sc 96 [am_R (some 47)] (wst w) = some (some (am_I (ii (-2 - c))), wst u) ∧ fr lF w u ∧ RM u (eA A)
      | .inr s => ∃ u, am_F sc 96 [am_R (some 47)] (wst w) = some (some (am_I (ii t)), wst u) ∧ fr lF w u ∧ RM u (vA A s.2))
    revert this
    cases aVwL (tB A) 400 s1 with
    | inl c =>
      rintro ⟨t1, t2, t3⟩
      exact ⟨u, by rw [go2, o1, t2], t1, t3⟩
    | inr s =>
      rintro ⟨t1, t2, t3⟩
      exact ⟨u, by rw [go2, o1, t2], t1, t3⟩
theorem y_99 (hM : RM w A) (hA : okA A) (h8 : A.2.2.2.1.1 < 8) (hc : ∀ c, aRul (tB A) = .inl c → 1 ≤ c ∧ c ≤ 10000) : match aRul (tB A) with
    | .inl c => ∃ u, am_F sc 99 [am_R (some 47)] (wst w) = some (some (am_I (ii (-2 - c))), wst u) ∧ fr lF w u ∧ RM u (eA A)
    | .inr P => ∃ u, am_F sc 99 [am_R (some 47)] (wst w) = some (some (am_I (ii A.2.2.2.1.1)), wst u) ∧ fr lF w u ∧ RM u (rA' A P) := by
  obtain ⟨T, hT⟩ := tB_T hA
  have hT4 := hT.2.1
  have hn0 := hA.2.2.2.1.1
  have h47 : wI w 47 9 = A.2.2.2.1.1 := hM.2.2.2.2.1.1
  have hMV := hM.2.2.2.1
  have hMR := hM.2.2.2.2.1.2
  have hv8 := hA.2.2.1.2.1
  obtain ⟨t, htt⟩ : ∃ t, t = A.2.2.2.1.1 := ⟨_, rfl⟩
  rw [← htt] at h8 hn0 h47 hMR ⊢
  obtain ⟨w1, e1, f1, g1, p1, a15, a17, a18, a52, a8, a9⟩ := d75w (sc := sc) (t := 8 + t) (by omega) (oB_of hM hA)
  obtain ⟨u2, y, m1, m2, m3⟩ := d94 (sc := sc) hT (t := 8 + t) (by omega) (j := 0) (Nat.zero_le T) p1 a15 a17 a18 a52
  have F2 : fr lF w u2 := fr_t f1 (fr_m m2.1 rfl)
  have G2 : hO8 (8 + t) w u2 := hO8_t g1 ⟨m2.2, fun z _ => ⟨by rw [fr_A (a := 53) m2.1 rfl], by rw [fr_A (a := 54) m2.1 rfl], by rw [fr_A (a := 56) m2.1 rfl]⟩, fun z _ => by rw [fr_A (a := 55) m2.1 rfl]⟩
  have h92 : wI u2 47 9 = t := by rw [fr_I m2.1 rfl, a9, h47]
  -- what is left alone
  have oth : ∀ u : wo, fr lF w u → hO8 (8 + t) w u → wI u 47 8 = wI w 47 8 → MS u A.1.1 A.1.2.1 ∧ ML u A.1.2.2.1 A.1.2.2.2 ∧ MI u A.2.2.2.2 ∧ MV u A.2.2.1.1 A.2.2.1.2 ∧ ∀ r, 0 ≤ r → r < t → PM u (8 + r) (A.2.2.2.1.2 r) := fun u Fu Gu h8' => by
    obtain ⟨r1, r2, r3⟩ := RM_8 hM Fu
    exact ⟨r1, r2, r3, ⟨by rw [h8']; exact hMV.1, fun v v0 v1 => MVo_O (hMV.2 v v0 v1) Gu (by omega)⟩, fun r r0 r1 => PM_8 (hMR r r0 r1) Gu.1 (by omega)⟩
  have h82 : wI u2 47 8 = wI w 47 8 := by rw [fr_I m2.1 rfl, a8]
  have run75 := e1
  unfold aRul at hc ⊢
  revert m3 hc
  cases hr : aTst (tB A) 0 with
  | inl c =>
    intro hc m3
    obtain ⟨m3, m4⟩ := m3
    subst m3
    have hc' := hc c rfl
    have F3 : fr lF w (uI u2 47 5 0) := fr_uI F2 rfl
    obtain ⟨r1, r2, r3, r4, r5⟩ := oth (uI u2 47 5 0) F3 G2 h82
    have e15 : wI (uI u2 47 5 0) 47 15 = c := m4
    refine ⟨uI u2 47 5 0, ?_, F3, r1, r2, ⟨rI _ _ _ _, fun i i0 i1 => by have i1 : i < 0 := i1; omega⟩, r4, ⟨?_, fun r r0 rr => r5 r r0 (by rw [htt]; exact rr)⟩, r3⟩
    · rw [fq_99]
      simp (disch := omega) only [qB_s, qC_t, qC_f, qI_T, qI_F, qI_t, qI_f, r_I, r_L, r_R, r_V, ii_add, ii_sub, ii_mul, ii_neg, bz_0, bz_1, Bool.true_and, Bool.false_and, Bool.and_true, z00, z11, li_0, li_1, li_2, li_8, gI_47_14, gI_47_15, gI_47_9, is_47, pI_47_5, pI_47_9, ii_lt, ii_eq, h47, e1, m1, e15]
    · show wI u2 47 9 = A.2.2.2.1.1
      rw [h92, htt]
  | inr s =>
    intro hc m3
    obtain ⟨m3, m4⟩ := m3
    subst m3
    obtain ⟨i1, i2, i3, i4, i5⟩ := aTst_I hT (Nat.zero_le T) hr
    obtain ⟨u3, n1, n2, n3⟩ := d76 (sc := sc) hT m4.1
    have F3 : fr lF w u3 := fr_t F2 (fr_m n2 rfl)
    have G3 : hO8 (8 + t) w u3 := hO8_t G2 ⟨⟨fun z _ => by rw [fr_A (a := 51) n2 rfl], fun z _ => by rw [fr_A (a := 52) n2 rfl]⟩, fun z _ => ⟨by rw [fr_A (a := 53) n2 rfl], by rw [fr_A (a := 54) n2 rfl], by rw [fr_A (a := 56) n2 rfl]⟩, fun z _ => by rw [fr_A (a := 55) n2 rfl]⟩
    have h93 : wI u3 47 9 = t := by rw [fr_I n2 rfl, h92]
    have h83 : wI u3 47 8 = wI w 47 8 := by rw [fr_I n2 rfl, h82]
    have h15 : wI u3 47 15 = 0 := by rw [fr_I n2 rfl]; exact m4.2.1
    have hS := n3.2
    have hb := TP_b hT.1 (tS (tB A) s.1)
    have eB : (bd (Sum.inr s : Sum Int st) fun q => if tK (tB A) q.1 = 204 then Sum.inr q.2.2.2 else Sum.inl (fl (tB A) q.1 0) : Sum Int pg) = if tK (tB A) s.1 = 204 then Sum.inr s.2.2.2 else Sum.inl (fl (tB A) s.1 0) := rfl
    rw [eB] at hc ⊢
    by_cases y2 : tK (tB A) s.1 = 204
    · rw [if_pos y2]
      have eS := (tK_end hT.1).mp y2
      have eb : tB A (tS (tB A) s.1) = -1 := by rw [eS]; exact hT.1.2.2 _ (Nat.le_refl _)
      rw [eb] at n1
      have F4 : fr lF w (uI (uI u3 47 5 0) 47 9 (t + 1)) := fr_uI (fr_uI F3 rfl) rfl
      obtain ⟨r1, r2, r3, r4, r5⟩ := oth (uI (uI u3 47 5 0) 47 9 (t + 1)) F4 G3 h83
      have e15 : wI (uI u3 47 5 0) 47 15 = 0 := h15
      have e9 : wI (uI u3 47 5 0) 47 9 = t := h93
      have e9' : wI (uI (uI u3 47 5 0) 47 9 (t + 1)) 47 9 = t + 1 := rI _ _ _ _
      refine ⟨uI (uI u3 47 5 0) 47 9 (t + 1), ?_, F4, r1, r2, ⟨rfl, fun i i0 i1 => by have i1 : i < 0 := i1; omega⟩, r4, ⟨?_, fun r r0 rr => ?_⟩, r3⟩
      · rw [fq_99]
        simp (disch := omega) only [qB_s, qC_t, qC_f, qI_T, qI_F, qI_t, qI_f, r_I, r_L, r_R, r_V, ii_add, ii_sub, ii_mul, ii_neg, bz_0, bz_1, Bool.true_and, Bool.false_and, Bool.and_true, z00, z11, li_0, li_1, li_2, li_8, gI_47_14, gI_47_15, gI_47_9, is_47, pI_47_5, pI_47_9, ii_lt, ii_eq, h47, e1, m1, n1, e15, e9, e9']
        rw [show t + 1 - 1 = t by omega]
      · rw [e9']
        show t + 1 = A.2.2.2.1.1 + 1
        rw [htt]
      · have rr : r < A.2.2.2.1.1 + 1 := rr
        show PM _ (8 + r) (if r = A.2.2.2.1.1 then s.2.2.2 else A.2.2.2.1.2 r)
        by_cases z : r = t
        · rw [if_pos (by omega), z]
          have hPM : PMr u3 (8 + t) s.2.2.2 := by
            unfold PMr
            rw [fr_A (a := 51) n2 rfl, fr_A (a := 52) n2 rfl]
            exact m4.2.2.2.2.2.2
          exact ⟨hPM.1, by omega, hPM.2⟩
        · rw [if_neg (by omega)]
          exact r5 r r0 (by omega)
    · rw [if_neg y2] at hc ⊢
      have hc' := hc _ rfl
      have eb : tB A (tS (tB A) s.1) ≠ -1 := fun y => y2 (by unfold tK tkK; rw [if_pos y])
      have e80 := d80 (sc := sc) (c := 0) (x := tS (tB A) s.1) h15
      have F4 : fr lF w (uI (uI u3 47 15 (1 + 8 * (tS (tB A) s.1 : Int) + 0)) 47 5 0) := fr_uI (fr_uI F3 rfl) rfl
      obtain ⟨r1, r2, r3, r4, r5⟩ := oth _ F4 G3 h83
      have e15 : wI (uI (uI u3 47 15 (1 + 8 * (tS (tB A) s.1 : Int) + 0)) 47 5 0) 47 15 = fl (tB A) s.1 0 := rfl
      refine ⟨_, ?_, F4, r1, r2, ⟨rI _ _ _ _, fun i i0 i1 => by have i1 : i < 0 := i1; omega⟩, r4, ⟨?_, fun r r0 rr => r5 r r0 (by rw [htt]; exact rr)⟩, r3⟩
      · rw [fq_99]
        simp (disch := omega) only [qB_s, qC_t, qC_f, qI_T, qI_F, qI_t, qI_f, r_I, r_L, r_R, r_V, ii_add, ii_sub, ii_mul, ii_neg, bz_0, bz_1, Bool.true_and, Bool.false_and, Bool.and_true, z00, z11, li_0, li_1, li_2, li_8, gI_47_14, gI_47_15, gI_47_9, is_47, pI_47_5, pI_47_9, ii_lt, ii_eq, h47, e1, m1, n1, hS, e80, e15]
      · show wI u3 47 9 = A.2.2.2.1.1
        rw [h93, htt]
end L59i
