/-! VIEW AND RULE, THE OTHER -/
section L59g
variable {sc : am_X} {w : wo} {b : Nat → Int} {L T : Nat} {t : Int}
theorem MW_psh {s : st} (hW : MW w b L t s) (hl : s.2.2.1.length < 400) {k : Int} (hk : k = 4 ∨ k = 5) : fr [4721, 5799] w (uI (uA w 57 (fu (wA w 57) s.2.2.1.length (om k))) 47 21 (s.2.2.1.length + 1)) ∧ MW (uI (uA w 57 (fu (wA w 57) s.2.2.1.length (om k))) 47 21 (s.2.2.1.length + 1)) b L t (s.1, s.2.1, k :: s.2.2.1, s.2.2.2) := by
  obtain ⟨h1, h2, h3, h4, h5, ⟨h6, h7⟩, h8⟩ := hW
  have f1 : fr [4721, 5799] w (uI (uA w 57 (fu (wA w 57) s.2.2.1.length (om k))) 47 21 (s.2.2.1.length + 1)) := fr_uI (fr_uA (fr_r _ _) rfl) rfl
  refine ⟨f1, ⟨oB_fr h1.1 f1 rfl, h1.2⟩, h2, h3, h4, ?_, ⟨?_, ?_⟩, h8⟩
  · show wI w 47 19 = dpt s.2.2.1 + bz (k = 6 ∨ k = 3)
    rw [bz_f (by omega), Int.add_zero]
    exact h5
  · rw [rI]
    show _ = ((s.2.2.1.length + 1 : Nat) : Int)
    omega
  · simp only [uI_I, uA_I, uI_A, uA_A, Nat.reduceEqDiff, and_self, and_false, and_true, if_true, if_false]
    show fu (wA w 57) s.2.2.1.length (om k) (((s.2.2.1.map om).length : Nat) : Int) = om k ∧ skr (s.2.2.1.map om) (fu (wA w 57) s.2.2.1.length (om k))
    rw [List.length_map]
    exact ⟨by rw [fu_at, if_pos rfl], skr_up h7 (by rw [List.length_map]; exact Int.le_refl _)⟩
/-- and, or -/
theorem d94a (hT : TT b L T) (ht : 0 ≤ t ∧ t < 16) {s : st} (hW : MW w b L t s) (hI : aI b T 0 0 1 s) {k : Int} (hk : (k = 5 ∧ tK b s.1 = 15) ∨ (k = 4 ∧ tK b s.1 = 16)) : ∃ u, am_W sc 94 (49, [some (am_R (some 47)), none, none], [], wst w) = am_W sc 94 (12, [some (am_R (some 47)), some (am_I (ii 1)), none], [], wst u) ∧ gM t w u ∧ MW u b L t (aPsh k (aStl k s)) := by
  obtain ⟨c6, c7, c8, c9, c10, c11, c12, c13, c14, c15, c16, c17⟩ := Wc_v
  have hlt := TT_lt hT hI.1 (show tK b s.1 ≠ 204 by omega)
  obtain ⟨u1, k1, k2, k3⟩ := d79w (sc := sc) hT hW.1 (k := 15) (K := 15) (by decide) rfl c15
  obtain ⟨u2, m1, m2, m3⟩ : ∃ u, am_F sc 81 [am_R (some 47)] (wst u1) = some (none, wst u) ∧ fr [4714] u1 u ∧ oP u b L (s.1 + 1) := by
    rcases hk with ⟨-, y⟩ | ⟨-, y⟩
    · exact d81 (sc := sc) hT k3 (k := 15) (by decide) y
    · exact d81 (sc := sc) hT k3 (k := 16) (by decide) y
  have hW2 : MW u2 b L t (s.1 + 1, s.2) := MW_n hW (fr_t k2 m2) rfl m3
  have hI2 := aI_1 hT hI (show tK b s.1 ≠ 204 by omega)
  obtain ⟨u3, n1, n2, nf, n3⟩ := d91 (sc := sc) hT ht (k := k) (by omega) hW2 hI2 (Int.le_refl _)
  have hI3 := (aStl_I (k := k) (by omega) hI2).1
  have hwl := aI_w hT hI3 (Int.le_refl _)
  obtain ⟨f4, hW4⟩ := MW_psh n3 (by omega) (k := k) (by omega)
  have h21 := n3.2.2.2.2.2.1.1
  refine ⟨_, ?_, gM_t (gM_t (gM_fr (fr_t k2 m2) rfl rfl) n2) (gM_fr f4 rfl rfl), hW4⟩
  rw [wq_94_49]
  rcases hk with ⟨y1, y2⟩ | ⟨y1, y2⟩
  · rw [bz_t y2] at k1
    subst y1
    have n1 : am_F sc 91 [am_R (some 47), am_I (ii 2)] (wst u2) = some (none, wst u3) := n1
    rw [show om 5 = 2 from rfl]
    simp (disch := omega) only [qB_s, qC_t, qC_f, qI_T, qI_F, qI_t, qI_f, r_I, r_L, r_R, r_V, ii_add, ii_sub, ii_mul, ii_neg, bz_0, bz_1, Bool.true_and, Bool.false_and, Bool.and_true, z00, z11, li_0, li_1, li_2, lj_28530, lj_6385252, gI_47_14, gI_47_21, gR_47_20, is_47, pI_47_19, pI_47_21, t_57, ii_eq, k1, m1, n1, h21, uI_I, uA_I, uI_A, uA_A, Nat.reduceEqDiff, and_self, and_false, and_true, if_true, if_false]
  · rw [bz_f (by omega)] at k1
    subst y1
    have n1 : am_F sc 91 [am_R (some 47), am_I (ii 1)] (wst u2) = some (none, wst u3) := n1
    rw [show om 4 = 1 from rfl]
    simp (disch := omega) only [qB_s, qC_t, qC_f, qI_T, qI_F, qI_t, qI_f, r_I, r_L, r_R, r_V, ii_add, ii_sub, ii_mul, ii_neg, bz_0, bz_1, Bool.true_and, Bool.false_and, Bool.and_true, z00, z11, li_0, li_1, li_2, lj_28530, lj_6385252, gI_47_14, gI_47_21, gR_47_20, is_47, pI_47_19, pI_47_21, t_57, ii_eq, k1, m1, n1, h21, uI_I, uA_I, uI_A, uA_A, Nat.reduceEqDiff, and_self, and_false, and_true, if_true, if_false]
/-- behind the facts -/
theorem d94b (hT : TT b L T) (ht : 0 ≤ t ∧ t < 16) {s : st} (hW : MW w b L t s) (hI : aI b T 0 0 1 s) (hk : tK b s.1 ≠ 15 ∧ tK b s.1 ≠ 16) : ∃ (u : wo) (x : Int), am_W sc 94 (12, [some (am_R (some 47)), some (am_I (ii 0)), none], [], wst w) = some (some (am_I (ii x)), wst u) ∧ gM t w u ∧ oR u b L t (bd (aEnd b s) fun z => .inr z.2) x := by
  have e92 := d92w (sc := sc) hT hW hI (Int.le_refl _)
  have hst := stl_ins (P := s.2.2.2) hI.2.2.1.2.1
  have e2 : aEnd b s = (match (aStl 4 s).2.2.1 with
    | [] => .inr (false, aStl 4 s)
    | _ :: _ => .inl (fl b s.1 0)) := by
    unfold aEnd
    rw [if_neg hk.1, if_neg hk.2]
    cases (aStl 4 s).2.2.1 <;> rfl
  cases hi : ins s.2.2.1 with
  | false =>
    rw [hi, bz_ff] at e92
    have hnil : (aStl 4 s).2.2.1 = [] := hst.mpr hi
    obtain ⟨u, m1, m2, mf, m3⟩ := d91 (sc := sc) hT ht (k := 4) (.inl rfl) hW hI (Int.le_refl _)
    have m1 : am_F sc 91 [am_R (some 47), am_I (ii 1)] (wst w) = some (none, wst u) := m1
    rw [hnil] at e2
    rw [e2]
    refine ⟨u, 1, ?_, m2, rfl, m3⟩
    rw [wq_94_12]
    simp (disch := omega) only [qB_s, qC_t, qC_f, qI_T, qI_F, qI_t, qI_f, r_I, r_L, r_R, r_V, ii_add, ii_sub, ii_mul, ii_neg, bz_0, bz_1, Bool.true_and, Bool.false_and, Bool.and_true, z00, z11, li_0, li_1, li_2, lj_28530, lj_6385252, gI_47_14, gI_47_21, gR_47_20, is_47, pI_47_19, pI_47_21, t_57, ii_eq, e92, m1]
  | true =>
    rw [hi, bz_tt] at e92
    have hne : (aStl 4 s).2.2.1 ≠ [] := fun y => by
      have := hst.mp y
      rw [hi] at this
      cases this
    obtain ⟨u, m1, m2, m3⟩ := d76 (sc := sc) hT hW.1
    have h15 : wI u 47 15 = 0 := by rw [fr_I m2 rfl]; exact hW.2.1
    have hS := m3.2
    have e80 := d80 (sc := sc) (c := 0) (x := tS b s.1) h15
    have e3 : aEnd b s = .inl (fl b s.1 0) := by
      rw [e2]
      revert hne
      generalize (aStl 4 s).2.2.1 = l
      intro hne
      cases l with
      | nil => exact absurd rfl hne
      | cons x q => rfl
    rw [e3]
    refine ⟨uI u 47 15 (1 + 8 * (tS b s.1 : Int) + 0), 0, ?_, gM_t (gM_fr m2 rfl rfl) (gM_fr (l := [4715]) (fr_uI (fr_r _ _) rfl) rfl rfl), rfl, rI _ _ _ _⟩
    rw [wq_94_12]
    simp (disch := omega) only [qB_s, qC_t, qC_f, qI_T, qI_F, qI_t, qI_f, r_I, r_L, r_R, r_V, ii_add, ii_sub, ii_mul, ii_neg, bz_0, bz_1, Bool.true_and, Bool.false_and, Bool.and_true, z00, z11, li_0, li_1, li_2, lj_28530, lj_6385252, gI_47_14, gI_47_21, gR_47_20, is_47, pI_47_19, pI_47_21, t_57, ii_eq, e92, m1, hS, e80]
theorem d94l (hT : TT b L T) (ht : 0 ≤ t ∧ t < 16) : ∀ (N d : Nat), d ≤ N → ∀ (w : wo) (s : st), T < s.1 + d → MW w b L t s → aI b T 0 0 0 s → ∃ (u : wo) (x : Int), am_W sc 94 (12, [some (am_R (some 47)), some (am_I (ii 1)), none], [], wst w) = some (some (am_I (ii x)), wst u) ∧ gM t w u ∧ oR u b L t (aTsL b d s) x
  | 0, d, hd, w, s, h0, hW, hI => by
    have := hI.1
    omega
  | N + 1, d, hd, w, s, h0, hW, hI => by
    obtain ⟨c6, c7, c8, c9, c10, c11, c12, c13, c14, c15, c16, c17⟩ := Wc_v
    obtain ⟨u1, x, k1, k2, k3⟩ := d90l (sc := sc) hT ht d w s h0 hW hI
    have k1' : am_F sc 90 [am_R (some 47)] (wst w) = some (some (am_I (ii x)), wst u1) := by rw [fq_90]; exact k1
    rcases k3 with ⟨c, e, hx, h15⟩ | ⟨d', s', hd', hx, hW1, hI1, hp, h1, e⟩
    · rw [e]
      subst hx
      refine ⟨u1, 0, ?_, k2, rfl, h15⟩
      rw [wq_94_12]
      simp (disch := omega) only [qB_s, qC_t, qC_f, qI_T, qI_F, qI_t, qI_f, r_I, r_L, r_R, r_V, ii_add, ii_sub, ii_mul, ii_neg, bz_0, bz_1, Bool.true_and, Bool.false_and, Bool.and_true, z00, z11, li_0, li_1, li_2, lj_28530, lj_6385252, gI_47_14, gI_47_21, gR_47_20, is_47, pI_47_19, pI_47_21, t_57, ii_eq, k1']
    · rw [e]
      subst hx
      obtain ⟨u2, s2, m1, m2, m3, m4, m5, m6⟩ := d93 (sc := sc) hT ht hW1 hI1 hp
      rw [m6]
      obtain ⟨u3, n1, n2, n3⟩ := d79w (sc := sc) hT m3.1 (k := 15) (K := 15) (by decide) rfl c15
      have hW3 : MW u3 b L t s2 := MW_n m3 n2 rfl (oP_of hT n3)
      have g3 : gM t w u3 := gM_t (gM_t k2 m2) (gM_fr n2 rfl rfl)
      by_cases y1 : tK b s2.1 = 15
      · rw [bz_t y1] at n1
        obtain ⟨u4, p1, p2, p3⟩ := d94a (sc := sc) hT ht hW3 m4 (.inl ⟨rfl, y1⟩)
        have eE : aEnd b s2 = .inr (true, aPsh 5 (aStl 5 s2)) := if_pos y1
        rw [eE]
        have hlt := TT_lt hT m4.1 (by omega)
        obtain ⟨u5, y, q1, q2, q3⟩ := d94l hT ht N d' (by omega) u4 (aPsh 5 (aStl 5 s2)) (by show T < s2.1 + 1 + d'; omega) p3 (aPsh_I hT (aStl_I (by decide) m4).1 (.inl ⟨rfl, y1⟩))
        refine ⟨u5, y, ?_, gM_t (gM_t g3 p2) q2, q3⟩
        rw [← q1, ← p1, wq_94_12]
        simp (disch := omega) only [qB_s, qC_t, qC_f, qI_T, qI_F, qI_t, qI_f, r_I, r_L, r_R, r_V, ii_add, ii_sub, ii_mul, ii_neg, bz_0, bz_1, Bool.true_and, Bool.false_and, Bool.and_true, z00, z11, li_0, li_1, li_2, lj_28530, lj_6385252, gI_47_14, gI_47_21, gR_47_20, is_47, pI_47_19, pI_47_21, t_57, ii_eq, k1', m1, n1]
      · rw [bz_f y1] at n1
        obtain ⟨u4, o1, o2, o3⟩ := d79w (sc := sc) hT (oP_of hT n3) (k := 16) (K := 16) (by decide) rfl c16
        have hW4 : MW u4 b L t s2 := MW_n hW3 o2 rfl (oP_of hT o3)
        have g4 : gM t w u4 := gM_t g3 (gM_fr o2 rfl rfl)
        by_cases y2 : tK b s2.1 = 16
        · rw [bz_t y2] at o1
          obtain ⟨u5, p1, p2, p3⟩ := d94a (sc := sc) hT ht hW4 m4 (.inr ⟨rfl, y2⟩)
          have eE : aEnd b s2 = .inr (true, aPsh 4 (aStl 4 s2)) := by
            unfold aEnd
            rw [if_neg y1, if_pos y2]
          rw [eE]
          have hlt := TT_lt hT m4.1 (by omega)
          obtain ⟨u6, y, q1, q2, q3⟩ := d94l hT ht N d' (by omega) u5 (aPsh 4 (aStl 4 s2)) (by show T < s2.1 + 1 + d'; omega) p3 (aPsh_I hT (aStl_I (by decide) m4).1 (.inr ⟨rfl, y2⟩))
          refine ⟨u6, y, ?_, gM_t (gM_t g4 p2) q2, q3⟩
          rw [← q1, ← p1, wq_94_12]
          simp (disch := omega) only [qB_s, qC_t, qC_f, qI_T, qI_F, qI_t, qI_f, r_I, r_L, r_R, r_V, ii_add, ii_sub, ii_mul, ii_neg, bz_0, bz_1, Bool.true_and, Bool.false_and, Bool.and_true, z00, z11, li_0, li_1, li_2, lj_28530, lj_6385252, gI_47_14, gI_47_21, gR_47_20, is_47, pI_47_19, pI_47_21, t_57, ii_eq, k1', m1, n1, o1]
        · rw [bz_f y2] at o1
          obtain ⟨u5, y, q1, q2, q3⟩ := d94b (sc := sc) hT ht hW4 m4 ⟨y1, y2⟩
          have eB : (bd (aEnd b s2) fun z => bif z.1 then aTsL b d' z.2 else .inr z.2) = bd (aEnd b s2) fun z => .inr z.2 := by
            unfold aEnd
            rw [if_neg y1, if_neg y2]
            cases (aStl 4 s2).2.2.1 <;> rfl
          rw [eB]
          refine ⟨u5, y, ?_, gM_t g4 q2, q3⟩
          rw [← q1, wq_94_12]
          simp (disch := omega) only [qB_s, qC_t, qC_f, qI_T, qI_F, qI_t, qI_f, r_I, r_L, r_R, r_V, ii_add, ii_sub, ii_mul, ii_neg, bz_0, bz_1, Bool.true_and, Bool.false_and, Bool.and_true, z00, z11, li_0, li_1, li_2, lj_28530, lj_6385252, gI_47_14, gI_47_21, gR_47_20, is_47, pI_47_19, pI_47_21, t_57, ii_eq, k1', m1, n1, o1]
theorem d94 (hT : TT b L T) (ht : 0 ≤ t ∧ t < 16) {j : Nat} (hj : j ≤ T) (hP : oP w b L j) (h15 : wI w 47 15 = 0) (h17 : wI w 47 17 = t) (h18 : wI w 47 18 = 0) (h52 : wA w 52 t = 0) : ∃ (u : wo) (x : Int), am_F sc 94 [am_R (some 47)] (wst w) = some (some (am_I (ii x)), wst u) ∧ gM t w u ∧ oR u b L t (aTst b j) x := by
  have hT4 := hT.2.1
  have f1 : fr [4719, 4721] w (uI (uI w 47 21 0) 47 19 0) := fr_uI (fr_uI (fr_r _ _) rfl) rfl
  have hW : MW (uI (uI w 47 21 0) 47 19 0) b L t (j, 0, [], 0, fun _ => 0, fun _ => 0) := ⟨⟨oB_fr hP.1 f1 rfl, hP.2⟩, h15, h17, h18, rfl, ⟨rfl, trivial⟩, h52, fun k hk => absurd hk (Nat.not_lt_zero k)⟩
  obtain ⟨u, x, k1, k2, k3⟩ := d94l (sc := sc) hT ht 401 401 (Nat.le_refl _) _ _ (by show T < j + 401; omega) hW (aTst_0 hj)
  refine ⟨u, x, ?_, gM_t (gM_fr f1 rfl rfl) k2, k3⟩
  rw [← k1, fq_94]
  simp only [qB_s, qC_t, qC_f, qI_T, qI_F, qI_t, qI_f, r_I, r_L, r_R, r_V, ii_add, ii_sub, ii_mul, ii_neg, bz_0, bz_1, Bool.true_and, Bool.false_and, Bool.and_true, z00, z11, li_0, li_1, li_2, lj_28530, lj_6385252, gI_47_14, gI_47_21, gR_47_20, is_47, pI_47_19, pI_47_21, t_57]
def lV : List Nat := [4714, 4715, 4716, 4718, 4719, 4721, 5199, 5299, 5799, 5399, 5499, 5599, 5699]
/-- only view t is written -/
def hV8 (t : Int) (w u : wo) : Prop := fr lV w u ∧ ((∀ z, z < 400 * t ∨ 400 * t + 400 ≤ z → wA u 51 z = wA w 51 z) ∧ ∀ z, z ≠ t → wA u 52 z = wA w 52 z) ∧ (∀ z, z ≠ t → wA u 53 z = wA w 53 z ∧ wA u 54 z = wA w 54 z ∧ wA u 56 z = wA w 56 z) ∧ ∀ z, z < 6 * t ∨ 6 * t + 6 ≤ z → wA u 55 z = wA w 55 z
theorem hV8_t {w v u : wo} (h : hV8 t w v) (k : hV8 t v u) : hV8 t w u := ⟨fr_t h.1 k.1, ⟨fun z hz => (k.2.1.1 z hz).trans (h.2.1.1 z hz), fun z hz => (k.2.1.2 z hz).trans (h.2.1.2 z hz)⟩, fun z hz => ⟨(k.2.2.1 z hz).1.trans (h.2.2.1 z hz).1, (k.2.2.1 z hz).2.1.trans (h.2.2.1 z hz).2.1, (k.2.2.1 z hz).2.2.trans (h.2.2.1 z hz).2.2⟩, fun z hz => (k.2.2.2 z hz).trans (h.2.2.2 z hz)⟩
theorem hV8_M {w u : wo} (h : gM t w u) : hV8 t w u := ⟨fr_m h.1 rfl, ⟨h.2.1, h.2.2⟩, fun z _ => ⟨by rw [fr_A (a := 53) h.1 rfl], by rw [fr_A (a := 54) h.1 rfl], by rw [fr_A (a := 56) h.1 rfl]⟩, fun z _ => by rw [fr_A (a := 55) h.1 rfl]⟩
theorem hV8_53 (w : wo) (x : Int) : hV8 t w (uA w 53 (fu (wA w 53) t x)) := ⟨fr_uA (fr_r _ _) rfl, ⟨fun _ _ => rfl, fun _ _ => rfl⟩, fun z hz => ⟨by rw [rA, fu_at, if_neg hz], rfl, rfl⟩, fun _ _ => rfl⟩
theorem hV8_54 (w : wo) (x : Int) : hV8 t w (uA w 54 (fu (wA w 54) t x)) := ⟨fr_uA (fr_r _ _) rfl, ⟨fun _ _ => rfl, fun _ _ => rfl⟩, fun z hz => ⟨rfl, by rw [rA, fu_at, if_neg hz], rfl⟩, fun _ _ => rfl⟩
theorem hV8_56 (w : wo) (x : Int) : hV8 t w (uA w 56 (fu (wA w 56) t x)) := ⟨fr_uA (fr_r _ _) rfl, ⟨fun _ _ => rfl, fun _ _ => rfl⟩, fun z hz => ⟨rfl, rfl, by rw [rA, fu_at, if_neg hz]⟩, fun _ _ => rfl⟩
theorem hV8_55 (w : wo) {m : Int} (h0 : 0 ≤ m) (h6 : m < 6) (x : Int) : hV8 t w (uA w 55 (fu (wA w 55) (6 * t + m) x)) := ⟨fr_uA (fr_r _ _) rfl, ⟨fun _ _ => rfl, fun _ _ => rfl⟩, fun z hz => ⟨rfl, rfl, rfl⟩, fun z hz => by rw [rA, fu_at, if_neg (by omega)]⟩
/-- the other reads a view -/
def oC (w : wo) (b : Nat → Int) (L : Nat) (t : Int) (j : Nat) (x : vw) : Prop := oP w b L j ∧ wI w 47 15 = 0 ∧ wI w 47 17 = t ∧ (x.1 = none → wI w 47 18 = 0 ∧ wA w 52 t = 0) ∧ MVo w t x
theorem oC_n {j j' : Nat} {x : vw} {u : wo} (h : oC w b L t j x) (f : fr [4714, 4715, 4716] w u) (h15 : wI u 47 15 = 0) (hp : oP u b L j') : oC u b L t j' x := by
  obtain ⟨h1, h2, h3, h4, h5⟩ := h
  exact ⟨hp, h15, by rw [fr_I f rfl]; exact h3, fun y => ⟨by rw [fr_I f rfl]; exact (h4 y).1, by rw [fr_A (a := 52) f rfl]; exact (h4 y).2⟩, MVo_fr h5 f rfl⟩
def oCR (u : wo) (b : Nat → Int) (L : Nat) (t : Int) (r : Sum Int (Nat × vw)) (x : Int) : Prop := match r with
  | .inl c => x = 0 ∧ wI u 47 15 = c
  | .inr s => x = 1 ∧ oC u b L t s.1 s.2
/-- like, near -/
theorem d95b (hT : TT b L T) (ht : 0 ≤ t ∧ t < 8) {j : Nat} {x : vw} (hj : j ≤ T) (hx : okV x) (hC : oC w b L t j x) (hQ : oQ w b L j) {k : Int} (hk : (k = 0 ∧ tK b j = 12) ∨ (k = 1 ∧ tK b j = 13)) : ∃ (u : wo) (y : Int), am_W sc 95 (136, [some (am_R (some 47)), some (am_I (ii t)), none, some (am_I (ii k)), none, none], [], wst w) = some (some (am_I (ii y)), wst u) ∧ hV8 t w u ∧ oCR u b L t (aCls b (j, x)) y := by
  have hlt := TT_lt hT hj (show tK b j ≠ 204 by omega)
  obtain ⟨u1, m1, m2, m3⟩ : ∃ u, am_F sc 81 [am_R (some 47)] (wst w) = some (none, wst u) ∧ fr [4714] w u ∧ oP u b L (j + 1) := by
    rcases hk with ⟨-, y⟩ | ⟨-, y⟩
    · exact d81 (sc := sc) hT hQ (k := 12) (by decide) y
    · exact d81 (sc := sc) hT hQ (k := 13) (by decide) y
  obtain ⟨u2, n1, n2, n3⟩ := d76 (sc := sc) hT m3
  obtain ⟨u3, p1, p2, p3⟩ := d86 (sc := sc) hT n3
  have f3 : fr [4714] w u3 := fr_t (fr_t m2 n2) p2
  have hS := n3.2
  have hk1 := tK_r hT.1 (j + 1)
  obtain ⟨c1, c2, c3, c4, c5⟩ := id hC
  have h15 : wI u3 47 15 = 0 := by rw [fr_I f3 rfl]; exact c2
  have hM3 := MVo_fr c5 f3 rfl
  have hC3 : oC u3 b L t (j + 1) x := oC_n hC (fr_m f3 rfl) h15 (oP_of hT p3)
  obtain ⟨v1, v2, v3, v4⟩ := id hM3
  have g3 : hV8 t w u3 := hV8_M (gM_fr f3 rfl rfl)
  have e80 := fun c => d80 (sc := sc) (c := c) (x := tS b (j + 1)) h15
  have bad : ∀ c : Int, (am_W sc 95 (136, [some (am_R (some 47)), some (am_I (ii t)), none, some (am_I (ii k)), none, none], [], wst w) = some (some (am_I (ii 0)), wst (uI u3 47 15 (1 + 8 * (tS b (j + 1) : Int) + c)))) → aMk b x (j + 1) = .inl (fl b (j + 1) c) → ∃ (u : wo) (y : Int), am_W sc 95 (136, [some (am_R (some 47)), some (am_I (ii t)), none, some (am_I (ii k)), none, none], [], wst w) = some (some (am_I (ii y)), wst u) ∧ hV8 t w u ∧ oCR u b L t (aCls b (j, x)) y := fun c run e => by
    refine ⟨_, 0, run, hV8_t g3 (hV8_M (gM_fr (l := [4715]) (fr_uI (fr_r _ _) rfl) rfl rfl)), ?_⟩
    have eC : aCls b (j, x) = .inl (fl b (j + 1) c) := by
      unfold aCls
      rcases hk with ⟨-, y⟩ | ⟨-, y⟩
      · rw [if_neg (show ¬ tK b (j, x).1 = 11 by rw [show tK b (j, x).1 = tK b j from rfl]; omega), if_neg (show ¬ tK b (j, x).1 = 14 by rw [show tK b (j, x).1 = tK b j from rfl]; omega), if_pos y]
        show bd (aMk b x (j + 1)) _ = _
        rw [e]
        rfl
      · rw [if_neg (show ¬ tK b (j, x).1 = 11 by rw [show tK b (j, x).1 = tK b j from rfl]; omega), if_neg (show ¬ tK b (j, x).1 = 14 by rw [show tK b (j, x).1 = tK b j from rfl]; omega), if_neg (show ¬ tK b (j, x).1 = 12 by rw [show tK b (j, x).1 = tK b j from rfl]; omega), if_pos y]
        show bd (aMk b x (j + 1)) _ = _
        rw [e]
        rfl
    rw [eC]
    exact ⟨rfl, rI _ _ _ _⟩
  by_cases y1 : tK b (j + 1) < 6
  · rw [if_pos (by omega)] at p1
    have h54 := v2
    have h55 := v3 (tK b (j + 1)) hk1.1 y1
    have hbt := bt_ran x.2.1 (tK b (j + 1))
    have hnr := hx.2.2.1 (tK b (j + 1)) hk1.1 y1
    have hli := hx.2.1
    by_cases y2 : bt x.2.1 (tK b (j + 1)) = 1
    · refine bad 4 ?_ (by unfold aMk; rw [if_pos y1, if_pos (.inl y2)])
      rw [wq_95_136]
      simp (disch := omega) only [qB_s, qC_t, qC_f, qI_T, qI_F, qI_t, qI_f, r_I, r_L, r_R, r_V, ii_add, ii_sub, ii_mul, ii_neg, bz_0, bz_1, Bool.true_and, Bool.false_and, Bool.and_true, z00, z11, li_0, li_1, li_31, li_4, li_6, li_99, li_999, lj_131294808271214, lj_1818848101, lj_1852137842, lj_418447847015, e_53, e_54, e_55, e_56, gI_47_14, gI_47_16, gR_47_10, gR_47_11, gR_47_12, gR_47_13, is_47, t_53, t_54, t_55, t_56, ii_lt, ii_eq, m1, n1, hS, p1, h54, bt_ii, y2, e80]
    · by_cases y3 : x.2.2.1 (tK b (j + 1)) = 0
      · have eM : aMk b x (j + 1) = .inr (tK b (j + 1)) := by
          unfold aMk
          rw [if_pos y1, if_neg (fun z => by
            rcases z with z | z
            · exact y2 z
            · exact z y3)]
        obtain ⟨kk, hkk⟩ : ∃ kk : Nat, tK b (j + 1) = kk := ⟨(tK b (j + 1)).toNat, by omega⟩
        obtain ⟨u4, q1, q2, q3⟩ := d81 (sc := sc) hT p3 (k := kk) (by omega) hkk
        have f4 : fr [4714] w u4 := fr_t f3 q2
        have h15' : wI u4 47 15 = 0 := by rw [fr_I f4 rfl]; exact c2
        have hC4 : oC u4 b L t (j + 2) x := oC_n hC (fr_m f4 rfl) h15' q3
        have hM4 := hC4.2.2.2.2
        obtain ⟨z1, z2, z3, z4⟩ := id hM4
        rcases hk with ⟨k0, k12⟩ | ⟨k1, k13⟩
        · obtain ⟨r1, r2, r3, r4⟩ := orB_ii hli.1 hli.2 hk1.1 y1
          have eC : aCls b (j, x) = .inr (j + 2, x.1, orB x.2.1 (tK b (j + 1)), x.2.2) := by
            unfold aCls
            rw [if_neg (show ¬ tK b (j, x).1 = 11 by rw [show tK b (j, x).1 = tK b j from rfl]; omega), if_neg (show ¬ tK b (j, x).1 = 14 by rw [show tK b (j, x).1 = tK b j from rfl]; omega), if_pos k12]
            show bd (aMk b x (j + 1)) _ = _
            rw [eM]
            rfl
          rw [eC]
          have f5 : fr [5499] u4 (uA u4 54 (fu (wA u4 54) t (orB x.2.1 (tK b (j + 1))))) := fr_uA (fr_r _ _) rfl
          refine ⟨uA u4 54 (fu (wA u4 54) t (orB x.2.1 (tK b (j + 1)))), 1, ?_, hV8_t (hV8_M (gM_fr f4 rfl rfl)) (hV8_54 _ _), rfl, ⟨oB_fr q3.1 f5 rfl, q3.2⟩, h15', hC4.2.2.1, hC4.2.2.2.1, z1, ?_, z3, z4⟩
          · subst k0
            rw [wq_95_136]
            simp (disch := omega) only [qB_s, qC_t, qC_f, qI_T, qI_F, qI_t, qI_f, r_I, r_L, r_R, r_V, ii_add, ii_sub, ii_mul, ii_neg, bz_0, bz_1, Bool.true_and, Bool.false_and, Bool.and_true, z00, z11, li_0, li_1, li_31, li_4, li_6, li_99, li_999, lj_131294808271214, lj_1818848101, lj_1852137842, lj_418447847015, e_53, e_54, e_55, e_56, gI_47_14, gI_47_16, gR_47_10, gR_47_11, gR_47_12, gR_47_13, is_47, t_53, t_54, t_55, t_56, ii_lt, ii_eq, m1, n1, hS, p1, h54, bt_ii, h55, q1, z2, r1]
          · rw [rA, fu_at, if_pos rfl]
        · obtain ⟨u5, y, a1, a2, a3⟩ := d83 (sc := sc) hT q3 h15' (lo := 1) (hi := 99) ⟨by decide, by decide⟩ ⟨by decide, by decide⟩
          have f5 : fr [4714, 4715, 4716] w u5 := fr_t (fr_m f4 rfl) a2
          have eC : aCls b (j, x) = bd (aNum b 1 99 (j + 2)) fun n => .inr (j + 3, x.1, x.2.1, fu x.2.2.1 (tK b (j + 1)) n, x.2.2.2) := by
            unfold aCls
            rw [if_neg (show ¬ tK b (j, x).1 = 11 by rw [show tK b (j, x).1 = tK b j from rfl]; omega), if_neg (show ¬ tK b (j, x).1 = 14 by rw [show tK b (j, x).1 = tK b j from rfl]; omega), if_neg (show ¬ tK b (j, x).1 = 12 by rw [show tK b (j, x).1 = tK b j from rfl]; omega), if_pos k13]
            show bd (aMk b x (j + 1)) _ = _
            rw [eM]
            rfl
          rw [eC]
          subst k1
          revert a3
          cases hr : aNum b 1 99 (j + 2) with
          | inl c =>
            intro a3
            obtain ⟨a3, a4⟩ := a3
            subst a3
            refine ⟨u5, 0, ?_, hV8_M (gM_fr f5 rfl rfl), rfl, a4⟩
            rw [wq_95_136]
            simp (disch := omega) only [qB_s, qC_t, qC_f, qI_T, qI_F, qI_t, qI_f, r_I, r_L, r_R, r_V, ii_add, ii_sub, ii_mul, ii_neg, bz_0, bz_1, Bool.true_and, Bool.false_and, Bool.and_true, z00, z11, li_0, li_1, li_31, li_4, li_6, li_99, li_999, lj_131294808271214, lj_1818848101, lj_1852137842, lj_418447847015, e_53, e_54, e_55, e_56, gI_47_14, gI_47_16, gR_47_10, gR_47_11, gR_47_12, gR_47_13, is_47, t_53, t_54, t_55, t_56, ii_lt, ii_eq, m1, n1, hS, p1, h54, bt_ii, h55, q1, a1]
          | inr n =>
            intro a3
            obtain ⟨a3, a4, a5, a6⟩ := a3
            subst a3
            have hC5 : oC u5 b L t (j + 3) x := oC_n hC f5 a6 a5
            obtain ⟨b1, b2, b3, b4⟩ := id hC5.2.2.2.2
            have f6 : fr [5599] u5 (uA u5 55 (fu (wA u5 55) (6 * t + tK b (j + 1)) n)) := fr_uA (fr_r _ _) rfl
            refine ⟨uA u5 55 (fu (wA u5 55) (6 * t + tK b (j + 1)) n), 1, ?_, hV8_t (hV8_M (gM_fr f5 rfl rfl)) (hV8_55 _ hk1.1 y1 _), rfl, ⟨oB_fr a5.1 f6 rfl, a5.2⟩, a6, hC5.2.2.1, hC5.2.2.2.1, b1, b2, fun i i0 i6 => ?_, b4⟩
            · rw [wq_95_136]
              simp (disch := omega) only [qB_s, qC_t, qC_f, qI_T, qI_F, qI_t, qI_f, r_I, r_L, r_R, r_V, ii_add, ii_sub, ii_mul, ii_neg, bz_0, bz_1, Bool.true_and, Bool.false_and, Bool.and_true, z00, z11, li_0, li_1, li_31, li_4, li_6, li_99, li_999, lj_131294808271214, lj_1818848101, lj_1852137842, lj_418447847015, e_53, e_54, e_55, e_56, gI_47_14, gI_47_16, gR_47_10, gR_47_11, gR_47_12, gR_47_13, is_47, t_53, t_54, t_55, t_56, ii_lt, ii_eq, m1, n1, hS, p1, h54, bt_ii, h55, q1, a1, a4]
            · rw [rA, fu_at]
              show _ = fu x.2.2.1 (tK b (j + 1)) n i
              rw [fu_at]
              by_cases z : i = tK b (j + 1)
              · rw [if_pos (by omega), if_pos z]
              · rw [if_neg (by omega), if_neg z]
                exact b3 i i0 i6
      · refine bad 4 ?_ (by unfold aMk; rw [if_pos y1, if_pos (.inr y3)])
        rw [wq_95_136]
        simp (disch := omega) only [qB_s, qC_t, qC_f, qI_T, qI_F, qI_t, qI_f, r_I, r_L, r_R, r_V, ii_add, ii_sub, ii_mul, ii_neg, bz_0, bz_1, Bool.true_and, Bool.false_and, Bool.and_true, z00, z11, li_0, li_1, li_31, li_4, li_6, li_99, li_999, lj_131294808271214, lj_1818848101, lj_1852137842, lj_418447847015, e_53, e_54, e_55, e_56, gI_47_14, gI_47_16, gR_47_10, gR_47_11, gR_47_12, gR_47_13, is_47, t_53, t_54, t_55, t_56, ii_lt, ii_eq, m1, n1, hS, p1, h54, bt_ii, h55, e80]
  · refine bad 0 ?_ (by unfold aMk; rw [if_neg y1])
    rw [wq_95_136]
    by_cases y2 : tK b (j + 1) < 11
    · rw [if_pos y2] at p1
      simp (disch := omega) only [qB_s, qC_t, qC_f, qI_T, qI_F, qI_t, qI_f, r_I, r_L, r_R, r_V, ii_add, ii_sub, ii_mul, ii_neg, bz_0, bz_1, Bool.true_and, Bool.false_and, Bool.and_true, z00, z11, li_0, li_1, li_31, li_4, li_6, li_99, li_999, lj_131294808271214, lj_1818848101, lj_1852137842, lj_418447847015, e_53, e_54, e_55, e_56, gI_47_14, gI_47_16, gR_47_10, gR_47_11, gR_47_12, gR_47_13, is_47, t_53, t_54, t_55, t_56, ii_lt, ii_eq, m1, n1, hS, p1, e80]
    · rw [if_neg y2] at p1
      simp (disch := omega) only [qB_s, qC_t, qC_f, qI_T, qI_F, qI_t, qI_f, r_I, r_L, r_R, r_V, ii_add, ii_sub, ii_mul, ii_neg, bz_0, bz_1, Bool.true_and, Bool.false_and, Bool.and_true, z00, z11, li_0, li_1, li_31, li_4, li_6, li_99, li_999, lj_131294808271214, lj_1818848101, lj_1852137842, lj_418447847015, e_53, e_54, e_55, e_56, gI_47_14, gI_47_16, gR_47_10, gR_47_11, gR_47_12, gR_47_13, is_47, t_53, t_54, t_55, t_56, ii_lt, ii_eq, m1, n1, hS, p1, e80]
theorem d95 (hT : TT b L T) (ht : 0 ≤ t ∧ t < 8) {j : Nat} {x : vw} (hj : j ≤ T) (hx : okV x) (hC : oC w b L t j x) : ∃ (u : wo) (y : Int), am_F sc 95 [am_R (some 47), am_I (ii t)] (wst w) = some (some (am_I (ii y)), wst u) ∧ hV8 t w u ∧ oCR u b L t (aCls b (j, x)) y := by
  obtain ⟨c6, c7, c8, c9, c10, c11, c12, c13, c14, c15, c16, c17⟩ := Wc_v
  have ht16 : 0 ≤ t ∧ t < 16 := by omega
  obtain ⟨u1, k1, k2, k3⟩ := d76 (sc := sc) hT hC.1
  have hS := k3.2
  obtain ⟨u2, m1, m2, m3⟩ := d79w (sc := sc) hT (oP_of hT k3) (k := 11) (K := 11) (by decide) rfl c11
  have f2 : fr [4714] w u2 := fr_t k2 m2
  have h15 : wI u2 47 15 = 0 := by rw [fr_I f2 rfl]; exact hC.2.1
  have hC2 : oC u2 b L t j x := oC_n hC (fr_m f2 rfl) h15 (oP_of hT m3)
  obtain ⟨a1, a2, a3, a4⟩ := id hC2.2.2.2.2
  have e80 := d80 (sc := sc) (c := 4) (x := tS b j) h15
  have g2 : hV8 t w u2 := hV8_M (gM_fr f2 rfl rfl)
  by_cases y1 : tK b j = 11
  · rw [bz_t y1] at m1
    have hlt := TT_lt hT hj (show tK b j ≠ 204 by omega)
    by_cases y2 : x.1.isNone = true
    · have hnone : x.1 = none := Option.isNone_iff_eq_none.mp y2
      have eC : aCls b (j, x) = bd (aTst b (j + 1)) fun q => .inr (q.1, some q.2.2.2, x.2) := by
        unfold aCls
        rw [if_pos y1, if_pos y2]
      rw [eC]
      have h53 : wA u2 53 t = 0 := by
        rcases a1 with ⟨-, q⟩ | ⟨P, q, -⟩
        · exact q
        · rw [hnone] at q
          cases q
      obtain ⟨u3, n1, n2, n3⟩ := d81 (sc := sc) hT m3 (k := 11) (by decide) y1
      have f3 : fr [4714] w u3 := fr_t f2 n2
      have f4 : fr [5399] u3 (uA u3 53 (fu (wA u3 53) t 1)) := fr_uA (fr_r _ _) rfl
      have hz := hC.2.2.2.1 hnone
      obtain ⟨u5, y, p1, p2, p3⟩ := d94 (sc := sc) (w := uA u3 53 (fu (wA u3 53) t 1)) hT ht16 (j := j + 1) (by omega) ⟨oB_fr n3.1 f4 rfl, n3.2⟩ (by rw [fr_I f4 rfl, fr_I f3 rfl]; exact hC.2.1) (by rw [fr_I f4 rfl, fr_I f3 rfl]; exact hC.2.2.1) (by rw [fr_I f4 rfl, fr_I f3 rfl]; exact hz.1) (by rw [fr_A (a := 52) f4 rfl, fr_A (a := 52) f3 rfl]; exact hz.2)
      have g5 : hV8 t w u5 := hV8_t (hV8_t (hV8_M (gM_fr f3 rfl rfl)) (hV8_53 _ _)) (hV8_M p2)
      have h53' : wA u2 53 t = 0 := h53
      have run : am_F sc 95 [am_R (some 47), am_I (ii t)] (wst w) = qI (ii y &&& 1 = ii y) (some (some (am_I (ii y)), wst u5)) none () := by
        rw [fq_95]
        simp (disch := omega) only [qB_s, qC_t, qC_f, qI_T, qI_F, qI_t, qI_f, r_I, r_L, r_R, r_V, ii_add, ii_sub, ii_mul, ii_neg, bz_0, bz_1, Bool.true_and, Bool.false_and, Bool.and_true, z00, z11, li_0, li_1, li_31, li_4, li_6, li_99, li_999, lj_131294808271214, lj_1818848101, lj_1852137842, lj_418447847015, e_53, e_54, e_55, e_56, gI_47_14, gI_47_16, gR_47_10, gR_47_11, gR_47_12, gR_47_13, is_47, t_53, t_54, t_55, t_56, ii_eq, k1, hS, m1, h53', n1, p1]
      revert p3
      cases hr : aTst b (j + 1) with
      | inl c =>
        intro p3
        obtain ⟨p3, p4⟩ := p3
        subst p3
        refine ⟨u5, 0, ?_, g5, rfl, p4⟩
        rw [run, qI_t (by decide)]
      | inr q =>
        intro p3
        obtain ⟨p3, p4⟩ := p3
        subst p3
        obtain ⟨i1, i2, i3, i4, i5⟩ := aTst_I hT (by omega) hr
        have hC3 := MVo_fr hC.2.2.2.2 f3 rfl
        obtain ⟨b1, b2, b3, b4⟩ := hC3
        obtain ⟨o1, o2, o3, o4, o5, o6, o7⟩ := p4
        refine ⟨u5, 1, ?_, g5, rfl, o1, o2, o3, (fun h => by cases h), .inr ⟨q.2.2.2, rfl, ?_, o7.1, by omega, o7.2⟩, ?_, fun m m0 m6 => ?_, ?_⟩
        · rw [run, qI_t (by decide)]
        · rw [fr_A (a := 53) p2.1 rfl, rA, fu_at, if_pos rfl]
        · rw [fr_A (a := 54) p2.1 rfl]
          exact b2
        · rw [fr_A (a := 55) p2.1 rfl]
          exact b3 m m0 m6
        · rw [fr_A (a := 56) p2.1 rfl]
          exact b4
    · have eC : aCls b (j, x) = .inl (fl b j 4) := by
        unfold aCls
        rw [if_pos y1, if_neg y2]
      rw [eC]
      have h53 : wA u2 53 t = 1 := by
        rcases a1 with ⟨q, -⟩ | ⟨P, -, q, -⟩
        · rw [q] at y2
          exact absurd rfl y2
        · exact q
      refine ⟨uI u2 47 15 (1 + 8 * (tS b j : Int) + 4), 0, ?_, hV8_t g2 (hV8_M (gM_fr (l := [4715]) (fr_uI (fr_r _ _) rfl) rfl rfl)), rfl, rI _ _ _ _⟩
      rw [fq_95]
      simp (disch := omega) only [qB_s, qC_t, qC_f, qI_T, qI_F, qI_t, qI_f, r_I, r_L, r_R, r_V, ii_add, ii_sub, ii_mul, ii_neg, bz_0, bz_1, Bool.true_and, Bool.false_and, Bool.and_true, z00, z11, li_0, li_1, li_31, li_4, li_6, li_99, li_999, lj_131294808271214, lj_1818848101, lj_1852137842, lj_418447847015, e_53, e_54, e_55, e_56, gI_47_14, gI_47_16, gR_47_10, gR_47_11, gR_47_12, gR_47_13, is_47, t_53, t_54, t_55, t_56, ii_eq, k1, hS, m1, h53, e80]
  · rw [bz_f y1] at m1
    obtain ⟨u3, n1, n2, n3⟩ := d79w (sc := sc) hT (oP_of hT m3) (k := 14) (K := 14) (by decide) rfl c14
    have f3 : fr [4714] w u3 := fr_t f2 n2
    have h15' : wI u3 47 15 = 0 := by rw [fr_I f3 rfl]; exact hC.2.1
    have hC3 : oC u3 b L t j x := oC_n hC (fr_m f3 rfl) h15' (oP_of hT n3)
    obtain ⟨a1, a2, a3, a4⟩ := id hC3.2.2.2.2
    have e80 := fun c => d80 (sc := sc) (c := c) (x := tS b j) h15'
    have g3 : hV8 t w u3 := hV8_M (gM_fr f3 rfl rfl)
    have hxw := hx.2.2.2
    by_cases y2 : tK b j = 14
    · rw [bz_t y2] at n1
      have hlt := TT_lt hT hj (show tK b j ≠ 204 by omega)
      have h56 := a4
      by_cases y3 : x.2.2.2 = -1
      · have eC : aCls b (j, x) = bd (aNum b 0 999 (j + 1)) fun n => .inr (j + 2, x.1, x.2.1, x.2.2.1, n) := by
          unfold aCls
          rw [if_neg (show ¬ tK b (j, x).1 = 11 from y1), if_pos y2]
          show (if x.2.2.2 = -1 then _ else _) = _
          rw [if_pos y3]
        rw [eC]
        rw [y3] at h56
        obtain ⟨u4, p1, p2, p3⟩ := d81 (sc := sc) hT n3 (k := 14) (by decide) y2
        have f4 : fr [4714] w u4 := fr_t f3 p2
        obtain ⟨u5, y, q1, q2, q3⟩ := d83 (sc := sc) hT p3 (by rw [fr_I f4 rfl]; exact hC.2.1) (lo := 0) (hi := 999) ⟨by decide, by decide⟩ ⟨by decide, by decide⟩
        have f5 : fr [4714, 4715, 4716] w u5 := fr_t (fr_m f4 rfl) q2
        revert q3
        cases hr : aNum b 0 999 (j + 1) with
        | inl c =>
          intro q3
          obtain ⟨q3, q4⟩ := q3
          subst q3
          refine ⟨u5, 0, ?_, hV8_M (gM_fr f5 rfl rfl), rfl, q4⟩
          rw [fq_95]
          simp (disch := omega) only [qB_s, qC_t, qC_f, qI_T, qI_F, qI_t, qI_f, r_I, r_L, r_R, r_V, ii_add, ii_sub, ii_mul, ii_neg, bz_0, bz_1, Bool.true_and, Bool.false_and, Bool.and_true, z00, z11, li_0, li_1, li_31, li_4, li_6, li_99, li_999, lj_131294808271214, lj_1818848101, lj_1852137842, lj_418447847015, e_53, e_54, e_55, e_56, gI_47_14, gI_47_16, gR_47_10, gR_47_11, gR_47_12, gR_47_13, is_47, t_53, t_54, t_55, t_56, ii_lt, ii_eq, k1, hS, m1, n1, h56, p1, q1]
        | inr n =>
          intro q3
          obtain ⟨q3, q4, q5, q6⟩ := q3
          subst q3
          have hC5 : oC u5 b L t (j + 2) x := oC_n hC f5 q6 q5
          obtain ⟨b1, b2, b3, b4⟩ := id hC5.2.2.2.2
          have f6 : fr [5699] u5 (uA u5 56 (fu (wA u5 56) t n)) := fr_uA (fr_r _ _) rfl
          refine ⟨uA u5 56 (fu (wA u5 56) t n), 1, ?_, hV8_t (hV8_M (gM_fr f5 rfl rfl)) (hV8_56 _ _), rfl, ⟨oB_fr q5.1 f6 rfl, q5.2⟩, q6, hC5.2.2.1, hC5.2.2.2.1, b1, b2, b3, ?_⟩
          · rw [fq_95]
            simp (disch := omega) only [qB_s, qC_t, qC_f, qI_T, qI_F, qI_t, qI_f, r_I, r_L, r_R, r_V, ii_add, ii_sub, ii_mul, ii_neg, bz_0, bz_1, Bool.true_and, Bool.false_and, Bool.and_true, z00, z11, li_0, li_1, li_31, li_4, li_6, li_99, li_999, lj_131294808271214, lj_1818848101, lj_1852137842, lj_418447847015, e_53, e_54, e_55, e_56, gI_47_14, gI_47_16, gR_47_10, gR_47_11, gR_47_12, gR_47_13, is_47, t_53, t_54, t_55, t_56, ii_lt, ii_eq, k1, hS, m1, n1, h56, p1, q1, q4]
          · rw [rA, fu_at, if_pos rfl]
      · have eC : aCls b (j, x) = .inl (fl b j 4) := by
          unfold aCls
          rw [if_neg (show ¬ tK b (j, x).1 = 11 from y1), if_pos y2]
          show (if x.2.2.2 = -1 then _ else _) = _
          rw [if_neg y3]
        rw [eC]
        refine ⟨uI u3 47 15 (1 + 8 * (tS b j : Int) + 4), 0, ?_, hV8_t g3 (hV8_M (gM_fr (l := [4715]) (fr_uI (fr_r _ _) rfl) rfl rfl)), rfl, rI _ _ _ _⟩
        rw [fq_95]
        simp (disch := omega) only [qB_s, qC_t, qC_f, qI_T, qI_F, qI_t, qI_f, r_I, r_L, r_R, r_V, ii_add, ii_sub, ii_mul, ii_neg, bz_0, bz_1, Bool.true_and, Bool.false_and, Bool.and_true, z00, z11, li_0, li_1, li_31, li_4, li_6, li_99, li_999, lj_131294808271214, lj_1818848101, lj_1852137842, lj_418447847015, e_53, e_54, e_55, e_56, gI_47_14, gI_47_16, gR_47_10, gR_47_11, gR_47_12, gR_47_13, is_47, t_53, t_54, t_55, t_56, ii_lt, ii_eq, k1, hS, m1, n1, h56, e80]
    · rw [bz_f y2] at n1
      obtain ⟨u4, p1, p2, p3⟩ := d79w (sc := sc) hT (oP_of hT n3) (k := 13) (K := 13) (by decide) rfl c13
      have f4 : fr [4714] w u4 := fr_t f3 p2
      have h15'' : wI u4 47 15 = 0 := by rw [fr_I f4 rfl]; exact hC.2.1
      by_cases y3 : tK b j = 13
      · rw [bz_t y3] at p1
        obtain ⟨u5, y, q1, q2, q3⟩ := d95b (sc := sc) hT ht hj hx (oC_n hC (fr_m f4 rfl) h15'' (oP_of hT p3)) p3 (.inr ⟨rfl, y3⟩)
        refine ⟨u5, y, ?_, hV8_t (hV8_M (gM_fr f4 rfl rfl)) q2, q3⟩
        rw [← q1, fq_95]
        simp (disch := omega) only [qB_s, qC_t, qC_f, qI_T, qI_F, qI_t, qI_f, r_I, r_L, r_R, r_V, ii_add, ii_sub, ii_mul, ii_neg, bz_0, bz_1, Bool.true_and, Bool.false_and, Bool.and_true, z00, z11, li_0, li_1, li_31, li_4, li_6, li_99, li_999, lj_131294808271214, lj_1818848101, lj_1852137842, lj_418447847015, e_53, e_54, e_55, e_56, gI_47_14, gI_47_16, gR_47_10, gR_47_11, gR_47_12, gR_47_13, is_47, t_53, t_54, t_55, t_56, ii_eq, k1, hS, m1, n1, p1]
      · rw [bz_f y3] at p1
        obtain ⟨u5, q1, q2, q3⟩ := d79w (sc := sc) hT (oP_of hT p3) (k := 12) (K := 12) (by decide) rfl c12
        have f5 : fr [4714] w u5 := fr_t f4 q2
        have h15x : wI u5 47 15 = 0 := by rw [fr_I f5 rfl]; exact hC.2.1
        by_cases y4 : tK b j = 12
        · rw [bz_t y4] at q1
          obtain ⟨u6, y, r1, r2, r3⟩ := d95b (sc := sc) hT ht hj hx (oC_n hC (fr_m f5 rfl) h15x (oP_of hT q3)) q3 (.inl ⟨rfl, y4⟩)
          refine ⟨u6, y, ?_, hV8_t (hV8_M (gM_fr f5 rfl rfl)) r2, r3⟩
          rw [← r1, fq_95]
          simp (disch := omega) only [qB_s, qC_t, qC_f, qI_T, qI_F, qI_t, qI_f, r_I, r_L, r_R, r_V, ii_add, ii_sub, ii_mul, ii_neg, bz_0, bz_1, Bool.true_and, Bool.false_and, Bool.and_true, z00, z11, li_0, li_1, li_31, li_4, li_6, li_99, li_999, lj_131294808271214, lj_1818848101, lj_1852137842, lj_418447847015, e_53, e_54, e_55, e_56, gI_47_14, gI_47_16, gR_47_10, gR_47_11, gR_47_12, gR_47_13, is_47, t_53, t_54, t_55, t_56, ii_eq, k1, hS, m1, n1, p1, q1]
        · rw [bz_f y4] at q1
          have eC : aCls b (j, x) = .inl (fl b j 0) := by
            unfold aCls
            rw [if_neg (show ¬ tK b (j, x).1 = 11 from y1), if_neg (show ¬ tK b (j, x).1 = 14 from y2), if_neg (show ¬ tK b (j, x).1 = 12 from y4), if_neg (show ¬ tK b (j, x).1 = 13 from y3)]
          rw [eC]
          have e80 := d80 (sc := sc) (c := 0) (x := tS b j) h15x
          refine ⟨uI u5 47 15 (1 + 8 * (tS b j : Int) + 0), 0, ?_, hV8_t (hV8_M (gM_fr f5 rfl rfl)) (hV8_M (gM_fr (l := [4715]) (fr_uI (fr_r _ _) rfl) rfl rfl)), rfl, rI _ _ _ _⟩
          rw [fq_95]
          simp (disch := omega) only [qB_s, qC_t, qC_f, qI_T, qI_F, qI_t, qI_f, r_I, r_L, r_R, r_V, ii_add, ii_sub, ii_mul, ii_neg, bz_0, bz_1, Bool.true_and, Bool.false_and, Bool.and_true, z00, z11, li_0, li_1, li_31, li_4, li_6, li_99, li_999, lj_131294808271214, lj_1818848101, lj_1852137842, lj_418447847015, e_53, e_54, e_55, e_56, gI_47_14, gI_47_16, gR_47_10, gR_47_11, gR_47_12, gR_47_13, is_47, t_53, t_54, t_55, t_56, ii_eq, k1, hS, m1, n1, p1, q1, e80]
end L59g
