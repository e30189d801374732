/-! THE OTHER READS A TEST -/
def ins : List Int → Bool
  | [] => false
  | x :: q => ins q || decide (x = 3)
def inF (f : Int → Int) : Nat → Bool
  | 0 => false
  | n + 1 => inF f n || decide (f n = 91)
theorem inF_t {f : Int → Int} {i : Nat} (h : inF f i = true) : ∀ d, inF f (i + d) = true
  | 0 => h
  | d + 1 => by
    show (inF f (i + d) || _) = true
    rw [inF_t h d, Bool.true_or]
theorem om_3 {x : Int} (h : x = 3 ∨ x = 4 ∨ x = 5 ∨ x = 6) : (om x = 91 ↔ x = 3) ∧ (om x = 3 ↔ x = 6) ∧ (om x = 2 ↔ x = 5) ∧ (om x = 1 ↔ x = 4) ∧ (om x = 91 ∨ om x = 3 ∨ om x = 2 ∨ om x = 1) := by
  rcases h with rfl | rfl | rfl | rfl <;> decide
theorem ins_F : ∀ {l : List Int} {f : Int → Int}, wok l → skr (l.map om) f → inF f l.length = ins l
  | [], _, _, _ => rfl
  | x :: q, f, hw, h => by
    have hw : (x = 3 ∨ x = 4 ∨ x = 5 ∨ x = 6) ∧ wok q := hw
    have h : f ((q.map om).length : Int) = om x ∧ skr (q.map om) f := h
    rw [List.length_map] at h
    show (inF f q.length || decide (f q.length = 91)) = (ins q || decide (x = 3))
    rw [ins_F hw.2 h.2, h.1]
    by_cases z : x = 3
    · rw [decide_eq_true z, decide_eq_true ((om_3 hw.1).1.mpr z)]
    · rw [decide_eq_false z, decide_eq_false (fun y => z ((om_3 hw.1).1.mp y))]
theorem stl_ins : ∀ {l : List Int} {P : pg}, wok l → ((stl 4 l P).1 = [] ↔ ins l = false)
  | [], _, _ => ⟨fun _ => rfl, fun _ => rfl⟩
  | x :: q, P, hw => by
    have hw : (x = 3 ∨ x = 4 ∨ x = 5 ∨ x = 6) ∧ wok q := hw
    unfold stl ins
    by_cases z : x < 4
    · have : x = 3 := by omega
      rw [if_pos z, decide_eq_true this, Bool.or_true]
      exact ⟨fun y => (by cases y), fun y => (by cases y)⟩
    · rw [if_neg z, decide_eq_false (show ¬ x = 3 by omega), Bool.or_false]
      exact stl_ins hw.2
theorem dpt_0 : ∀ l, 0 ≤ dpt l
  | [] => Int.le_refl _
  | x :: q => by
    have := dpt_0 q
    have := bz_ran (p := x = 6 ∨ x = 3)
    unfold dpt
    omega
theorem aI_p {b : Nat → Int} {L T : Nat} {z ph e : Int} {s : st} (hT : TT b L T) (h : aI b T z ph e s) (hz : 0 ≤ z) : pof s.2.2.2 s.2.2.2.1 + s.2.2.1.length ≤ 300 := by
  obtain ⟨h1, h2, ⟨h3, h4, h5⟩, ⟨h6, h7⟩, h8, h9⟩ := h
  have := wlen s.2.2.1
  have := (tS_r hT.1 s.1).1
  have := hT.1.1
  omega
section L59f
variable {sc : am_X} {w : wo} {b : Nat → Int} {L T : Nat} {t : Int}
/-- a step of no value -/
theorem MW_pu (ht : 0 ≤ t ∧ t < 16) {s : st} (hW : MW w b L t s) (hp : pof s.2.2.2 s.2.2.2.1 ≤ 300) {kd on x : Int} (hk : 3 ≤ kd) (hx : pcl kd on = x) : ∃ u, am_F sc 85 [am_R (some 47), am_I (ii x), am_I (ii 0)] (wst w) = some (none, wst u) ∧ gM t w u ∧ fr [5199, 5299] w u ∧ MW u b L t (s.1, s.2.1, s.2.2.1, pu s.2.2.2 kd on) := by
  have hp0 := pof_0 s.2.2.2 s.2.2.2.1
  obtain ⟨h1, h2, h3, h4, h5, h6, h7⟩ := hW
  have e := d85 (sc := sc) h3 ht h7.1 ⟨by omega, by omega⟩ (x := x) (v := 0)
  refine ⟨_, e, ⟨fr_uA (fr_uA (fr_r _ _) rfl) rfl, fun q hq => ?_, fun q hq => ?_⟩, fr_uA (fr_uA (fr_r _ _) rfl) rfl, h1, h2, h3, h4, h5, h6, PMr_pu h7 ?_ (fun y => ?_) (fun z hz => ?_) ?_⟩
  · rw [rAn _ _ rfl, rA, fu_at, if_neg (by omega)]
  · rw [rA, fu_at, if_neg hq]
  · show wA (uA (uA w 51 _) 52 _) 51 (400 * t + pof s.2.2.2 s.2.2.2.1) = _
    rw [rAn _ _ rfl, rA, fu_at, if_pos rfl, hx]
    unfold pch
    rw [if_neg (by omega)]
  · omega
  · show wA (uA (uA w 51 _) 52 _) 51 z = _
    have hz : z < 400 * t + pof s.2.2.2 s.2.2.2.1 := hz
    rw [rAn _ _ rfl, rA, fu_at, if_neg (by omega)]
  · show wA (uA (uA w 51 _) 52 _) 52 t = pof s.2.2.2 s.2.2.2.1 + (1 + bz (kd = 1 ∨ kd = 2))
    rw [rA, fu_at, if_pos rfl, bz_f (by omega)]
    omega
/-- from the sign on -/
theorem d89c (hT : TT b L T) (ht : 0 ≤ t ∧ t < 16) {s : st} (hW : MW w b L t (s.1 + 1, s.2)) {z e : Int} (hI : aI b T z 1 e s) (hz : 0 ≤ z) {x1 x3 : Int} (hK : (x1 = 60 ∧ x3 = 0 ∧ tK b s.1 = 60) ∨ (x1 = 60 ∧ x3 = 1 ∧ tK b s.1 = 201) ∨ (x1 = 61 ∧ x3 = 0 ∧ tK b s.1 = 61) ∨ (x1 = 62 ∧ x3 = 0 ∧ tK b s.1 = 62) ∨ (x1 = 62 ∧ x3 = 1 ∧ tK b s.1 = 202)) : ∃ (u : wo) (x : Int), am_W sc 89 (105, [some (am_R (some 47)), some (am_I (ii x1)), some (am_I (ii (tS b s.1))), some (am_I (ii x3)), none], [], wst w) = some (some (am_I (ii x)), wst u) ∧ gM t w u ∧ oR u b L t (bd (aSig b s) fun s2 => bd (aSum b s2) fun s3 => .inr (s3.1, s3.2.1, s3.2.2.1, pu s3.2.2.2 3 (tK b s.1))) x := by
  have hp := hI.2.1
  obtain ⟨h1, h2, h3, h4, h5, h6, h7⟩ := id hW
  have h4 : wI w 47 18 = s.2.1 := h4
  have e84 := d84 (sc := sc) (x := tS b s.1) h4 hp h2
  have eA : aSig b s = if 40 ≤ s.2.1 then .inl (fl b s.1 3) else .inr (s.1 + 1, s.2.1 + 1, s.2.2) := if_pos (by omega)
  rw [eA]
  by_cases y3 : 40 ≤ s.2.1
  · rw [if_pos y3]
    rw [if_pos y3, bz_f (fun q => q y3)] at e84
    refine ⟨uI w 47 15 (1 + 8 * (tS b s.1 : Int) + 3), 0, ?_, gM_fr (l := [4715]) (fr_uI (fr_r _ _) rfl) rfl rfl, rfl, rI _ _ _ _⟩
    rw [wq_89_105]
    simp (disch := omega) only [qB_s, qC_t, qC_f, qI_T, qI_F, qI_t, qI_f, r_I, r_L, r_R, r_V, ii_add, ii_sub, ii_mul, ii_neg, bz_0, bz_1, Bool.true_and, Bool.false_and, Bool.and_true, z00, z11, li_0, li_1, li_2, li_3, li_4, li_60, li_61, li_62, e_50, gI_47_14, gI_47_5, gR_47_4, is_47, pI_47_14, ii_eq, e84]
  · rw [if_neg y3]
    rw [if_neg y3, bz_t y3] at e84
    have hs : aSig b s = .inr (s.1 + 1, s.2.1 + 1, s.2.2) := by rw [eA, if_neg y3]
    obtain ⟨a1, a2, a3, a4⟩ := aSig_I hT hI hs
    have f1 : fr [4718] w (uI w 47 18 (s.2.1 + 1)) := fr_uI (fr_r _ _) rfl
    have hW1 : MW (uI w 47 18 (s.2.1 + 1)) b L t (s.1 + 1, s.2.1 + 1, s.2.2) := ⟨⟨oB_fr h1.1 f1 rfl, h1.2⟩, h2, h3, rI _ _ _ _, h5, h6, h7⟩
    obtain ⟨u2, x, m1, m2, m3⟩ := d88 (sc := sc) hT ht hW1 a1 (by omega) ⟨by decide, by decide⟩
    have g2 : gM t w u2 := gM_t (gM_fr f1 rfl rfl) m2
    show ∃ u x, _ ∧ _ ∧ oR u b L t (bd (aSum b (s.1 + 1, s.2.1 + 1, s.2.2)) fun s3 => .inr (s3.1, s3.2.1, s3.2.2.1, pu s3.2.2.2 3 (tK b s.1))) x
    revert m3
    cases hr : aSum b (s.1 + 1, s.2.1 + 1, s.2.2) with
    | inl c =>
      intro m3
      obtain ⟨m3, m4⟩ := m3
      subst m3
      refine ⟨u2, 0, ?_, g2, rfl, m4⟩
      rw [wq_89_105]
      rcases hK with ⟨k1, k2, k3⟩ | ⟨k1, k2, k3⟩ | ⟨k1, k2, k3⟩ | ⟨k1, k2, k3⟩ | ⟨k1, k2, k3⟩
      all_goals simp (disch := omega) only [qB_s, qC_t, qC_f, qI_T, qI_F, qI_t, qI_f, r_I, r_L, r_R, r_V, ii_add, ii_sub, ii_mul, ii_neg, bz_0, bz_1, Bool.true_and, Bool.false_and, Bool.and_true, z00, z11, li_0, li_1, li_2, li_3, li_4, li_60, li_61, li_62, e_50, gI_47_14, gI_47_5, gR_47_4, is_47, pI_47_14, ii_eq, e84, m1]
    | inr s3 =>
      intro m3
      obtain ⟨m3, m4⟩ := m3
      subst m3
      obtain ⟨b1, b2, b3⟩ := aSum_I hT a1 ⟨by decide, by decide⟩ hr
      have hn := aI_n hT b1 (by omega)
      obtain ⟨u4, n1, n2, -, n3⟩ := MW_pu (sc := sc) ht m4 (by omega) (kd := 3) (on := tK b s.1) (x := 4 + sg (tK b s.1)) (by decide) rfl
      refine ⟨u4, 1, ?_, gM_t g2 n2, rfl, n3⟩
      rw [wq_89_105]
      rcases hK with ⟨k1, k2, k3⟩ | ⟨k1, k2, k3⟩ | ⟨k1, k2, k3⟩ | ⟨k1, k2, k3⟩ | ⟨k1, k2, k3⟩
      · rw [k3, show 4 + sg 60 = 4 from rfl] at n1
        simp (disch := omega) only [qB_s, qC_t, qC_f, qI_T, qI_F, qI_t, qI_f, r_I, r_L, r_R, r_V, ii_add, ii_sub, ii_mul, ii_neg, bz_0, bz_1, Bool.true_and, Bool.false_and, Bool.and_true, z00, z11, li_0, li_1, li_2, li_3, li_4, li_60, li_61, li_62, e_50, gI_47_14, gI_47_5, gR_47_4, is_47, pI_47_14, ii_eq, e84, m1, Int.reduceAdd, n1]
      · rw [k3, show 4 + sg 201 = 5 from rfl] at n1
        simp (disch := omega) only [qB_s, qC_t, qC_f, qI_T, qI_F, qI_t, qI_f, r_I, r_L, r_R, r_V, ii_add, ii_sub, ii_mul, ii_neg, bz_0, bz_1, Bool.true_and, Bool.false_and, Bool.and_true, z00, z11, li_0, li_1, li_2, li_3, li_4, li_60, li_61, li_62, e_50, gI_47_14, gI_47_5, gR_47_4, is_47, pI_47_14, ii_eq, e84, m1, Int.reduceAdd, n1]
      · rw [k3, show 4 + sg 61 = 6 from rfl] at n1
        simp (disch := omega) only [qB_s, qC_t, qC_f, qI_T, qI_F, qI_t, qI_f, r_I, r_L, r_R, r_V, ii_add, ii_sub, ii_mul, ii_neg, bz_0, bz_1, Bool.true_and, Bool.false_and, Bool.and_true, z00, z11, li_0, li_1, li_2, li_3, li_4, li_60, li_61, li_62, e_50, gI_47_14, gI_47_5, gR_47_4, is_47, pI_47_14, ii_eq, e84, m1, Int.reduceAdd, n1]
      · rw [k3, show 4 + sg 62 = 8 from rfl] at n1
        simp (disch := omega) only [qB_s, qC_t, qC_f, qI_T, qI_F, qI_t, qI_f, r_I, r_L, r_R, r_V, ii_add, ii_sub, ii_mul, ii_neg, bz_0, bz_1, Bool.true_and, Bool.false_and, Bool.and_true, z00, z11, li_0, li_1, li_2, li_3, li_4, li_60, li_61, li_62, e_50, gI_47_14, gI_47_5, gR_47_4, is_47, pI_47_14, ii_eq, e84, m1, Int.reduceAdd, n1]
      · rw [k3, show 4 + sg 202 = 7 from rfl] at n1
        simp (disch := omega) only [qB_s, qC_t, qC_f, qI_T, qI_F, qI_t, qI_f, r_I, r_L, r_R, r_V, ii_add, ii_sub, ii_mul, ii_neg, bz_0, bz_1, Bool.true_and, Bool.false_and, Bool.and_true, z00, z11, li_0, li_1, li_2, li_3, li_4, li_60, li_61, li_62, e_50, gI_47_14, gI_47_5, gR_47_4, is_47, pI_47_14, ii_eq, e84, m1, Int.reduceAdd, n1]
theorem d89r1 {u1 u2 : wo} {S l c : Int} (k1 : am_F sc 88 [am_R (some 47)] (wst w) = some (some (am_I (ii 1)), wst u1)) (m1 : am_F sc 76 [am_R (some 47)] (wst u1) = some (some (am_I (ii c)), wst u2)) (hS : wI u2 47 14 = S) (h5 : wI u2 47 5 = l) (hc : c = 60 ∨ c = 62) (h0 : 0 ≤ S) (h1 : S + 1 < l) (hl : l ≤ 400) (e : wA u2 50 (S + 1) = 61) : am_F sc 89 [am_R (some 47)] (wst w) = am_W sc 89 (105, [some (am_R (some 47)), some (am_I (ii c)), some (am_I (ii S)), some (am_I (ii 1)), none], [], wst (uI (uI u2 47 14 (S + 1)) 47 14 (S + 1 + 1))) := by
  have n14 : wI (uI u2 47 14 (S + 1)) 47 14 = S + 1 := rI _ _ _ _
  have n5 : wI (uI u2 47 14 (S + 1)) 47 5 = l := h5
  have nA : wA (uI u2 47 14 (S + 1)) 50 (S + 1) = 61 := e
  rcases hc with rfl | rfl
  · rw [fq_89, is_47, qC_t, k1, r_I, qB_s, qI_f (show ¬ (ii 1 = (0 : Int32)) by decide), is_47, qC_t, m1, r_I, qB_s, gI_47_14, qB_s, hS, li_60, qI_t rfl, qB_s, li_1, ii_add, pI_47_14, qB_s, li_61, qI_f (show ¬ (ii 60 = ii 61) by decide), gI_47_14, qB_s, n14, gI_47_5, qB_s, n5, qI_t (show ii (S + 1) < ii l by rw [ii_lt] <;> omega), gR_47_4, qB_s, qB_s, qB_s, e_50 _ (by omega) (by omega), qB_s, nA, qI_t rfl, qI_f (show ¬ (ii 1 = (0 : Int32)) by decide), qB_s, ii_add, pI_47_14, qB_s]
  · rw [fq_89, is_47, qC_t, k1, r_I, qB_s, qI_f (show ¬ (ii 1 = (0 : Int32)) by decide), is_47, qC_t, m1, r_I, qB_s, gI_47_14, qB_s, hS, li_60, qI_f (show ¬ (ii 62 = ii 60) by decide), li_61, qI_f (show ¬ (ii 62 = ii 61) by decide), li_62, qI_t rfl, qB_s, li_1, ii_add, pI_47_14, qB_s, qI_f (show ¬ (ii 62 = ii 61) by decide), gI_47_14, qB_s, n14, gI_47_5, qB_s, n5, qI_t (show ii (S + 1) < ii l by rw [ii_lt] <;> omega), gR_47_4, qB_s, qB_s, qB_s, e_50 _ (by omega) (by omega), qB_s, nA, qI_t rfl, qI_f (show ¬ (ii 1 = (0 : Int32)) by decide), qB_s, ii_add, pI_47_14, qB_s]
theorem d89r2 {u1 u2 : wo} {S l c x : Int} (k1 : am_F sc 88 [am_R (some 47)] (wst w) = some (some (am_I (ii 1)), wst u1)) (m1 : am_F sc 76 [am_R (some 47)] (wst u1) = some (some (am_I (ii c)), wst u2)) (hS : wI u2 47 14 = S) (h5 : wI u2 47 5 = l) (hc : c = 60 ∨ c = 62) (h0 : 0 ≤ S) (h1 : S + 1 < l) (hl : l ≤ 400) (e : wA u2 50 (S + 1) = x) (hx : -128 ≤ x ∧ x ≤ 127 ∧ x ≠ 61) : am_F sc 89 [am_R (some 47)] (wst w) = am_W sc 89 (89, [some (am_R (some 47)), some (am_I (ii c)), some (am_I (ii S)), none, none], [], wst (uI u2 47 14 (S + 1))) := by
  have n14 : wI (uI u2 47 14 (S + 1)) 47 14 = S + 1 := rI _ _ _ _
  have n5 : wI (uI u2 47 14 (S + 1)) 47 5 = l := h5
  have nA : wA (uI u2 47 14 (S + 1)) 50 (S + 1) = x := e
  rcases hc with rfl | rfl
  · rw [fq_89, is_47, qC_t, k1, r_I, qB_s, qI_f (show ¬ (ii 1 = (0 : Int32)) by decide), is_47, qC_t, m1, r_I, qB_s, gI_47_14, qB_s, hS, li_60, qI_t rfl, qB_s, li_1, ii_add, pI_47_14, qB_s, li_61, qI_f (show ¬ (ii 60 = ii 61) by decide), gI_47_14, qB_s, n14, gI_47_5, qB_s, n5, qI_t (show ii (S + 1) < ii l by rw [ii_lt] <;> omega), gR_47_4, qB_s, qB_s, qB_s, e_50 _ (by omega) (by omega), qB_s, nA, qI_f (show ¬ (ii x = ii 61) by rw [ii_eq] <;> omega)]
  · rw [fq_89, is_47, qC_t, k1, r_I, qB_s, qI_f (show ¬ (ii 1 = (0 : Int32)) by decide), is_47, qC_t, m1, r_I, qB_s, gI_47_14, qB_s, hS, li_60, qI_f (show ¬ (ii 62 = ii 60) by decide), li_61, qI_f (show ¬ (ii 62 = ii 61) by decide), li_62, qI_t rfl, qB_s, li_1, ii_add, pI_47_14, qB_s, qI_f (show ¬ (ii 62 = ii 61) by decide), gI_47_14, qB_s, n14, gI_47_5, qB_s, n5, qI_t (show ii (S + 1) < ii l by rw [ii_lt] <;> omega), gR_47_4, qB_s, qB_s, qB_s, e_50 _ (by omega) (by omega), qB_s, nA, qI_f (show ¬ (ii x = ii 61) by rw [ii_eq] <;> omega)]
theorem d89r3 {u1 u2 : wo} {S l c : Int} (k1 : am_F sc 88 [am_R (some 47)] (wst w) = some (some (am_I (ii 1)), wst u1)) (m1 : am_F sc 76 [am_R (some 47)] (wst u1) = some (some (am_I (ii c)), wst u2)) (hS : wI u2 47 14 = S) (h5 : wI u2 47 5 = l) (hc : c = 60 ∨ c = 62) (h0 : 0 ≤ S) (h1 : l ≤ S + 1) (hl : S ≤ 400) (hl0 : 0 ≤ l) : am_F sc 89 [am_R (some 47)] (wst w) = am_W sc 89 (89, [some (am_R (some 47)), some (am_I (ii c)), some (am_I (ii S)), none, none], [], wst (uI u2 47 14 (S + 1))) := by
  have n14 : wI (uI u2 47 14 (S + 1)) 47 14 = S + 1 := rI _ _ _ _
  have n5 : wI (uI u2 47 14 (S + 1)) 47 5 = l := h5
  rcases hc with rfl | rfl
  · rw [fq_89, is_47, qC_t, k1, r_I, qB_s, qI_f (show ¬ (ii 1 = (0 : Int32)) by decide), is_47, qC_t, m1, r_I, qB_s, gI_47_14, qB_s, hS, li_60, qI_t rfl, qB_s, li_1, ii_add, pI_47_14, qB_s, li_61, qI_f (show ¬ (ii 60 = ii 61) by decide), gI_47_14, qB_s, n14, gI_47_5, qB_s, n5, qI_f (show ¬ (ii (S + 1) < ii l) by rw [ii_lt] <;> omega)]
  · rw [fq_89, is_47, qC_t, k1, r_I, qB_s, qI_f (show ¬ (ii 1 = (0 : Int32)) by decide), is_47, qC_t, m1, r_I, qB_s, gI_47_14, qB_s, hS, li_60, qI_f (show ¬ (ii 62 = ii 60) by decide), li_61, qI_f (show ¬ (ii 62 = ii 61) by decide), li_62, qI_t rfl, qB_s, li_1, ii_add, pI_47_14, qB_s, qI_f (show ¬ (ii 62 = ii 61) by decide), gI_47_14, qB_s, n14, gI_47_5, qB_s, n5, qI_f (show ¬ (ii (S + 1) < ii l) by rw [ii_lt] <;> omega)]
theorem d89r4 {u1 u2 : wo} {S : Int} (k1 : am_F sc 88 [am_R (some 47)] (wst w) = some (some (am_I (ii 1)), wst u1)) (m1 : am_F sc 76 [am_R (some 47)] (wst u1) = some (some (am_I (ii 61)), wst u2)) (hS : wI u2 47 14 = S) : am_F sc 89 [am_R (some 47)] (wst w) = am_W sc 89 (89, [some (am_R (some 47)), some (am_I (ii 61)), some (am_I (ii S)), none, none], [], wst (uI u2 47 14 (S + 1))) := by
  rw [fq_89]
  simp (disch := omega) only [qB_s, qC_t, qC_f, qI_T, qI_F, qI_t, qI_f, r_I, r_L, r_R, r_V, ii_add, ii_sub, ii_mul, ii_neg, bz_0, bz_1, Bool.true_and, Bool.false_and, Bool.and_true, z00, z11, li_0, li_1, li_2, li_3, li_4, li_60, li_61, li_62, e_50, gI_47_14, gI_47_5, gR_47_4, is_47, pI_47_14, ii_lt, ii_eq, k1, m1, hS]
theorem d89r5 {c S : Int} : am_W sc 89 (89, [some (am_R (some 47)), some (am_I (ii c)), some (am_I (ii S)), none, none], [], wst w) = am_W sc 89 (105, [some (am_R (some 47)), some (am_I (ii c)), some (am_I (ii S)), some (am_I (ii 0)), none], [], wst w) := by
  rw [wq_89_89]
  simp (disch := omega) only [qB_s, qC_t, qC_f, qI_T, qI_F, qI_t, qI_f, r_I, r_L, r_R, r_V, ii_add, ii_sub, ii_mul, ii_neg, bz_0, bz_1, Bool.true_and, Bool.false_and, Bool.and_true, z00, z11, li_0, li_1, li_2, li_3, li_4, li_60, li_61, li_62, e_50, gI_47_14, gI_47_5, gR_47_4, is_47, pI_47_14, ii_eq]
theorem d89r6 {u1 u2 u3 : wo} {S c x : Int} (k1 : am_F sc 88 [am_R (some 47)] (wst w) = some (some (am_I (ii 1)), wst u1)) (m1 : am_F sc 76 [am_R (some 47)] (wst u1) = some (some (am_I (ii c)), wst u2)) (hS : wI u2 47 14 = S) (hc : -1 ≤ c ∧ c ≤ 255 ∧ c ≠ 60 ∧ c ≠ 61 ∧ c ≠ 62) (e80 : am_F sc 80 [am_R (some 47), am_I (ii 0), am_I (ii S)] (wst u2) = some (some (am_I (ii 0)), wst u3)) : am_F sc 89 [am_R (some 47)] (wst w) = some (some (am_I (ii 0)), wst u3) := by
  rw [fq_89]
  simp (disch := omega) only [qB_s, qC_t, qC_f, qI_T, qI_F, qI_t, qI_f, r_I, r_L, r_R, r_V, ii_add, ii_sub, ii_mul, ii_neg, bz_0, bz_1, Bool.true_and, Bool.false_and, Bool.and_true, z00, z11, li_0, li_1, li_2, li_3, li_4, li_60, li_61, li_62, e_50, gI_47_14, gI_47_5, gR_47_4, is_47, pI_47_14, ii_lt, ii_eq, k1, m1, hS, e80]
theorem d89 (hT : TT b L T) (ht : 0 ≤ t ∧ t < 16) {s : st} (hW : MW w b L t s) {z e : Int} (hI : aI b T z 0 e s) (hz : 0 ≤ z) : ∃ (u : wo) (x : Int), am_F sc 89 [am_R (some 47)] (wst w) = some (some (am_I (ii x)), wst u) ∧ gM t w u ∧ oR u b L t (aCmp b s) x := by
  have hL := hT.1.1
  obtain ⟨u1, x, k1, k2, k3⟩ := d88 (sc := sc) hT ht hW hI hz ⟨by decide, by decide⟩
  unfold aCmp
  revert k3
  cases hr : aSum b s with
  | inl c =>
    intro k3
    obtain ⟨k3, k4⟩ := k3
    subst k3
    refine ⟨u1, 0, ?_, k2, rfl, k4⟩
    rw [fq_89]
    simp (disch := omega) only [qB_s, qC_t, qC_f, qI_T, qI_F, qI_t, qI_f, r_I, r_L, r_R, r_V, ii_add, ii_sub, ii_mul, ii_neg, bz_0, bz_1, Bool.true_and, Bool.false_and, Bool.and_true, z00, z11, li_0, li_1, li_2, li_3, li_4, li_60, li_61, li_62, e_50, gI_47_14, gI_47_5, gR_47_4, is_47, pI_47_14, ii_eq, k1]
  | inr s1 =>
    intro k3
    obtain ⟨k3, k4⟩ := k3
    subst k3
    obtain ⟨a1, a2, a3⟩ := aSum_I hT hI ⟨by decide, by decide⟩ hr
    have hr1 := (tS_r hT.1 s1.1).1
    have hb := TP_b hT.1 (tS b s1.1)
    have hb1 := TP_b hT.1 (tS b s1.1 + 1)
    have hn1 := a1.1
    have hT4 := hT.2.1
    obtain ⟨u2, m1, m2, m3⟩ := d76 (sc := sc) hT k4.1
    have hS := m3.2
    have h15 : wI u2 47 15 = 0 := by rw [fr_I m2 rfl]; exact k4.2.1
    have h5 : wI u2 47 5 = L := m3.1.1
    show ∃ u x, _ ∧ _ ∧ oR u b L t (bd (aSig b s1) fun s2 => bd (aSum b s2) fun s3 => .inr (s3.1, s3.2.1, s3.2.2.1, pu s3.2.2.2 3 (tK b s1.1))) x
    have hK := tK_c (b := b) (j := s1.1)
    have hK61 := tK_s (b := b) (j := s1.1) (c := 61) (by omega)
    -- with the token passed over
    have go : ∀ (n x1 x3 : Int), n = tkE b (tS b s1.1) → ((x1 = 60 ∧ x3 = 0 ∧ tK b s1.1 = 60) ∨ (x1 = 60 ∧ x3 = 1 ∧ tK b s1.1 = 201) ∨ (x1 = 61 ∧ x3 = 0 ∧ tK b s1.1 = 61) ∨ (x1 = 62 ∧ x3 = 0 ∧ tK b s1.1 = 62) ∨ (x1 = 62 ∧ x3 = 1 ∧ tK b s1.1 = 202)) → ∀ (u3 : wo), fr [4714] u2 u3 → wI u3 47 14 = n → am_F sc 89 [am_R (some 47)] (wst w) = am_W sc 89 (105, [some (am_R (some 47)), some (am_I (ii x1)), some (am_I (ii (tS b s1.1))), some (am_I (ii x3)), none], [], wst u3) → ∃ (u : wo) (x : Int), am_F sc 89 [am_R (some 47)] (wst w) = some (some (am_I (ii x)), wst u) ∧ gM t w u ∧ oR u b L t (bd (aSig b s1) fun s2 => bd (aSum b s2) fun s3 => .inr (s3.1, s3.2.1, s3.2.2.1, pu s3.2.2.2 3 (tK b s1.1))) x := fun n x1 x3 hn hk u3 f3 e3 run => by
      have hlt := TT_lt hT hn1 (show tK b s1.1 ≠ 204 by omega)
      have hW3 : MW u3 b L t (s1.1 + 1, s1.2) := MW_n k4 (fr_t m2 f3) rfl (oP_1 hT m3 f3 rfl hlt.2.2 (by rw [e3, hn]))
      obtain ⟨u, y, o1, o2, o3⟩ := d89c (sc := sc) hT ht hW3 (by exact a1) hz hk
      exact ⟨u, y, run.trans o1, gM_t k2 (gM_t (gM_fr (fr_t m2 f3) rfl rfl) o2), o3⟩
    by_cases c60 : b (tS b s1.1) = 60 ∨ b (tS b s1.1) = 62
    · have hlt := TP_lt hT.1 (p := tS b s1.1) (by omega)
      have eE := hK.2.2.2.2 c60
      have nA : tS b s1.1 + 1 < L → wA u2 50 ((tS b s1.1 : Int) + 1) = sBy (b (tS b s1.1 + 1)) := fun y => by
        have := m3.1.2 (tS b s1.1 + 1) y
        rw [nat_1] at this
        exact this
      have hs1 : tS b s1.1 + 1 < L → (-128 ≤ sBy (b (tS b s1.1 + 1)) ∧ sBy (b (tS b s1.1 + 1)) ≤ 127) ∧ ((b (tS b s1.1 + 1) < 128 ∧ sBy (b (tS b s1.1 + 1)) = b (tS b s1.1 + 1)) ∨ (128 ≤ b (tS b s1.1 + 1) ∧ sBy (b (tS b s1.1 + 1)) = b (tS b s1.1 + 1) - 256)) := fun y => sBy_r (hT.1.2.1 _ y).1 (hT.1.2.1 _ y).2
      by_cases c2 : b (tS b s1.1 + 1) = 61
      · rw [if_pos c2] at eE
        have hl2 := TP_lt hT.1 (p := tS b s1.1 + 1) (by omega)
        have nA := nA hl2
        have hs1 := hs1 hl2
        have es : sBy (b (tS b s1.1 + 1)) = 61 := by omega
        rw [es] at nA
        have f3 : fr [4714] u2 (uI (uI u2 47 14 (tS b s1.1 + 1)) 47 14 ((tS b s1.1 : Int) + 1 + 1)) := fr_uI (fr_uI (fr_r _ _) rfl) rfl
        have run := d89r1 (sc := sc) k1 m1 hS h5 c60 (by omega) (by omega) (by omega) nA
        rcases c60 with c | c
        · rw [c] at run
          exact go ((tS b s1.1 : Int) + 1 + 1) 60 1 (by rw [eE]; omega) (.inr (.inl ⟨rfl, rfl, hK.2.1.mpr ⟨c, c2⟩⟩)) _ f3 (rI _ _ _ _) run
        · rw [c] at run
          exact go ((tS b s1.1 : Int) + 1 + 1) 62 1 (by rw [eE]; omega) (.inr (.inr (.inr (.inr ⟨rfl, rfl, hK.2.2.2.1.mpr ⟨c, c2⟩⟩)))) _ f3 (rI _ _ _ _) run
      · rw [if_neg c2] at eE
        have f3 : fr [4714] u2 (uI u2 47 14 (tS b s1.1 + 1)) := fr_uI (fr_r _ _) rfl
        have run : am_F sc 89 [am_R (some 47)] (wst w) = am_W sc 89 (105, [some (am_R (some 47)), some (am_I (ii (b (tS b s1.1)))), some (am_I (ii (tS b s1.1))), some (am_I (ii 0)), none], [], wst (uI u2 47 14 (tS b s1.1 + 1))) := by
          by_cases hl2 : tS b s1.1 + 1 < L
          · have hs1 := hs1 hl2
            exact (d89r2 (sc := sc) k1 m1 hS h5 c60 (by omega) (by omega) (by omega) (nA hl2) (by omega)).trans d89r5
          · exact (d89r3 (sc := sc) k1 m1 hS h5 c60 (by omega) (by omega) (by omega) (by omega)).trans d89r5
        rcases c60 with c | c
        · rw [c] at run
          exact go ((tS b s1.1 : Int) + 1) 60 0 (by rw [eE]; omega) (.inl ⟨rfl, rfl, hK.1.mpr ⟨c, c2⟩⟩) _ f3 (rI _ _ _ _) run
        · rw [c] at run
          exact go ((tS b s1.1 : Int) + 1) 62 0 (by rw [eE]; omega) (.inr (.inr (.inr (.inl ⟨rfl, rfl, hK.2.2.1.mpr ⟨c, c2⟩⟩)))) _ f3 (rI _ _ _ _) run
    · by_cases c61 : b (tS b s1.1) = 61
      · have y61 := hK61.1.mpr c61
        have f3 : fr [4714] u2 (uI u2 47 14 (tS b s1.1 + 1)) := fr_uI (fr_r _ _) rfl
        rw [c61] at m1
        exact go ((tS b s1.1 : Int) + 1) 61 0 (by rw [hK61.2 y61]; omega) (.inr (.inr (.inl ⟨rfl, rfl, y61⟩))) _ f3 (rI _ _ _ _) ((d89r4 (sc := sc) k1 m1 hS).trans d89r5)
      · have hno : ¬ (tK b s1.1 = 60 ∨ tK b s1.1 = 201 ∨ tK b s1.1 = 61 ∨ tK b s1.1 = 202 ∨ tK b s1.1 = 62) := by
          rw [hK.1, hK.2.1, hK61.1, hK.2.2.2.1, hK.2.2.1]
          omega
        rw [show aSig b s1 = .inl (fl b s1.1 0) from if_neg hno]
        have e80 := d80 (sc := sc) (c := 0) (x := tS b s1.1) h15
        exact ⟨uI u2 47 15 (1 + 8 * (tS b s1.1 : Int) + 0), 0, d89r6 (sc := sc) (x := 0) k1 m1 hS (by omega) e80, gM_t k2 (gM_t (gM_fr m2 rfl rfl) (gM_fr (l := [4715]) (fr_uI (fr_r _ _) rfl) rfl rfl)), rfl, rI _ _ _ _⟩
/-- an opening -/
theorem d82 (hT : TT b L T) {s : st} (hW : MW w b L t s) (hq : wI w 47 14 = tS b s.1) {z ph e : Int} (hI : aI b T z ph e s) (hz : 0 ≤ z) {k : Int} (hk : k = 6 ∨ k = 3) : (10 ≤ dpt s.2.2.1 → ∃ u, am_F sc 82 [am_R (some 47), am_I (ii (om k))] (wst w) = some (some (am_I (ii 0)), wst u) ∧ gM t w u ∧ wI u 47 15 = fl b s.1 2) ∧ (¬ 10 ≤ dpt s.2.2.1 → ∃ u, am_F sc 82 [am_R (some 47), am_I (ii (om k))] (wst w) = some (some (am_I (ii 1)), wst u) ∧ gM t w u ∧ fr [4719, 4721, 5799] w u ∧ MW u b L t (s.1, s.2.1, k :: s.2.2.1, s.2.2.2)) := by
  have hwl := aI_w hT hI hz
  obtain ⟨h1, h2, h3, h4, h5, ⟨h6, h7⟩, h8⟩ := hW
  have hd := hI.2.2.1.2.2
  have hd0 := dpt_0 s.2.2.1
  constructor
  · intro y
    have e80 := d80 (sc := sc) (c := 2) (x := tS b s.1) h2
    refine ⟨uI w 47 15 (1 + 8 * (tS b s.1 : Int) + 2), ?_, gM_fr (l := [4715]) (fr_uI (fr_r _ _) rfl) rfl rfl, rI _ _ _ _⟩
    rw [fq_82]
    simp (disch := omega) only [qB_s, qC_t, qC_f, qI_T, qI_F, qI_t, qI_f, r_I, r_L, r_R, r_V, ii_add, ii_sub, ii_mul, ii_neg, bz_0, bz_1, Bool.true_and, Bool.false_and, Bool.and_true, z00, z11, li_0, li_1, li_10, li_2, gI_47_14, gI_47_19, gI_47_21, gR_47_20, is_47, pI_47_19, pI_47_21, t_57, ii_eq, h5, hq, e80]
  · intro y
    have f1 : fr [4719, 4721, 5799] w (uI (uA (uI w 47 19 (dpt s.2.2.1 + 1)) 57 (fu (wA w 57) s.2.2.1.length (om k))) 47 21 (s.2.2.1.length + 1)) := fr_uI (fr_uA (fr_uI (fr_r _ _) rfl) rfl) rfl
    refine ⟨uI (uA (uI w 47 19 (dpt s.2.2.1 + 1)) 57 (fu (wA w 57) s.2.2.1.length (om k))) 47 21 (s.2.2.1.length + 1), ?_, gM_fr f1 rfl rfl, f1, ⟨oB_fr h1.1 f1 rfl, h1.2⟩, h2, h3, h4, ?_, ⟨?_, ?_⟩, h8⟩
    · rw [fq_82]
      simp (disch := omega) only [qB_s, qC_t, qC_f, qI_T, qI_F, qI_t, qI_f, r_I, r_L, r_R, r_V, ii_add, ii_sub, ii_mul, ii_neg, bz_0, bz_1, Bool.true_and, Bool.false_and, Bool.and_true, z00, z11, li_0, li_1, li_10, li_2, gI_47_14, gI_47_19, gI_47_21, gR_47_20, is_47, pI_47_19, pI_47_21, t_57, ii_eq, h5, h6, uI_I, uA_I, uI_A, uA_A, Nat.reduceEqDiff, and_self, and_false, and_true, if_true, if_false]
    · simp only [uI_I, uA_I, uI_A, uA_A, Nat.reduceEqDiff, and_self, and_false, and_true, if_true, if_false]
      show _ = dpt s.2.2.1 + bz (k = 6 ∨ k = 3)
      rw [bz_t hk]
    · rw [rI]
      show _ = ((s.2.2.1.length + 1 : Nat) : Int)
      omega
    · simp only [uI_I, uA_I, uI_A, uA_A, Nat.reduceEqDiff, and_self, and_false, and_true, if_true, if_false]
      show fu (wA w 57) s.2.2.1.length (om k) (((s.2.2.1.map om).length : Nat) : Int) = om k ∧ skr (s.2.2.1.map om) (fu (wA w 57) s.2.2.1.length (om k))
      rw [List.length_map]
      exact ⟨by rw [fu_at, if_pos rfl], skr_up h7 (by rw [List.length_map]; exact Int.le_refl _)⟩
theorem d90l (hT : TT b L T) (ht : 0 ≤ t ∧ t < 16) : ∀ (d : Nat) (w : wo) (s : st), T < s.1 + d → MW w b L t s → aI b T 0 0 0 s → ∃ (u : wo) (x : Int), am_W sc 90 (2, [some (am_R (some 47)), some (am_I (ii 1)), none], [], wst w) = some (some (am_I (ii x)), wst u) ∧ gM t w u ∧ ((∃ c, aTsL b d s = .inl c ∧ x = 0 ∧ wI u 47 15 = c) ∨ (∃ d' s', d' < d ∧ x = 1 ∧ MW u b L t s' ∧ aI b T 0 0 1 s' ∧ 1 ≤ s'.1 ∧ T < s'.1 + d' ∧ aTsL b d s = bd (aBeh b s') fun z => bif z.1 then aTsL b d' z.2 else .inr z.2))
  | 0, w, s, hd, hW, hI => by
    have := hI.1
    omega
  | d + 1, w, s, hd, hW, hI => by
    have hL := hT.1.1
    have hb := TP_b hT.1 (tS b s.1)
    obtain ⟨u1, k1, k2, k3⟩ := d76 (sc := sc) hT hW.1
    obtain ⟨c6, c7, c8, c9, c10, c11, c12, c13, c14, c15, c16, c17⟩ := Wc_v
    obtain ⟨u2, m1, m2, m3⟩ := d79w (sc := sc) hT (oP_of hT k3) (k := 17) (K := 17) (by decide) rfl c17
    have f2 := fr_t k2 m2
    have hW2 : MW u2 b L t s := MW_n hW f2 rfl (oP_of hT m3)
    have h91 := tK_s (b := b) (j := s.1) (c := 91) (by omega)
    by_cases y1 : tK b s.1 = 17
    · rw [bz_t y1] at m1
      have hlt := TT_lt hT hI.1 (by omega)
      have eA : aTsL b (d + 1) s = bd (aOpn b 6 s) (aTsL b d) := if_pos y1
      rw [eA]
      obtain ⟨o1, o2⟩ := d82 (sc := sc) hT hW2 m3.2 hI (Int.le_refl _) (k := 6) (.inl rfl)
      by_cases y : 10 ≤ dpt s.2.2.1
      · obtain ⟨u3, n1, n2, n3⟩ := o1 y
        refine ⟨u3, 0, ?_, gM_t (gM_fr f2 rfl rfl) n2, .inl ⟨_, ?_, rfl, n3⟩⟩
        · have n1 : am_F sc 82 [am_R (some 47), am_I (ii 3)] (wst u2) = some (some (am_I (ii 0)), wst u3) := n1
          rw [wq_90_2]
          simp (disch := omega) only [qB_s, qC_t, qC_f, qI_T, qI_F, qI_t, qI_f, r_I, r_L, r_R, r_V, ii_add, ii_sub, ii_mul, ii_neg, bz_0, bz_1, Bool.true_and, Bool.false_and, Bool.and_true, z00, z11, li_0, li_1, li_3, li_91, lj_7237492, gI_47_14, is_47, pI_47_14, ii_eq, k1, m1, n1]
        · rw [show aOpn b 6 s = .inl (fl b s.1 2) from if_pos y]
          rfl
      · obtain ⟨u3, n1, n2, nf, n3⟩ := o2 y
        have hs : aOpn b 6 s = .inr (s.1 + 1, s.2.1, 6 :: s.2.2.1, s.2.2.2) := if_neg y
        obtain ⟨a1, a2⟩ := aOpn_I hT hI (.inl ⟨rfl, y1⟩) hs
        obtain ⟨u4, p1, p2, p3⟩ := d81 (sc := sc) hT (j := s.1) ⟨oB_fr m3.1 nf rfl, by rw [fr_I nf rfl]; exact m3.2⟩ (k := 17) (by decide) y1
        obtain ⟨u5, x, q1, q2, q3⟩ := d90l hT ht d u4 (s.1 + 1, s.2.1, 6 :: s.2.2.1, s.2.2.2) (by show T < s.1 + 1 + d; omega) (MW_n n3 p2 rfl p3) a1
        refine ⟨u5, x, ?_, gM_t (gM_t (gM_t (gM_fr f2 rfl rfl) n2) (gM_fr p2 rfl rfl)) q2, ?_⟩
        · have n1 : am_F sc 82 [am_R (some 47), am_I (ii 3)] (wst u2) = some (some (am_I (ii 1)), wst u3) := n1
          rw [← q1, wq_90_2]
          simp (disch := omega) only [qB_s, qC_t, qC_f, qI_T, qI_F, qI_t, qI_f, r_I, r_L, r_R, r_V, ii_add, ii_sub, ii_mul, ii_neg, bz_0, bz_1, Bool.true_and, Bool.false_and, Bool.and_true, z00, z11, li_0, li_1, li_3, li_91, lj_7237492, gI_47_14, is_47, pI_47_14, ii_eq, k1, m1, n1, p1]
        · rw [hs]
          rcases q3 with q3 | ⟨d', s', z1, z2⟩
          · exact .inl q3
          · exact .inr ⟨d', s', by omega, z2⟩
    · rw [bz_f y1] at m1
      by_cases y2 : tK b s.1 = 91
      · have hlt := TT_lt hT hI.1 (by omega)
        have eb := h91.1.mp y2
        have eE := h91.2 y2
        rw [eb] at k1
        have eA : aTsL b (d + 1) s = bd (aOpn b 3 s) (aTsL b d) := by
          show (if tK b s.1 = 17 then _ else _) = _
          rw [if_neg y1, if_pos y2]
        rw [eA]
        obtain ⟨o1, o2⟩ := d82 (sc := sc) hT hW2 m3.2 hI (Int.le_refl _) (k := 3) (.inr rfl)
        by_cases y : 10 ≤ dpt s.2.2.1
        · obtain ⟨u3, n1, n2, n3⟩ := o1 y
          refine ⟨u3, 0, ?_, gM_t (gM_fr f2 rfl rfl) n2, .inl ⟨_, ?_, rfl, n3⟩⟩
          · have n1 : am_F sc 82 [am_R (some 47), am_I (ii 91)] (wst u2) = some (some (am_I (ii 0)), wst u3) := n1
            rw [wq_90_2]
            simp (disch := omega) only [qB_s, qC_t, qC_f, qI_T, qI_F, qI_t, qI_f, r_I, r_L, r_R, r_V, ii_add, ii_sub, ii_mul, ii_neg, bz_0, bz_1, Bool.true_and, Bool.false_and, Bool.and_true, z00, z11, li_0, li_1, li_3, li_91, lj_7237492, gI_47_14, is_47, pI_47_14, ii_eq, k1, m1, n1]
          · rw [show aOpn b 3 s = .inl (fl b s.1 2) from if_pos y]
            rfl
        · obtain ⟨u3, n1, n2, nf, n3⟩ := o2 y
          have hs : aOpn b 3 s = .inr (s.1 + 1, s.2.1, 3 :: s.2.2.1, s.2.2.2) := if_neg y
          obtain ⟨a1, a2⟩ := aOpn_I hT hI (.inr ⟨rfl, y2⟩) hs
          have q3' : oQ u3 b L s.1 := ⟨oB_fr m3.1 nf rfl, by rw [fr_I nf rfl]; exact m3.2⟩
          have hS := q3'.2
          have f4 : fr [4714] u3 (uI u3 47 14 (tS b s.1 + 1)) := fr_uI (fr_r _ _) rfl
          have hp4 := oP_1 hT q3' f4 rfl hlt.2.2 (by rw [rI, eE]; omega)
          obtain ⟨u5, x, q1, q2, q3⟩ := d90l hT ht d (uI u3 47 14 (tS b s.1 + 1)) (s.1 + 1, s.2.1, 3 :: s.2.2.1, s.2.2.2) (by show T < s.1 + 1 + d; omega) (MW_n n3 f4 rfl hp4) a1
          refine ⟨u5, x, ?_, gM_t (gM_t (gM_t (gM_fr f2 rfl rfl) n2) (gM_fr f4 rfl rfl)) q2, ?_⟩
          · have n1 : am_F sc 82 [am_R (some 47), am_I (ii 91)] (wst u2) = some (some (am_I (ii 1)), wst u3) := n1
            rw [← q1, wq_90_2]
            simp (disch := omega) only [qB_s, qC_t, qC_f, qI_T, qI_F, qI_t, qI_f, r_I, r_L, r_R, r_V, ii_add, ii_sub, ii_mul, ii_neg, bz_0, bz_1, Bool.true_and, Bool.false_and, Bool.and_true, z00, z11, li_0, li_1, li_3, li_91, lj_7237492, gI_47_14, is_47, pI_47_14, ii_eq, k1, m1, n1, hS]
          · rw [hs]
            rcases q3 with q3 | ⟨d', s', z1, z2⟩
            · exact .inl q3
            · exact .inr ⟨d', s', by omega, z2⟩
      · have eb : b (tS b s.1) ≠ 91 := fun y => y2 (h91.1.mpr y)
        have eA : aTsL b (d + 1) s = bd (aCmp b s) fun s1 => bd (aBeh b s1) fun z => bif z.1 then aTsL b d z.2 else .inr z.2 := by
          show (if tK b s.1 = 17 then _ else _) = _
          rw [if_neg y1, if_neg y2]
        obtain ⟨u3, x, n1, n2, n3⟩ := d89 (sc := sc) hT ht hW2 hI (Int.le_refl _)
        have e0 : am_W sc 90 (2, [some (am_R (some 47)), some (am_I (ii 1)), none], [], wst w) = am_W sc 90 (2, [some (am_R (some 47)), some (am_I (ii 0)), none], [], wst u2) := by
          rw [wq_90_2]
          simp (disch := omega) only [qB_s, qC_t, qC_f, qI_T, qI_F, qI_t, qI_f, r_I, r_L, r_R, r_V, ii_add, ii_sub, ii_mul, ii_neg, bz_0, bz_1, Bool.true_and, Bool.false_and, Bool.and_true, z00, z11, li_0, li_1, li_3, li_91, lj_7237492, gI_47_14, is_47, pI_47_14, ii_eq, k1, m1]
        rw [eA, e0]
        revert n3
        cases hr : aCmp b s with
        | inl c =>
          intro n3
          obtain ⟨n3, n4⟩ := n3
          subst n3
          refine ⟨u3, 0, ?_, gM_t (gM_fr f2 rfl rfl) n2, .inl ⟨c, rfl, rfl, n4⟩⟩
          rw [wq_90_2]
          simp (disch := omega) only [qB_s, qC_t, qC_f, qI_T, qI_F, qI_t, qI_f, r_I, r_L, r_R, r_V, ii_add, ii_sub, ii_mul, ii_neg, bz_0, bz_1, Bool.true_and, Bool.false_and, Bool.and_true, z00, z11, li_0, li_1, li_3, li_91, lj_7237492, gI_47_14, is_47, pI_47_14, ii_eq, n1]
        | inr s1 =>
          intro n3
          obtain ⟨n3, n4⟩ := n3
          subst n3
          obtain ⟨a1, a2, a3⟩ := aCmp_I hT hI hr
          refine ⟨u3, 1, ?_, gM_t (gM_fr f2 rfl rfl) n2, .inr ⟨d, s1, Nat.lt_succ_self d, rfl, n4, a1, by omega, by omega, rfl⟩⟩
          rw [wq_90_2]
          simp (disch := omega) only [qB_s, qC_t, qC_f, qI_T, qI_F, qI_t, qI_f, r_I, r_L, r_R, r_V, ii_add, ii_sub, ii_mul, ii_neg, bz_0, bz_1, Bool.true_and, Bool.false_and, Bool.and_true, z00, z11, li_0, li_1, li_3, li_91, lj_7237492, gI_47_14, is_47, pI_47_14, ii_eq, n1]
/-- what waits is settled -/
theorem d91l (ht : 0 ≤ t ∧ t < 16) {k : Int} (hk : k = 4 ∨ k = 5 ∨ k = 6) : ∀ (l : List Int) (P : pg) (w : wo) (j : Nat) (m : Int), l.length ≤ 399 → pof P P.1 + l.length ≤ 300 → wok l → MW w b L t (j, m, l, P) → ∃ u, am_W sc 91 (0, [some (am_R (some 47)), some (am_I (ii (om k)))], [], wst w) = some (none, wst u) ∧ gM t w u ∧ fr [4719, 4721, 5199, 5299] w u ∧ MW u b L t (j, m, stl k l P)
  | [], P, w, j, m, hi, hp, ho, hW => by
    have h21 : wI w 47 21 = 0 := hW.2.2.2.2.2.1.1
    refine ⟨w, ?_, gM_r _ _, fr_r _ _, hW⟩
    rw [wq_91_0]
    simp (disch := omega) only [qB_s, qC_t, qC_f, qI_T, qI_F, qI_t, qI_f, r_I, r_L, r_R, r_V, ii_add, ii_sub, ii_mul, ii_neg, bz_0, bz_1, Bool.true_and, Bool.false_and, Bool.and_true, z00, z11, li_0, li_1, li_10, li_11, li_2, li_3, li_9, li_91, e_57, gI_47_19, gI_47_21, gR_47_20, is_47, pI_47_19, pI_47_21, ii_lt, h21]
  | x :: q, P, w, j, m, hi, hp, ho, hW => by
    have hi : q.length + 1 ≤ 399 := hi
    have hp : pof P P.1 + ((q.length + 1 : Nat) : Int) ≤ 300 := hp
    have ho : (x = 3 ∨ x = 4 ∨ x = 5 ∨ x = 6) ∧ wok q := ho
    have hW0 := hW
    obtain ⟨h1, h2, h3, h4, h5, ⟨h6, h7⟩, h8⟩ := hW
    have h6 : wI w 47 21 = ((q.length + 1 : Nat) : Int) := h6
    have h7 : wA w 57 (((q.map om).length : Nat) : Int) = om x ∧ skr (q.map om) (wA w 57) := h7
    rw [List.length_map] at h7
    obtain ⟨h7, h7'⟩ := h7
    have h5 : wI w 47 19 = dpt q + bz (x = 6 ∨ x = 3) := h5
    have el : ((q.length + 1 : Nat) : Int) - 1 = q.length := by omega
    have oo := om_3 ho.1
    have kk : om k = k - 3 := by rcases hk with rfl | rfl | rfl <;> rfl
    have d0 := dpt_0 q
    unfold stl
    by_cases y : x < k
    · rw [if_pos y]
      refine ⟨w, ?_, gM_r _ _, fr_r _ _, hW0⟩
      rw [wq_91_0]
      by_cases y3 : x = 3
      · have := oo.1.mpr y3
        rw [this] at h7
        rw [kk]
        simp (disch := omega) only [qB_s, qC_t, qC_f, qI_T, qI_F, qI_t, qI_f, r_I, r_L, r_R, r_V, ii_add, ii_sub, ii_mul, ii_neg, bz_0, bz_1, Bool.true_and, Bool.false_and, Bool.and_true, z00, z11, li_0, li_1, li_10, li_11, li_2, li_3, li_9, li_91, e_57, gI_47_19, gI_47_21, gR_47_20, is_47, pI_47_19, pI_47_21, ii_lt, ii_eq, h6, el, h7]
      · have e : om x = x - 3 := by rcases ho.1 with rfl | rfl | rfl | rfl; exact absurd rfl y3; all_goals rfl
        rw [e] at h7
        rw [kk]
        simp (disch := omega) only [qB_s, qC_t, qC_f, qI_T, qI_F, qI_t, qI_f, r_I, r_L, r_R, r_V, ii_add, ii_sub, ii_mul, ii_neg, bz_0, bz_1, Bool.true_and, Bool.false_and, Bool.and_true, z00, z11, li_0, li_1, li_10, li_11, li_2, li_3, li_9, li_91, e_57, gI_47_19, gI_47_21, gR_47_20, is_47, pI_47_19, pI_47_21, ii_lt, ii_eq, h6, el, h7]
    · rw [if_neg y]
      have e : om x = x - 3 := by rcases ho.1 with rfl | rfl | rfl | rfl; omega; all_goals rfl
      have g1 : MW (uI w 47 21 q.length) b L t (j, m, q, P) → True := fun _ => trivial
      have f1 : fr [4721] w (uI w 47 21 q.length) := fr_uI (fr_r _ _) rfl
      -- but for the depth
      obtain ⟨v1, e1, v2, v3, v4⟩ : ∃ u, am_F sc 85 [am_R (some 47), am_I (ii (pcl x 0)), am_I (ii 0)] (wst (uI w 47 21 q.length)) = some (none, wst u) ∧ gM t (uI w 47 21 q.length) u ∧ fr [5199, 5299] (uI w 47 21 q.length) u ∧ PMr u t (pu P x 0) := by
        have hp0 := pof_0 P P.1
        have h8 : PMr (uI w 47 21 q.length) t P := h8
        have ee := d85 (sc := sc) (w := uI w 47 21 q.length) h3 ht h8.1 ⟨by omega, by omega⟩ (x := pcl x 0) (v := 0)
        refine ⟨_, ee, ⟨fr_uA (fr_uA (fr_r _ _) rfl) rfl, fun q hq => ?_, fun q hq => ?_⟩, fr_uA (fr_uA (fr_r _ _) rfl) rfl, PMr_pu h8 ?_ (fun y => ?_) (fun z hz => ?_) ?_⟩
        · rw [rAn _ _ rfl, rA, fu_at, if_neg (by omega)]
        · rw [rA, fu_at, if_neg hq]
        · rw [rAn _ _ rfl, rA, fu_at, if_pos rfl]
          unfold pch
          rw [if_neg (by omega)]
        · omega
        · rw [rAn _ _ rfl, rA, fu_at, if_neg (by omega)]
        · rw [rA, fu_at, if_pos rfl, bz_f (by omega)]
          omega
      have w57 : wA v1 57 (q.length : Int) = om x := by rw [fr_A (a := 57) v3 rfl]; exact h7
      have w21 : wI v1 47 21 = q.length := by rw [fr_I v3 rfl]; exact rI _ _ _ _
      have w19 : wI v1 47 19 = dpt q + bz (x = 6 ∨ x = 3) := by rw [fr_I v3 rfl]; exact h5
      have w57' : wA (uI w 47 21 q.length) 57 (q.length : Int) = om x := h7
      have w21' : wI (uI w 47 21 q.length) 47 21 = q.length := rI _ _ _ _
      have rest : ∀ u, fr [4719] v1 u → wI u 47 19 = dpt q → (am_W sc 91 (0, [some (am_R (some 47)), some (am_I (ii (om k)))], [], wst w) = am_W sc 91 (0, [some (am_R (some 47)), some (am_I (ii (om k)))], [], wst u)) → ∃ u, am_W sc 91 (0, [some (am_R (some 47)), some (am_I (ii (om k)))], [], wst w) = some (none, wst u) ∧ gM t w u ∧ fr [4719, 4721, 5199, 5299] w u ∧ MW u b L t (j, m, stl k q (pu P x 0)) := fun u fu' e19 run => by
        have ff : fr [4719, 4721, 5199, 5299] w u := fr_t (fr_t (fr_m f1 rfl) (fr_m v3 rfl)) (fr_m fu' rfl)
        have hWu : MW u b L t (j, m, q, pu P x 0) := by
          refine ⟨⟨oB_fr h1.1 ff rfl, ?_⟩, by rw [fr_I ff rfl]; exact h2, by rw [fr_I ff rfl]; exact h3, by rw [fr_I ff rfl]; exact h4, e19, ⟨by rw [fr_I fu' rfl]; exact w21, by rw [fr_A (a := 57) ff rfl]; exact h7'⟩, ?_⟩
          · rw [fr_I ff rfl]
            exact h1.2
          · unfold PMr
            rw [fr_A (a := 51) fu' rfl, fr_A (a := 52) fu' rfl]
            exact v4
        obtain ⟨u', k1, k2, k3, k4⟩ := d91l ht hk q (pu P x 0) u j m (by omega) (by
          show pof (pu P x 0) (P.1 + 1) + _ ≤ _
          rw [pof_pu, bz_f (by omega)]
          omega) ho.2 hWu
        exact ⟨u', run.trans k1, gM_t (gM_t (gM_t (gM_fr f1 rfl rfl) v2) (gM_fr fu' rfl rfl)) k2, fr_t ff k3, k4⟩
      rcases ho.1 with y3 | y4 | y5 | y6
      · omega
      · have hom : om x = 1 := by rw [y4]; rfl
        refine rest v1 (fr_r _ _) (by rw [w19, bz_f (by omega)]; omega) ?_
        rw [show pcl x 0 = 11 by rw [y4]; rfl] at e1
        rw [hom] at h7 w57 w57'
        rw [kk, wq_91_0]
        simp (disch := omega) only [qB_s, qC_t, qC_f, qI_T, qI_F, qI_t, qI_f, r_I, r_L, r_R, r_V, ii_add, ii_sub, ii_mul, ii_neg, bz_0, bz_1, Bool.true_and, Bool.false_and, Bool.and_true, z00, z11, li_0, li_1, li_10, li_11, li_2, li_3, li_9, li_91, e_57, gI_47_19, gI_47_21, gR_47_20, is_47, pI_47_19, pI_47_21, ii_lt, ii_eq, h6, el, h7, w21', w57', e1, w21, w57]
      · have hom : om x = 2 := by rw [y5]; rfl
        refine rest v1 (fr_r _ _) (by rw [w19, bz_f (by omega)]; omega) ?_
        rw [show pcl x 0 = 10 by rw [y5]; rfl] at e1
        rw [hom] at h7 w57 w57'
        rw [kk, wq_91_0]
        simp (disch := omega) only [qB_s, qC_t, qC_f, qI_T, qI_F, qI_t, qI_f, r_I, r_L, r_R, r_V, ii_add, ii_sub, ii_mul, ii_neg, bz_0, bz_1, Bool.true_and, Bool.false_and, Bool.and_true, z00, z11, li_0, li_1, li_10, li_11, li_2, li_3, li_9, li_91, e_57, gI_47_19, gI_47_21, gR_47_20, is_47, pI_47_19, pI_47_21, ii_lt, ii_eq, h6, el, h7, w21', w57', e1, w21, w57]
      · have hom : om x = 3 := by rw [y6]; rfl
        rw [bz_t (by omega)] at w19
        refine rest (uI v1 47 19 (dpt q)) (fr_uI (fr_r _ _) rfl) (rI _ _ _ _) ?_
        rw [show pcl x 0 = 9 by rw [y6]; rfl] at e1
        rw [hom] at h7 w57 w57'
        have ed : dpt q + 1 - 1 = dpt q := by omega
        rw [kk, wq_91_0]
        simp (disch := omega) only [qB_s, qC_t, qC_f, qI_T, qI_F, qI_t, qI_f, r_I, r_L, r_R, r_V, ii_add, ii_sub, ii_mul, ii_neg, bz_0, bz_1, Bool.true_and, Bool.false_and, Bool.and_true, z00, z11, li_0, li_1, li_10, li_11, li_2, li_3, li_9, li_91, e_57, gI_47_19, gI_47_21, gR_47_20, is_47, pI_47_19, pI_47_21, ii_lt, ii_eq, h6, el, h7, w21', w57', e1, w21, w57, w19, ed]
theorem d91 (hT : TT b L T) (ht : 0 ≤ t ∧ t < 16) {k : Int} (hk : k = 4 ∨ k = 5 ∨ k = 6) {s : st} (hW : MW w b L t s) {z ph e : Int} (hI : aI b T z ph e s) (hz : 0 ≤ z) : ∃ u, am_F sc 91 [am_R (some 47), am_I (ii (om k))] (wst w) = some (none, wst u) ∧ gM t w u ∧ fr [4719, 4721, 5199, 5299] w u ∧ MW u b L t (aStl k s) := by
  have hn := aI_n hT hI hz
  have hwl := aI_w hT hI hz
  have hpl := aI_p hT hI hz
  obtain ⟨u, k1, k2, k3, k4⟩ := d91l (sc := sc) ht hk s.2.2.1 s.2.2.2 w s.1 s.2.1 (by omega) hpl hI.2.2.1.2.1 hW
  refine ⟨u, ?_, k2, k3, k4⟩
  rw [fq_91, ← wq_91_0]
  exact k1
theorem d92 {n : Nat} (h21 : wI w 47 21 = n) (hn : n ≤ 400) (hr : ∀ i : Nat, i < n → 0 ≤ wA w 57 i ∧ wA w 57 i ≤ 100) : am_F sc 92 [am_R (some 47)] (wst w) = some (some (am_I (ii (bz (inF (wA w 57) n = true)))), wst w) := by
  have key : ∀ (d i : Nat), i + d = n → inF (wA w 57) i = false → am_W sc 92 (2, [some (am_R (some 47)), some (am_I (ii i))], [], wst w) = some (some (am_I (ii (bz (inF (wA w 57) n = true)))), wst w) := fun d => by
    induction d with
    | zero =>
      intro i hi h0
      have hi : i = n := by omega
      subst hi
      rw [h0, bz_ff, wq_92_2]
      simp (disch := omega) only [qB_s, qC_t, qC_f, qI_T, qI_F, qI_t, qI_f, r_I, r_L, r_R, r_V, ii_add, ii_sub, ii_mul, ii_neg, bz_0, bz_1, Bool.true_and, Bool.false_and, Bool.and_true, z00, z11, li_0, li_1, li_91, e_57, gI_47_21, gR_47_20, ii_lt, h21]
    | succ d ih =>
      intro i hi h0
      have hri := hr i (by omega)
      have e1 : inF (wA w 57) (i + 1) = (inF (wA w 57) i || decide (wA w 57 i = 91)) := rfl
      by_cases y : wA w 57 i = 91
      · rw [h0, decide_eq_true y, Bool.false_or] at e1
        have := inF_t e1 (n - (i + 1))
        rw [show i + 1 + (n - (i + 1)) = n by omega] at this
        rw [this, bz_tt, wq_92_2]
        simp (disch := omega) only [qB_s, qC_t, qC_f, qI_T, qI_F, qI_t, qI_f, r_I, r_L, r_R, r_V, ii_add, ii_sub, ii_mul, ii_neg, bz_0, bz_1, Bool.true_and, Bool.false_and, Bool.and_true, z00, z11, li_0, li_1, li_91, e_57, gI_47_21, gR_47_20, ii_lt, ii_eq, h21]
      · rw [h0, decide_eq_false y, Bool.false_or] at e1
        have := ih (i + 1) (by omega) e1
        rw [← this, wq_92_2, nat_1]
        simp (disch := omega) only [qB_s, qC_t, qC_f, qI_T, qI_F, qI_t, qI_f, r_I, r_L, r_R, r_V, ii_add, ii_sub, ii_mul, ii_neg, bz_0, bz_1, Bool.true_and, Bool.false_and, Bool.and_true, z00, z11, li_0, li_1, li_91, e_57, gI_47_21, gR_47_20, ii_lt, ii_eq, h21]
  rw [fq_92]
  exact key n 0 (by omega) rfl
theorem skr_r : ∀ {l : List Int} {f : Int → Int}, wok l → skr (l.map om) f → ∀ i : Nat, i < l.length → 0 ≤ f i ∧ f i ≤ 100
  | [], _, _, _, i, hi => absurd hi (Nat.not_lt_zero i)
  | x :: q, f, hw, h, i, hi => by
    have hw : (x = 3 ∨ x = 4 ∨ x = 5 ∨ x = 6) ∧ wok q := hw
    have h : f ((q.map om).length : Int) = om x ∧ skr (q.map om) f := h
    rw [List.length_map] at h
    have hi : i < q.length + 1 := hi
    by_cases z : i = q.length
    · rw [z, h.1]
      have := (om_3 hw.1).2.2.2.2
      omega
    · exact skr_r hw.2 h.2 i (by omega)
theorem d92w (hT : TT b L T) {s : st} (hW : MW w b L t s) {z ph e : Int} (hI : aI b T z ph e s) (hz : 0 ≤ z) : am_F sc 92 [am_R (some 47)] (wst w) = some (some (am_I (ii (bz (ins s.2.2.1 = true)))), wst w) := by
  have hwl := aI_w hT hI hz
  have hw := hI.2.2.1.2.1
  obtain ⟨h1, h2, h3, h4, h5, ⟨h6, h7⟩, h8⟩ := hW
  have := d92 (sc := sc) h6 (by omega) (skr_r hw h7)
  rw [ins_F hw h7] at this
  exact this
theorem d93l (hT : TT b L T) (ht : 0 ≤ t ∧ t < 16) : ∀ (d : Nat) (w : wo) (s : st), T < s.1 + d → MW w b L t s → aI b T 0 0 1 s → ∃ (u : wo) (s' : st), am_W sc 93 (5, [some (am_R (some 47))], [], wst w) = some (none, wst u) ∧ gM t w u ∧ MW u b L t s' ∧ aI b T 0 0 1 s' ∧ s.1 ≤ s'.1 ∧ aBhL b d s = aEnd b s'
  | 0, w, s, hd, hW, hI => by
    have := hI.1
    omega
  | d + 1, w, s, hd, hW, hI => by
    have hL := hT.1.1
    have hb := TP_b hT.1 (tS b s.1)
    obtain ⟨u1, k1, k2, k3⟩ := d76 (sc := sc) hT hW.1
    have h93 := tK_s (b := b) (j := s.1) (c := 93) (by omega)
    have hW1 : MW u1 b L t s := MW_n hW k2 rfl (oP_of hT k3)
    by_cases y1 : tK b s.1 = 93
    · have hlt := TT_lt hT hI.1 (by omega)
      have eb := h93.1.mp y1
      have eE := h93.2 y1
      rw [eb] at k1
      have e92 := d92w (sc := sc) hT hW1 hI (Int.le_refl _)
      have hst := stl_ins (P := s.2.2.2) hI.2.2.1.2.1
      have e1 : aBhL b (d + 1) s = (match (aStl 4 s).2.2.1 with
        | [] => .inr (false, aStl 4 s)
        | _ :: q => aBhL b d (aStl 6 (s.1 + 1, s.2.1, q, (aStl 4 s).2.2.2))) := if_pos y1
      have e2 : aEnd b s = (match (aStl 4 s).2.2.1 with
        | [] => .inr (false, aStl 4 s)
        | _ :: _ => .inl (fl b s.1 0)) := by
        unfold aEnd
        rw [if_neg (by omega), if_neg (by omega)]
        cases (aStl 4 s).2.2.1 <;> rfl
      cases hi : ins s.2.2.1 with
      | false =>
        rw [hi, bz_ff] at e92
        have hnil : (aStl 4 s).2.2.1 = [] := hst.mpr hi
        refine ⟨u1, s, ?_, gM_fr k2 rfl rfl, hW1, hI, Nat.le_refl _, ?_⟩
        · rw [wq_93_5]
          simp (disch := omega) only [qB_s, qC_t, qC_f, qI_T, qI_F, qI_t, qI_f, r_I, r_L, r_R, r_V, ii_add, ii_sub, ii_mul, ii_neg, bz_0, bz_1, Bool.true_and, Bool.false_and, Bool.and_true, z00, z11, li_0, li_1, li_3, li_93, gI_47_14, gI_47_19, gI_47_21, is_47, pI_47_14, pI_47_19, pI_47_21, ii_eq, k1, e92]
        · rw [e1, e2, hnil]
      | true =>
        rw [hi, bz_tt] at e92
        obtain ⟨u2, m1, m2, mf, m3⟩ := d91 (sc := sc) hT ht (k := 4) (.inl rfl) hW1 hI (Int.le_refl _)
        obtain ⟨hI2, hlow⟩ := aStl_I (k := 4) (by decide) hI
        rw [e1]
        have hI2 : aI b T 0 0 1 (s.1, s.2.1, (aStl 4 s).2.2.1, (aStl 4 s).2.2.2) := hI2
        have m3 : MW u2 b L t (s.1, s.2.1, (aStl 4 s).2.2.1, (aStl 4 s).2.2.2) := m3
        have hne : (aStl 4 s).2.2.1 ≠ [] := fun y => by
          have := hst.mp y
          rw [hi] at this
          cases this
        generalize hl : (aStl 4 s).2.2.1 = l at hI2 m3 hlow hne
        generalize (aStl 4 s).2.2.2 = P at hI2 m3
        cases l with
        | nil => exact absurd rfl hne
        | cons x q =>
          have hx4 : x < 4 := hlow
          have hI3 := aPop_I hT hI2 hx4 (by omega)
          have hx3 : x = 3 := by
            have hw : (x = 3 ∨ x = 4 ∨ x = 5 ∨ x = 6) ∧ wok q := hI2.2.2.1.2.1
            omega
          obtain ⟨p1, p2, p3, p4, p5, ⟨p6, p7⟩, p8⟩ := m3
          have p5 : wI u2 47 19 = dpt q + bz (x = 6 ∨ x = 3) := p5
          rw [bz_t (.inr hx3)] at p5
          have p6 : wI u2 47 21 = ((q.length + 1 : Nat) : Int) := p6
          have p7 : wA u2 57 (((q.map om).length : Nat) : Int) = om x ∧ skr (q.map om) (wA u2 57) := p7
          have hS : wI u2 47 14 = tS b s.1 := by rw [fr_I mf rfl]; exact k3.2
          have el : ((q.length + 1 : Nat) : Int) - 1 = q.length := by omega
          have ed : dpt q + 1 - 1 = dpt q := by omega
          obtain ⟨u3, hu3⟩ : ∃ v, v = uI (uI (uI u2 47 21 q.length) 47 19 (dpt q)) 47 14 (tS b s.1 + 1) := ⟨_, rfl⟩
          have f3 : fr [4714, 4719, 4721] u2 u3 := by
            rw [hu3]
            exact fr_uI (fr_uI (fr_uI (fr_r _ _) rfl) rfl) rfl
          have hW3 : MW u3 b L t (s.1 + 1, s.2.1, q, P) := by
            refine ⟨⟨oB_fr p1.1 f3 rfl, tkE b (tS b s.1), by rw [hu3, rI, eE]; omega, (tkE_r hT.1 hlt.2.2).2, rfl⟩, by rw [fr_I f3 rfl]; exact p2, by rw [fr_I f3 rfl]; exact p3, by rw [fr_I f3 rfl]; exact p4, by rw [hu3]; simp only [uI_I, uA_I, uI_A, uA_A, Nat.reduceEqDiff, and_self, and_false, and_true, if_true, if_false], ⟨by rw [hu3]; simp only [uI_I, uA_I, uI_A, uA_A, Nat.reduceEqDiff, and_self, and_false, and_true, if_true, if_false], by rw [fr_A (a := 57) f3 rfl]; exact p7.2⟩, ?_⟩
            unfold PMr
            rw [fr_A (a := 51) f3 rfl, fr_A (a := 52) f3 rfl]
            exact p8
          obtain ⟨u4, n1, n2, nf, n3⟩ := d91 (sc := sc) hT ht (k := 6) (.inr (.inr rfl)) hW3 hI3 (Int.le_refl _)
          have hI4 := (aStl_I (k := 6) (by decide) hI3).1
          obtain ⟨u5, s', o1, o2, o3, o4, o5, o6⟩ := d93l hT ht d u4 (aStl 6 (s.1 + 1, s.2.1, q, P)) (by show T < s.1 + 1 + d; omega) n3 hI4
          have o5 : s.1 + 1 ≤ s'.1 := o5
          refine ⟨u5, s', ?_, gM_t (gM_t (gM_t (gM_t (gM_fr k2 rfl rfl) m2) (gM_fr f3 rfl rfl)) n2) o2, o3, o4, by omega, o6⟩
          have m1 : am_F sc 91 [am_R (some 47), am_I (ii 1)] (wst u1) = some (none, wst u2) := m1
          have n1 : am_F sc 91 [am_R (some 47), am_I (ii 3)] (wst u3) = some (none, wst u4) := n1
          rw [hu3] at n1
          rw [← o1, wq_93_5]
          simp (disch := omega) only [qB_s, qC_t, qC_f, qI_T, qI_F, qI_t, qI_f, r_I, r_L, r_R, r_V, ii_add, ii_sub, ii_mul, ii_neg, bz_0, bz_1, Bool.true_and, Bool.false_and, Bool.and_true, z00, z11, li_0, li_1, li_3, li_93, gI_47_14, gI_47_19, gI_47_21, is_47, pI_47_14, pI_47_19, pI_47_21, ii_eq, k1, e92, m1, p6, el, uI_I, uA_I, uI_A, uA_A, Nat.reduceEqDiff, and_self, and_false, and_true, if_true, if_false, p5, ed, hS, n1]
    · have eb : b (tS b s.1) ≠ 93 := fun y => y1 (h93.1.mpr y)
      refine ⟨u1, s, ?_, gM_fr k2 rfl rfl, hW1, hI, Nat.le_refl _, if_neg y1⟩
      rw [wq_93_5]
      simp (disch := omega) only [qB_s, qC_t, qC_f, qI_T, qI_F, qI_t, qI_f, r_I, r_L, r_R, r_V, ii_add, ii_sub, ii_mul, ii_neg, bz_0, bz_1, Bool.true_and, Bool.false_and, Bool.and_true, z00, z11, li_0, li_1, li_3, li_93, gI_47_14, gI_47_19, gI_47_21, is_47, pI_47_14, pI_47_19, pI_47_21, ii_eq, k1]
theorem d93 (hT : TT b L T) (ht : 0 ≤ t ∧ t < 16) {s : st} (hW : MW w b L t s) (hI : aI b T 0 0 1 s) (h1 : 1 ≤ s.1) : ∃ (u : wo) (s' : st), am_F sc 93 [am_R (some 47)] (wst w) = some (none, wst u) ∧ gM t w u ∧ MW u b L t s' ∧ aI b T 0 0 1 s' ∧ s.1 ≤ s'.1 ∧ aBeh b s = aEnd b s' := by
  have hT4 := hT.2.1
  have h0 := hI.1
  obtain ⟨u1, k1, k2, kf, k3⟩ := d91 (sc := sc) hT ht (k := 6) (.inr (.inr rfl)) hW hI (Int.le_refl _)
  have hI1 := (aStl_I (k := 6) (by decide) hI).1
  obtain ⟨u2, s', m1, m2, m3, m4, m5, m6⟩ := d93l (sc := sc) hT ht 400 u1 (aStl 6 s) (by show T < s.1 + 400; omega) k3 hI1
  refine ⟨u2, s', ?_, gM_t k2 m2, m3, m4, m5, ?_⟩
  · have k1 : am_F sc 91 [am_R (some 47), am_I (ii 3)] (wst w) = some (none, wst u1) := k1
    rw [← m1, fq_93]
    simp (disch := omega) only [qB_s, qC_t, qC_f, qI_T, qI_F, qI_t, qI_f, r_I, r_L, r_R, r_V, ii_add, ii_sub, ii_mul, ii_neg, bz_0, bz_1, Bool.true_and, Bool.false_and, Bool.and_true, z00, z11, li_0, li_1, li_3, li_93, gI_47_14, gI_47_19, gI_47_21, is_47, pI_47_14, pI_47_19, pI_47_21, k1]
  · unfold aBeh
    exact m6
end L59f
