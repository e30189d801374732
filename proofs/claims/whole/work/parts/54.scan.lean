/-! THE CLASS SCANS -/
/-- the class' tape -/
def CT (w : wo) (b : Nat → Int) (L : Nat) : Prop := wI w 13 1 = L ∧ ∀ p : Nat, p < L → wA w 14 p = b p
theorem CT_fr {w u : wo} {b : Nat → Int} {L : Nat} {l : List Nat} (h : CT w b L) (f : fr l w u) (q : (fhas l 1301 || fhas l 1499) = false) : CT u b L := by
  rw [Bool.or_eq_false_iff] at q
  exact ⟨by rw [fr_I f q.1]; exact h.1, by rw [fr_A f q.2]; exact h.2⟩
/-- a token is put down -/
def PU (w u : wo) (k v p : Int) : Prop := fr [1305, 1599, 1699, 1799] w u ∧ wI u 13 5 = wI w 13 5 + 1 ∧ wA u 15 = fu (wA w 15) (wI w 13 5) k ∧ wA u 16 = fu (wA w 16) (wI w 13 5) v ∧ wA u 17 = fu (wA w 17) (wI w 13 5) p
section L54
variable {sc : am_X} {w : wo} {b : Nat → Int} {L : Nat}
theorem c38 (hT : CT w b L) (hb : TP b L) {p : Nat} (hp : p ≤ 10000) : am_F sc 38 [am_R (some 13), am_I (ii p)] (wst w) = some (some (am_I (ii (b p))), wst w) := by
  have hL := hb.1
  have h1 := hT.1
  rw [fq_38]
  by_cases z : p < L
  · have h2 := hT.2 p z
    simp (disch := omega) only [qB_s, qC_t, qC_f, qI_T, qI_F, qI_t, qI_f, r_I, r_L, r_R, r_V, ii_add, ii_sub, ii_mul, ii_neg, bz_0, bz_1, Bool.true_and, Bool.false_and, Bool.and_true, z00, z11, li_0, li_1, li_400, e_14, gI_13_1, gR_13_0, ii_lt, h1, h2]
  · rw [hb.2.2 p (by omega)]
    simp (disch := omega) only [qB_s, qC_t, qC_f, qI_T, qI_F, qI_t, qI_f, r_I, r_L, r_R, r_V, ii_add, ii_sub, ii_mul, ii_neg, bz_0, bz_1, Bool.true_and, Bool.false_and, Bool.and_true, z00, z11, li_0, li_1, li_400, e_14, gI_13_1, gR_13_0, ii_lt, h1]
theorem c39 {x : Int} (h1 : -1 ≤ x) (h2 : x ≤ 255) : am_F sc 39 [am_I (ii x)] (wst w) = some (some (am_I (ii (bz (alp x = true)))), wst w) := by
  rw [fq_39]
  by_cases z : 97 ≤ x ∧ x ≤ 122
  · rw [bz_t (show alp x = true from decide_eq_true z)]
    simp (disch := omega) only [qB_s, qC_t, qC_f, qI_T, qI_F, qI_t, qI_f, r_I, r_L, r_R, r_V, ii_add, ii_sub, ii_mul, ii_neg, bz_0, bz_1, Bool.true_and, Bool.false_and, Bool.and_true, z00, z11, li_0, li_1, li_122, li_97, ii_lt]
  · rw [bz_f (show ¬ alp x = true from fun y => z (of_decide_eq_true y))]
    by_cases z2 : x < 97
    · simp (disch := omega) only [qB_s, qC_t, qC_f, qI_T, qI_F, qI_t, qI_f, r_I, r_L, r_R, r_V, ii_add, ii_sub, ii_mul, ii_neg, bz_0, bz_1, Bool.true_and, Bool.false_and, Bool.and_true, z00, z11, li_0, li_1, li_122, li_97, ii_lt]
    · simp (disch := omega) only [qB_s, qC_t, qC_f, qI_T, qI_F, qI_t, qI_f, r_I, r_L, r_R, r_V, ii_add, ii_sub, ii_mul, ii_neg, bz_0, bz_1, Bool.true_and, Bool.false_and, Bool.and_true, z00, z11, li_0, li_1, li_122, li_97, ii_lt]
theorem c40 {x : Int} (h1 : -1 ≤ x) (h2 : x ≤ 255) : am_F sc 40 [am_I (ii x)] (wst w) = some (some (am_I (ii (bz (dig x = true)))), wst w) := by
  rw [fq_40]
  by_cases z : 48 ≤ x ∧ x ≤ 57
  · rw [bz_t (show dig x = true from decide_eq_true z)]
    simp (disch := omega) only [qB_s, qC_t, qC_f, qI_T, qI_F, qI_t, qI_f, r_I, r_L, r_R, r_V, ii_add, ii_sub, ii_mul, ii_neg, bz_0, bz_1, Bool.true_and, Bool.false_and, Bool.and_true, z00, z11, li_0, li_1, li_48, li_57, ii_lt]
  · rw [bz_f (show ¬ dig x = true from fun y => z (of_decide_eq_true y))]
    by_cases z2 : x < 48
    · simp (disch := omega) only [qB_s, qC_t, qC_f, qI_T, qI_F, qI_t, qI_f, r_I, r_L, r_R, r_V, ii_add, ii_sub, ii_mul, ii_neg, bz_0, bz_1, Bool.true_and, Bool.false_and, Bool.and_true, z00, z11, li_0, li_1, li_48, li_57, ii_lt]
    · simp (disch := omega) only [qB_s, qC_t, qC_f, qI_T, qI_F, qI_t, qI_f, r_I, r_L, r_R, r_V, ii_add, ii_sub, ii_mul, ii_neg, bz_0, bz_1, Bool.true_and, Bool.false_and, Bool.and_true, z00, z11, li_0, li_1, li_48, li_57, ii_lt]
theorem c42 : am_F sc 42 [am_O 1] (wst w) = some (some (am_I (ii 82)), wst w) := by
  rw [fq_42, fq_41, qI_f (by decide), qI_t (by decide), r_I, qB_s]
  show some (some (am_I (Int32.ofNat am_wls.length >>> ((0 : Int32) &&& 31))), wst w) = _
  rw [show Int32.ofNat am_wls.length >>> ((0 : Int32) &&& 31) = ii 82 by decide]
theorem wls_t {i : Nat} (hi : i < 82) : (ii i).toNatClampNeg = i ∧ ¬ (ii i < 0 ∨ am_wls.length ≤ (ii i).toNatClampNeg) ∧ ii i < Int32.ofNat am_wls.length ∧ (((am_wls.getD i 0) &&& (255 : Int32)).toUInt32 % 65536).toInt32 = ii (wlI i) ∧ (ii (wlI i)).toUInt32.toUInt16.toUInt32.toInt32 = ii (wlI i) ∧ -1 ≤ wlI i ∧ wlI i ≤ 255 := by
  have := all_lt (p := fun i : Nat => decide ((ii i).toNatClampNeg = i ∧ ¬ (ii i < 0 ∨ am_wls.length ≤ (ii i).toNatClampNeg) ∧ ii i < Int32.ofNat am_wls.length ∧ (((am_wls.getD i 0) &&& (255 : Int32)).toUInt32 % 65536).toInt32 = ii (wlI i) ∧ (ii (wlI i)).toUInt32.toUInt16.toUInt32.toInt32 = ii (wlI i) ∧ -1 ≤ wlI i ∧ wlI i ≤ 255)) (n := 82) (by decide +kernel) (r := i) hi
  exact of_decide_eq_true this
theorem c47 {i : Nat} (hi : i < 82) : am_F sc 47 [am_O 1, am_I (ii i)] (wst w) = some (some (am_I (ii (wlI i))), wst w) := by
  obtain ⟨h1, h2, h3, h4, h5, -⟩ := wls_t hi
  have h0 : ¬ ii i < (0 : Int32) := fun y => h2 (Or.inl y)
  rw [fq_47, fq_43, qI_f (by decide), qI_t rfl, r_I, qB_s, qI_f (show ¬ ((1 : Int32) = 0) by decide), fq_46, fq_45, fq_44, qI_f h0, qI_t h3, r_I, qB_s, r_V, qB_s, qI_f h2, h1, h4, qI_t h5, r_I, qB_s, qI_t h5]
theorem wof_t {k : Nat} (hk : k < 18) : wof (k + 1) = wof k + wln k + 1 ∧ wof k + wln k < 82 ∧ wlI (wof k + wln k) = 32 ∧ (∀ j, j < wln k → wlI (wof k + j) ≠ 32) := by
  have := all_lt (p := fun k : Nat => decide (wof (k + 1) = wof k + wln k + 1 ∧ wof k + wln k < 82 ∧ wlI (wof k + wln k) = 32) && (List.range (wln k)).all fun j => decide (wlI (wof k + j) ≠ 32)) (n := 18) (by decide +kernel) (r := k) hk
  rw [Bool.and_eq_true] at this
  have h1 := of_decide_eq_true this.1
  exact ⟨h1.1, h1.2.1, h1.2.2, fun j hj => of_decide_eq_true (all_lt this.2 hj)⟩
theorem c48w (hT : CT w b L) (hb : TP b L) {p n k : Nat} (hk : k < 18) (hp : p + n ≤ 400) : am_W sc 48 (11, [some (am_R (some 13)), some (am_I (ii p)), some (am_I (ii (p + n))), some (am_I (ii k)), some (am_I (ii (wof k))), some (am_I (ii 1)), some (am_I (ii (wof k)))], [], wst w) = bif wm b p n k then some (some (am_I (ii k)), wst w) else am_W sc 48 (11, [some (am_R (some 13)), some (am_I (ii p)), some (am_I (ii (p + n))), some (am_I (ii (k + 1))), some (am_I (ii (wof (k + 1)))), some (am_I (ii 1)), some (am_I (ii (wof (k + 1))))], [], wst w) := by
  obtain ⟨w1, w2, w3, w4⟩ := wof_t hk
  have h42 := c42 (sc := sc) (w := w)
  have e := lp_0 (am_W sc 48) (fun j => (11, [some (am_R (some 13)), some (am_I (ii p)), some (am_I (ii (p + n))), some (am_I (ii k)), some (am_I (ii (wof k))), some (am_I (ii (bz (sme b p k j = true)))), some (am_I (ii ((wof k : Int) + j)))], [], wst w)) (wln k) (fun j hj => by
    have h47 := c47 (sc := sc) (w := w) (i := wof k + j) (by omega)
    rw [Int.natCast_add] at h47
    have wr := (wls_t (i := wof k + j) (by omega)).2.2.2.2.2
    have hn32 := w4 j hj
    have e2 : sme b p k (j + 1) = (sme b p k j && decide (b (p + j) = wlI (wof k + j))) := rfl
    rw [wq_48_11]
    by_cases z : sme b p k j = true
    · have h38 := c38 (sc := sc) hT hb (p := p + j) (by omega)
      rw [Int.natCast_add] at h38
      have ea : (p : Int) + ((wof k : Int) + j) - wof k = p + j := by omega
      have br : -1 ≤ b (p + j) ∧ b (p + j) ≤ 255 := by
        by_cases y : p + j < L
        · have := hb.2.1 _ y
          omega
        · rw [hb.2.2 _ (by omega)]
          omega
      by_cases z2 : b (p + j) = wlI (wof k + j)
      · rw [bz_t z, bz_t (show sme b p k (j + 1) = true by rw [e2, z, decide_eq_true z2]; rfl)]
        simp (disch := omega) only [qB_s, qC_t, qC_f, qI_T, qI_F, qI_t, qI_f, r_I, r_L, r_R, r_V, ii_add, ii_sub, ii_mul, ii_neg, bz_0, bz_1, Bool.true_and, Bool.false_and, Bool.and_true, z00, z11, li_0, li_1, li_203, li_32, is_13, ii_lt, ii_eq, h42, h47, ea, h38, z2, nat_1, Int.add_assoc]
      · rw [bz_t z, bz_f (show ¬ sme b p k (j + 1) = true by rw [e2, z, decide_eq_false z2]; decide)]
        simp (disch := omega) only [qB_s, qC_t, qC_f, qI_T, qI_F, qI_t, qI_f, r_I, r_L, r_R, r_V, ii_add, ii_sub, ii_mul, ii_neg, bz_0, bz_1, Bool.true_and, Bool.false_and, Bool.and_true, z00, z11, li_0, li_1, li_203, li_32, is_13, ii_lt, ii_eq, h42, h47, ea, h38, nat_1, Int.add_assoc]
    · rw [bz_f z, bz_f (show ¬ sme b p k (j + 1) = true by
        rw [e2]
        intro y
        rw [Bool.and_eq_true] at y
        exact z y.1)]
      simp (disch := omega) only [qB_s, qC_t, qC_f, qI_T, qI_F, qI_t, qI_f, r_I, r_L, r_R, r_V, ii_add, ii_sub, ii_mul, ii_neg, bz_0, bz_1, Bool.true_and, Bool.false_and, Bool.and_true, z00, z11, li_0, li_1, li_203, li_32, is_13, ii_lt, ii_eq, h42, h47, nat_1, Int.add_assoc])
  have e' : am_W sc 48 (11, [some (am_R (some 13)), some (am_I (ii p)), some (am_I (ii (p + n))), some (am_I (ii k)), some (am_I (ii (wof k))), some (am_I (ii 1)), some (am_I (ii (wof k)))], [], wst w) = am_W sc 48 (11, [some (am_R (some 13)), some (am_I (ii p)), some (am_I (ii (p + n))), some (am_I (ii k)), some (am_I (ii (wof k))), some (am_I (ii (bz (sme b p k (wln k) = true)))), some (am_I (ii ((wof k : Int) + wln k)))], [], wst w) := by
    rw [← e]
    show _ = am_W sc 48 (11, [some (am_R (some 13)), some (am_I (ii p)), some (am_I (ii (p + n))), some (am_I (ii k)), some (am_I (ii (wof k))), some (am_I (ii (bz (sme b p k 0 = true)))), some (am_I (ii ((wof k : Int) + ((0 : Nat) : Int))))], [], wst w)
    rw [bz_t (show sme b p k 0 = true from rfl), show (wof k : Int) + ((0 : Nat) : Int) = wof k by omega]
  have h47 := c47 (sc := sc) (w := w) (i := wof k + wln k) (by omega)
  rw [Int.natCast_add, w3] at h47
  have ek : ((k : Int) + 1) = ((k + 1 : Nat) : Int) := by omega
  have e1 : (wof (k + 1) : Int) = (wof k : Int) + wln k + 1 := by omega
  rw [e', wq_48_11, e1]
  by_cases z : sme b p k (wln k) = true
  · rw [bz_t z]
    by_cases z2 : n = wln k
    · rw [show wm b p n k = true by unfold wm; rw [z, decide_eq_true z2]; rfl, cond_true]
      simp (disch := omega) only [qB_s, qC_t, qC_f, qI_T, qI_F, qI_t, qI_f, r_I, r_L, r_R, r_V, ii_add, ii_sub, ii_mul, ii_neg, bz_0, bz_1, Bool.true_and, Bool.false_and, Bool.and_true, z00, z11, li_0, li_1, li_203, li_32, is_13, ii_lt, ii_eq, h42, h47]
    · rw [show wm b p n k = false by unfold wm; rw [decide_eq_false z2]; rfl, cond_false]
      simp (disch := omega) only [qB_s, qC_t, qC_f, qI_T, qI_F, qI_t, qI_f, r_I, r_L, r_R, r_V, ii_add, ii_sub, ii_mul, ii_neg, bz_0, bz_1, Bool.true_and, Bool.false_and, Bool.and_true, z00, z11, li_0, li_1, li_203, li_32, is_13, ii_lt, ii_eq, h42, h47]
  · rw [bz_f z, show wm b p n k = false by unfold wm; rw [Bool.eq_false_iff.mpr z, Bool.and_false], cond_false]
    simp (disch := omega) only [qB_s, qC_t, qC_f, qI_T, qI_F, qI_t, qI_f, r_I, r_L, r_R, r_V, ii_add, ii_sub, ii_mul, ii_neg, bz_0, bz_1, Bool.true_and, Bool.false_and, Bool.and_true, z00, z11, li_0, li_1, li_203, li_32, is_13, ii_lt, ii_eq, h42, h47]
theorem c48l (hT : CT w b L) (hb : TP b L) {p n : Nat} (hp : p + n ≤ 400) : ∀ (d k : Nat), k + d = 18 → am_W sc 48 (11, [some (am_R (some 13)), some (am_I (ii p)), some (am_I (ii (p + n))), some (am_I (ii k)), some (am_I (ii (wof k))), some (am_I (ii 1)), some (am_I (ii (wof k)))], [], wst w) = some (some (am_I (ii (wfi b p n d))), wst w)
  | 0, k, hk => by
    have hk : k = 18 := by omega
    subst hk
    have h42 := c42 (sc := sc) (w := w)
    have e82 : ((wof 18 : Nat) : Int) = 82 := rfl
    rw [wq_48_11, e82]
    simp (disch := omega) only [qB_s, qC_t, qC_f, qI_T, qI_F, qI_t, qI_f, r_I, r_L, r_R, r_V, ii_add, ii_sub, ii_mul, ii_neg, bz_0, bz_1, Bool.true_and, Bool.false_and, Bool.and_true, z00, z11, li_0, li_1, li_203, li_32, is_13, ii_lt, h42]
    rfl
  | d + 1, k, hk => by
    have e0 : wfi b p n (d + 1) = bif wm b p n (17 - d) then ((17 - d : Nat) : Int) else wfi b p n d := rfl
    rw [c48w hT hb (by omega) hp, e0, show 17 - d = k by omega]
    cases wm b p n k with
    | true => rfl
    | false =>
      rw [cond_false, cond_false]
      have := c48l hT hb hp d (k + 1) (by omega)
      rw [nat_1] at this
      exact this
theorem c48 (hT : CT w b L) (hb : TP b L) {p e : Nat} (hpe : p ≤ e) (hp : e ≤ 400) : am_F sc 48 [am_R (some 13), am_I (ii p), am_I (ii e)] (wst w) = some (some (am_I (ii (wco b p (e - p)))), wst w) := by
  have h := c48l (sc := sc) hT hb (p := p) (n := e - p) (by omega) 18 0 rfl
  rw [show (p : Int) + ((e - p : Nat) : Int) = e by omega] at h
  rw [fq_48]
  exact h
theorem c49 {t : Nat} (ht : wI w 13 5 = t) (h4 : t ≤ 400) {k v p : Int} : ∃ u, am_F sc 49 [am_R (some 13), am_I (ii k), am_I (ii v), am_I (ii p)] (wst w) = some (none, wst u) ∧ PU w u k v p := by
  refine ⟨uI (uA (uA (uA w 15 (fu (wA w 15) t k)) 16 (fu (wA w 16) t v)) 17 (fu (wA w 17) t p)) 13 5 (t + 1), ?_, fr_uI (fr_uA (fr_uA (fr_uA (fr_r _ _) rfl) rfl) rfl) rfl, ?_, ?_, ?_, ?_⟩
  · rw [fq_49]
    simp (disch := omega) only [qB_s, qC_t, qC_f, qI_T, qI_F, qI_t, qI_f, r_I, r_L, r_R, r_V, ii_add, ii_sub, ii_mul, ii_neg, bz_0, bz_1, Bool.true_and, Bool.false_and, Bool.and_true, z00, z11, li_0, li_1, li_400, gI_13_5, gR_13_2, gR_13_3, gR_13_4, pI_13_5, t_15, t_16, t_17, ii_lt, ht, uA_I, uA_A, if_false, Nat.reduceEqDiff]
  · rw [rI, ht]
  · rw [uI_A, rAn _ _ rfl, rAn _ _ rfl, rA, ht]
  · rw [uI_A, rAn _ _ rfl, rA, ht]
  · rw [uI_A, rA, ht]
theorem TP_b {b : Nat → Int} {L : Nat} (hb : TP b L) (p : Nat) : -1 ≤ b p ∧ b p ≤ 255 := by
  by_cases y : p < L
  · have := hb.2.1 _ y
    omega
  · rw [hb.2.2 _ (by omega)]
    omega
theorem c50 (hT : CT w b L) (hb : TP b L) {t : Nat} (ht : wI w 13 5 = t) (h4 : t ≤ 400) {p : Nat} (hp : p ≤ 400) : ∀ (d e : Nat), e + d = 400 → p ≤ e → ∃ u, am_W sc 50 (4, [some (am_R (some 13)), some (am_I (ii p)), some (am_I (ii e)), some (am_I (ii (nv b p (e - p))))], [], wst w) = some (some (am_I (ii (rn b dig d e))), wst u) ∧ PU w u 200 (if 4 < rn b dig d e - p then -1 else nv b p (rn b dig d e - p)) p
  | 0, e, hd, hpe => by
    have hd : e = 400 := by omega
    subst hd
    rw [show rn b dig 0 400 = 400 from rfl]
    by_cases z : 4 < 400 - p
    · rw [if_pos z]
      obtain ⟨u, e1, h1⟩ := c49 (sc := sc) (w := w) ht h4 (k := 200) (v := -1) (p := p)
      refine ⟨u, ?_, h1⟩
      rw [wq_50_4]
      simp (disch := omega) only [qB_s, qC_t, qC_f, qI_T, qI_F, qI_t, qI_f, r_I, r_L, r_R, r_V, ii_add, ii_sub, ii_mul, ii_neg, bz_0, bz_1, Bool.true_and, Bool.false_and, Bool.and_true, z00, z11, li_0, li_1, li_10, li_200, li_4, li_400, li_48, is_13, ii_lt, e1]
    · rw [if_neg z]
      obtain ⟨u, e1, h1⟩ := c49 (sc := sc) (w := w) ht h4 (k := 200) (v := nv b p (400 - p)) (p := p)
      refine ⟨u, ?_, h1⟩
      rw [wq_50_4]
      simp (disch := omega) only [qB_s, qC_t, qC_f, qI_T, qI_F, qI_t, qI_f, r_I, r_L, r_R, r_V, ii_add, ii_sub, ii_mul, ii_neg, bz_0, bz_1, Bool.true_and, Bool.false_and, Bool.and_true, z00, z11, li_0, li_1, li_10, li_200, li_4, li_400, li_48, is_13, ii_lt, e1]
  | d + 1, e, hd, hpe => by
    have h38 := c38 (sc := sc) hT hb (p := e) (by omega)
    have br := TP_b hb e
    have h40 := c40 (sc := sc) (w := w) br.1 br.2
    cases z : dig (b e) with
    | false =>
      rw [z, bz_ff] at h40
      rw [rn_f z]
      by_cases z : 4 < e - p
      · rw [if_pos z]
        obtain ⟨u, e1, h1⟩ := c49 (sc := sc) (w := w) ht h4 (k := 200) (v := -1) (p := p)
        refine ⟨u, ?_, h1⟩
        rw [wq_50_4]
        simp (disch := omega) only [qB_s, qC_t, qC_f, qI_T, qI_F, qI_t, qI_f, r_I, r_L, r_R, r_V, ii_add, ii_sub, ii_mul, ii_neg, bz_0, bz_1, Bool.true_and, Bool.false_and, Bool.and_true, z00, z11, li_0, li_1, li_10, li_200, li_4, li_400, li_48, is_13, ii_lt, ii_eq, h38, h40, e1]
      · rw [if_neg z]
        obtain ⟨u, e1, h1⟩ := c49 (sc := sc) (w := w) ht h4 (k := 200) (v := nv b p (e - p)) (p := p)
        refine ⟨u, ?_, h1⟩
        rw [wq_50_4]
        simp (disch := omega) only [qB_s, qC_t, qC_f, qI_T, qI_F, qI_t, qI_f, r_I, r_L, r_R, r_V, ii_add, ii_sub, ii_mul, ii_neg, bz_0, bz_1, Bool.true_and, Bool.false_and, Bool.and_true, z00, z11, li_0, li_1, li_10, li_200, li_4, li_400, li_48, is_13, ii_lt, ii_eq, h38, h40, e1]
    | true =>
      rw [z, bz_tt] at h40
      rw [rn_t z]
      obtain ⟨u, e1, h1⟩ := c50 hT hb ht h4 hp d (e + 1) (by omega) (by omega)
      refine ⟨u, ?_, h1⟩
      rw [show e + 1 - p = (e - p) + 1 by omega, nv_s, show p + (e - p) = e by omega, nat_1] at e1
      rw [wq_50_4]
      by_cases z2 : e - p < 4
      · rw [if_pos z2] at e1
        simp (disch := omega) only [qB_s, qC_t, qC_f, qI_T, qI_F, qI_t, qI_f, r_I, r_L, r_R, r_V, ii_add, ii_sub, ii_mul, ii_neg, bz_0, bz_1, Bool.true_and, Bool.false_and, Bool.and_true, z00, z11, li_0, li_1, li_10, li_200, li_4, li_400, li_48, is_13, ii_lt, ii_eq, h38, h40, e1]
      · rw [if_neg z2] at e1
        simp (disch := omega) only [qB_s, qC_t, qC_f, qI_T, qI_F, qI_t, qI_f, r_I, r_L, r_R, r_V, ii_add, ii_sub, ii_mul, ii_neg, bz_0, bz_1, Bool.true_and, Bool.false_and, Bool.and_true, z00, z11, li_0, li_1, li_10, li_200, li_4, li_400, li_48, is_13, ii_lt, ii_eq, h38, h40, e1]
theorem c51w (hT : CT w b L) (hb : TP b L) {t : Nat} (ht : wI w 13 5 = t) (h4 : t ≤ 400) {p : Nat} (hp : p ≤ 400) : ∀ (d e : Nat), e + d = 400 → p ≤ e → ∃ u, am_W sc 51 (25, [some (am_R (some 13)), some (am_I (ii p)), none, some (am_I (ii e))], [], wst w) = some (some (am_I (ii (rn b aln d e))), wst u) ∧ PU w u (wco b p (rn b aln d e - p)) 0 p
  | 0, e, hd, hpe => by
    have hd : e = 400 := by omega
    subst hd
    rw [show rn b aln 0 400 = 400 from rfl]
    have h48 := c48 (sc := sc) hT hb hp (e := 400) (Nat.le_refl _)
    obtain ⟨u, e1, h1⟩ := c49 (sc := sc) (w := w) ht h4 (k := wco b p (400 - p)) (v := 0) (p := p)
    refine ⟨u, ?_, h1⟩
    rw [wq_51_25]
    simp (disch := omega) only [qB_s, qC_t, qC_f, qI_T, qI_F, qI_t, qI_f, r_I, r_L, r_R, r_V, ii_add, ii_sub, ii_mul, ii_neg, bz_0, bz_1, Bool.true_and, Bool.false_and, Bool.and_true, z00, z11, li_0, li_1, li_2, li_201, li_202, li_203, li_32, li_400, li_43, li_45, li_59, li_60, li_61, li_62, li_91, li_93, is_13, ii_lt, h48, e1]
  | d + 1, e, hd, hpe => by
    have h38 := c38 (sc := sc) hT hb (p := e) (by omega)
    have br := TP_b hb e
    have h39 := c39 (sc := sc) (w := w) br.1 br.2
    have h40 := c40 (sc := sc) (w := w) br.1 br.2
    cases z1 : alp (b e) with
    | true =>
      rw [z1, bz_tt] at h39
      rw [rn_t (show aln (b e) = true by unfold aln; rw [z1]; rfl)]
      obtain ⟨u, e1, h1⟩ := c51w hT hb ht h4 hp d (e + 1) (by omega) (by omega)
      refine ⟨u, ?_, h1⟩
      rw [nat_1] at e1
      rw [wq_51_25]
      simp (disch := omega) only [qB_s, qC_t, qC_f, qI_T, qI_F, qI_t, qI_f, r_I, r_L, r_R, r_V, ii_add, ii_sub, ii_mul, ii_neg, bz_0, bz_1, Bool.true_and, Bool.false_and, Bool.and_true, z00, z11, li_0, li_1, li_2, li_201, li_202, li_203, li_32, li_400, li_43, li_45, li_59, li_60, li_61, li_62, li_91, li_93, is_13, ii_lt, ii_eq, h38, h39, e1]
    | false =>
      rw [z1, bz_ff] at h39
      cases z : dig (b e) with
      | true =>
        rw [z, bz_tt] at h40
        rw [rn_t (show aln (b e) = true by unfold aln; rw [z1, z]; rfl)]
        obtain ⟨u, e1, h1⟩ := c51w hT hb ht h4 hp d (e + 1) (by omega) (by omega)
        refine ⟨u, ?_, h1⟩
        rw [nat_1] at e1
        rw [wq_51_25]
        simp (disch := omega) only [qB_s, qC_t, qC_f, qI_T, qI_F, qI_t, qI_f, r_I, r_L, r_R, r_V, ii_add, ii_sub, ii_mul, ii_neg, bz_0, bz_1, Bool.true_and, Bool.false_and, Bool.and_true, z00, z11, li_0, li_1, li_2, li_201, li_202, li_203, li_32, li_400, li_43, li_45, li_59, li_60, li_61, li_62, li_91, li_93, is_13, ii_lt, ii_eq, h38, h39, h40, e1]
      | false =>
        rw [z, bz_ff] at h40
        rw [rn_f (show aln (b e) = false by unfold aln; rw [z1, z]; rfl)]
        have h48 := c48 (sc := sc) hT hb hpe (by omega)
        obtain ⟨u, e1, h1⟩ := c49 (sc := sc) (w := w) ht h4 (k := wco b p (e - p)) (v := 0) (p := p)
        refine ⟨u, ?_, h1⟩
        rw [wq_51_25]
        simp (disch := omega) only [qB_s, qC_t, qC_f, qI_T, qI_F, qI_t, qI_f, r_I, r_L, r_R, r_V, ii_add, ii_sub, ii_mul, ii_neg, bz_0, bz_1, Bool.true_and, Bool.false_and, Bool.and_true, z00, z11, li_0, li_1, li_2, li_201, li_202, li_203, li_32, li_400, li_43, li_45, li_59, li_60, li_61, li_62, li_91, li_93, is_13, ii_lt, ii_eq, h38, h39, h40, h48, e1]
/-- a token, or a space -/
theorem c51 (hT : CT w b L) (hb : TP b L) {t : Nat} (ht : wI w 13 5 = t) (h4 : t ≤ 400) {p : Nat} (hp : p < L) : (spc (b p) = true → am_F sc 51 [am_R (some 13), am_I (ii p)] (wst w) = some (some (am_I (ii (p + 1))), wst w)) ∧ (spc (b p) = false → ∃ u v, am_F sc 51 [am_R (some 13), am_I (ii p)] (wst w) = some (some (am_I (ii (tkE b p))), wst u) ∧ PU w u (tkK b p) v p ∧ (tkK b p = 200 → v = tkV b p)) := by
  have hL := hb.1
  have h38 := c38 (sc := sc) hT hb (p := p) (by omega)
  have h38a := c38 (sc := sc) hT hb (p := p + 1) (by omega)
  rw [nat_1] at h38a
  have hbp := hb.2.1 p hp
  have br := TP_b hb p
  have br1 := TP_b hb (p + 1)
  have h39 := c39 (sc := sc) (w := w) br.1 br.2
  have h40 := c40 (sc := sc) (w := w) br.1 br.2
  constructor
  · intro z
    have z : b p = 32 := of_decide_eq_true z
    rw [fq_51]
    simp (disch := omega) only [qB_s, qC_t, qC_f, qI_T, qI_F, qI_t, qI_f, r_I, r_L, r_R, r_V, ii_add, ii_sub, ii_mul, ii_neg, bz_0, bz_1, Bool.true_and, Bool.false_and, Bool.and_true, z00, z11, li_0, li_1, li_2, li_201, li_202, li_203, li_32, li_400, li_43, li_45, li_59, li_60, li_61, li_62, li_91, li_93, is_13, ii_eq, h38]
  · intro z
    have z : b p ≠ 32 := of_decide_eq_false z
    cases z1 : alp (b p) with
    | true =>
      rw [z1, bz_tt] at h39
      obtain ⟨u, e1, h1⟩ := c51w (sc := sc) hT hb ht h4 (p := p) (by omega) (400 - p) p (by omega) (Nat.le_refl _)
      have eK : tkK b p = wco b p (rn b aln (400 - p) p - p) := by unfold tkK; rw [if_neg (by omega), if_pos z1]
      have eE : tkE b p = rn b aln (400 - p) p := by unfold tkE; rw [if_neg (by omega), if_pos z1]
      rw [eK, eE]
      refine ⟨u, 0, ?_, h1, fun y => ?_⟩
      · rw [fq_51]
        simp (disch := omega) only [qB_s, qC_t, qC_f, qI_T, qI_F, qI_t, qI_f, r_I, r_L, r_R, r_V, ii_add, ii_sub, ii_mul, ii_neg, bz_0, bz_1, Bool.true_and, Bool.false_and, Bool.and_true, z00, z11, li_0, li_1, li_2, li_201, li_202, li_203, li_32, li_400, li_43, li_45, li_59, li_60, li_61, li_62, li_91, li_93, is_13, ii_eq, h38, h39, e1]
      · have := wco_r b p (rn b aln (400 - p) p - p)
        omega
    | false =>
      rw [z1, bz_ff] at h39
      have z1' : ¬ alp (b p) = true := by rw [z1]; decide
      cases z2 : dig (b p) with
      | true =>
        rw [z2, bz_tt] at h40
        obtain ⟨u, e1, h1⟩ := c50 (sc := sc) hT hb ht h4 (p := p) (by omega) (400 - p) p (by omega) (Nat.le_refl _)
        rw [Nat.sub_self, show nv b p 0 = 0 from rfl] at e1
        have eK : tkK b p = 200 := by unfold tkK; rw [if_neg (by omega), if_neg z1', if_pos z2]
        have eE : tkE b p = rn b dig (400 - p) p := by unfold tkE; rw [if_neg (by omega), if_neg z1', if_pos z2]
        rw [eK, eE]
        refine ⟨u, _, ?_, h1, fun _ => rfl⟩
        rw [fq_51]
        have e2 : am_F sc 50 [am_R (some 13), am_I (ii p)] (wst w) = some (some (am_I (ii (rn b dig (400 - p) p))), wst u) := by
          rw [fq_50, ← e1]
          rfl
        simp (disch := omega) only [qB_s, qC_t, qC_f, qI_T, qI_F, qI_t, qI_f, r_I, r_L, r_R, r_V, ii_add, ii_sub, ii_mul, ii_neg, bz_0, bz_1, Bool.true_and, Bool.false_and, Bool.and_true, z00, z11, li_0, li_1, li_2, li_201, li_202, li_203, li_32, li_400, li_43, li_45, li_59, li_60, li_61, li_62, li_91, li_93, is_13, ii_eq, h38, h39, h40, e2]
      | false =>
        rw [z2, bz_ff] at h40
        have z2' : ¬ dig (b p) = true := by rw [z2]; decide
        have eK0 : tkK b p = if (b p = 60 ∨ b p = 62) ∧ b (p + 1) = 61 then (if b p = 60 then 201 else 202) else if b p = 59 ∨ b p = 91 ∨ b p = 93 ∨ b p = 43 ∨ b p = 45 ∨ b p = 60 ∨ b p = 61 ∨ b p = 62 then b p else 203 := by unfold tkK; rw [if_neg (by omega), if_neg z1', if_neg z2']
        have eE0 : tkE b p = if (b p = 60 ∨ b p = 62) ∧ b (p + 1) = 61 then p + 2 else p + 1 := by unfold tkE; rw [if_neg (by omega), if_neg z1', if_neg z2']
        by_cases z3 : (b p = 60 ∨ b p = 62) ∧ b (p + 1) = 61
        · have z4 := z3.2
          rw [if_pos z3] at eE0
          by_cases z5 : b p = 60
          · rw [if_pos z3, if_pos z5] at eK0
            rw [eK0, eE0]
            obtain ⟨u, e1, h1⟩ := c49 (sc := sc) (w := w) ht h4 (k := 201) (v := 0) (p := p)
            refine ⟨u, 0, ?_, h1, fun y => absurd y (by decide)⟩
            rw [fq_51]
            simp (disch := omega) only [qB_s, qC_t, qC_f, qI_T, qI_F, qI_t, qI_f, r_I, r_L, r_R, r_V, ii_add, ii_sub, ii_mul, ii_neg, bz_0, bz_1, Bool.true_and, Bool.false_and, Bool.and_true, z00, z11, li_0, li_1, li_2, li_201, li_202, li_203, li_32, li_400, li_43, li_45, li_59, li_60, li_61, li_62, li_91, li_93, is_13, ii_eq, h38, h38a, h39, h40, e1]
            rfl
          · rw [if_pos z3, if_neg z5] at eK0
            rw [eK0, eE0]
            obtain ⟨u, e1, h1⟩ := c49 (sc := sc) (w := w) ht h4 (k := 202) (v := 0) (p := p)
            refine ⟨u, 0, ?_, h1, fun y => absurd y (by decide)⟩
            rw [fq_51]
            have z6 : b p = 62 := by omega
            simp (disch := omega) only [qB_s, qC_t, qC_f, qI_T, qI_F, qI_t, qI_f, r_I, r_L, r_R, r_V, ii_add, ii_sub, ii_mul, ii_neg, bz_0, bz_1, Bool.true_and, Bool.false_and, Bool.and_true, z00, z11, li_0, li_1, li_2, li_201, li_202, li_203, li_32, li_400, li_43, li_45, li_59, li_60, li_61, li_62, li_91, li_93, is_13, ii_eq, h38, h38a, h39, h40, e1]
            rfl
        · rw [if_neg z3] at eE0 eK0
          have e0 : ∀ {u : wo} {v : Int}, am_W sc 51 (136, [some (am_R (some 13)), some (am_I (ii p)), some (am_I (ii (b p))), none], [], wst w) = some (some (am_I (ii v)), wst u) → am_F sc 51 [am_R (some 13), am_I (ii p)] (wst w) = some (some (am_I (ii v)), wst u) := fun {u v} h => by
            rw [fq_51]
            by_cases y1 : b p = 60
            · have y2 : b (p + 1) ≠ 61 := fun y => z3 ⟨Or.inl y1, y⟩
              simp (disch := omega) only [qB_s, qC_t, qC_f, qI_T, qI_F, qI_t, qI_f, r_I, r_L, r_R, r_V, ii_add, ii_sub, ii_mul, ii_neg, bz_0, bz_1, Bool.true_and, Bool.false_and, Bool.and_true, z00, z11, li_0, li_1, li_2, li_201, li_202, li_203, li_32, li_400, li_43, li_45, li_59, li_60, li_61, li_62, li_91, li_93, is_13, ii_eq, h38, h38a, h39, h40, h]
            · by_cases y3 : b p = 62
              · have y2 : b (p + 1) ≠ 61 := fun y => z3 ⟨Or.inr y3, y⟩
                simp (disch := omega) only [qB_s, qC_t, qC_f, qI_T, qI_F, qI_t, qI_f, r_I, r_L, r_R, r_V, ii_add, ii_sub, ii_mul, ii_neg, bz_0, bz_1, Bool.true_and, Bool.false_and, Bool.and_true, z00, z11, li_0, li_1, li_2, li_201, li_202, li_203, li_32, li_400, li_43, li_45, li_59, li_60, li_61, li_62, li_91, li_93, is_13, ii_eq, h38, h38a, h39, h40, h]
              · simp (disch := omega) only [qB_s, qC_t, qC_f, qI_T, qI_F, qI_t, qI_f, r_I, r_L, r_R, r_V, ii_add, ii_sub, ii_mul, ii_neg, bz_0, bz_1, Bool.true_and, Bool.false_and, Bool.and_true, z00, z11, li_0, li_1, li_2, li_201, li_202, li_203, li_32, li_400, li_43, li_45, li_59, li_60, li_61, li_62, li_91, li_93, is_13, ii_eq, h38, h39, h40, h]
          rw [eE0, nat_1]
          by_cases z5 : b p = 59 ∨ b p = 91 ∨ b p = 93 ∨ b p = 43 ∨ b p = 45 ∨ b p = 60 ∨ b p = 61 ∨ b p = 62
          · rw [if_pos z5] at eK0
            rw [eK0]
            obtain ⟨u, e1, h1⟩ := c49 (sc := sc) (w := w) ht h4 (k := b p) (v := 0) (p := p)
            refine ⟨u, 0, e0 ?_, h1, fun y => by omega⟩
            rw [wq_51_136]
            rcases z5 with y | y | y | y | y | y | y | y
            all_goals rw [y] at e1
            all_goals simp (disch := omega) only [qB_s, qC_t, qC_f, qI_T, qI_F, qI_t, qI_f, r_I, r_L, r_R, r_V, ii_add, ii_sub, ii_mul, ii_neg, bz_0, bz_1, Bool.true_and, Bool.false_and, Bool.and_true, z00, z11, li_0, li_1, li_2, li_201, li_202, li_203, li_32, li_400, li_43, li_45, li_59, li_60, li_61, li_62, li_91, li_93, is_13, ii_eq, y, e1]
          · rw [if_neg z5] at eK0
            rw [eK0]
            obtain ⟨u, e1, h1⟩ := c49 (sc := sc) (w := w) ht h4 (k := 203) (v := 0) (p := p)
            refine ⟨u, 0, e0 ?_, h1, fun y => absurd y (by decide)⟩
            rw [wq_51_136]
            simp (disch := omega) only [qB_s, qC_t, qC_f, qI_T, qI_F, qI_t, qI_f, r_I, r_L, r_R, r_V, ii_add, ii_sub, ii_mul, ii_neg, bz_0, bz_1, Bool.true_and, Bool.false_and, Bool.and_true, z00, z11, li_0, li_1, li_2, li_201, li_202, li_203, li_32, li_400, li_43, li_45, li_59, li_60, li_61, li_62, li_91, li_93, is_13, ii_eq, e1]
/-- the first t tokens are put down -/
def TKS (w : wo) (b : Nat → Int) (t : Nat) : Prop := ∀ j : Nat, j < t → wA w 15 j = tK b j ∧ (tK b j = 200 → wA w 16 j = tVl b j) ∧ wA w 17 j = tS b j
theorem TKS_s {w u : wo} {b : Nat → Int} {t : Nat} (h : TKS w b t) (ht : wI w 13 5 = t) {v : Int} (hp : PU w u (tK b t) v (tS b t)) (hv : tK b t = 200 → v = tVl b t) : TKS u b (t + 1) ∧ wI u 13 5 = ((t + 1 : Nat) : Int) := by
  obtain ⟨f, p1, p2, p3, p4⟩ := hp
  rw [ht] at p1 p2 p3 p4
  refine ⟨fun j hj => ?_, by rw [p1, nat_1]⟩
  rw [p2, p3, p4, fu_at, fu_at, fu_at]
  by_cases z : j = t
  · rw [if_pos (by omega), if_pos (by omega), if_pos (by omega), z]
    exact ⟨rfl, hv, rfl⟩
  · rw [if_neg (by omega), if_neg (by omega), if_neg (by omega)]
    exact h j (by omega)
/-- all tokens -/
def CK (w : wo) (b : Nat → Int) (L T : Nat) : Prop := CT w b L ∧ wI w 13 5 = ((T + 1 : Nat) : Int) ∧ TKS w b (T + 1) ∧ T ≤ 400 ∧ tS b T = L ∧ ∀ j, j < T → tS b j ≠ L
theorem c52l (hb : TP b L) : ∀ (d i p t : Nat) (w : wo), p + d = L → i ≤ p → t ≤ p → CT w b L → wI w 13 5 = t → TKS w b t → sk b p = tS b t → (∀ j, j < t → tS b j ≠ L) → ∃ u T, am_W sc 52 (19, [some (am_R (some 13)), some (am_I (ii p)), some (am_I (ii i))], [], wst w) = some (none, wst u) ∧ fr [1305, 1599, 1699, 1799] w u ∧ CK u b L T
  | d, i, p, t, w, hd, hi, htp, hT, ht, hK, hs, hn => by
    have hL := hb.1
    have h1 := hT.1
    by_cases z : p < L
    · obtain ⟨c1, c2⟩ := c51 (sc := sc) hT hb ht (by omega) z
      match d, hd with
      | 0, hd => omega
      | d + 1, hd =>
        cases e : spc (b p) with
        | true =>
          have e1 := c1 e
          have hs' : sk b (p + 1) = tS b t := by
            rw [← hs]
            unfold sk
            rw [show 400 - p = (400 - (p + 1)) + 1 by omega, rn_t e]
          obtain ⟨u, T, k1, k2, k3⟩ := c52l hb d (i + 1) (p + 1) t w (by omega) (by omega) (by omega) hT ht hK hs' hn
          refine ⟨u, T, ?_, k2, k3⟩
          rw [nat_1, nat_1] at k1
          rw [wq_52_19]
          simp (disch := omega) only [qB_s, qC_t, qC_f, qI_T, qI_F, qI_t, qI_f, r_I, r_L, r_R, r_V, ii_add, ii_sub, ii_mul, ii_neg, bz_0, bz_1, Bool.true_and, Bool.false_and, Bool.and_true, z00, z11, li_0, li_1, li_204, li_400, gI_13_1, is_13, pI_13_13, pI_13_5, pI_13_6, ii_lt, h1, e1, k1]
        | false =>
          have et : tS b t = p := by
            rw [← hs]
            exact rn_f e _
          obtain ⟨u1, v, e1, p1, p2⟩ := c2 e
          have hr := tkE_r hb z
          have f1 := p1.1
          have hkk : PU w u1 (tK b t) v (tS b t) := by
            unfold tK
            rw [et]
            exact p1
          obtain ⟨n1, n2⟩ := TKS_s hK ht hkk (by unfold tK tVl; rw [et]; exact p2)
          obtain ⟨u, T, k1, k2, k3⟩ := c52l hb (L - tkE b p) (i + 1) (tkE b p) (t + 1) u1 (by omega) (by omega) (by omega) (CT_fr hT f1 rfl) n2 n1 (by
            show _ = sk b (tkE b (tS b t))
            rw [et]) (fun j hj => by
            by_cases y : j = t
            · rw [y, et]; omega
            · exact hn j (by omega))
          refine ⟨u, T, ?_, fr_t f1 k2, k3⟩
          rw [nat_1] at k1
          rw [wq_52_19]
          simp (disch := omega) only [qB_s, qC_t, qC_f, qI_T, qI_F, qI_t, qI_f, r_I, r_L, r_R, r_V, ii_add, ii_sub, ii_mul, ii_neg, bz_0, bz_1, Bool.true_and, Bool.false_and, Bool.and_true, z00, z11, li_0, li_1, li_204, li_400, gI_13_1, is_13, pI_13_13, pI_13_5, pI_13_6, ii_lt, h1, e1, k1]
    · have hp : p = L := by omega
      have eS : tS b t = L := by
        rw [← hs, hp]
        exact rn_f (by rw [hb.2.2 L (Nat.le_refl L)]; rfl) _
      obtain ⟨u, e1, p1⟩ := c49 (sc := sc) (w := w) ht (by omega) (k := 204) (v := 0) (p := L)
      have hk : PU w u (tK b t) 0 (tS b t) := by
        rw [(tK_end hb).mpr eS, eS]
        exact p1
      obtain ⟨n1, n2⟩ := TKS_s hK ht hk (by rw [(tK_end hb).mpr eS]; intro y; omega)
      refine ⟨u, t, ?_, p1.1, CT_fr hT p1.1 rfl, n2, n1, by omega, eS, hn⟩
      rw [wq_52_19]
      by_cases y : i < 400
      · simp (disch := omega) only [qB_s, qC_t, qC_f, qI_T, qI_F, qI_t, qI_f, r_I, r_L, r_R, r_V, ii_add, ii_sub, ii_mul, ii_neg, bz_0, bz_1, Bool.true_and, Bool.false_and, Bool.and_true, z00, z11, li_0, li_1, li_204, li_400, gI_13_1, is_13, pI_13_13, pI_13_5, pI_13_6, ii_lt, h1, e1]
      · simp (disch := omega) only [qB_s, qC_t, qC_f, qI_T, qI_F, qI_t, qI_f, r_I, r_L, r_R, r_V, ii_add, ii_sub, ii_mul, ii_neg, bz_0, bz_1, Bool.true_and, Bool.false_and, Bool.and_true, z00, z11, li_0, li_1, li_204, li_400, gI_13_1, is_13, pI_13_13, pI_13_5, pI_13_6, ii_lt, h1, e1]
  termination_by d => d
theorem c52 (hb : TP b L) (hT : CT w b L) : ∃ u T, am_F sc 52 [am_R (some 13)] (wst w) = some (none, wst u) ∧ fr [1305, 1306, 1313, 1599, 1699, 1799] w u ∧ CK u b L T ∧ wI u 13 6 = 0 ∧ wI u 13 13 = 0 := by
  have f0 : fr [1305, 1306, 1313] w (uI (uI (uI w 13 5 0) 13 6 0) 13 13 0) := fr_uI (fr_uI (fr_uI (fr_r _ _) rfl) rfl) rfl
  obtain ⟨u, T, k1, k2, k3⟩ := c52l (sc := sc) hb L 0 0 0 (uI (uI (uI w 13 5 0) 13 6 0) 13 13 0) (by omega) (Nat.le_refl _) (Nat.le_refl _) (CT_fr hT f0 rfl) rfl (fun j hj => absurd hj (Nat.not_lt_zero j)) rfl (fun j hj => absurd hj (Nat.not_lt_zero j))
  refine ⟨u, T, ?_, fr_t (fr_m f0 rfl) (fr_m k2 rfl), k3, by rw [fr_I k2 rfl]; rfl, by rw [fr_I k2 rfl]; rfl⟩
  rw [fq_52, ← k1]
  simp only [qB_s, qC_t, qC_f, qI_T, qI_F, qI_t, qI_f, r_I, r_L, r_R, r_V, ii_add, ii_sub, ii_mul, ii_neg, bz_0, bz_1, Bool.true_and, Bool.false_and, Bool.and_true, z00, z11, li_0, li_1, li_204, li_400, gI_13_1, is_13, pI_13_13, pI_13_5, pI_13_6]
  rfl
end L54
