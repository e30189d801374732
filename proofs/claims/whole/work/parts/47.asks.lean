/-! ASKS, MARK, TOLD, END, COUNT -/
-- frames, piece by piece
theorem LTS_g {l : List Nat} {w v : wo} {n : Int} {t : Int → Int → Int} (h : LTS w n t) (f : fr l w v) (q : fno [703, 899, 999, 1099] l = true) : LTS v n t := by
  unfold LTS at h ⊢
  rw [fr_I f (fno_of q (c := 703) rfl), fr_A (a := 8) f (fno_of q rfl), fr_A (a := 9) f (fno_of q rfl), fr_A (a := 10) f (fno_of q rfl)]
  exact h
theorem BS_g {l : List Nat} {w v : wo} (h : BS w) (f : fr l w v) (q : fno [999, 1099] l = true) : BS v := by
  unfold BS at h ⊢
  rw [fr_A (a := 9) f (fno_of q rfl), fr_A (a := 10) f (fno_of q rfl)]
  exact h
theorem TS_g {l : List Nat} {w v : wo} {n : Int} {t : Int → Int} (h : TS w n t) (f : fr l w v) (q : fno [1301, 1499] l = true) : TS v n t := by
  unfold TS at h ⊢
  rw [fr_I f (fno_of q (c := 1301) rfl), fr_A (a := 14) f (fno_of q rfl)]
  exact h
theorem VS_g {ow : Nat → Nat} {l : List Nat} {w v : wo} {n : Int} {x : Int → vw} (h : VS ow w n x) (f : fr l w v) (q : fno [7] l = true) (z : flow l = true) : VS ow v n x := by
  obtain ⟨h1, h2⟩ := h
  refine ⟨by rw [fr_I f (fno_of q (c := 7) rfl)]; exact h1, fun u a b => ?_⟩
  obtain ⟨c, e1, e2⟩ := h2 u a b
  exact ⟨c, by rw [fr_R f]; exact e1, CVo_d e2 (fr_d f z _)⟩
theorem RS_g {ow : Nat → Nat} {l : List Nat} {w v : wo} {n : Int} {x : Int → pg} (h : RS ow w n x) (f : fr l w v) (q : fno [8] l = true) (z : flow l = true) : RS ow v n x := by
  obtain ⟨h1, h2⟩ := h
  refine ⟨by rw [fr_I f (fno_of q (c := 8) rfl)]; exact h1, fun u a b => ?_⟩
  obtain ⟨c, e1, e2⟩ := h2 u a b
  exact ⟨c, by rw [fr_R f]; exact e1, PTo_d e2 (fr_d f z _)⟩
theorem CS_g {l : List Nat} {w v : wo} {n : Int} {g : Int → Int → Int} (h : CS w n g) (f : fr l w v) (q : fno [105, 299, 399, 499, 599, 699] l = true) : CS v n g :=
  CS_fr h f (by rw [fno_of q (c := 105) rfl, fno_of q (c := 299) rfl, fno_of q (c := 399) rfl, fno_of q (c := 499) rfl, fno_of q (c := 599) rfl, fno_of q (c := 699) rfl]; rfl)
theorem MS_g {l : List Nat} {w v : wo} {n : Int} {g : Int → Int → Int} (h : MS w n g) (f : fr l w v) (q : fno [4700, 4899] l = true) : MS v n g :=
  MS_fr h f (by rw [fno_of q (c := 4700) rfl, fno_of q (c := 4899) rfl]; rfl)
theorem ML_g {l : List Nat} {w v : wo} {n : Int} {t : Int → Int → Int} (h : ML w n t) (f : fr l w v) (q : fno [4702, 4999] l = true) : ML v n t := by
  unfold ML at h ⊢
  rw [fr_I f (fno_of q (c := 4702) rfl), fr_A (a := 49) f (fno_of q rfl)]
  exact h
theorem MT_g {l : List Nat} {w v : wo} {n : Int} {t : Int → Int} (h : MT w n t) (f : fr l w v) (q : fno [4705, 5099] l = true) : MT v n t := by
  unfold MT at h ⊢
  rw [fr_I f (fno_of q (c := 4705) rfl), fr_A (a := 50) f (fno_of q rfl)]
  exact h
theorem PM_g {l : List Nat} {w v : wo} {t : Int} {P : pg} (h : PM w t P) (f : fr l w v) (q : fno [5199, 5299] l = true) : PM v t P := by
  unfold PM at h ⊢
  rw [fr_A (a := 52) f (fno_of q rfl), fr_A (a := 51) f (fno_of q rfl)]
  exact h
theorem MVo_g {l : List Nat} {w v : wo} {t : Int} {x : vw} (h : MVo w t x) (f : fr l w v) (q : fno [5199, 5299, 5399, 5499, 5599, 5699] l = true) : MVo v t x := by
  obtain ⟨h1, h2⟩ := h
  have q' : fno [5199, 5299] l = true := by
    unfold fno
    simp only [List.all_cons, List.all_nil, Bool.and_true, Bool.and_eq_true, Bool.not_eq_true']
    exact ⟨fno_of q rfl, fno_of q rfl⟩
  refine ⟨?_, ?_⟩
  · rw [fr_A (a := 53) f (fno_of q rfl)]
    rcases h1 with h | ⟨P, h3, h4, h5⟩
    · exact .inl h
    · exact .inr ⟨P, h3, h4, PM_g h5 f q'⟩
  · rw [fr_A (a := 54) f (fno_of q rfl), fr_A (a := 55) f (fno_of q rfl), fr_A (a := 56) f (fno_of q rfl)]
    exact h2
theorem MV_g {l : List Nat} {w v : wo} {n : Int} {x : Int → vw} (h : MV w n x) (f : fr l w v) (q : fno [4708, 5199, 5299, 5399, 5499, 5599, 5699] l = true) : MV v n x := by
  have q' : fno [5199, 5299, 5399, 5499, 5599, 5699] l = true := by
    unfold fno
    simp only [List.all_cons, List.all_nil, Bool.and_true, Bool.and_eq_true, Bool.not_eq_true']
    exact ⟨fno_of q rfl, fno_of q rfl, fno_of q rfl, fno_of q rfl, fno_of q rfl, fno_of q rfl⟩
  exact ⟨by rw [fr_I f (fno_of q (c := 4708) rfl)]; exact h.1, fun u a b => MVo_g (h.2 u a b) f q'⟩
theorem MR_g {l : List Nat} {w v : wo} {n : Int} {x : Int → pg} (h : MR w n x) (f : fr l w v) (q : fno [4709, 5199, 5299] l = true) : MR v n x := by
  have q' : fno [5199, 5299] l = true := by
    unfold fno
    simp only [List.all_cons, List.all_nil, Bool.and_true, Bool.and_eq_true, Bool.not_eq_true']
    exact ⟨fno_of q rfl, fno_of q rfl⟩
  exact ⟨by rw [fr_I f (fno_of q (c := 4709) rfl)]; exact h.1, fun u a b => PM_g (h.2 u a b) f q'⟩
theorem MI_g {l : List Nat} {w v : wo} {x : Nat → Option cl} (h : MI w x) (f : fr l w v) (q : fno [7599, 7699] l = true) : MI v x := by
  unfold MI MIo at h ⊢
  rw [fr_A (a := 75) f (fno_of q rfl), fr_A (a := 76) f (fno_of q rfl)]
  exact h
/-- the same with other cases and letters -/
def abC (A : ab) (c : cl) : ab := (c, A.2)
/-- the same with another tape -/
def abT (A : ab) (t : Int × (Int → Int)) : ab := (A.1, t, A.2.2)
-- asks
def asG (g : Int → Int → Int) (n t o s c : Int) : Int → Int → Int := fun k j => if k = n then (if j = 0 then t else if j = 1 then o else if j = 2 then s else if j = 3 then c else -1) else g k j
def asOk (A : ab) (t o s c : Int) : Prop := (0 ≤ t ∧ t ≤ 1) ∧ (0 ≤ o ∧ o ≤ 7) ∧ (0 ≤ s ∧ s ≤ 2) ∧ (-1 ≤ c ∧ c ≤ 1) ∧ A.1.1 < 200
def asA (A : ab) (t o s c : Int) : ab := abC A (A.1.1 + 1, asG A.1.2.1 A.1.1 t o s c, A.1.2.2)
theorem ok_asks {A : ab} (hA : okA A) {t o s c : Int} (h : asOk A t o s c) : okA (asA A t o s c) := by
  obtain ⟨⟨h1, h2, h3, h4⟩, h5⟩ := hA
  obtain ⟨a1, a2, a3, a4, a5⟩ := h
  refine ⟨⟨by show 0 ≤ A.1.1 + 1; omega, by show A.1.1 + 1 ≤ 200; omega, fun k k0 k1 => ?_, h4⟩, h5⟩
  have k1 : k < A.1.1 + 1 := k1
  show (0 ≤ asG A.1.2.1 A.1.1 t o s c k 0 ∧ asG A.1.2.1 A.1.1 t o s c k 0 ≤ 1) ∧ (0 ≤ asG A.1.2.1 A.1.1 t o s c k 1 ∧ asG A.1.2.1 A.1.1 t o s c k 1 ≤ 7) ∧ (0 ≤ asG A.1.2.1 A.1.1 t o s c k 2 ∧ asG A.1.2.1 A.1.1 t o s c k 2 ≤ 2) ∧ (-1 ≤ asG A.1.2.1 A.1.1 t o s c k 3 ∧ asG A.1.2.1 A.1.1 t o s c k 3 ≤ 1) ∧ ∀ m, 0 ≤ m → m < 6 → -1 ≤ asG A.1.2.1 A.1.1 t o s c k (4 + m) ∧ asG A.1.2.1 A.1.1 t o s c k (4 + m) ≤ 9
  unfold asG
  by_cases q : k = A.1.1
  · simp only [if_pos q]
    refine ⟨a1, a2, a3, a4, fun m m0 m1 => ?_⟩
    rw [if_neg (by omega), if_neg (by omega), if_neg (by omega), if_neg (by omega)]
    decide
  · simp only [if_neg q]
    exact h3 k k0 (by omega)
section L47
variable {sc : am_X} {w : wo} {A : ab} {ow : Nat → Nat} {n : Int} {g : Int → Int → Int}
theorem c14 {a b : Nat} (hab : a ≤ b) (hb : b ≤ 1200) : ∃ v, am_F sc 14 [am_R (some 6), am_I (ii a), am_I (ii b), am_I (ii (-1))] (wst w) = some (none, wst v) ∧ fr [699] w v ∧ ∀ j : Int, wA v 6 j = if (a : Int) ≤ j ∧ j < b then -1 else wA w 6 j := by
  obtain ⟨v, e, ha, fv, hv⟩ := lp_s (am_W sc 14) (fun (k : Nat) (v : wo) => (10, [some (am_R (some 6)), none, some (am_I (ii b)), some (am_I (ii (-1))), some (am_I (ii k))], [], wst v)) (fun k v => a ≤ k ∧ fr [699] w v ∧ ∀ j : Int, wA v 6 j = if (a : Int) ≤ j ∧ j < k then -1 else wA w 6 j) b (fun k v hk hv => by
    obtain ⟨ha, fv, hv⟩ := hv
    refine ⟨uA v 6 (fu (wA v 6) k (-1)), ?_, by omega, fr_uA fv rfl, fun j => ?_⟩
    · rw [wq_14_10]
      simp (disch := omega) only [qB_s, qC_t, qC_f, qI_T, qI_F, qI_t, qI_f, r_I, r_L, r_R, r_V, ii_add, ii_sub, ii_mul, ii_neg, bz_0, bz_1, Bool.true_and, Bool.false_and, Bool.and_true, z00, z11, li_0, li_1, li_nat, t_6, ii_lt, nat_1]
    · rw [rA, fu_at, hv j]
      by_cases q : j = k
      · rw [if_pos q, if_pos (by omega)]
      · rw [if_neg q]
        by_cases q2 : (a : Int) ≤ j ∧ j < k
        · rw [if_pos q2, if_pos (by omega)]
        · rw [if_neg q2, if_neg (by omega)]) (b - a) a w (by omega) ⟨Nat.le_refl _, fr_r _ _, fun j => by rw [if_neg (by omega)]⟩
  refine ⟨v, ?_, fv, hv⟩
  have h13 : am_F sc 13 [am_I (ii 1200), am_I (ii a), am_I (ii b)] (wst w) = some (none, wst w) := by
    rw [fq_13]
    simp (disch := omega) only [qB_s, qC_t, qC_f, qI_T, qI_F, qI_t, qI_f, r_I, r_L, r_R, r_V, ii_add, ii_sub, ii_mul, ii_neg, bz_0, bz_1, Bool.true_and, Bool.false_and, Bool.and_true, z00, z11, li_0, ii_lt]
  rw [fq_14]
  simp (disch := omega) only [qB_s, qC_t, qC_f, qI_T, qI_F, qI_t, qI_f, r_I, r_L, r_R, r_V, ii_add, ii_sub, ii_mul, ii_neg, bz_0, bz_1, Bool.true_and, Bool.false_and, Bool.and_true, z00, z11, li_0, li_1, li_nat, len_6, li_nat, Int.cast_ofNat_Int, h13]
  rw [e, wq_14_10]
  simp (disch := omega) only [qB_s, qC_t, qC_f, qI_T, qI_F, qI_t, qI_f, r_I, r_L, r_R, r_V, ii_add, ii_sub, ii_mul, ii_neg, bz_0, bz_1, Bool.true_and, Bool.false_and, Bool.and_true, z00, z11, li_0, li_1, li_nat, ii_lt]
theorem c15 (hC : CS w n g) (hn : n < 200) {t o s c : Int} : ∃ u, am_F sc 15 [am_R (some 1), am_I (ii t), am_I (ii o), am_I (ii s), am_I (ii c)] (wst w) = some (some (am_I (ii n)), wst u) ∧ fr [105, 299, 399, 499, 599, 699] w u ∧ CS u (n + 1) (asG g n t o s c) := by
  obtain ⟨h5, hn0, hn2, hk⟩ := hC
  have f4 : fr [105, 299, 399, 499, 599, 699] w (uA (uA (uA (uA w 2 (fu (wA w 2) n t)) 3 (fu (wA w 3) n o)) 4 (fu (wA w 4) n s)) 5 (fu (wA w 5) n c)) := fr_uA (fr_uA (fr_uA (fr_uA (fr_r _ _) rfl) rfl) rfl) rfl
  obtain ⟨v, e, fv, hv⟩ := c14 (sc := sc) (w := uA (uA (uA (uA w 2 (fu (wA w 2) n t)) 3 (fu (wA w 3) n o)) 4 (fu (wA w 4) n s)) 5 (fu (wA w 5) n c)) (a := (n * 6).toNat) (b := (n * 6 + 6).toNat) (by omega) (by omega)
  rw [Int.toNat_of_nonneg (by omega), Int.toNat_of_nonneg (by omega)] at e
  have f5 : fr [105, 299, 399, 499, 599, 699] w v := fr_t f4 (fr_m fv rfl)
  have hv5 : wI v 1 5 = n := by rw [fr_I fv rfl]; exact h5
  refine ⟨uI v 1 5 (n + 1), ?_, fr_uI f5 rfl, rI _ _ _ _, by omega, by omega, fun k k0 k1 => ?_⟩
  · rw [fq_15]
    have a3 : ∀ F, wA (uA w 2 F) 3 = wA w 3 := fun F => rAn _ _ rfl
    have a4 : ∀ F G, wA (uA (uA w 2 F) 3 G) 4 = wA w 4 := fun F G => rfl
    have a5 : ∀ F G H, wA (uA (uA (uA w 2 F) 3 G) 4 H) 5 = wA w 5 := fun F G H => rfl
    simp (disch := omega) only [qB_s, qC_t, qC_f, qI_T, qI_F, qI_t, qI_f, r_I, r_L, r_R, r_V, ii_add, ii_sub, ii_mul, ii_neg, bz_0, bz_1, Bool.true_and, Bool.false_and, Bool.and_true, z00, z11, li_0, li_1, li_200, li_6, gI_1_5, gR_1_0, gR_1_1, gR_1_2, gR_1_3, gR_1_4, pI_1_5, t_2, t_3, t_4, t_5, t_6, h5, uA_I, ii_lt, a3, a4, a5, e, hv5, rI, Int.add_sub_cancel]
  · have h2 : wA v 2 = fu (wA w 2) n t := by rw [fr_A (a := 2) fv rfl]; rfl
    have h3 : wA v 3 = fu (wA w 3) n o := by rw [fr_A (a := 3) fv rfl]; rfl
    have h4 : wA v 4 = fu (wA w 4) n s := by rw [fr_A (a := 4) fv rfl]; rfl
    have h5' : wA v 5 = fu (wA w 5) n c := by rw [fr_A (a := 5) fv rfl]; rfl
    have h6 : ∀ j, wA (uA (uA (uA (uA w 2 (fu (wA w 2) n t)) 3 (fu (wA w 3) n o)) 4 (fu (wA w 4) n s)) 5 (fu (wA w 5) n c)) 6 j = wA w 6 j := fun j => rfl
    rw [uI_A, uI_A, uI_A, uI_A, uI_A, h2, h3, h4, h5']
    simp only [fu_at]
    unfold asG
    by_cases q : k = n
    · simp only [if_pos q]
      refine ⟨rfl, rfl, rfl, rfl, fun m m0 m1 => ?_⟩
      rw [hv, if_pos (by omega), if_neg (by omega), if_neg (by omega), if_neg (by omega), if_neg (by omega)]
    · simp only [if_neg q]
      obtain ⟨b1, b2, b3, b4, b5⟩ := hk k k0 (by omega)
      refine ⟨b1, b2, b3, b4, fun m m0 m1 => ?_⟩
      rw [hv, if_neg (by omega), h6]
      exact b5 m m0 m1
def sAs : List Nat := [105, 299, 399, 499, 599, 699]
theorem x_16 (hC : RC ow w A) {t o s c : Int} (h : asOk A t o s c) : ∃ u, am_F sc 16 [am_R (some 0), am_I (ii t), am_I (ii o), am_I (ii s), am_I (ii c)] (wst w) = some (some (am_I (ii A.1.1)), wst u) ∧ fr sAs w u ∧ RC ow u (asA A t o s c) := by
  obtain ⟨a1, a2, a3, a4, a5⟩ := h
  obtain ⟨h1, h2, h3, h4, h5, h6, h7, h8⟩ := hC
  obtain ⟨u, e, f, hu⟩ := c15 (sc := sc) h1 a5 (t := t) (o := o) (s := s) (c := c)
  have p1 := s11 (sc := sc) (w := w) (x := t) (by omega) (by omega)
  have p2 := s12 (sc := sc) (w := w) (x := o) (by omega) (by omega)
  refine ⟨u, ?_, f, hu, LTS_g h2 f rfl, BS_g h3 f rfl, TS_g h4 f rfl, VS_g h5 f rfl rfl, RS_g h6 f rfl rfl, IS_fr h7 f rfl, by rw [fr_n f]; exact h8⟩
  rw [fq_16]
  simp (disch := omega) only [qB_s, qC_t, qC_f, qI_T, qI_F, qI_t, qI_f, r_I, r_L, r_R, r_V, ii_add, ii_sub, ii_mul, ii_neg, bz_0, bz_1, Bool.true_and, Bool.false_and, Bool.and_true, z00, z11, li_0, li_1, li_2, gR_0_0, is_1, ii_lt, p1, p2, e]
theorem x_16n (hC : RC ow w A) {t o s c : Int} (ht1 : -2147483648 ≤ t) (ht2 : t ≤ 2147483647) (ho1 : -2147483648 ≤ o) (ho2 : o ≤ 2147483647) (hs1 : -2147483648 ≤ s) (hs2 : s ≤ 2147483647) (hc1 : -2147483648 ≤ c) (hc2 : c ≤ 2147483647) (h : ¬ asOk A t o s c) : am_F sc 16 [am_R (some 0), am_I (ii t), am_I (ii o), am_I (ii s), am_I (ii c)] (wst w) = some (some (am_I (ii (-1))), wst w) := by
  have p1 := s11 (sc := sc) (w := w) (x := t) (by omega) (by omega)
  have p2 := s12 (sc := sc) (w := w) (x := o) (by omega) (by omega)
  have hn := hC.1.1
  have hn0 := hC.1.2.1
  have hn2 := hC.1.2.2.1
  rw [fq_16]
  by_cases q1 : t = 0 ∨ t = 1
  · by_cases q2 : 0 ≤ o ∧ o < 8
    · by_cases q3 : s < 0
      · simp (disch := omega) only [qB_s, qC_t, qC_f, qI_T, qI_F, qI_t, qI_f, r_I, r_L, r_R, r_V, ii_add, ii_sub, ii_mul, ii_neg, bz_0, bz_1, Bool.true_and, Bool.false_and, Bool.and_true, z00, z11, li_0, li_1, li_2, gR_0_0, is_1, ii_lt, p1, p2]
      · by_cases q4 : 2 < s
        · simp (disch := omega) only [qB_s, qC_t, qC_f, qI_T, qI_F, qI_t, qI_f, r_I, r_L, r_R, r_V, ii_add, ii_sub, ii_mul, ii_neg, bz_0, bz_1, Bool.true_and, Bool.false_and, Bool.and_true, z00, z11, li_0, li_1, li_2, gR_0_0, is_1, ii_lt, p1, p2]
        · by_cases q5 : c < -1
          · simp (disch := omega) only [qB_s, qC_t, qC_f, qI_T, qI_F, qI_t, qI_f, r_I, r_L, r_R, r_V, ii_add, ii_sub, ii_mul, ii_neg, bz_0, bz_1, Bool.true_and, Bool.false_and, Bool.and_true, z00, z11, li_0, li_1, li_2, gR_0_0, is_1, ii_lt, p1, p2]
          · by_cases q6 : 1 < c
            · simp (disch := omega) only [qB_s, qC_t, qC_f, qI_T, qI_F, qI_t, qI_f, r_I, r_L, r_R, r_V, ii_add, ii_sub, ii_mul, ii_neg, bz_0, bz_1, Bool.true_and, Bool.false_and, Bool.and_true, z00, z11, li_0, li_1, li_2, gR_0_0, is_1, ii_lt, p1, p2]
            · have q7 : ¬ A.1.1 < 200 := fun z => h ⟨by omega, by omega, by omega, by omega, z⟩
              have e : am_F sc 15 [am_R (some 1), am_I (ii t), am_I (ii o), am_I (ii s), am_I (ii c)] (wst w) = some (some (am_I (ii (-1))), wst w) := by
                rw [fq_15]
                simp (disch := omega) only [qB_s, qC_t, qC_f, qI_T, qI_F, qI_t, qI_f, r_I, r_L, r_R, r_V, ii_add, ii_sub, ii_mul, ii_neg, bz_0, bz_1, Bool.true_and, Bool.false_and, Bool.and_true, z00, z11, li_0, li_1, li_200, li_6, gI_1_5, gR_1_0, gR_1_1, gR_1_2, gR_1_3, gR_1_4, pI_1_5, t_2, t_3, t_4, t_5, t_6, hn, ii_lt]
              simp (disch := omega) only [qB_s, qC_t, qC_f, qI_T, qI_F, qI_t, qI_f, r_I, r_L, r_R, r_V, ii_add, ii_sub, ii_mul, ii_neg, bz_0, bz_1, Bool.true_and, Bool.false_and, Bool.and_true, z00, z11, li_0, li_1, li_2, gR_0_0, is_1, ii_lt, p1, p2, e]
    · simp (disch := omega) only [qB_s, qC_t, qC_f, qI_T, qI_F, qI_t, qI_f, r_I, r_L, r_R, r_V, ii_add, ii_sub, ii_mul, ii_neg, bz_0, bz_1, Bool.true_and, Bool.false_and, Bool.and_true, z00, z11, li_0, li_1, li_2, gR_0_0, is_1, ii_lt, p1, p2]
  · simp (disch := omega) only [qB_s, qC_t, qC_f, qI_T, qI_F, qI_t, qI_f, r_I, r_L, r_R, r_V, ii_add, ii_sub, ii_mul, ii_neg, bz_0, bz_1, Bool.true_and, Bool.false_and, Bool.and_true, z00, z11, li_0, li_1, li_2, gR_0_0, is_1, ii_lt, p1]
def sAm : List Nat := [4700, 4899]
theorem y_18 (hM : RM w A) {t o s c : Int} (h : asOk A t o s c) : ∃ u, am_F sc 18 [am_R (some 47), am_I (ii t), am_I (ii o), am_I (ii s), am_I (ii c)] (wst w) = some (some (am_I (ii A.1.1)), wst u) ∧ fr sAm w u ∧ RM u (asA A t o s c) := by
  obtain ⟨a1, a2, a3, a4, a5⟩ := h
  obtain ⟨⟨m1, m2, m3, m4⟩, h2, h3, h4, h5, h6⟩ := hM
  have m2' : 0 ≤ A.1.1 := m2
  obtain ⟨F, hF⟩ : ∃ F, F = fu (fu (fu (fu (wA w 48) (10 * A.1.1) t) (10 * A.1.1 + 1) o) (10 * A.1.1 + 2) s) (10 * A.1.1 + 3) c := ⟨_, rfl⟩
  have f4 : fr sAm w (uA (uA (uA (uA w 48 (fu (wA w 48) (10 * A.1.1) t)) 48 (fu (fu (wA w 48) (10 * A.1.1) t) (10 * A.1.1 + 1) o)) 48 (fu (fu (fu (wA w 48) (10 * A.1.1) t) (10 * A.1.1 + 1) o) (10 * A.1.1 + 2) s)) 48 F) := fr_uA (fr_uA (fr_uA (fr_uA (fr_r _ _) rfl) rfl) rfl) rfl
  obtain ⟨v, e, fv, hv⟩ := lp_s0 (am_W sc 18) (fun (k : Nat) (v : wo) => (110, [some (am_R (some 47)), none, none, none, none, some (am_I (ii (10 * A.1.1))), some (am_I (ii k))], [], wst v)) (fun k v => fr sAm w v ∧ (wI v 47 0 = A.1.1 ∧ ∀ j : Int, wA v 48 j = if 10 * A.1.1 + 4 ≤ j ∧ j < 10 * A.1.1 + 4 + k then -1 else F j)) 6 (fun k v hk hv => by
    obtain ⟨fv, hv0, hv⟩ := hv
    refine ⟨uA v 48 (fu (wA v 48) (10 * A.1.1 + 4 + k) (-1)), ?_, fr_uA fv rfl, hv0, fun j => ?_⟩
    · rw [wq_18_110]
      simp (disch := omega) only [qB_s, qC_t, qC_f, qI_T, qI_F, qI_t, qI_f, r_I, r_L, r_R, r_V, ii_add, ii_sub, ii_mul, ii_neg, bz_0, bz_1, Bool.true_and, Bool.false_and, Bool.and_true, z00, z11, li_0, li_1, li_10, li_2, li_200, li_3, li_4, li_6, lj_0, lj_1, lj_2, lj_7, gI_47_0, gR_47_1, pI_47_0, t_48, ii_lt, nat_1]
    · rw [rA, fu_at, hv j]
      by_cases q : j = 10 * A.1.1 + 4 + k
      · rw [if_pos q, if_pos (by omega)]
      · rw [if_neg q]
        by_cases q2 : 10 * A.1.1 + 4 ≤ j ∧ j < 10 * A.1.1 + 4 + k
        · rw [if_pos q2, if_pos (by omega)]
        · rw [if_neg q2, if_neg (by omega)]) _ ⟨f4, m1, fun j => by rw [rA, if_neg (by omega)]⟩
  obtain ⟨hv0, hv⟩ := hv
  have f5 : fr sAm w (uI v 47 0 (A.1.1 + 1)) := fr_uI fv rfl
  refine ⟨uI v 47 0 (A.1.1 + 1), ?_, f5, ⟨rI _ _ _ _, by show 0 ≤ A.1.1 + 1; omega, by show A.1.1 + 1 ≤ 200; omega, fun k j k0 k1 j0 j1 => ?_⟩, ML_g h2 f5 rfl, MT_g h3 f5 rfl, MV_g h4 f5 rfl, MR_g h5 f5 rfl, MI_g h6 f5 rfl⟩
  · have e' : am_W sc 18 (110, [some (am_R (some 47)), none, none, none, none, some (am_I (ii (10 * A.1.1))), some (am_I (ii 0))], [], wst (uA (uA (uA (uA w 48 (fu (wA w 48) (10 * A.1.1) t)) 48 (fu (fu (wA w 48) (10 * A.1.1) t) (10 * A.1.1 + 1) o)) 48 (fu (fu (fu (wA w 48) (10 * A.1.1) t) (10 * A.1.1 + 1) o) (10 * A.1.1 + 2) s)) 48 F)) = _ := e
    rw [hF] at e'
    rw [fq_18]
    simp (disch := omega) only [qB_s, qC_t, qC_f, qI_T, qI_F, qI_t, qI_f, r_I, r_L, r_R, r_V, ii_add, ii_sub, ii_mul, ii_neg, bz_0, bz_1, Bool.true_and, Bool.false_and, Bool.and_true, z00, z11, li_0, li_1, li_10, li_2, li_200, li_3, li_4, li_6, lj_0, lj_1, lj_2, lj_7, gI_47_0, gR_47_1, pI_47_0, t_48, m1, ii_eq, ii_jj, jj_neg, d17, uA_I, rA]
    rw [e', wq_18_110]
    simp (disch := omega) only [qB_s, qC_t, qC_f, qI_T, qI_F, qI_t, qI_f, r_I, r_L, r_R, r_V, ii_add, ii_sub, ii_mul, ii_neg, bz_0, bz_1, Bool.true_and, Bool.false_and, Bool.and_true, z00, z11, li_0, li_1, li_10, li_2, li_200, li_3, li_4, li_6, lj_0, lj_1, lj_2, lj_7, gI_47_0, gR_47_1, pI_47_0, t_48, ii_lt, hv0, rI, Int.add_sub_cancel]
  · have k1' : k < A.1.1 + 1 := k1
    show wA v 48 (10 * k + j) = asG A.1.2.1 A.1.1 t o s c k j
    rw [hv, hF]
    simp only [fu_at]
    unfold asG
    by_cases q : k = A.1.1
    · rw [if_pos q]
      by_cases z0 : j = 0
      · rw [if_neg (by omega), if_neg (by omega), if_neg (by omega), if_neg (by omega), if_pos (by omega), if_pos z0]
      · rw [if_neg z0]
        by_cases z1 : j = 1
        · rw [if_neg (by omega), if_neg (by omega), if_neg (by omega), if_pos (by omega), if_pos z1]
        · rw [if_neg z1]
          by_cases z2 : j = 2
          · rw [if_neg (by omega), if_neg (by omega), if_pos (by omega), if_pos z2]
          · rw [if_neg z2]
            by_cases z3 : j = 3
            · rw [if_neg (by omega), if_pos (by omega), if_pos z3]
            · rw [if_neg z3, if_pos (by omega)]
    · rw [if_neg (by omega), if_neg (by omega), if_neg (by omega), if_neg (by omega), if_neg (by omega), if_neg q]
      exact m4 k j k0 (show k < A.1.1 by omega) j0 j1
theorem y_18n (hM : RM w A) {t o s c : Int} (ht1 : -2147483648 ≤ t) (ht2 : t ≤ 2147483647) (ho1 : -2147483648 ≤ o) (ho2 : o ≤ 2147483647) (hs1 : -2147483648 ≤ s) (hs2 : s ≤ 2147483647) (hc1 : -2147483648 ≤ c) (hc2 : c ≤ 2147483647) (h : ¬ asOk A t o s c) : am_F sc 18 [am_R (some 47), am_I (ii t), am_I (ii o), am_I (ii s), am_I (ii c)] (wst w) = some (some (am_I (ii (-1))), wst w) := by
  have hn := hM.1.1
  have hn0 : 0 ≤ A.1.1 := hM.1.2.1
  have hn2 : A.1.1 ≤ 200 := hM.1.2.2.1
  rw [fq_18]
  by_cases q0 : A.1.1 = 200
  · simp (disch := omega) only [qB_s, qC_t, qC_f, qI_T, qI_F, qI_t, qI_f, r_I, r_L, r_R, r_V, ii_add, ii_sub, ii_mul, ii_neg, bz_0, bz_1, Bool.true_and, Bool.false_and, Bool.and_true, z00, z11, li_0, li_1, li_10, li_2, li_200, li_3, li_4, li_6, lj_0, lj_1, lj_2, lj_7, gI_47_0, gR_47_1, pI_47_0, t_48, hn, ii_eq]
  · by_cases q1 : 0 ≤ t ∧ t ≤ 1
    · by_cases q2 : 0 ≤ o ∧ o ≤ 7
      · by_cases q3 : 0 ≤ s ∧ s ≤ 2
        · by_cases q4 : -1 ≤ c ∧ c ≤ 1
          · exact absurd ⟨q1, q2, q3, q4, by omega⟩ h
          · simp (disch := omega) only [qB_s, qC_t, qC_f, qI_T, qI_F, qI_t, qI_f, r_I, r_L, r_R, r_V, ii_add, ii_sub, ii_mul, ii_neg, bz_0, bz_1, Bool.true_and, Bool.false_and, Bool.and_true, z00, z11, li_0, li_1, li_10, li_2, li_200, li_3, li_4, li_6, lj_0, lj_1, lj_2, lj_7, gI_47_0, gR_47_1, pI_47_0, t_48, hn, ii_eq, ii_jj, jj_neg, d17]
        · simp (disch := omega) only [qB_s, qC_t, qC_f, qI_T, qI_F, qI_t, qI_f, r_I, r_L, r_R, r_V, ii_add, ii_sub, ii_mul, ii_neg, bz_0, bz_1, Bool.true_and, Bool.false_and, Bool.and_true, z00, z11, li_0, li_1, li_10, li_2, li_200, li_3, li_4, li_6, lj_0, lj_1, lj_2, lj_7, gI_47_0, gR_47_1, pI_47_0, t_48, hn, ii_eq, ii_jj, jj_neg, d17]
      · simp (disch := omega) only [qB_s, qC_t, qC_f, qI_T, qI_F, qI_t, qI_f, r_I, r_L, r_R, r_V, ii_add, ii_sub, ii_mul, ii_neg, bz_0, bz_1, Bool.true_and, Bool.false_and, Bool.and_true, z00, z11, li_0, li_1, li_10, li_2, li_200, li_3, li_4, li_6, lj_0, lj_1, lj_2, lj_7, gI_47_0, gR_47_1, pI_47_0, t_48, hn, ii_eq, ii_jj, jj_neg, d17]
    · simp (disch := omega) only [qB_s, qC_t, qC_f, qI_T, qI_F, qI_t, qI_f, r_I, r_L, r_R, r_V, ii_add, ii_sub, ii_mul, ii_neg, bz_0, bz_1, Bool.true_and, Bool.false_and, Bool.and_true, z00, z11, li_0, li_1, li_10, li_2, li_200, li_3, li_4, li_6, lj_0, lj_1, lj_2, lj_7, gI_47_0, gR_47_1, pI_47_0, t_48, hn, ii_eq, ii_jj, jj_neg, d17]
-- mark

end L47
