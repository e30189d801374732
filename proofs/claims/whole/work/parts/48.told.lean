/-! MARK, TOLD, END, LETTER, COUNT, FEED -/
def mkG (g : Int → Int → Int) (k m v : Int) : Int → Int → Int := fun c j => if c = k ∧ j = 4 + m then v else g c j
def mkOk (A : ab) (k m v : Int) : Prop := (0 ≤ k ∧ k < A.1.1) ∧ (0 ≤ m ∧ m < 6) ∧ (-1 ≤ v ∧ v ≤ 9)
def mkA (A : ab) (k m v : Int) : ab := abC A (A.1.1, mkG A.1.2.1 k m v, A.1.2.2)
theorem ok_mark {A : ab} (hA : okA A) {k m v : Int} (h : mkOk A k m v) : okA (mkA A k m v) := by
  obtain ⟨⟨h1, h2, h3, h4⟩, h5⟩ := hA
  obtain ⟨a1, a2, a3⟩ := h
  refine ⟨⟨h1, h2, fun c c0 c1 => ?_, h4⟩, h5⟩
  obtain ⟨b0, b1, b2, b3, b4⟩ := h3 c c0 c1
  show (0 ≤ mkG A.1.2.1 k m v c 0 ∧ mkG A.1.2.1 k m v c 0 ≤ 1) ∧ (0 ≤ mkG A.1.2.1 k m v c 1 ∧ mkG A.1.2.1 k m v c 1 ≤ 7) ∧ (0 ≤ mkG A.1.2.1 k m v c 2 ∧ mkG A.1.2.1 k m v c 2 ≤ 2) ∧ (-1 ≤ mkG A.1.2.1 k m v c 3 ∧ mkG A.1.2.1 k m v c 3 ≤ 1) ∧ ∀ j, 0 ≤ j → j < 6 → -1 ≤ mkG A.1.2.1 k m v c (4 + j) ∧ mkG A.1.2.1 k m v c (4 + j) ≤ 9
  unfold mkG
  rw [if_neg (by omega), if_neg (by omega), if_neg (by omega), if_neg (by omega)]
  refine ⟨b0, b1, b2, b3, fun j j0 j1 => ?_⟩
  split
  · exact a3
  · exact b4 j j0 j1
def endOk (A : ab) (n : Int) : Prop := 0 ≤ n ∧ n ≤ A.2.1.1
def endA (A : ab) (n : Int) : ab := abT A (n, A.2.1.2)
theorem ok_end {A : ab} (hA : okA A) {n : Int} (h : endOk A n) : okA (endA A n) := by
  obtain ⟨h1, ⟨h2, h3, h4⟩, h5⟩ := hA
  exact ⟨h1, ⟨h.1, Int.le_trans h.2 h3, fun i i0 i1 => h4 i i0 (Int.lt_of_lt_of_le i1 h.2)⟩, h5⟩
def ltT (t : Int → Int → Int) (n o a b : Int) : Int → Int → Int := fun k j => if k = n then (if j = 0 then o else if j = 1 then a else b) else t k j
def ltOk (A : ab) (o : Int) : Prop := (0 ≤ o ∧ o ≤ 7) ∧ A.1.2.2.1 < 200
def ltA (A : ab) (o a b : Int) : ab := abC A (A.1.1, A.1.2.1, A.1.2.2.1 + 1, ltT A.1.2.2.2 A.1.2.2.1 o a b)
theorem ok_letter {A : ab} (hA : okA A) {o a b : Int} (h : ltOk A o) (ha : a = 0 ∨ a = 1) (hb : b = 0 ∨ b = 1) : okA (ltA A o a b) := by
  obtain ⟨⟨h1, h2, h3, h4, h5, h6⟩, h7⟩ := hA
  obtain ⟨a1, a2⟩ := h
  refine ⟨⟨h1, h2, h3, by show 0 ≤ A.1.2.2.1 + 1; omega, by show A.1.2.2.1 + 1 ≤ 200; omega, fun k k0 k1 => ?_⟩, h7⟩
  have k1 : k < A.1.2.2.1 + 1 := k1
  show (0 ≤ ltT A.1.2.2.2 A.1.2.2.1 o a b k 0 ∧ ltT A.1.2.2.2 A.1.2.2.1 o a b k 0 ≤ 7) ∧ (ltT A.1.2.2.2 A.1.2.2.1 o a b k 1 = 0 ∨ ltT A.1.2.2.2 A.1.2.2.1 o a b k 1 = 1) ∧ (ltT A.1.2.2.2 A.1.2.2.1 o a b k 2 = 0 ∨ ltT A.1.2.2.2 A.1.2.2.1 o a b k 2 = 1)
  unfold ltT
  by_cases q : k = A.1.2.2.1
  · simp only [if_pos q]
    exact ⟨a1, ha, hb⟩
  · simp only [if_neg q]
    exact h6 k k0 (by omega)
/-- a byte of an int -/
def byt (x : Int) (m : Nat) : Int := x / 2 ^ m % 256
theorem byt_ran (x : Int) (m : Nat) : 0 ≤ byt x m ∧ byt x m ≤ 255 := by
  unfold byt
  omega
def fd4 (t : Int → Int) (n x : Int) : Int → Int := fu (fu (fu (fu t n (byt x 24)) (n + 1) (byt x 16)) (n + 1 + 1) (byt x 8)) (n + 1 + 1 + 1) (byt x 0)
def fdT (t : Int → Int) (n x1 x2 x3 x4 x5 : Int) : Int → Int := fd4 (fd4 (fd4 (fd4 (fd4 t n x1) (n + 4) x2) (n + 8) x3) (n + 12) x4) (n + 16) x5
def fdOk (A : ab) : Prop := A.2.1.1 ≤ 380
def fdA (A : ab) (x1 x2 x3 x4 x5 : Int) : ab := abT A (A.2.1.1 + 20, fdT A.2.1.2 A.2.1.1 x1 x2 x3 x4 x5)
theorem fu_ran {t : Int → Int} {n b : Int} (h : ∀ i, 0 ≤ i → i < n → 0 ≤ t i ∧ t i ≤ 255) (hb : 0 ≤ b ∧ b ≤ 255) : ∀ i, 0 ≤ i → i < n + 1 → 0 ≤ fu t n b i ∧ fu t n b i ≤ 255 := fun i i0 i1 => by
  rw [fu_at]
  split
  · exact hb
  · exact h i i0 (by omega)
theorem fd4_ran {t : Int → Int} {n : Int} (h : ∀ i, 0 ≤ i → i < n → 0 ≤ t i ∧ t i ≤ 255) (x : Int) : ∀ i, 0 ≤ i → i < n + 4 → 0 ≤ fd4 t n x i ∧ fd4 t n x i ≤ 255 := fun i i0 i1 =>
  fu_ran (fu_ran (fu_ran (fu_ran h (byt_ran x 24)) (byt_ran x 16)) (byt_ran x 8)) (byt_ran x 0) i i0 (by omega)
theorem ok_feed {A : ab} (hA : okA A) (h : fdOk A) (x1 x2 x3 x4 x5 : Int) : okA (fdA A x1 x2 x3 x4 x5) := by
  obtain ⟨h1, ⟨h2, h3, h4⟩, h5⟩ := hA
  have h : A.2.1.1 ≤ 380 := h
  refine ⟨h1, ⟨by show 0 ≤ A.2.1.1 + 20; omega, by show A.2.1.1 + 20 ≤ 400; omega, fun i i0 i1 => ?_⟩, h5⟩
  have i1 : i < A.2.1.1 + 20 := i1
  have a1 := fd4_ran h4 x1
  have a2 := fd4_ran a1 x2
  have a3 := fd4_ran (n := A.2.1.1 + 8) (by rw [Int.add_assoc] at a2; exact a2) x3
  have a4 := fd4_ran (n := A.2.1.1 + 12) (by rw [Int.add_assoc] at a3; exact a3) x4
  have a5 := fd4_ran (n := A.2.1.1 + 16) (by rw [Int.add_assoc] at a4; exact a4) x5
  exact a5 i i0 (by omega)
theorem shu {x : Int} {s : Int} {m : Nat} (hm : (((ii s).toUInt32 &&& Int32.toUInt32 31).toNat % 32) = m) (hm2 : m = 0 ∨ m = 8 ∨ m = 16 ∨ m = 24) : ((ii x).toUInt32 >>> ((ii s).toUInt32 &&& Int32.toUInt32 31)).toInt32 &&& ii 255 = ii (byt x m) := by
  apply Int32.toBitVec_inj.mp
  apply BitVec.eq_of_toNat_eq
  have e1 : (((ii x).toUInt32 >>> ((ii s).toUInt32 &&& Int32.toUInt32 31)).toInt32 &&& ii 255).toBitVec.toNat = ((ii x).toUInt32 >>> ((ii s).toUInt32 &&& Int32.toUInt32 31)).toNat &&& 255 := by
    rw [Int32.toBitVec_and, BitVec.toNat_and]
    rfl
  have e2 : (ii x).toUInt32.toNat = (x % 4294967296).toNat := by
    show (BitVec.ofInt 32 x).toNat = _
    rw [BitVec.toNat_ofInt]
    rfl
  have e3 : ∀ y : Int, 0 ≤ y → y < 256 → (ii y).toBitVec.toNat = y.toNat := fun y h0 h1 => by
    show (BitVec.ofInt 32 y).toNat = _
    rw [BitVec.toNat_ofInt]
    show (y % 4294967296).toNat = _
    omega
  unfold byt
  rw [e1, UInt32.toNat_shiftRight, hm, e2, e3 _ (Int.emod_nonneg _ (by decide)) (Int.emod_lt_of_pos _ (by decide)), show (255 : Nat) = 2 ^ 8 - 1 from rfl, Nat.and_two_pow_sub_one_eq_mod, Nat.shiftRight_eq_div_pow]
  rcases hm2 with rfl | rfl | rfl | rfl
  all_goals simp only [Int.reducePow, Nat.reducePow]
  all_goals omega
theorem shs {x : Int} (h1 : -2147483648 ≤ x) (h2 : x ≤ 2147483647) {s : Int} {m : Nat} (hm : ((ii s &&& ii 31).toBitVec.smod 32 : BitVec 32) = BitVec.ofNat 32 m) (hm2 : m < 32) : (ii x >>> (ii s &&& ii 31)).toInt8.toInt32 = ii ((byt x m).bmod 256) := by
  have e : ii x >>> (ii s &&& ii 31) = ii (x / 2 ^ m) := by
    apply Int32.toBitVec.inj
    rw [Int32.toBitVec_shiftRight, hm]
    rw [show (ii x).toBitVec.sshiftRight' (BitVec.ofNat 32 m) = (ii x).toBitVec.sshiftRight m from by
      unfold BitVec.sshiftRight'
      rw [BitVec.toNat_ofNat, Nat.mod_eq_of_lt (Nat.lt_of_lt_of_le hm2 (by decide))], BitVec.sshiftRight_eq]
    rw [show (ii x).toBitVec.toInt = (ii x).toInt from rfl, ii_val h1 h2, Int.shiftRight_eq_div_pow]
    rfl
  rw [e, i2b_of]
  unfold byt
  have e2 : (x / 2 ^ m % 256).bmod 256 = (x / 2 ^ m).bmod 256 := by
    show ((x / 2 ^ m) % ((256 : Nat) : Int)).bmod 256 = _
    rw [Int.emod_bmod]
  rw [e2]
section L48
variable {sc : am_X} {w : wo} {A : ab} {ow : Nat → Nat} {n : Int} {g : Int → Int → Int}
theorem x_23 (hC : RC ow w A) {k m v : Int} (h : mkOk A k m v) : ∃ u, am_F sc 23 [am_R (some 0), am_I (ii k), am_I (ii m), am_I (ii v)] (wst w) = some (some (am_I (ii (A.1.2.1 k (4 + m)))), wst u) ∧ fr sAs w u ∧ RC ow u (mkA A k m v) := by
  obtain ⟨a1, a2, a3⟩ := h
  obtain ⟨h1, h2, h3, h4, h5, h6, h7, h8⟩ := hC
  have hn2 : A.1.1 ≤ 200 := h1.2.2.1
  have p1 := c19 (sc := sc) h1 (k := k) (by omega) (by omega)
  have p2 := s20 (sc := sc) (w := w) (x := m) (by omega) (by omega)
  have p3 := c21 (sc := sc) h1 a1.1 a1.2 a2.1 a2.2
  have f : fr sAs w (uA w 6 (fu (wA w 6) (k * 6 + m) v)) := fr_uA (fr_r _ _) rfl
  have p4 : am_F sc 22 [am_R (some 1), am_I (ii k), am_I (ii m), am_I (ii v)] (wst w) = some (none, wst (uA w 6 (fu (wA w 6) (k * 6 + m) v))) := by
    rw [fq_22]
    simp (disch := omega) only [qB_s, qC_t, qC_f, qI_T, qI_F, qI_t, qI_f, r_I, r_L, r_R, r_V, ii_add, ii_sub, ii_mul, ii_neg, bz_0, bz_1, Bool.true_and, Bool.false_and, Bool.and_true, z00, z11, li_0, li_6, gR_1_4, is_1, t_6, p1, p2]
  refine ⟨_, ?_, f, ?_, LTS_g h2 f rfl, BS_g h3 f rfl, TS_g h4 f rfl, VS_g h5 f rfl rfl, RS_g h6 f rfl rfl, IS_fr h7 f rfl, by rw [fr_n f]; exact h8⟩
  · rw [fq_23]
    simp (disch := omega) only [qB_s, qC_t, qC_f, qI_T, qI_F, qI_t, qI_f, r_I, r_L, r_R, r_V, ii_add, ii_sub, ii_mul, ii_neg, bz_0, bz_1, Bool.true_and, Bool.false_and, Bool.and_true, z00, z11, li_0, li_1, li_2, li_9, gR_0_0, is_1, ii_lt, p1, p2, p3, p4]
  · obtain ⟨c1, c2, c3, c4⟩ := h1
    refine ⟨c1, c2, c3, fun c c0 c5 => ?_⟩
    obtain ⟨d1, d2, d3, d4, d5⟩ := c4 c c0 c5
    have e : ∀ j, j < 4 → mkG A.1.2.1 k m v c j = A.1.2.1 c j := fun j hj => if_neg (by omega)
    refine ⟨d1.trans (e 0 (by decide)).symm, d2.trans (e 1 (by decide)).symm, d3.trans (e 2 (by decide)).symm, d4.trans (e 3 (by decide)).symm, fun j j0 j1 => ?_⟩
    show wA (uA w 6 (fu (wA w 6) (k * 6 + m) v)) 6 (c * 6 + j) = mkG A.1.2.1 k m v c (4 + j)
    rw [rA, fu_at]
    unfold mkG
    by_cases q : c = k ∧ j = m
    · rw [if_pos (by omega), if_pos (by omega)]
    · rw [if_neg (by omega), if_neg (by omega)]
      exact d5 j j0 j1
theorem x_23n (hC : RC ow w A) {k m v : Int} (hk1 : -2147483648 ≤ k) (hk2 : k ≤ 2147483647) (hm1 : -2147483648 ≤ m) (hm2 : m ≤ 2147483647) (hv1 : -2147483648 ≤ v) (hv2 : v ≤ 2147483647) (h : ¬ mkOk A k m v) : am_F sc 23 [am_R (some 0), am_I (ii k), am_I (ii m), am_I (ii v)] (wst w) = some (some (am_I (ii (-2))), wst w) := by
  have p1 := c19 (sc := sc) hC.1 (k := k) (by omega) (by omega)
  have p2 := s20 (sc := sc) (w := w) (x := m) (by omega) (by omega)
  rw [fq_23]
  by_cases q1 : 0 ≤ k ∧ k < A.1.1
  · by_cases q2 : 0 ≤ m ∧ m < 6
    · by_cases q3 : v < -1
      · simp (disch := omega) only [qB_s, qC_t, qC_f, qI_T, qI_F, qI_t, qI_f, r_I, r_L, r_R, r_V, ii_add, ii_sub, ii_mul, ii_neg, bz_0, bz_1, Bool.true_and, Bool.false_and, Bool.and_true, z00, z11, li_0, li_1, li_2, li_9, gR_0_0, is_1, ii_lt, p1, p2]
      · have q4 : 9 < v := by
          by_cases z : 9 < v
          · exact z
          · exact absurd ⟨q1, q2, by omega, by omega⟩ h
        simp (disch := omega) only [qB_s, qC_t, qC_f, qI_T, qI_F, qI_t, qI_f, r_I, r_L, r_R, r_V, ii_add, ii_sub, ii_mul, ii_neg, bz_0, bz_1, Bool.true_and, Bool.false_and, Bool.and_true, z00, z11, li_0, li_1, li_2, li_9, gR_0_0, is_1, ii_lt, p1, p2]
    · simp (disch := omega) only [qB_s, qC_t, qC_f, qI_T, qI_F, qI_t, qI_f, r_I, r_L, r_R, r_V, ii_add, ii_sub, ii_mul, ii_neg, bz_0, bz_1, Bool.true_and, Bool.false_and, Bool.and_true, z00, z11, li_0, li_1, li_2, li_9, gR_0_0, is_1, ii_lt, p1, p2]
  · simp (disch := omega) only [qB_s, qC_t, qC_f, qI_T, qI_F, qI_t, qI_f, r_I, r_L, r_R, r_V, ii_add, ii_sub, ii_mul, ii_neg, bz_0, bz_1, Bool.true_and, Bool.false_and, Bool.and_true, z00, z11, li_0, li_1, li_2, li_9, gR_0_0, is_1, ii_lt, p1]
theorem y_25 (hM : RM w A) {k m v : Int} (h : mkOk A k m v) : ∃ u, am_F sc 25 [am_R (some 47), am_I (ii k), am_I (ii m), am_I (ii v)] (wst w) = some (some (am_I (ii (A.1.2.1 k (4 + m)))), wst u) ∧ fr sAm w u ∧ RM u (mkA A k m v) := by
  obtain ⟨a1, a2, a3⟩ := h
  obtain ⟨⟨m1, m2, m3, m4⟩, h2, h3, h4, h5, h6⟩ := hM
  have m2' : 0 ≤ A.1.1 := m2
  have m3' : A.1.1 ≤ 200 := m3
  have h24 := d24 (sc := sc) (n := A.1.1) (g := A.1.2.1) ⟨m1, m2, m3, m4⟩ (k := k) (by omega) (by omega)
  have f5 : fr sAm w (uA w 48 (fu (wA w 48) (10 * k + 4 + m) v)) := fr_uA (fr_r _ _) rfl
  have e := m4 k (4 + m) a1.1 a1.2 (by omega) (by omega)
  rw [show 10 * k + (4 + m) = 10 * k + 4 + m by omega] at e
  refine ⟨_, ?_, f5, ⟨m1, m2, m3, fun c j c0 c1 j0 j1 => ?_⟩, ML_g h2 f5 rfl, MT_g h3 f5 rfl, MV_g h4 f5 rfl, MR_g h5 f5 rfl, MI_g h6 f5 rfl⟩
  · rw [fq_25]
    simp (disch := omega) only [qB_s, qC_t, qC_f, qI_T, qI_F, qI_t, qI_f, r_I, r_L, r_R, r_V, ii_add, ii_sub, ii_mul, ii_neg, bz_0, bz_1, Bool.true_and, Bool.false_and, Bool.and_true, z00, z11, li_0, li_10, li_2, li_4, lj_0, lj_1, lj_5, lj_9, e_48, gR_47_1, is_47, t_48, h24, ii_eq, ii_jj, jj_neg, d17, e]
  · show wA (uA w 48 (fu (wA w 48) (10 * k + 4 + m) v)) 48 (10 * c + j) = mkG A.1.2.1 k m v c j
    rw [rA, fu_at]
    unfold mkG
    by_cases q : c = k ∧ j = 4 + m
    · rw [if_pos (by omega), if_pos q]
    · rw [if_neg (by omega), if_neg q]
      exact m4 c j c0 c1 j0 j1
theorem y_25n (hM : RM w A) {k m v : Int} (hk1 : -2147483648 ≤ k) (hk2 : k ≤ 2147483647) (hm1 : -2147483648 ≤ m) (hm2 : m ≤ 2147483647) (hv1 : -2147483648 ≤ v) (hv2 : v ≤ 2147483647) (h : ¬ mkOk A k m v) : am_F sc 25 [am_R (some 47), am_I (ii k), am_I (ii m), am_I (ii v)] (wst w) = some (some (am_I (ii (-2))), wst w) := by
  have h24 := d24 (sc := sc) hM.1 (k := k) (by omega) (by omega)
  rw [fq_25]
  by_cases q1 : 0 ≤ k ∧ k < A.1.1
  · by_cases q2 : 0 ≤ m ∧ m ≤ 5
    · by_cases q3 : -1 ≤ v ∧ v ≤ 9
      · exact absurd ⟨q1, by omega, q3⟩ h
      · simp (disch := omega) only [qB_s, qC_t, qC_f, qI_T, qI_F, qI_t, qI_f, r_I, r_L, r_R, r_V, ii_add, ii_sub, ii_mul, ii_neg, bz_0, bz_1, Bool.true_and, Bool.false_and, Bool.and_true, z00, z11, li_0, li_10, li_2, li_4, lj_0, lj_1, lj_5, lj_9, e_48, gR_47_1, is_47, t_48, h24, ii_eq, ii_jj, jj_neg, d17]
    · simp (disch := omega) only [qB_s, qC_t, qC_f, qI_T, qI_F, qI_t, qI_f, r_I, r_L, r_R, r_V, ii_add, ii_sub, ii_mul, ii_neg, bz_0, bz_1, Bool.true_and, Bool.false_and, Bool.and_true, z00, z11, li_0, li_10, li_2, li_4, lj_0, lj_1, lj_5, lj_9, e_48, gR_47_1, is_47, t_48, h24, ii_eq, ii_jj, jj_neg, d17]
  · simp (disch := omega) only [qB_s, qC_t, qC_f, qI_T, qI_F, qI_t, qI_f, r_I, r_L, r_R, r_V, ii_add, ii_sub, ii_mul, ii_neg, bz_0, bz_1, Bool.true_and, Bool.false_and, Bool.and_true, z00, z11, li_0, li_10, li_2, li_4, lj_0, lj_1, lj_5, lj_9, e_48, gR_47_1, is_47, t_48, h24, ii_eq, ii_jj, jj_neg, d17]
-- end
theorem x_36 (hC : RC ow w A) (hA : okA A) {n : Int} (h : endOk A n) : ∃ u, am_F sc 36 [am_R (some 0), am_I (ii n)] (wst w) = some (some (am_I (ii n)), wst u) ∧ fr [1301] w u ∧ RC ow u (endA A n) := by
  obtain ⟨a1, a2⟩ := h
  have hlen := hA.2.1.2.1
  obtain ⟨h1, h2, h3, h4, h5, h6, h7, h8⟩ := hC
  have hs := h4.1
  have f : fr [1301] w (uI w 13 1 n) := fr_uI (fr_r _ _) rfl
  refine ⟨_, ?_, f, CS_g h1 f rfl, LTS_g h2 f rfl, BS_g h3 f rfl, ⟨rI _ _ _ _, fun i i0 i1 => h4.2 i i0 (Int.lt_of_lt_of_le i1 a2)⟩, VS_g h5 f rfl rfl, RS_g h6 f rfl rfl, IS_fr h7 f rfl, by rw [fr_n f]; exact h8⟩
  rw [fq_36]
  simp (disch := omega) only [qB_s, qC_t, qC_f, qI_T, qI_F, qI_t, qI_f, r_I, r_L, r_R, r_V, ii_add, ii_sub, ii_mul, ii_neg, bz_0, bz_1, Bool.true_and, Bool.false_and, Bool.and_true, z00, z11, li_0, li_1, gI_13_1, gR_0_4, pI_13_1, hs, ii_lt]
theorem x_36n (hC : RC ow w A) (hA : okA A) {n : Int} (hn1 : -2147483648 ≤ n) (hn2 : n ≤ 2147483647) (h : ¬ endOk A n) : am_F sc 36 [am_R (some 0), am_I (ii n)] (wst w) = some (some (am_I (ii (-1))), wst w) := by
  have hlen := hA.2.1.2.1
  have hl0 := hA.2.1.1
  have hs := hC.2.2.2.1.1
  rw [fq_36]
  by_cases q : n < 0
  · simp (disch := omega) only [qB_s, qC_t, qC_f, qI_T, qI_F, qI_t, qI_f, r_I, r_L, r_R, r_V, ii_add, ii_sub, ii_mul, ii_neg, bz_0, bz_1, Bool.true_and, Bool.false_and, Bool.and_true, z00, z11, li_0, li_1, gI_13_1, gR_0_4, pI_13_1, ii_lt]
  · have q2 : A.2.1.1 < n := by
      by_cases z : A.2.1.1 < n
      · exact z
      · exact absurd ⟨by omega, by omega⟩ h
    simp (disch := omega) only [qB_s, qC_t, qC_f, qI_T, qI_F, qI_t, qI_f, r_I, r_L, r_R, r_V, ii_add, ii_sub, ii_mul, ii_neg, bz_0, bz_1, Bool.true_and, Bool.false_and, Bool.and_true, z00, z11, li_0, li_1, gI_13_1, gR_0_4, pI_13_1, hs, ii_lt]
theorem y_37 (hM : RM w A) (hA : okA A) {n : Int} (h : endOk A n) : ∃ u, am_F sc 37 [am_R (some 47), am_I (ii n)] (wst w) = some (some (am_I (ii n)), wst u) ∧ fr [4705] w u ∧ RM u (endA A n) := by
  obtain ⟨a1, a2⟩ := h
  have hlen := hA.2.1.2.1
  obtain ⟨h1, h2, h3, h4, h5, h6⟩ := hM
  have hs := h3.1
  have f : fr [4705] w (uI w 47 5 n) := fr_uI (fr_r _ _) rfl
  refine ⟨_, ?_, f, MS_g h1 f rfl, ML_g h2 f rfl, ⟨rI _ _ _ _, fun i i0 i1 => h3.2 i i0 (Int.lt_of_lt_of_le i1 a2)⟩, MV_g h4 f rfl, MR_g h5 f rfl, MI_g h6 f rfl⟩
  rw [fq_37]
  simp (disch := omega) only [qB_s, qC_t, qC_f, qI_T, qI_F, qI_t, qI_f, r_I, r_L, r_R, r_V, ii_add, ii_sub, ii_mul, ii_neg, bz_0, bz_1, Bool.true_and, Bool.false_and, Bool.and_true, z00, z11, li_0, li_1, gI_47_5, pI_47_5, hs, ii_lt]
theorem y_37n (hM : RM w A) (hA : okA A) {n : Int} (hn1 : -2147483648 ≤ n) (hn2 : n ≤ 2147483647) (h : ¬ endOk A n) : am_F sc 37 [am_R (some 47), am_I (ii n)] (wst w) = some (some (am_I (ii (-1))), wst w) := by
  have hlen := hA.2.1.2.1
  have hl0 := hA.2.1.1
  have hs := hM.2.2.1.1
  rw [fq_37]
  by_cases q : n < 0
  · simp (disch := omega) only [qB_s, qC_t, qC_f, qI_T, qI_F, qI_t, qI_f, r_I, r_L, r_R, r_V, ii_add, ii_sub, ii_mul, ii_neg, bz_0, bz_1, Bool.true_and, Bool.false_and, Bool.and_true, z00, z11, li_0, li_1, gI_47_5, pI_47_5, ii_lt]
  · have q2 : A.2.1.1 < n := by
      by_cases z : A.2.1.1 < n
      · exact z
      · exact absurd ⟨by omega, by omega⟩ h
    simp (disch := omega) only [qB_s, qC_t, qC_f, qI_T, qI_F, qI_t, qI_f, r_I, r_L, r_R, r_V, ii_add, ii_sub, ii_mul, ii_neg, bz_0, bz_1, Bool.true_and, Bool.false_and, Bool.and_true, z00, z11, li_0, li_1, gI_47_5, pI_47_5, hs, ii_lt]
-- letter
def sLt : List Nat := [703, 899, 999, 1099]
theorem x_181 (hC : RC ow w A) (hA : okA A) {o a b : Int} (h : ltOk A o) (ha : a = 0 ∨ a = 1) (hb : b = 0 ∨ b = 1) : ∃ u, am_F sc 181 [am_R (some 0), am_I (ii o), am_I (ii a), am_I (ii b)] (wst w) = some (some (am_I (ii A.1.2.2.1)), wst u) ∧ fr sLt w u ∧ RC ow u (ltA A o a b) := by
  obtain ⟨a1, a2⟩ := h
  obtain ⟨h1, h2, h3, h4, h5, h6, h7, h8⟩ := hC
  have hm0 : 0 ≤ A.1.2.2.1 := hA.1.2.2.2.1
  have hs := h2.1
  have p2 := s12 (sc := sc) (w := w) (x := o) (by omega) (by omega)
  have b9 : ∀ F, wA (uA w 8 F) 9 = wA w 9 := fun F => rfl
  have b10 : ∀ F G, wA (uA (uA w 8 F) 9 G) 10 = wA w 10 := fun F G => rfl
  have f : fr sLt w (uI (uA (uA (uA w 8 (fu (wA w 8) A.1.2.2.1 o)) 9 (fu (wA w 9) A.1.2.2.1 a)) 10 (fu (wA w 10) A.1.2.2.1 b)) 7 3 (A.1.2.2.1 + 1)) := fr_uI (fr_uA (fr_uA (fr_uA (fr_r _ _) rfl) rfl) rfl) rfl
  refine ⟨_, ?_, f, CS_g h1 f rfl, ⟨rI _ _ _ _, fun k k0 k1 => ?_⟩, fun i => ⟨?_, ?_⟩, TS_g h4 f rfl, VS_g h5 f rfl rfl, RS_g h6 f rfl rfl, IS_fr h7 f rfl, by rw [fr_n f]; exact h8⟩
  · have e : am_F sc 180 [am_R (some 7), am_I (ii o), am_I (ii a), am_I (ii b)] (wst w) = some (some (am_I (ii A.1.2.2.1)), wst (uI (uA (uA (uA w 8 (fu (wA w 8) A.1.2.2.1 o)) 9 (fu (wA w 9) A.1.2.2.1 a)) 10 (fu (wA w 10) A.1.2.2.1 b)) 7 3 (A.1.2.2.1 + 1))) := by
      rw [fq_180]
      simp (disch := omega) only [qB_s, qC_t, qC_f, qI_T, qI_F, qI_t, qI_f, r_I, r_L, r_R, r_V, ii_add, ii_sub, ii_mul, ii_neg, bz_0, bz_1, Bool.true_and, Bool.false_and, Bool.and_true, z00, z11, li_0, li_1, li_200, gI_7_3, gR_7_0, gR_7_1, gR_7_2, pI_7_3, t_10, t_8, t_9, hs, ii_lt, uA_I, b9, b10, rI, Int.add_sub_cancel]
    rw [fq_181]
    simp (disch := omega) only [qB_s, qC_t, qC_f, qI_T, qI_F, qI_t, qI_f, r_I, r_L, r_R, r_V, ii_add, ii_sub, ii_mul, ii_neg, bz_0, bz_1, Bool.true_and, Bool.false_and, Bool.and_true, z00, z11, li_0, li_1, gR_0_1, is_7, p2, e]
  · have k1' : k < A.1.2.2.1 + 1 := k1
    show fu (wA w 8) A.1.2.2.1 o k = ltT A.1.2.2.2 A.1.2.2.1 o a b k 0 ∧ fu (wA w 9) A.1.2.2.1 a k = ltT A.1.2.2.2 A.1.2.2.1 o a b k 1 ∧ fu (wA w 10) A.1.2.2.1 b k = ltT A.1.2.2.2 A.1.2.2.1 o a b k 2
    simp only [fu_at]
    unfold ltT
    by_cases q : k = A.1.2.2.1
    · simp only [if_pos q]
      exact ⟨rfl, rfl, rfl⟩
    · simp only [if_neg q]
      exact h2.2 k k0 (by omega)
  · show fu (wA w 9) A.1.2.2.1 a i = 0 ∨ fu (wA w 9) A.1.2.2.1 a i = 1
    rw [fu_at]
    split
    · exact ha
    · exact (h3 i).1
  · show fu (wA w 10) A.1.2.2.1 b i = 0 ∨ fu (wA w 10) A.1.2.2.1 b i = 1
    rw [fu_at]
    split
    · exact hb
    · exact (h3 i).2
theorem x_181n (hC : RC ow w A) (hA : okA A) {o a b : Int} (ho1 : -2147483648 ≤ o) (ho2 : o ≤ 2147483647) (h : ¬ ltOk A o) : am_F sc 181 [am_R (some 0), am_I (ii o), am_I (ii a), am_I (ii b)] (wst w) = some (some (am_I (ii (-1))), wst w) := by
  have hm0 : 0 ≤ A.1.2.2.1 := hA.1.2.2.2.1
  have hm2 : A.1.2.2.1 ≤ 200 := hA.1.2.2.2.2.1
  have hs := hC.2.1.1
  have p2 := s12 (sc := sc) (w := w) (x := o) (by omega) (by omega)
  rw [fq_181]
  by_cases q : 0 ≤ o ∧ o < 8
  · have q2 : ¬ A.1.2.2.1 < 200 := fun z => h ⟨by omega, z⟩
    have e : am_F sc 180 [am_R (some 7), am_I (ii o), am_I (ii a), am_I (ii b)] (wst w) = some (some (am_I (ii (-1))), wst w) := by
      rw [fq_180]
      simp (disch := omega) only [qB_s, qC_t, qC_f, qI_T, qI_F, qI_t, qI_f, r_I, r_L, r_R, r_V, ii_add, ii_sub, ii_mul, ii_neg, bz_0, bz_1, Bool.true_and, Bool.false_and, Bool.and_true, z00, z11, li_0, li_1, li_200, gI_7_3, gR_7_0, gR_7_1, gR_7_2, pI_7_3, t_10, t_8, t_9, hs, ii_lt]
    simp (disch := omega) only [qB_s, qC_t, qC_f, qI_T, qI_F, qI_t, qI_f, r_I, r_L, r_R, r_V, ii_add, ii_sub, ii_mul, ii_neg, bz_0, bz_1, Bool.true_and, Bool.false_and, Bool.and_true, z00, z11, li_0, li_1, gR_0_1, is_7, p2, e]
  · simp (disch := omega) only [qB_s, qC_t, qC_f, qI_T, qI_F, qI_t, qI_f, r_I, r_L, r_R, r_V, ii_add, ii_sub, ii_mul, ii_neg, bz_0, bz_1, Bool.true_and, Bool.false_and, Bool.and_true, z00, z11, li_0, li_1, gR_0_1, is_7, p2]
def sLm : List Nat := [4702, 4999]
theorem y_182 (hM : RM w A) (hA : okA A) {o a b : Int} (h : ltOk A o) (ha : a = 0 ∨ a = 1) (hb : b = 0 ∨ b = 1) : ∃ u, am_F sc 182 [am_R (some 47), am_I (ii o), am_I (ii a), am_I (ii b)] (wst w) = some (some (am_I (ii A.1.2.2.1)), wst u) ∧ fr sLm w u ∧ RM u (ltA A o a b) := by
  obtain ⟨a1, a2⟩ := h
  obtain ⟨h1, h2, h3, h4, h5, h6⟩ := hM
  have hm0 : 0 ≤ A.1.2.2.1 := hA.1.2.2.2.1
  have hs := h2.1
  have f : fr sLm w (uI (uA (uA (uA w 49 (fu (wA w 49) (3 * A.1.2.2.1) o)) 49 (fu (fu (wA w 49) (3 * A.1.2.2.1) o) (3 * A.1.2.2.1 + 1) a)) 49 (fu (fu (fu (wA w 49) (3 * A.1.2.2.1) o) (3 * A.1.2.2.1 + 1) a) (3 * A.1.2.2.1 + 2) b)) 47 2 (A.1.2.2.1 + 1)) := fr_uI (fr_uA (fr_uA (fr_uA (fr_r _ _) rfl) rfl) rfl) rfl
  refine ⟨_, ?_, f, MS_g h1 f rfl, ⟨rI _ _ _ _, fun k j k0 k1 j0 j1 => ?_⟩, MT_g h3 f rfl, MV_g h4 f rfl, MR_g h5 f rfl, MI_g h6 f rfl⟩
  · rw [fq_182]
    rcases ha with rfl | rfl <;> rcases hb with rfl | rfl
    all_goals simp (disch := omega) only [qB_s, qC_t, qC_f, qI_T, qI_F, qI_t, qI_f, r_I, r_L, r_R, r_V, ii_add, ii_sub, ii_mul, ii_neg, bz_0, bz_1, Bool.true_and, Bool.false_and, Bool.and_true, z00, z11, li_0, li_1, li_2, li_200, li_3, lj_0, lj_7, gI_47_2, gR_47_3, pI_47_2, t_49, hs, ii_eq, ii_jj, d17, uA_I, rA, rI, Int.add_sub_cancel]
  · have k1' : k < A.1.2.2.1 + 1 := k1
    show fu (fu (fu (wA w 49) (3 * A.1.2.2.1) o) (3 * A.1.2.2.1 + 1) a) (3 * A.1.2.2.1 + 2) b (3 * k + j) = ltT A.1.2.2.2 A.1.2.2.1 o a b k j
    simp only [fu_at]
    unfold ltT
    by_cases q : k = A.1.2.2.1
    · rw [if_pos q]
      by_cases z0 : j = 0
      · rw [if_neg (by omega), if_neg (by omega), if_pos (by omega), if_pos z0]
      · rw [if_neg z0]
        by_cases z1 : j = 1
        · rw [if_neg (by omega), if_pos (by omega), if_pos z1]
        · rw [if_pos (by omega), if_neg z1]
    · rw [if_neg (by omega), if_neg (by omega), if_neg (by omega), if_neg q]
      exact h2.2 k j k0 (by omega) j0 j1
theorem y_182n (hM : RM w A) (hA : okA A) {o a b : Int} (ho1 : -2147483648 ≤ o) (ho2 : o ≤ 2147483647) (h : ¬ ltOk A o) : am_F sc 182 [am_R (some 47), am_I (ii o), am_I (ii a), am_I (ii b)] (wst w) = some (some (am_I (ii (-1))), wst w) := by
  have hm0 : 0 ≤ A.1.2.2.1 := hA.1.2.2.2.1
  have hm2 : A.1.2.2.1 ≤ 200 := hA.1.2.2.2.2.1
  have hs := hM.2.1.1
  rw [fq_182]
  by_cases q : A.1.2.2.1 = 200
  · simp (disch := omega) only [qB_s, qC_t, qC_f, qI_T, qI_F, qI_t, qI_f, r_I, r_L, r_R, r_V, ii_add, ii_sub, ii_mul, ii_neg, bz_0, bz_1, Bool.true_and, Bool.false_and, Bool.and_true, z00, z11, li_0, li_1, li_2, li_200, li_3, lj_0, lj_7, gI_47_2, gR_47_3, pI_47_2, t_49, hs, ii_eq]
  · by_cases q2 : 0 ≤ o ∧ o ≤ 7
    · exact absurd ⟨q2, by omega⟩ h
    · simp (disch := omega) only [qB_s, qC_t, qC_f, qI_T, qI_F, qI_t, qI_f, r_I, r_L, r_R, r_V, ii_add, ii_sub, ii_mul, ii_neg, bz_0, bz_1, Bool.true_and, Bool.false_and, Bool.and_true, z00, z11, li_0, li_1, li_2, li_200, li_3, lj_0, lj_7, gI_47_2, gR_47_3, pI_47_2, t_49, hs, ii_eq, ii_jj, d17]
-- count
def ctA (A : ab) (x : Int) : Int := if x = 0 then A.1.1 else if x = 1 then A.1.2.2.1 else if x = 2 then A.2.2.1.1 else if x = 3 then A.2.2.2.1.1 else if x = 4 then A.2.1.1 else -1
theorem x_285 (hC : RC ow w A) {x : Int} (hx1 : -2147483648 ≤ x) (hx2 : x ≤ 2147483647) : am_F sc 285 [am_R (some 0), am_I (ii x)] (wst w) = some (some (am_I (ii (ctA A x))), wst w) := by
  have p0 := hC.1.1
  have p1 := hC.2.1.1
  have p2 := hC.2.2.2.2.1.1
  have p3 := hC.2.2.2.2.2.1.1
  have p4 := hC.2.2.2.1.1
  rw [fq_285]
  unfold ctA
  by_cases q0 : x = 0
  · rw [if_pos q0]
    simp (disch := omega) only [qB_s, qC_t, qC_f, qI_T, qI_F, qI_t, qI_f, r_I, r_L, r_R, r_V, ii_add, ii_sub, ii_mul, ii_neg, bz_0, bz_1, Bool.true_and, Bool.false_and, Bool.and_true, z00, z11, li_0, li_1, li_2, li_3, li_4, gI_0_7, gI_0_8, gI_13_1, gI_1_5, gI_7_3, gR_0_0, gR_0_1, gR_0_4, ii_eq, p0]
  · rw [if_neg q0]
    by_cases q1 : x = 1
    · rw [if_pos q1]
      simp (disch := omega) only [qB_s, qC_t, qC_f, qI_T, qI_F, qI_t, qI_f, r_I, r_L, r_R, r_V, ii_add, ii_sub, ii_mul, ii_neg, bz_0, bz_1, Bool.true_and, Bool.false_and, Bool.and_true, z00, z11, li_0, li_1, li_2, li_3, li_4, gI_0_7, gI_0_8, gI_13_1, gI_1_5, gI_7_3, gR_0_0, gR_0_1, gR_0_4, ii_eq, p1]
    · rw [if_neg q1]
      by_cases q2 : x = 2
      · rw [if_pos q2]
        simp (disch := omega) only [qB_s, qC_t, qC_f, qI_T, qI_F, qI_t, qI_f, r_I, r_L, r_R, r_V, ii_add, ii_sub, ii_mul, ii_neg, bz_0, bz_1, Bool.true_and, Bool.false_and, Bool.and_true, z00, z11, li_0, li_1, li_2, li_3, li_4, gI_0_7, gI_0_8, gI_13_1, gI_1_5, gI_7_3, gR_0_0, gR_0_1, gR_0_4, ii_eq, p2]
      · rw [if_neg q2]
        by_cases q3 : x = 3
        · rw [if_pos q3]
          simp (disch := omega) only [qB_s, qC_t, qC_f, qI_T, qI_F, qI_t, qI_f, r_I, r_L, r_R, r_V, ii_add, ii_sub, ii_mul, ii_neg, bz_0, bz_1, Bool.true_and, Bool.false_and, Bool.and_true, z00, z11, li_0, li_1, li_2, li_3, li_4, gI_0_7, gI_0_8, gI_13_1, gI_1_5, gI_7_3, gR_0_0, gR_0_1, gR_0_4, ii_eq, p3]
        · rw [if_neg q3]
          by_cases q4 : x = 4
          · rw [if_pos q4]
            simp (disch := omega) only [qB_s, qC_t, qC_f, qI_T, qI_F, qI_t, qI_f, r_I, r_L, r_R, r_V, ii_add, ii_sub, ii_mul, ii_neg, bz_0, bz_1, Bool.true_and, Bool.false_and, Bool.and_true, z00, z11, li_0, li_1, li_2, li_3, li_4, gI_0_7, gI_0_8, gI_13_1, gI_1_5, gI_7_3, gR_0_0, gR_0_1, gR_0_4, ii_eq, p4]
          · rw [if_neg q4]
            simp (disch := omega) only [qB_s, qC_t, qC_f, qI_T, qI_F, qI_t, qI_f, r_I, r_L, r_R, r_V, ii_add, ii_sub, ii_mul, ii_neg, bz_0, bz_1, Bool.true_and, Bool.false_and, Bool.and_true, z00, z11, li_0, li_1, li_2, li_3, li_4, gI_0_7, gI_0_8, gI_13_1, gI_1_5, gI_7_3, gR_0_0, gR_0_1, gR_0_4, ii_eq]
theorem y_286 (hM : RM w A) {x : Int} (hx1 : -2147483648 ≤ x) (hx2 : x ≤ 2147483647) : am_F sc 286 [am_R (some 47), am_I (ii x)] (wst w) = some (some (am_I (ii (ctA A x))), wst w) := by
  have p0 := hM.1.1
  have p1 := hM.2.1.1
  have p2 := hM.2.2.2.1.1
  have p3 := hM.2.2.2.2.1.1
  have p4 := hM.2.2.1.1
  rw [fq_286]
  unfold ctA
  by_cases q0 : x = 0
  · rw [if_pos q0]
    simp (disch := omega) only [qB_s, qC_t, qC_f, qI_T, qI_F, qI_t, qI_f, r_I, r_L, r_R, r_V, ii_add, ii_sub, ii_mul, ii_neg, bz_0, bz_1, Bool.true_and, Bool.false_and, Bool.and_true, z00, z11, li_0, li_1, li_2, li_3, li_4, gI_47_0, gI_47_2, gI_47_5, gI_47_8, gI_47_9, ii_eq, p0]
  · rw [if_neg q0]
    by_cases q1 : x = 1
    · rw [if_pos q1]
      simp (disch := omega) only [qB_s, qC_t, qC_f, qI_T, qI_F, qI_t, qI_f, r_I, r_L, r_R, r_V, ii_add, ii_sub, ii_mul, ii_neg, bz_0, bz_1, Bool.true_and, Bool.false_and, Bool.and_true, z00, z11, li_0, li_1, li_2, li_3, li_4, gI_47_0, gI_47_2, gI_47_5, gI_47_8, gI_47_9, ii_eq, p1]
    · rw [if_neg q1]
      by_cases q2 : x = 2
      · rw [if_pos q2]
        simp (disch := omega) only [qB_s, qC_t, qC_f, qI_T, qI_F, qI_t, qI_f, r_I, r_L, r_R, r_V, ii_add, ii_sub, ii_mul, ii_neg, bz_0, bz_1, Bool.true_and, Bool.false_and, Bool.and_true, z00, z11, li_0, li_1, li_2, li_3, li_4, gI_47_0, gI_47_2, gI_47_5, gI_47_8, gI_47_9, ii_eq, p2]
      · rw [if_neg q2]
        by_cases q3 : x = 3
        · rw [if_pos q3]
          simp (disch := omega) only [qB_s, qC_t, qC_f, qI_T, qI_F, qI_t, qI_f, r_I, r_L, r_R, r_V, ii_add, ii_sub, ii_mul, ii_neg, bz_0, bz_1, Bool.true_and, Bool.false_and, Bool.and_true, z00, z11, li_0, li_1, li_2, li_3, li_4, gI_47_0, gI_47_2, gI_47_5, gI_47_8, gI_47_9, ii_eq, p3]
        · rw [if_neg q3]
          by_cases q4 : x = 4
          · rw [if_pos q4]
            simp (disch := omega) only [qB_s, qC_t, qC_f, qI_T, qI_F, qI_t, qI_f, r_I, r_L, r_R, r_V, ii_add, ii_sub, ii_mul, ii_neg, bz_0, bz_1, Bool.true_and, Bool.false_and, Bool.and_true, z00, z11, li_0, li_1, li_2, li_3, li_4, gI_47_0, gI_47_2, gI_47_5, gI_47_8, gI_47_9, ii_eq, p4]
          · rw [if_neg q4]
            simp (disch := omega) only [qB_s, qC_t, qC_f, qI_T, qI_F, qI_t, qI_f, r_I, r_L, r_R, r_V, ii_add, ii_sub, ii_mul, ii_neg, bz_0, bz_1, Bool.true_and, Bool.false_and, Bool.and_true, z00, z11, li_0, li_1, li_2, li_3, li_4, gI_47_0, gI_47_2, gI_47_5, gI_47_8, gI_47_9, ii_eq]
-- feed
def sFd : List Nat := [1301, 1499]
theorem c32s {t : Int → Int} (h : TS w n t) (hn0 : 0 ≤ n) (hn : n + 1 ≤ 400) {x m b : Int} (hm : 0 ≤ m ∧ m ≤ 24) (hs : ((ii x).toUInt32 >>> ((ii m).toUInt32 &&& Int32.toUInt32 31)).toInt32 &&& ii 255 = ii b) : ∃ u, am_W sc 32 (3, [some (am_R (some 13)), some (am_I (ii x)), some (am_I (ii m))], [], wst w) = am_W sc 32 (3, [some (am_R (some 13)), some (am_I (ii x)), some (am_I (ii (m + -8)))], [], wst u) ∧ fr sFd w u ∧ TS u (n + 1) (fu t n b) := by
  obtain ⟨h1, h2⟩ := h
  refine ⟨uI (uA w 14 (fu (wA w 14) n b)) 13 1 (n + 1), ?_, fr_uI (fr_uA (fr_r _ _) rfl) rfl, rI _ _ _ _, fun i i0 i1 => ?_⟩
  · rw [wq_32_3]
    simp (disch := omega) only [qB_s, qC_t, qC_f, qI_T, qI_F, qI_t, qI_f, r_I, r_L, r_R, r_V, ii_add, ii_sub, ii_mul, ii_neg, bz_0, bz_1, Bool.true_and, Bool.false_and, Bool.and_true, z00, z11, li_0, li_1, li_24, li_255, li_400, li_8, gI_13_1, gR_13_0, pI_13_1, t_14, ii_lt, h1, hs, uA_I]
  · show fu (wA w 14) n b i = fu t n b i
    rw [fu_at, fu_at]
    split
    · rfl
    · exact h2 i i0 (by omega)
theorem c32 {t : Int → Int} (h : TS w n t) (hn0 : 0 ≤ n) (hn : n + 4 ≤ 400) {x : Int} : ∃ u, am_F sc 32 [am_R (some 13), am_I (ii x)] (wst w) = some (none, wst u) ∧ fr sFd w u ∧ TS u (n + 1 + 1 + 1 + 1) (fd4 t n x) := by
  obtain ⟨u1, e1, f1, t1⟩ := c32s (sc := sc) h hn0 (by omega) (m := 24) (by omega) (shu (x := x) (s := 24) (m := 24) (by decide +kernel) (by decide))
  obtain ⟨u2, e2, f2, t2⟩ := c32s (sc := sc) t1 (by omega) (by omega) (m := 16) (by omega) (shu (x := x) (s := 16) (m := 16) (by decide +kernel) (by decide))
  obtain ⟨u3, e3, f3, t3⟩ := c32s (sc := sc) t2 (by omega) (by omega) (m := 8) (by omega) (shu (x := x) (s := 8) (m := 8) (by decide +kernel) (by decide))
  obtain ⟨u4, e4, f4, t4⟩ := c32s (sc := sc) t3 (by omega) (by omega) (m := 0) (by omega) (shu (x := x) (s := 0) (m := 0) (by decide +kernel) (by decide))
  refine ⟨u4, ?_, fr_t f1 (fr_t f2 (fr_t f3 f4)), t4⟩
  rw [show (24 : Int) + -8 = 16 from rfl] at e1
  rw [show (16 : Int) + -8 = 8 from rfl] at e2
  rw [show (8 : Int) + -8 = 0 from rfl] at e3
  rw [show (0 : Int) + -8 = -8 from rfl] at e4
  rw [fq_32, li_24, e1, e2, e3, e4, wq_32_3]
  simp (disch := omega) only [qB_s, qC_t, qC_f, qI_T, qI_F, qI_t, qI_f, r_I, r_L, r_R, r_V, ii_add, ii_sub, ii_mul, ii_neg, bz_0, bz_1, Bool.true_and, Bool.false_and, Bool.and_true, z00, z11, li_0, li_1, li_24, li_255, li_400, li_8, gI_13_1, gR_13_0, pI_13_1, t_14, ii_lt]
theorem TS_as {t : Int → Int} {a b : Int} (h : TS w a t) (e : a = b) : TS w b t := by rw [← e]; exact h
theorem x_33 (hC : RC ow w A) (hA : okA A) (h : fdOk A) {x1 x2 x3 x4 x5 : Int} : ∃ u, am_F sc 33 [am_R (some 0), am_I (ii x1), am_I (ii x2), am_I (ii x3), am_I (ii x4), am_I (ii x5)] (wst w) = some (some (am_I (ii (A.2.1.1 + 20))), wst u) ∧ fr sFd w u ∧ RC ow u (fdA A x1 x2 x3 x4 x5) := by
  have h : A.2.1.1 ≤ 380 := h
  have hn0 := hA.2.1.1
  obtain ⟨h1, h2, h3, h4, h5, h6, h7, h8⟩ := hC
  obtain ⟨u1, e1, f1, t1⟩ := c32 (sc := sc) h4 hn0 (by omega) (x := x1)
  obtain ⟨u2, e2, f2, t2⟩ := c32 (sc := sc) (TS_as t1 (b := A.2.1.1 + 4) (by omega)) (by omega) (by omega) (x := x2)
  obtain ⟨u3, e3, f3, t3⟩ := c32 (sc := sc) (TS_as t2 (b := A.2.1.1 + 8) (by omega)) (by omega) (by omega) (x := x3)
  obtain ⟨u4, e4, f4, t4⟩ := c32 (sc := sc) (TS_as t3 (b := A.2.1.1 + 12) (by omega)) (by omega) (by omega) (x := x4)
  obtain ⟨u5, e5, f5, t5⟩ := c32 (sc := sc) (TS_as t4 (b := A.2.1.1 + 16) (by omega)) (by omega) (by omega) (x := x5)
  have f : fr sFd w u5 := fr_t f1 (fr_t f2 (fr_t f3 (fr_t f4 f5)))
  have hs := h4.1
  have hs5 : wI u5 13 1 = A.2.1.1 + 20 := by rw [t5.1]; omega
  refine ⟨u5, ?_, f, CS_g h1 f rfl, LTS_g h2 f rfl, BS_g h3 f rfl, TS_as t5 (by show A.2.1.1 + 16 + 1 + 1 + 1 + 1 = A.2.1.1 + 20; omega), VS_g h5 f rfl rfl, RS_g h6 f rfl rfl, IS_fr h7 f rfl, by rw [fr_n f]; exact h8⟩
  rw [fq_33]
  simp (disch := omega) only [qB_s, qC_t, qC_f, qI_T, qI_F, qI_t, qI_f, r_I, r_L, r_R, r_V, ii_add, ii_sub, ii_mul, ii_neg, bz_0, bz_1, Bool.true_and, Bool.false_and, Bool.and_true, z00, z11, li_0, li_1, li_380, gI_13_1, gR_0_4, is_13, hs, ii_lt, e1, e2, e3, e4, e5, hs5]
theorem x_33n (hC : RC ow w A) (hA : okA A) (h : ¬ fdOk A) {x1 x2 x3 x4 x5 : Int} : am_F sc 33 [am_R (some 0), am_I (ii x1), am_I (ii x2), am_I (ii x3), am_I (ii x4), am_I (ii x5)] (wst w) = some (some (am_I (ii (-1))), wst w) := by
  have h : ¬ A.2.1.1 ≤ 380 := h
  have hn0 := hA.2.1.2.1
  have hs := hC.2.2.2.1.1
  rw [fq_33]
  simp (disch := omega) only [qB_s, qC_t, qC_f, qI_T, qI_F, qI_t, qI_f, r_I, r_L, r_R, r_V, ii_add, ii_sub, ii_mul, ii_neg, bz_0, bz_1, Bool.true_and, Bool.false_and, Bool.and_true, z00, z11, li_0, li_1, li_380, gI_13_1, gR_0_4, is_13, hs, ii_lt]
def sFm : List Nat := [4705, 5099]
theorem bm_ran (y : Int) : -128 ≤ y.bmod 256 ∧ y.bmod 256 ≤ 127 := by
  have := Int.bmod_lt (x := y) (m := 256) (by decide)
  have := Int.le_bmod (x := y) (m := 256) (by decide)
  omega
theorem d34s {t : Int → Int} (h : MT w n t) (hn0 : 0 ≤ n) (hn : n + 1 ≤ 400) {x m b : Int} (hm : 0 ≤ m ∧ m ≤ 24) (hs : (ii x >>> (ii m &&& ii 31)).toInt8.toInt32 = ii (b.bmod 256)) : ∃ u, am_W sc 34 (3, [some (am_R (some 47)), some (am_I (ii x)), some (am_I (ii m))], [], wst w) = am_W sc 34 (3, [some (am_R (some 47)), some (am_I (ii x)), some (am_I (ii (m + -8)))], [], wst u) ∧ fr sFm w u ∧ MT u (n + 1) (fu t n b) := by
  obtain ⟨h1, h2⟩ := h
  have hb := bm_ran b
  obtain ⟨c, hc⟩ : ∃ c, c = b.bmod 256 := ⟨_, rfl⟩
  rw [← hc] at hs hb
  refine ⟨uI (uA w 50 (fu (wA w 50) n c)) 47 5 (n + 1), ?_, fr_uI (fr_uA (fr_r _ _) rfl) rfl, rI _ _ _ _, fun i i0 i1 => ?_⟩
  · rw [wq_34_3]
    simp (disch := omega) only [qB_s, qC_t, qC_f, qI_T, qI_F, qI_t, qI_f, r_I, r_L, r_R, r_V, ii_add, ii_sub, ii_mul, ii_neg, bz_0, bz_1, Bool.true_and, Bool.false_and, Bool.and_true, z00, z11, li_0, li_1, li_24, li_31, li_8, gI_47_5, gR_47_4, pI_47_5, t_50, ii_lt, h1, hs, uA_I]
  · show fu (wA w 50) n c i = (fu t n b i).bmod 256
    rw [fu_at, fu_at]
    split
    · exact hc
    · exact h2 i i0 (by omega)
theorem d34 {t : Int → Int} (h : MT w n t) (hn0 : 0 ≤ n) (hn : n + 4 ≤ 400) {x : Int} (hx1 : -2147483648 ≤ x) (hx2 : x ≤ 2147483647) : ∃ u, am_F sc 34 [am_R (some 47), am_I (ii x)] (wst w) = some (none, wst u) ∧ fr sFm w u ∧ MT u (n + 1 + 1 + 1 + 1) (fd4 t n x) := by
  obtain ⟨u1, e1, f1, t1⟩ := d34s (sc := sc) h hn0 (by omega) (m := 24) (by omega) (shs hx1 hx2 (s := 24) (m := 24) (by decide +kernel) (by decide))
  obtain ⟨u2, e2, f2, t2⟩ := d34s (sc := sc) t1 (by omega) (by omega) (m := 16) (by omega) (shs hx1 hx2 (s := 16) (m := 16) (by decide +kernel) (by decide))
  obtain ⟨u3, e3, f3, t3⟩ := d34s (sc := sc) t2 (by omega) (by omega) (m := 8) (by omega) (shs hx1 hx2 (s := 8) (m := 8) (by decide +kernel) (by decide))
  obtain ⟨u4, e4, f4, t4⟩ := d34s (sc := sc) t3 (by omega) (by omega) (m := 0) (by omega) (shs hx1 hx2 (s := 0) (m := 0) (by decide +kernel) (by decide))
  refine ⟨u4, ?_, fr_t f1 (fr_t f2 (fr_t f3 f4)), t4⟩
  rw [show (24 : Int) + -8 = 16 from rfl] at e1
  rw [show (16 : Int) + -8 = 8 from rfl] at e2
  rw [show (8 : Int) + -8 = 0 from rfl] at e3
  rw [show (0 : Int) + -8 = -8 from rfl] at e4
  rw [fq_34, li_24, e1, e2, e3, e4, wq_34_3]
  simp (disch := omega) only [qB_s, qC_t, qC_f, qI_T, qI_F, qI_t, qI_f, r_I, r_L, r_R, r_V, ii_add, ii_sub, ii_mul, ii_neg, bz_0, bz_1, Bool.true_and, Bool.false_and, Bool.and_true, z00, z11, li_0, li_1, li_24, li_31, li_8, gI_47_5, gR_47_4, pI_47_5, t_50, ii_lt]
theorem MT_as {t : Int → Int} {a b : Int} (h : MT w a t) (e : a = b) : MT w b t := by rw [← e]; exact h
theorem y_35 (hM : RM w A) (hA : okA A) (h : fdOk A) {x1 x2 x3 x4 x5 : Int} (hx11 : -2147483648 ≤ x1) (hx12 : x1 ≤ 2147483647) (hx21 : -2147483648 ≤ x2) (hx22 : x2 ≤ 2147483647) (hx31 : -2147483648 ≤ x3) (hx32 : x3 ≤ 2147483647) (hx41 : -2147483648 ≤ x4) (hx42 : x4 ≤ 2147483647) (hx51 : -2147483648 ≤ x5) (hx52 : x5 ≤ 2147483647) : ∃ u, am_F sc 35 [am_R (some 47), am_I (ii x1), am_I (ii x2), am_I (ii x3), am_I (ii x4), am_I (ii x5)] (wst w) = some (some (am_I (ii (A.2.1.1 + 20))), wst u) ∧ fr sFm w u ∧ RM u (fdA A x1 x2 x3 x4 x5) := by
  have h : A.2.1.1 ≤ 380 := h
  have hn0 := hA.2.1.1
  obtain ⟨h1, h2, h3, h4, h5, h6⟩ := hM
  obtain ⟨u1, e1, f1, t1⟩ := d34 (sc := sc) h3 hn0 (by omega) hx11 hx12
  obtain ⟨u2, e2, f2, t2⟩ := d34 (sc := sc) (MT_as t1 (b := A.2.1.1 + 4) (by omega)) (by omega) (by omega) hx21 hx22
  obtain ⟨u3, e3, f3, t3⟩ := d34 (sc := sc) (MT_as t2 (b := A.2.1.1 + 8) (by omega)) (by omega) (by omega) hx31 hx32
  obtain ⟨u4, e4, f4, t4⟩ := d34 (sc := sc) (MT_as t3 (b := A.2.1.1 + 12) (by omega)) (by omega) (by omega) hx41 hx42
  obtain ⟨u5, e5, f5, t5⟩ := d34 (sc := sc) (MT_as t4 (b := A.2.1.1 + 16) (by omega)) (by omega) (by omega) hx51 hx52
  have f : fr sFm w u5 := fr_t f1 (fr_t f2 (fr_t f3 (fr_t f4 f5)))
  have hs := h3.1
  have hs5 : wI u5 47 5 = A.2.1.1 + 20 := by rw [t5.1]; omega
  refine ⟨u5, ?_, f, MS_g h1 f rfl, ML_g h2 f rfl, MT_as t5 (by show A.2.1.1 + 16 + 1 + 1 + 1 + 1 = A.2.1.1 + 20; omega), MV_g h4 f rfl, MR_g h5 f rfl, MI_g h6 f rfl⟩
  rw [fq_35]
  simp (disch := omega) only [qB_s, qC_t, qC_f, qI_T, qI_F, qI_t, qI_f, r_I, r_L, r_R, r_V, ii_add, ii_sub, ii_mul, ii_neg, bz_0, bz_1, Bool.true_and, Bool.false_and, Bool.and_true, z00, z11, li_0, li_1, li_20, li_400, gI_47_5, is_47, hs, ii_lt, e1, e2, e3, e4, e5, hs5]
theorem y_35n (hM : RM w A) (hA : okA A) (h : ¬ fdOk A) {x1 x2 x3 x4 x5 : Int} : am_F sc 35 [am_R (some 47), am_I (ii x1), am_I (ii x2), am_I (ii x3), am_I (ii x4), am_I (ii x5)] (wst w) = some (some (am_I (ii (-1))), wst w) := by
  have h : ¬ A.2.1.1 ≤ 380 := h
  have hn0 := hA.2.1.2.1
  have hs := hM.2.2.1.1
  rw [fq_35]
  simp (disch := omega) only [qB_s, qC_t, qC_f, qI_T, qI_F, qI_t, qI_f, r_I, r_L, r_R, r_V, ii_add, ii_sub, ii_mul, ii_neg, bz_0, bz_1, Bool.true_and, Bool.false_and, Bool.and_true, z00, z11, li_0, li_1, li_20, li_400, gI_47_5, is_47, hs, ii_lt]
theorem x_30 (hC : RC ow w A) (hA : okA A) {k x : Int} (hk1 : -2147483648 ≤ k) (hk2 : k ≤ 2147483647) (hx1 : -2147483648 ≤ x) (hx2 : x ≤ 2147483647) : ∃ u, am_F sc 30 [am_R (some 0), am_I (ii k), am_I (ii x)] (wst w) = some (some (am_I (ii (if (0 ≤ k ∧ k < A.1.1) ∧ (0 ≤ x ∧ x ≤ 9) then aG A k x else -2))), wst u) ∧ fr scC w u := by
  have hn8 := hA.2.2.1.2.1
  have hn0 := hA.2.2.1.1
  by_cases q1 : 0 ≤ k ∧ k < A.1.1
  · skip
    by_cases q2 : 0 ≤ x ∧ x ≤ 9
    · skip
      rw [if_pos (by omega)]
      have h19 := c19 (sc := sc) hC.1 (k := k) hk1 hk2
      have hC1 : CS w (aN A) (aG A) := hC.1
      have p0 := c26 (sc := sc) hC1 q1.1 q1.2
      have p1 := c27 (sc := sc) hC1 q1.1 q1.2
      have p2 := c28 (sc := sc) hC1 q1.1 q1.2
      have p3 := c29 (sc := sc) hC1 q1.1 q1.2
      simp only [Int.reduceSub] at p0 p1 p2 p3
      refine ⟨w, ?_, fr_r _ _⟩
      rw [fq_30]
      by_cases z0 : x = 0
      · rw [z0]
        simp (disch := omega) only [qB_s, qC_t, qC_f, qI_T, qI_F, qI_t, qI_f, r_I, r_L, r_R, r_V, ii_add, ii_sub, ii_mul, ii_neg, bz_0, bz_1, Bool.true_and, Bool.false_and, Bool.and_true, z00, z11, li_0, li_1, li_2, li_3, li_4, gR_0_0, is_1, h19, ii_eq, p0]
      · by_cases z1 : x = 1
        · rw [z1]
          simp (disch := omega) only [qB_s, qC_t, qC_f, qI_T, qI_F, qI_t, qI_f, r_I, r_L, r_R, r_V, ii_add, ii_sub, ii_mul, ii_neg, bz_0, bz_1, Bool.true_and, Bool.false_and, Bool.and_true, z00, z11, li_0, li_1, li_2, li_3, li_4, gR_0_0, is_1, h19, ii_eq, p1]
        · by_cases z2 : x = 2
          · rw [z2]
            simp (disch := omega) only [qB_s, qC_t, qC_f, qI_T, qI_F, qI_t, qI_f, r_I, r_L, r_R, r_V, ii_add, ii_sub, ii_mul, ii_neg, bz_0, bz_1, Bool.true_and, Bool.false_and, Bool.and_true, z00, z11, li_0, li_1, li_2, li_3, li_4, gR_0_0, is_1, h19, ii_eq, p2]
          · by_cases z3 : x = 3
            · rw [z3]
              simp (disch := omega) only [qB_s, qC_t, qC_f, qI_T, qI_F, qI_t, qI_f, r_I, r_L, r_R, r_V, ii_add, ii_sub, ii_mul, ii_neg, bz_0, bz_1, Bool.true_and, Bool.false_and, Bool.and_true, z00, z11, li_0, li_1, li_2, li_3, li_4, gR_0_0, is_1, h19, ii_eq, p3]
            · have p4 := s20 (sc := sc) (w := w) (x := x - 4) (by omega) (by omega)
              have p5 := c21 (sc := sc) hC1 q1.1 q1.2 (m := x - 4) (by omega) (by omega)
              rw [show 4 + (x - 4) = x by omega] at p5
              simp (disch := omega) only [qB_s, qC_t, qC_f, qI_T, qI_F, qI_t, qI_f, r_I, r_L, r_R, r_V, ii_add, ii_sub, ii_mul, ii_neg, bz_0, bz_1, Bool.true_and, Bool.false_and, Bool.and_true, z00, z11, li_0, li_1, li_2, li_3, li_4, gR_0_0, is_1, h19, ii_eq, ii_lt, p4, p5]
    · rw [if_neg (by omega)]
      have h19 := c19 (sc := sc) hC.1 (k := k) hk1 hk2
      have h20 : 4 ≤ x → am_F sc 20 [am_I (ii (x - 4))] (wst w) = some (some (am_I (ii (bz (0 ≤ x - 4 ∧ x - 4 < 6)))), wst w) := fun z => s20 (sc := sc) (w := w) (x := x - 4) (by omega) (by omega)
      exact ⟨w, by
        rw [fq_30]
        by_cases zz : x < 4
        · simp (disch := omega) only [qB_s, qC_t, qC_f, qI_T, qI_F, qI_t, qI_f, r_I, r_L, r_R, r_V, ii_add, ii_sub, ii_mul, ii_neg, bz_0, bz_1, Bool.true_and, Bool.false_and, Bool.and_true, z00, z11, li_0, li_1, li_2, li_3, li_4, gR_0_0, is_1, ii_lt, ii_eq, ii_jj, jj_neg, h19, h20]
        · simp (disch := omega) only [qB_s, qC_t, qC_f, qI_T, qI_F, qI_t, qI_f, r_I, r_L, r_R, r_V, ii_add, ii_sub, ii_mul, ii_neg, bz_0, bz_1, Bool.true_and, Bool.false_and, Bool.and_true, z00, z11, li_0, li_1, li_2, li_3, li_4, gR_0_0, is_1, ii_lt, ii_eq, ii_jj, jj_neg, h19, h20], fr_r _ _⟩
  · rw [if_neg (by omega)]
    have h19 := c19 (sc := sc) hC.1 (k := k) hk1 hk2
    exact ⟨w, by
      rw [fq_30]
      simp (disch := omega) only [qB_s, qC_t, qC_f, qI_T, qI_F, qI_t, qI_f, r_I, r_L, r_R, r_V, ii_add, ii_sub, ii_mul, ii_neg, bz_0, bz_1, Bool.true_and, Bool.false_and, Bool.and_true, z00, z11, li_0, li_1, li_2, li_3, li_4, gR_0_0, is_1, ii_lt, ii_eq, ii_jj, jj_neg, h19], fr_r _ _⟩

theorem y_31 (hM : RM w A) (hA : okA A) {k x : Int} (hk1 : -2147483648 ≤ k) (hk2 : k ≤ 2147483647) (hx1 : -2147483648 ≤ x) (hx2 : x ≤ 2147483647) : ∃ u, am_F sc 31 [am_R (some 47), am_I (ii k), am_I (ii x)] (wst w) = some (some (am_I (ii (if (0 ≤ k ∧ k < A.1.1) ∧ (0 ≤ x ∧ x ≤ 9) then aG A k x else -2))), wst u) ∧ fr scM w u := by
  have hn8 := hA.2.2.1.2.1
  have hn0 := hA.2.2.1.1
  by_cases q1 : 0 ≤ k ∧ k < A.1.1
  · skip
    by_cases q2 : 0 ≤ x ∧ x ≤ 9
    · skip
      rw [if_pos (by omega)]
      have h24 := d24 (sc := sc) hM.1 (k := k) hk1 hk2
      have e := hM.1.2.2.2 k x q1.1 q1.2 (by omega) (by omega)
      refine ⟨w, ?_, fr_r _ _⟩
      rw [fq_31]
      have hn2 : A.1.1 ≤ 200 := hM.1.2.2.1
      unfold aG
      simp (disch := omega) only [qB_s, qC_t, qC_f, qI_T, qI_F, qI_t, qI_f, r_I, r_L, r_R, r_V, ii_add, ii_sub, ii_mul, ii_neg, bz_0, bz_1, Bool.true_and, Bool.false_and, Bool.and_true, z00, z11, li_0, li_10, li_2, lj_0, lj_9, e_48, gR_47_1, is_47, h24, ii_eq, ii_jj, d17, e]
    · rw [if_neg (by omega)]
      have h24 := d24 (sc := sc) hM.1 (k := k) hk1 hk2
      exact ⟨w, by
        rw [fq_31]
        simp (disch := omega) only [qB_s, qC_t, qC_f, qI_T, qI_F, qI_t, qI_f, r_I, r_L, r_R, r_V, ii_add, ii_sub, ii_mul, ii_neg, bz_0, bz_1, Bool.true_and, Bool.false_and, Bool.and_true, z00, z11, li_0, li_10, li_2, lj_0, lj_9, e_48, gR_47_1, is_47, ii_lt, ii_eq, ii_jj, jj_neg, h24, d17], fr_r _ _⟩
  · rw [if_neg (by omega)]
    have h24 := d24 (sc := sc) hM.1 (k := k) hk1 hk2
    exact ⟨w, by
      rw [fq_31]
      simp (disch := omega) only [qB_s, qC_t, qC_f, qI_T, qI_F, qI_t, qI_f, r_I, r_L, r_R, r_V, ii_add, ii_sub, ii_mul, ii_neg, bz_0, bz_1, Bool.true_and, Bool.false_and, Bool.and_true, z00, z11, li_0, li_10, li_2, lj_0, lj_9, e_48, gR_47_1, is_47, ii_lt, ii_eq, ii_jj, jj_neg, h24], fr_r _ _⟩

end L48
