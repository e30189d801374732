/-! LETTERS -/
/-- of the first k letters, by an office or all: how many; of which one alone was answered; that of trait 0 alone -/
def lS0 (t : Int → Int → Int) (o : Int) (k : Nat) : Int := sm (fun i => bz (o = -1 ∨ t i 0 = o)) k
def lS1 (t : Int → Int → Int) (o : Int) (k : Nat) : Int := sm (fun i => bz ((o = -1 ∨ t i 0 = o) ∧ t i 1 ≠ t i 2)) k
def lS2 (t : Int → Int → Int) (o : Int) (k : Nat) : Int := sm (fun i => bz ((o = -1 ∨ t i 0 = o) ∧ t i 1 = 1 ∧ t i 2 = 0)) k
theorem lS_le (t : Int → Int → Int) (o : Int) (k : Nat) : lS2 t o k ≤ lS1 t o k := sm_le fun i _ => by
  unfold bz
  split
  · rename_i h
    rw [if_pos ⟨h.1, by omega⟩]
    omega
  · split <;> omega
def okL (n : Int) (t : Int → Int → Int) : Prop := 0 ≤ n ∧ n ≤ 200 ∧ ∀ k, 0 ≤ k → k < n → (0 ≤ t k 0 ∧ t k 0 ≤ 7) ∧ (t k 1 = 0 ∨ t k 1 = 1) ∧ (t k 2 = 0 ∨ t k 2 = 1)
def aT (A : ab) : Int → Int → Int := A.1.2.2.2
def aK (A : ab) : Nat := A.1.2.2.1.toNat
theorem okL_of {A : ab} (hA : okA A) : okL A.1.2.2.1 A.1.2.2.2 := hA.1.2.2.2
section L23
variable {sc : am_X} {w : wo} {A : ab} {ow : Nat → Nat} {n : Int} {t : Int → Int → Int}
theorem c184 (hL : LTS w n t) (hn : okL n t) {o : Int} (ho : -1 ≤ o ∧ o ≤ 7) : am_F sc 184 [am_R (some 7), am_I (ii o)] (wst w) = some (some (am_I (ii (lS0 t o n.toNat))), wst w) := by
  obtain ⟨hs, hv⟩ := hL
  obtain ⟨n0, n1, hr⟩ := hn
  have e := lp_0 (am_W sc 184) (fun k : Nat => (4, [some (am_R (some 7)), some (am_I (ii o)), some (am_I (ii (lS0 t o k))), some (am_I (ii k))], [], wst w)) n.toNat (fun k hk => by
    obtain ⟨e0, e1, e2⟩ := hv k (by omega) (by omega)
    obtain ⟨r0, r1, r2⟩ := hr k (by omega) (by omega)
    have hsum : lS0 t o (k + 1) = lS0 t o k + bz (o = -1 ∨ t k 0 = o) := rfl
    have hra : 0 ≤ lS0 t o k ∧ lS0 t o k ≤ k := sm_bz k
    rw [wq_184_4, hsum]
    by_cases q : o = -1
    · skip
      rw [bz_t (by omega)]
      simp (disch := omega) only [qB_s, qC_t, qC_f, qI_T, qI_F, qI_t, qI_f, r_I, r_L, r_R, r_V, ii_add, ii_sub, ii_mul, ii_neg, bz_0, bz_1, Bool.true_and, Bool.false_and, Bool.and_true, z00, z11, li_0, li_1, li_200, e_8, gI_7_3, gR_7_0, hs, ii_lt, ii_eq, e0, e1, e2, nat_1]
    · by_cases q2 : t k 0 = o
      · skip
        rw [bz_t (by omega)]
        simp (disch := omega) only [qB_s, qC_t, qC_f, qI_T, qI_F, qI_t, qI_f, r_I, r_L, r_R, r_V, ii_add, ii_sub, ii_mul, ii_neg, bz_0, bz_1, Bool.true_and, Bool.false_and, Bool.and_true, z00, z11, li_0, li_1, li_200, e_8, gI_7_3, gR_7_0, hs, ii_lt, ii_eq, e0, e1, e2, nat_1]
      · skip
        rw [bz_f (by omega)]
        simp (disch := omega) only [qB_s, qC_t, qC_f, qI_T, qI_F, qI_t, qI_f, r_I, r_L, r_R, r_V, ii_add, ii_sub, ii_mul, ii_neg, bz_0, bz_1, Bool.true_and, Bool.false_and, Bool.and_true, z00, z11, li_0, li_1, li_200, e_8, gI_7_3, gR_7_0, hs, ii_lt, ii_eq, e0, e1, e2, nat_1, Int.add_zero])
  have hra : 0 ≤ lS0 t o n.toNat ∧ lS0 t o n.toNat ≤ n.toNat := sm_bz n.toNat
  rw [fq_184]
  have e' : am_W sc 184 (4, [some (am_R (some 7)), some (am_I (ii o)), some (am_I (ii 0)), some (am_I (ii 0))], [], wst w) = _ := e
  rw [li_0, e', wq_184_4]
  simp (disch := omega) only [qB_s, qC_t, qC_f, qI_T, qI_F, qI_t, qI_f, r_I, r_L, r_R, r_V, ii_add, ii_sub, ii_mul, ii_neg, bz_0, bz_1, Bool.true_and, Bool.false_and, Bool.and_true, z00, z11, li_0, li_1, li_200, e_8, gI_7_3, gR_7_0, hs, ii_lt]
theorem c185 (hL : LTS w n t) (hn : okL n t) {o : Int} (ho : -1 ≤ o ∧ o ≤ 7) : am_F sc 185 [am_R (some 7), am_I (ii o)] (wst w) = some (some (am_I (ii (lS1 t o n.toNat))), wst w) := by
  obtain ⟨hs, hv⟩ := hL
  obtain ⟨n0, n1, hr⟩ := hn
  have e := lp_0 (am_W sc 185) (fun k : Nat => (4, [some (am_R (some 7)), some (am_I (ii o)), some (am_I (ii (lS1 t o k))), some (am_I (ii k))], [], wst w)) n.toNat (fun k hk => by
    obtain ⟨e0, e1, e2⟩ := hv k (by omega) (by omega)
    obtain ⟨r0, r1, r2⟩ := hr k (by omega) (by omega)
    have hsum : lS1 t o (k + 1) = lS1 t o k + bz ((o = -1 ∨ t k 0 = o) ∧ t k 1 ≠ t k 2) := rfl
    have hra : 0 ≤ lS1 t o k ∧ lS1 t o k ≤ k := sm_bz k
    rw [wq_185_4, hsum]
    by_cases q : o = -1
    · skip
      by_cases z : t k 1 = t k 2
      · skip
        rw [bz_f (by omega)]
        simp (disch := omega) only [qB_s, qC_t, qC_f, qI_T, qI_F, qI_t, qI_f, r_I, r_L, r_R, r_V, ii_add, ii_sub, ii_mul, ii_neg, bz_0, bz_1, Bool.true_and, Bool.false_and, Bool.and_true, z00, z11, li_0, li_1, li_200, e_10, e_8, e_9, gI_7_3, gR_7_0, gR_7_1, gR_7_2, hs, ii_lt, ii_eq, e0, e1, e2, nat_1, Int.add_zero]
      · skip
        rw [bz_t (by omega)]
        simp (disch := omega) only [qB_s, qC_t, qC_f, qI_T, qI_F, qI_t, qI_f, r_I, r_L, r_R, r_V, ii_add, ii_sub, ii_mul, ii_neg, bz_0, bz_1, Bool.true_and, Bool.false_and, Bool.and_true, z00, z11, li_0, li_1, li_200, e_10, e_8, e_9, gI_7_3, gR_7_0, gR_7_1, gR_7_2, hs, ii_lt, ii_eq, e0, e1, e2, nat_1]
    · by_cases q2 : t k 0 = o
      · skip
        by_cases z : t k 1 = t k 2
        · skip
          rw [bz_f (by omega)]
          simp (disch := omega) only [qB_s, qC_t, qC_f, qI_T, qI_F, qI_t, qI_f, r_I, r_L, r_R, r_V, ii_add, ii_sub, ii_mul, ii_neg, bz_0, bz_1, Bool.true_and, Bool.false_and, Bool.and_true, z00, z11, li_0, li_1, li_200, e_10, e_8, e_9, gI_7_3, gR_7_0, gR_7_1, gR_7_2, hs, ii_lt, ii_eq, e0, e1, e2, nat_1, Int.add_zero]
        · skip
          rw [bz_t (by omega)]
          simp (disch := omega) only [qB_s, qC_t, qC_f, qI_T, qI_F, qI_t, qI_f, r_I, r_L, r_R, r_V, ii_add, ii_sub, ii_mul, ii_neg, bz_0, bz_1, Bool.true_and, Bool.false_and, Bool.and_true, z00, z11, li_0, li_1, li_200, e_10, e_8, e_9, gI_7_3, gR_7_0, gR_7_1, gR_7_2, hs, ii_lt, ii_eq, e0, e1, e2, nat_1]
      · skip
        rw [bz_f (by omega)]
        simp (disch := omega) only [qB_s, qC_t, qC_f, qI_T, qI_F, qI_t, qI_f, r_I, r_L, r_R, r_V, ii_add, ii_sub, ii_mul, ii_neg, bz_0, bz_1, Bool.true_and, Bool.false_and, Bool.and_true, z00, z11, li_0, li_1, li_200, e_10, e_8, e_9, gI_7_3, gR_7_0, gR_7_1, gR_7_2, hs, ii_lt, ii_eq, e0, e1, e2, nat_1, Int.add_zero])
  have hra : 0 ≤ lS1 t o n.toNat ∧ lS1 t o n.toNat ≤ n.toNat := sm_bz n.toNat
  rw [fq_185]
  have e' : am_W sc 185 (4, [some (am_R (some 7)), some (am_I (ii o)), some (am_I (ii 0)), some (am_I (ii 0))], [], wst w) = _ := e
  rw [li_0, e', wq_185_4]
  simp (disch := omega) only [qB_s, qC_t, qC_f, qI_T, qI_F, qI_t, qI_f, r_I, r_L, r_R, r_V, ii_add, ii_sub, ii_mul, ii_neg, bz_0, bz_1, Bool.true_and, Bool.false_and, Bool.and_true, z00, z11, li_0, li_1, li_200, e_10, e_8, e_9, gI_7_3, gR_7_0, gR_7_1, gR_7_2, hs, ii_lt]
theorem c186 (hL : LTS w n t) (hn : okL n t) {o : Int} (ho : -1 ≤ o ∧ o ≤ 7) : am_F sc 186 [am_R (some 7), am_I (ii o)] (wst w) = some (some (am_I (ii (lS2 t o n.toNat))), wst w) := by
  obtain ⟨hs, hv⟩ := hL
  obtain ⟨n0, n1, hr⟩ := hn
  have e := lp_0 (am_W sc 186) (fun k : Nat => (4, [some (am_R (some 7)), some (am_I (ii o)), some (am_I (ii (lS2 t o k))), some (am_I (ii k))], [], wst w)) n.toNat (fun k hk => by
    obtain ⟨e0, e1, e2⟩ := hv k (by omega) (by omega)
    obtain ⟨r0, r1, r2⟩ := hr k (by omega) (by omega)
    have hsum : lS2 t o (k + 1) = lS2 t o k + bz ((o = -1 ∨ t k 0 = o) ∧ t k 1 = 1 ∧ t k 2 = 0) := rfl
    have hra : 0 ≤ lS2 t o k ∧ lS2 t o k ≤ k := sm_bz k
    rw [wq_186_4, hsum]
    by_cases q : o = -1
    · skip
      by_cases z : t k 1 = 0
      · skip
        rw [bz_f (by omega)]
        simp (disch := omega) only [qB_s, qC_t, qC_f, qI_T, qI_F, qI_t, qI_f, r_I, r_L, r_R, r_V, ii_add, ii_sub, ii_mul, ii_neg, bz_0, bz_1, Bool.true_and, Bool.false_and, Bool.and_true, z00, z11, li_0, li_1, li_200, e_10, e_8, e_9, gI_7_3, gR_7_0, gR_7_1, gR_7_2, hs, ii_lt, ii_eq, e0, e1, e2, nat_1, Int.add_zero]
      · by_cases z2 : t k 2 = 0
        · skip
          rw [bz_t (by omega)]
          simp (disch := omega) only [qB_s, qC_t, qC_f, qI_T, qI_F, qI_t, qI_f, r_I, r_L, r_R, r_V, ii_add, ii_sub, ii_mul, ii_neg, bz_0, bz_1, Bool.true_and, Bool.false_and, Bool.and_true, z00, z11, li_0, li_1, li_200, e_10, e_8, e_9, gI_7_3, gR_7_0, gR_7_1, gR_7_2, hs, ii_lt, ii_eq, e0, e1, e2, nat_1]
        · skip
          rw [bz_f (by omega)]
          simp (disch := omega) only [qB_s, qC_t, qC_f, qI_T, qI_F, qI_t, qI_f, r_I, r_L, r_R, r_V, ii_add, ii_sub, ii_mul, ii_neg, bz_0, bz_1, Bool.true_and, Bool.false_and, Bool.and_true, z00, z11, li_0, li_1, li_200, e_10, e_8, e_9, gI_7_3, gR_7_0, gR_7_1, gR_7_2, hs, ii_lt, ii_eq, e0, e1, e2, nat_1, Int.add_zero]
    · by_cases q2 : t k 0 = o
      · skip
        by_cases z : t k 1 = 0
        · skip
          rw [bz_f (by omega)]
          simp (disch := omega) only [qB_s, qC_t, qC_f, qI_T, qI_F, qI_t, qI_f, r_I, r_L, r_R, r_V, ii_add, ii_sub, ii_mul, ii_neg, bz_0, bz_1, Bool.true_and, Bool.false_and, Bool.and_true, z00, z11, li_0, li_1, li_200, e_10, e_8, e_9, gI_7_3, gR_7_0, gR_7_1, gR_7_2, hs, ii_lt, ii_eq, e0, e1, e2, nat_1, Int.add_zero]
        · by_cases z2 : t k 2 = 0
          · skip
            rw [bz_t (by omega)]
            simp (disch := omega) only [qB_s, qC_t, qC_f, qI_T, qI_F, qI_t, qI_f, r_I, r_L, r_R, r_V, ii_add, ii_sub, ii_mul, ii_neg, bz_0, bz_1, Bool.true_and, Bool.false_and, Bool.and_true, z00, z11, li_0, li_1, li_200, e_10, e_8, e_9, gI_7_3, gR_7_0, gR_7_1, gR_7_2, hs, ii_lt, ii_eq, e0, e1, e2, nat_1]
          · skip
            rw [bz_f (by omega)]
            simp (disch := omega) only [qB_s, qC_t, qC_f, qI_T, qI_F, qI_t, qI_f, r_I, r_L, r_R, r_V, ii_add, ii_sub, ii_mul, ii_neg, bz_0, bz_1, Bool.true_and, Bool.false_and, Bool.and_true, z00, z11, li_0, li_1, li_200, e_10, e_8, e_9, gI_7_3, gR_7_0, gR_7_1, gR_7_2, hs, ii_lt, ii_eq, e0, e1, e2, nat_1, Int.add_zero]
      · skip
        rw [bz_f (by omega)]
        simp (disch := omega) only [qB_s, qC_t, qC_f, qI_T, qI_F, qI_t, qI_f, r_I, r_L, r_R, r_V, ii_add, ii_sub, ii_mul, ii_neg, bz_0, bz_1, Bool.true_and, Bool.false_and, Bool.and_true, z00, z11, li_0, li_1, li_200, e_10, e_8, e_9, gI_7_3, gR_7_0, gR_7_1, gR_7_2, hs, ii_lt, ii_eq, e0, e1, e2, nat_1, Int.add_zero])
  have hra : 0 ≤ lS2 t o n.toNat ∧ lS2 t o n.toNat ≤ n.toNat := sm_bz n.toNat
  rw [fq_186]
  have e' : am_W sc 186 (4, [some (am_R (some 7)), some (am_I (ii o)), some (am_I (ii 0)), some (am_I (ii 0))], [], wst w) = _ := e
  rw [li_0, e', wq_186_4]
  simp (disch := omega) only [qB_s, qC_t, qC_f, qI_T, qI_F, qI_t, qI_f, r_I, r_L, r_R, r_V, ii_add, ii_sub, ii_mul, ii_neg, bz_0, bz_1, Bool.true_and, Bool.false_and, Bool.and_true, z00, z11, li_0, li_1, li_200, e_10, e_8, e_9, gI_7_3, gR_7_0, gR_7_1, gR_7_2, hs, ii_lt]
theorem d188 (hL : ML w n t) (hn : okL n t) {o : Int} (ho1 : -2147483648 ≤ o) (ho2 : o ≤ 2147483647) (ho : -1 ≤ o ∧ o ≤ 7) : ∃ v, am_F sc 188 [am_R (some 47), am_I (ii o)] (wst w) = some (some (am_I (ii 1)), wst v) ∧ fr [4742, 4743, 4744] w v ∧ wI v 47 42 = lS0 t o n.toNat ∧ wI v 47 43 = lS1 t o n.toNat ∧ wI v 47 44 = lS2 t o n.toNat := by
  obtain ⟨hs, hv⟩ := hL
  obtain ⟨n0, n1, hr⟩ := hn
  obtain ⟨v, e, hf, i0, i1, i2⟩ := lp_s0 (am_W sc 188) (fun (k : Nat) (v : wo) => (33, [some (am_R (some 47)), some (am_I (ii o)), some (am_I (ii k))], [], wst v)) (fun k v => fr [4742, 4743, 4744] w v ∧ wI v 47 42 = lS0 t o k ∧ wI v 47 43 = lS1 t o k ∧ wI v 47 44 = lS2 t o k) n.toNat (fun k v hk hi => by
    obtain ⟨hf, i0, i1, i2⟩ := hi
    have hsv : wI v 47 2 = n := by rw [fr_I hf rfl]; exact hs
    have hA : wA v 49 = wA w 49 := fr_A hf rfl
    have e0 := hv k 0 (by omega) (by omega) (by decide) (by decide)
    have e1 := hv k 1 (by omega) (by omega) (by decide) (by decide)
    have e2 := hv k 2 (by omega) (by omega) (by decide) (by decide)
    rw [← hA] at e0 e1 e2
    rw [Int.add_zero] at e0
    obtain ⟨r0, r1, r2⟩ := hr k (by omega) (by omega)
    have s0 : lS0 t o (k + 1) = lS0 t o k + bz (o = -1 ∨ t k 0 = o) := rfl
    have s1 : lS1 t o (k + 1) = lS1 t o k + bz ((o = -1 ∨ t k 0 = o) ∧ t k 1 ≠ t k 2) := rfl
    have s2 : lS2 t o (k + 1) = lS2 t o k + bz ((o = -1 ∨ t k 0 = o) ∧ t k 1 = 1 ∧ t k 2 = 0) := rfl
    by_cases q : o = -1 ∨ t k 0 = o
    · refine ⟨uI (uI (uI v 47 42 (lS0 t o k + 1)) 47 43 (lS1 t o k + bz ((o = -1 ∨ t k 0 = o) ∧ t k 1 ≠ t k 2))) 47 44 (lS2 t o k + bz ((o = -1 ∨ t k 0 = o) ∧ t k 1 = 1 ∧ t k 2 = 0)), ?_, fr_uI (fr_uI (fr_uI hf rfl) rfl) rfl, ?_, ?_, ?_⟩
      · rw [wq_188_33]
        by_cases z : t k 1 = t k 2
        · rw [bz_f (p := (o = -1 ∨ t k 0 = o) ∧ t k 1 ≠ t k 2) (by omega), bz_f (p := (o = -1 ∨ t k 0 = o) ∧ t k 1 = 1 ∧ t k 2 = 0) (by omega)]
          by_cases q1 : o = -1
          · simp (disch := omega) only [qB_s, qC_t, qC_f, qI_T, qI_F, qI_t, qI_f, r_I, r_L, r_R, r_V, ii_add, ii_sub, ii_mul, ii_neg, bz_0, bz_1, Bool.true_and, Bool.false_and, Bool.and_true, z00, z11, li_0, li_1, li_2, li_3, lj_1, lj_7, e_49, gI_47_2, gI_47_42, gI_47_43, gI_47_44, gR_47_3, pI_47_42, pI_47_43, pI_47_44, hsv, ii_lt, ii_eq, e0, e1, e2, i0, i1, i2, rI, rIm, uI_A, nat_1]
          · simp (disch := omega) only [qB_s, qC_t, qC_f, qI_T, qI_F, qI_t, qI_f, r_I, r_L, r_R, r_V, ii_add, ii_sub, ii_mul, ii_neg, bz_0, bz_1, Bool.true_and, Bool.false_and, Bool.and_true, z00, z11, li_0, li_1, li_2, li_3, lj_1, lj_7, e_49, gI_47_2, gI_47_42, gI_47_43, gI_47_44, gR_47_3, pI_47_42, pI_47_43, pI_47_44, hsv, ii_lt, ii_eq, e0, e1, e2, i0, i1, i2, rI, rIm, uI_A, nat_1]
        · by_cases z2 : t k 2 < t k 1
          · rw [bz_t (p := (o = -1 ∨ t k 0 = o) ∧ t k 1 ≠ t k 2) ⟨q, z⟩, bz_t (p := (o = -1 ∨ t k 0 = o) ∧ t k 1 = 1 ∧ t k 2 = 0) (by omega)]
            by_cases q1 : o = -1
            · simp (disch := omega) only [qB_s, qC_t, qC_f, qI_T, qI_F, qI_t, qI_f, r_I, r_L, r_R, r_V, ii_add, ii_sub, ii_mul, ii_neg, bz_0, bz_1, Bool.true_and, Bool.false_and, Bool.and_true, z00, z11, li_0, li_1, li_2, li_3, lj_1, lj_7, e_49, gI_47_2, gI_47_42, gI_47_43, gI_47_44, gR_47_3, pI_47_42, pI_47_43, pI_47_44, hsv, ii_lt, ii_eq, e0, e1, e2, i0, i1, i2, rI, rIm, uI_A, nat_1]
            · simp (disch := omega) only [qB_s, qC_t, qC_f, qI_T, qI_F, qI_t, qI_f, r_I, r_L, r_R, r_V, ii_add, ii_sub, ii_mul, ii_neg, bz_0, bz_1, Bool.true_and, Bool.false_and, Bool.and_true, z00, z11, li_0, li_1, li_2, li_3, lj_1, lj_7, e_49, gI_47_2, gI_47_42, gI_47_43, gI_47_44, gR_47_3, pI_47_42, pI_47_43, pI_47_44, hsv, ii_lt, ii_eq, e0, e1, e2, i0, i1, i2, rI, rIm, uI_A, nat_1]
          · rw [bz_t (p := (o = -1 ∨ t k 0 = o) ∧ t k 1 ≠ t k 2) ⟨q, z⟩, bz_f (p := (o = -1 ∨ t k 0 = o) ∧ t k 1 = 1 ∧ t k 2 = 0) (by omega)]
            by_cases q1 : o = -1
            · simp (disch := omega) only [qB_s, qC_t, qC_f, qI_T, qI_F, qI_t, qI_f, r_I, r_L, r_R, r_V, ii_add, ii_sub, ii_mul, ii_neg, bz_0, bz_1, Bool.true_and, Bool.false_and, Bool.and_true, z00, z11, li_0, li_1, li_2, li_3, lj_1, lj_7, e_49, gI_47_2, gI_47_42, gI_47_43, gI_47_44, gR_47_3, pI_47_42, pI_47_43, pI_47_44, hsv, ii_lt, ii_eq, e0, e1, e2, i0, i1, i2, rI, rIm, uI_A, nat_1]
            · simp (disch := omega) only [qB_s, qC_t, qC_f, qI_T, qI_F, qI_t, qI_f, r_I, r_L, r_R, r_V, ii_add, ii_sub, ii_mul, ii_neg, bz_0, bz_1, Bool.true_and, Bool.false_and, Bool.and_true, z00, z11, li_0, li_1, li_2, li_3, lj_1, lj_7, e_49, gI_47_2, gI_47_42, gI_47_43, gI_47_44, gR_47_3, pI_47_42, pI_47_43, pI_47_44, hsv, ii_lt, ii_eq, e0, e1, e2, i0, i1, i2, rI, rIm, uI_A, nat_1]
      · rw [rIm _ _ _ (by decide), rIm _ _ _ (by decide), rI, s0, bz_t q]
      · rw [rIm _ _ _ (by decide), rI, s1]
      · rw [rI, s2]
    · refine ⟨v, ?_, hf, ?_, ?_, ?_⟩
      · rw [wq_188_33]
        simp (disch := omega) only [qB_s, qC_t, qC_f, qI_T, qI_F, qI_t, qI_f, r_I, r_L, r_R, r_V, ii_add, ii_sub, ii_mul, ii_neg, bz_0, bz_1, Bool.true_and, Bool.false_and, Bool.and_true, z00, z11, li_0, li_1, li_2, li_3, lj_1, lj_7, e_49, gI_47_2, gI_47_42, gI_47_43, gI_47_44, gR_47_3, pI_47_42, pI_47_43, pI_47_44, hsv, ii_lt, ii_eq, e0, nat_1]
      · rw [s0, bz_f q, i0, Int.add_zero]
      · rw [s1, bz_f (fun z => q z.1), i1, Int.add_zero]
      · rw [s2, bz_f (fun z => q z.1), i2, Int.add_zero]) (uI (uI (uI w 47 42 0) 47 43 0) 47 44 0) ⟨fr_uI (fr_uI (fr_uI (fr_r _ _) rfl) rfl) rfl, by rw [rIm _ _ _ (by decide), rIm _ _ _ (by decide), rI]; rfl, by rw [rIm _ _ _ (by decide), rI]; rfl, by rw [rI]; rfl⟩
  have hsv : wI v 47 2 = n := by rw [fr_I hf rfl]; exact hs
  refine ⟨v, ?_, hf, i0, i1, i2⟩
  rw [fq_188]
  simp (disch := omega) only [qB_s, qC_t, qC_f, qI_T, qI_F, qI_t, qI_f, r_I, r_L, r_R, r_V, ii_add, ii_sub, ii_mul, ii_neg, bz_0, bz_1, Bool.true_and, Bool.false_and, Bool.and_true, z00, z11, li_0, li_1, li_2, li_3, lj_1, lj_7, e_49, gI_47_2, gI_47_42, gI_47_43, gI_47_44, gR_47_3, pI_47_42, pI_47_43, pI_47_44, ii_jj, jj_neg, d17]
  have e' : am_W sc 188 (33, [some (am_R (some 47)), some (am_I (ii o)), some (am_I (ii 0))], [], wst (uI (uI (uI w 47 42 0) 47 43 0) 47 44 0)) = _ := e
  rw [e', wq_188_33]
  simp (disch := omega) only [qB_s, qC_t, qC_f, qI_T, qI_F, qI_t, qI_f, r_I, r_L, r_R, r_V, ii_add, ii_sub, ii_mul, ii_neg, bz_0, bz_1, Bool.true_and, Bool.false_and, Bool.and_true, z00, z11, li_0, li_1, li_2, li_3, lj_1, lj_7, e_49, gI_47_2, gI_47_42, gI_47_43, gI_47_44, gR_47_3, pI_47_42, pI_47_43, pI_47_44, hsv, ii_lt]
theorem d188n {o : Int} (ho1 : -2147483648 ≤ o) (ho2 : o ≤ 2147483647) (ho : ¬ (-1 ≤ o ∧ o ≤ 7)) : am_F sc 188 [am_R (some 47), am_I (ii o)] (wst w) = some (some (am_I (ii 0)), wst w) := by
  rw [fq_188]
  simp (disch := omega) only [qB_s, qC_t, qC_f, qI_T, qI_F, qI_t, qI_f, r_I, r_L, r_R, r_V, ii_add, ii_sub, ii_mul, ii_neg, bz_0, bz_1, Bool.true_and, Bool.false_and, Bool.and_true, z00, z11, li_0, li_1, li_2, li_3, lj_1, lj_7, e_49, gI_47_2, gI_47_42, gI_47_43, gI_47_44, gR_47_3, pI_47_42, pI_47_43, pI_47_44, ii_jj, jj_neg, d17, ii_eq]
theorem x_187 (hC : RC ow w A) (hA : okA A) {o k : Int} (ho1 : -2147483648 ≤ o) (ho2 : o ≤ 2147483647) (hk1 : -2147483648 ≤ k) (hk2 : k ≤ 2147483647) : ∃ u, am_F sc 187 [am_R (some 0), am_I (ii o), am_I (ii k)] (wst w) = some (some (am_I (ii (if (-1 ≤ o ∧ o ≤ 7) ∧ (0 ≤ k ∧ k ≤ 2) then if k = 0 then lS0 (aT A) o (aK A) else if k = 1 then lS1 (aT A) o (aK A) else lS2 (aT A) o (aK A) else -1))), wst u) ∧ fr scC w u := by
  have hn8 := hA.2.2.1.2.1
  have hn0 := hA.2.2.1.1
  by_cases q1 : -1 ≤ o ∧ o ≤ 7
  · skip
    by_cases q2 : 0 ≤ k ∧ k ≤ 2
    · skip
      rw [if_pos (by omega)]
      have hL := hC.2.1
      have hn := okL_of hA
      have e0 := c184 (sc := sc) hL hn q1
      have e1 := c185 (sc := sc) hL hn q1
      have e2 := c186 (sc := sc) hL hn q1
      have hk : k = 0 ∨ k = 1 ∨ k = 2 := by omega
      refine ⟨w, ?_, fr_r _ _⟩
      rw [fq_187]
      rcases hk with hk | hk | hk
      · subst hk
        simp (disch := omega) only [qB_s, qC_t, qC_f, qI_T, qI_F, qI_t, qI_f, r_I, r_L, r_R, r_V, ii_add, ii_sub, ii_mul, ii_neg, bz_0, bz_1, Bool.true_and, Bool.false_and, Bool.and_true, z00, z11, li_0, li_1, li_2, gR_0_1, is_7, s183, ii_eq, e0, if_true]
        rfl
      · subst hk
        simp (disch := omega) only [qB_s, qC_t, qC_f, qI_T, qI_F, qI_t, qI_f, r_I, r_L, r_R, r_V, ii_add, ii_sub, ii_mul, ii_neg, bz_0, bz_1, Bool.true_and, Bool.false_and, Bool.and_true, z00, z11, li_0, li_1, li_2, gR_0_1, is_7, s183, ii_eq, e1, Int.reduceEq, if_true, if_false]
        rfl
      · subst hk
        simp (disch := omega) only [qB_s, qC_t, qC_f, qI_T, qI_F, qI_t, qI_f, r_I, r_L, r_R, r_V, ii_add, ii_sub, ii_mul, ii_neg, bz_0, bz_1, Bool.true_and, Bool.false_and, Bool.and_true, z00, z11, li_0, li_1, li_2, gR_0_1, is_7, s183, ii_eq, e2, Int.reduceEq, if_false]
        rfl
    · rw [if_neg (by omega)]
      exact ⟨w, by
        rw [fq_187]
        simp (disch := omega) only [qB_s, qC_t, qC_f, qI_T, qI_F, qI_t, qI_f, r_I, r_L, r_R, r_V, ii_add, ii_sub, ii_mul, ii_neg, bz_0, bz_1, Bool.true_and, Bool.false_and, Bool.and_true, z00, z11, li_0, li_1, li_2, gR_0_1, is_7, ii_lt, ii_eq, ii_jj, jj_neg, s183], fr_r _ _⟩
  · rw [if_neg (by omega)]
    exact ⟨w, by
      rw [fq_187]
      simp (disch := omega) only [qB_s, qC_t, qC_f, qI_T, qI_F, qI_t, qI_f, r_I, r_L, r_R, r_V, ii_add, ii_sub, ii_mul, ii_neg, bz_0, bz_1, Bool.true_and, Bool.false_and, Bool.and_true, z00, z11, li_0, li_1, li_2, gR_0_1, is_7, ii_lt, ii_eq, ii_jj, jj_neg, s183], fr_r _ _⟩

theorem y_189 (hM : RM w A) (hA : okA A) {o k : Int} (ho1 : -2147483648 ≤ o) (ho2 : o ≤ 2147483647) (hk1 : -2147483648 ≤ k) (hk2 : k ≤ 2147483647) : ∃ u, am_F sc 189 [am_R (some 47), am_I (ii o), am_I (ii k)] (wst w) = some (some (am_I (ii (if (-1 ≤ o ∧ o ≤ 7) ∧ (0 ≤ k ∧ k ≤ 2) then if k = 0 then lS0 (aT A) o (aK A) else if k = 1 then lS1 (aT A) o (aK A) else lS2 (aT A) o (aK A) else -1))), wst u) ∧ fr scM w u := by
  have hn8 := hA.2.2.1.2.1
  have hn0 := hA.2.2.1.1
  by_cases q1 : -1 ≤ o ∧ o ≤ 7
  · skip
    by_cases q2 : 0 ≤ k ∧ k ≤ 2
    · skip
      rw [if_pos (by omega)]
      obtain ⟨u, e1, f1, i0, i1, i2⟩ := d188 (sc := sc) hM.2.1 (okL_of hA) ho1 ho2 q1
      have hk : k = 0 ∨ k = 1 ∨ k = 2 := by omega
      refine ⟨u, ?_, fr_m f1 rfl⟩
      rw [fq_189]
      rcases hk with hk | hk | hk
      · subst hk
        simp (disch := omega) only [qB_s, qC_t, qC_f, qI_T, qI_F, qI_t, qI_f, r_I, r_L, r_R, r_V, ii_add, ii_sub, ii_mul, ii_neg, bz_0, bz_1, Bool.true_and, Bool.false_and, Bool.and_true, z00, z11, li_0, li_1, lj_0, lj_2, gI_47_42, gI_47_43, gI_47_44, is_47, e1, ii_eq, ii_jj, d17, i0, if_true]
        rfl
      · subst hk
        simp (disch := omega) only [qB_s, qC_t, qC_f, qI_T, qI_F, qI_t, qI_f, r_I, r_L, r_R, r_V, ii_add, ii_sub, ii_mul, ii_neg, bz_0, bz_1, Bool.true_and, Bool.false_and, Bool.and_true, z00, z11, li_0, li_1, lj_0, lj_2, gI_47_42, gI_47_43, gI_47_44, is_47, e1, ii_eq, ii_jj, d17, i1, Int.reduceEq, if_true, if_false]
        rfl
      · subst hk
        simp (disch := omega) only [qB_s, qC_t, qC_f, qI_T, qI_F, qI_t, qI_f, r_I, r_L, r_R, r_V, ii_add, ii_sub, ii_mul, ii_neg, bz_0, bz_1, Bool.true_and, Bool.false_and, Bool.and_true, z00, z11, li_0, li_1, lj_0, lj_2, gI_47_42, gI_47_43, gI_47_44, is_47, e1, ii_eq, ii_jj, d17, i2, Int.reduceEq, if_false]
        rfl
    · rw [if_neg (by omega)]
      obtain ⟨u, e1, f1, -⟩ := d188 (sc := sc) hM.2.1 (okL_of hA) ho1 ho2 q1
      exact ⟨u, by
        rw [fq_189]
        simp (disch := omega) only [qB_s, qC_t, qC_f, qI_T, qI_F, qI_t, qI_f, r_I, r_L, r_R, r_V, ii_add, ii_sub, ii_mul, ii_neg, bz_0, bz_1, Bool.true_and, Bool.false_and, Bool.and_true, z00, z11, li_0, li_1, lj_0, lj_2, gI_47_42, gI_47_43, gI_47_44, is_47, ii_lt, ii_eq, ii_jj, d17, e1], fr_m f1 rfl⟩
  · rw [if_neg (by omega)]
    exact ⟨w, by
      rw [fq_189]
      simp (disch := omega) only [qB_s, qC_t, qC_f, qI_T, qI_F, qI_t, qI_f, r_I, r_L, r_R, r_V, ii_add, ii_sub, ii_mul, ii_neg, bz_0, bz_1, Bool.true_and, Bool.false_and, Bool.and_true, z00, z11, li_0, li_1, lj_0, lj_2, gI_47_42, gI_47_43, gI_47_44, is_47, ii_lt, ii_eq, ii_jj, jj_neg, d188n], fr_r _ _⟩

end L23
