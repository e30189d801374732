/-! COIN, HIDDEN, EDGE -/
/-- ways, weighed, from h on to P -/
def hwF (P h b : Int) (i : Nat) : Int := cg P (h + i) * b ^ (h + i).toNat
def hwS (P h b : Int) : Int := sm (hwF P h b) (P + 1 - h).toNat
section L37
variable {sc : am_X} {w : wo} {A : ab} {ow : Nat → Nat} {n : Int} {g : Int → Int → Int}
theorem c190 {x k : Int} (hx1 : -2147483648 ≤ x) (hx2 : x ≤ 2147483647) (hk0 : 0 ≤ k) (hk : k ≤ 2147483647) : am_F sc 190 [am_I (ii x), am_I (ii k)] (wst w) = some (some (am_L (jj (x ^ k.toNat))), wst w) := by
  have e := lp_0 (am_W sc 190) (fun j : Nat => (5, [some (am_I (ii x)), some (am_I (ii k)), some (am_L (jj (x ^ j))), none, some (am_I (ii j))], [], wst w)) k.toNat (fun j hj => by
    rw [wq_190_5, Int.pow_succ]
    simp (disch := omega) only [qB_s, qC_t, qC_f, qI_T, qI_F, qI_t, qI_f, r_I, r_L, r_R, r_V, ii_add, ii_sub, ii_mul, ii_neg, bz_0, bz_1, Bool.true_and, Bool.false_and, Bool.and_true, z00, z11, li_0, li_1, lj_1, ii_lt, ii_jj, jj_mul, nat_1])
  rw [Int.pow_zero] at e
  have e' : am_W sc 190 (5, [some (am_I (ii x)), some (am_I (ii k)), some (am_L (jj 1)), none, some (am_I (ii 0))], [], wst w) = _ := e
  rw [fq_190, li_0, show (1 : Int64) = jj 1 from rfl, e', wq_190_5]
  simp (disch := omega) only [qB_s, qC_t, qC_f, qI_T, qI_F, qI_t, qI_f, r_I, r_L, r_R, r_V, ii_add, ii_sub, ii_mul, ii_neg, bz_0, bz_1, Bool.true_and, Bool.false_and, Bool.and_true, z00, z11, li_0, li_1, lj_1, ii_lt]
theorem c191 {P h b : Int} (hP : 0 ≤ P) (hP2 : P ≤ 1000) (hh : 0 ≤ h) (hh2 : h ≤ P) (hb1 : -2147483648 ≤ b) (hb2 : b ≤ 2147483647) : am_F sc 191 [am_I (ii P), am_I (ii h), am_I (ii b)] (wst w) = some (some (am_L (jj (hwS P h b))), wst w) := by
  have e := lp_0 (am_W sc 191) (fun j : Nat => (5, [some (am_I (ii P)), none, some (am_I (ii b)), some (am_L (jj (sm (hwF P h b) j))), none, some (am_I (ii (h + j)))], [], wst w)) (P + 1 - h).toNat (fun j hj => by
    have p1 := c138 (sc := sc) (w := w) (n := P) (k := h + j) (by omega) (by omega) (by omega) (by omega)
    have p2 := c190 (sc := sc) (w := w) (x := b) (k := h + j) hb1 hb2 (by omega) (by omega)
    rw [wq_191_5, show sm (hwF P h b) (j + 1) = sm (hwF P h b) j + cg P (h + j) * b ^ (h + j).toNat from rfl]
    rw [show h + ((j + 1 : Nat) : Int) = h + j + 1 from by omega]
    simp (disch := omega) only [qB_s, qC_t, qC_f, qI_T, qI_F, qI_t, qI_f, r_I, r_L, r_R, r_V, ii_add, ii_sub, ii_mul, ii_neg, bz_0, bz_1, Bool.true_and, Bool.false_and, Bool.and_true, z00, z11, li_0, li_1, lj_0, ii_lt, p1, p2, jj_mul, jj_add])
  have e' : am_W sc 191 (5, [some (am_I (ii P)), none, some (am_I (ii b)), some (am_L (jj 0)), none, some (am_I (ii (h + ((0 : Nat) : Int))))], [], wst w) = _ := e
  rw [show h + ((0 : Nat) : Int) = h from by omega] at e'
  rw [fq_191, show (0 : Int64) = jj 0 from rfl, e', wq_191_5]
  simp (disch := omega) only [qB_s, qC_t, qC_f, qI_T, qI_F, qI_t, qI_f, r_I, r_L, r_R, r_V, ii_add, ii_sub, ii_mul, ii_neg, bz_0, bz_1, Bool.true_and, Bool.false_and, Bool.and_true, z00, z11, li_0, li_1, lj_0, ii_lt]
  rfl
theorem d195 {x k : Int} (hk0 : 0 ≤ k) (hk : k ≤ 2147483647) : am_F sc 195 [am_L (jj x), am_I (ii k)] (wst w) = some (some (am_L (jj (x ^ k.toNat))), wst w) := by
  have e := lp_0 (am_W sc 195) (fun j : Nat => (5, [some (am_L (jj x)), none, some (am_I (ii k)), some (am_L (jj (x ^ j))), none, some (am_I (ii j))], [], wst w)) k.toNat (fun j hj => by
    rw [wq_195_5, Int.pow_succ]
    simp (disch := omega) only [qB_s, qC_t, qC_f, qI_T, qI_F, qI_t, qI_f, r_I, r_L, r_R, r_V, ii_add, ii_sub, ii_mul, ii_neg, bz_0, bz_1, Bool.true_and, Bool.false_and, Bool.and_true, z00, z11, li_0, li_1, lj_1, ii_lt, ii_jj, jj_mul, nat_1])
  rw [Int.pow_zero] at e
  have e' : am_W sc 195 (5, [some (am_L (jj x)), none, some (am_I (ii k)), some (am_L (jj 1)), none, some (am_I (ii 0))], [], wst w) = _ := e
  rw [fq_195, li_0, show (1 : Int64) = jj 1 from rfl, e', wq_195_5]
  simp (disch := omega) only [qB_s, qC_t, qC_f, qI_T, qI_F, qI_t, qI_f, r_I, r_L, r_R, r_V, ii_add, ii_sub, ii_mul, ii_neg, bz_0, bz_1, Bool.true_and, Bool.false_and, Bool.and_true, z00, z11, li_0, li_1, lj_1, ii_lt]
theorem d196 (hw : WY w) {P h b : Int} (h43 : wI w 47 43 = P) (h44 : wI w 47 44 = h) (hP : 0 ≤ P) (hP2 : P ≤ 60) (hh : 0 ≤ h) (hh2 : h ≤ P) (hb1 : -2147483648 ≤ b) (hb2 : b ≤ 2147483647) : ∃ u, am_F sc 196 [am_R (some 47), am_I (ii b)] (wst w) = some (some (am_L (jj (hwS P h b))), wst u) ∧ fr [6299] w u ∧ WY u := by
  obtain ⟨u, e, hfr, hu⟩ := lp_s0 (am_W sc 196) (fun (j : Nat) (u : wo) => (8, [some (am_R (some 47)), some (am_I (ii b)), some (am_L (jj (sm (hwF P h b) j))), none, some (am_I (ii (h + j)))], [], wst u)) (fun j u => fr [6299] w u ∧ WY u) (P + 1 - h).toNat (fun j u hj hu => by
    obtain ⟨u1, p1, f1, y1⟩ := d140 (sc := sc) hu.2 (n := P) (k := h + j) (by omega) (by omega) (by omega) (by omega)
    have p2 := d195 (sc := sc) (w := u1) (x := b) (k := h + j) (by omega) (by omega)
    have k1 : wI u 47 43 = P := by rw [fr_I hu.1 rfl]; exact h43
    refine ⟨u1, ?_, fr_t hu.1 f1, .inr y1⟩
    rw [wq_196_8, show sm (hwF P h b) (j + 1) = sm (hwF P h b) j + cg P (h + j) * b ^ (h + j).toNat from rfl]
    rw [show h + ((j + 1 : Nat) : Int) = h + j + 1 from by omega]
    simp (disch := omega) only [qB_s, qC_t, qC_f, qI_T, qI_F, qI_t, qI_f, r_I, r_L, r_R, r_V, ii_add, ii_sub, ii_mul, ii_neg, bz_0, bz_1, Bool.true_and, Bool.false_and, Bool.and_true, z00, z11, li_0, li_1, lj_0, gI_47_43, gI_47_44, is_47, ii_lt, ii_jj, k1, p1, p2, jj_mul, jj_add]) w ⟨fr_r _ _, hw⟩
  have e' : am_W sc 196 (8, [some (am_R (some 47)), some (am_I (ii b)), some (am_L (jj 0)), none, some (am_I (ii (h + ((0 : Nat) : Int))))], [], wst w) = _ := e
  rw [show h + ((0 : Nat) : Int) = h from by omega] at e'
  have k1 : wI u 47 43 = P := by rw [fr_I hfr rfl]; exact h43
  refine ⟨u, ?_, hfr, hu⟩
  rw [fq_196]
  simp (disch := omega) only [qB_s, qC_t, qC_f, qI_T, qI_F, qI_t, qI_f, r_I, r_L, r_R, r_V, ii_add, ii_sub, ii_mul, ii_neg, bz_0, bz_1, Bool.true_and, Bool.false_and, Bool.and_true, z00, z11, li_0, li_1, lj_0, gI_47_43, gI_47_44, is_47, h44]
  rw [e', wq_196_8]
  simp (disch := omega) only [qB_s, qC_t, qC_f, qI_T, qI_F, qI_t, qI_f, r_I, r_L, r_R, r_V, ii_add, ii_sub, ii_mul, ii_neg, bz_0, bz_1, Bool.true_and, Bool.false_and, Bool.and_true, z00, z11, li_0, li_1, lj_0, gI_47_43, gI_47_44, is_47, ii_lt, k1]
  rfl
theorem x_192 (hC : RC ow w A) (hA : okA A) {o x : Int} (ho1 : -2147483648 ≤ o) (ho2 : o ≤ 2147483647) (hx1 : -2147483648 ≤ x) (hx2 : x ≤ 2147483647) : ∃ u, am_F sc 192 [am_R (some 0), am_I (ii o), am_I (ii x)] (wst w) = some (some (am_L (jj (if (-1 ≤ o ∧ o ≤ 7) ∧ (x = 0 ∨ x = 1) then if (60 : Int) < lS1 A.1.2.2.2 o A.1.2.2.1.toNat then -1 else if x = 0 then hwS (lS1 A.1.2.2.2 o A.1.2.2.1.toNat) (lS2 A.1.2.2.2 o A.1.2.2.1.toNat) 1 else 2 ^ (lS1 A.1.2.2.2 o A.1.2.2.1.toNat).toNat else -1))), wst u) ∧ fr scC w u := by
  have hn8 := hA.2.2.1.2.1
  have hn0 := hA.2.2.1.1
  by_cases q1 : -1 ≤ o ∧ o ≤ 7
  · skip
    by_cases q2 : x = 0 ∨ x = 1
    · skip
      rw [if_pos (by omega)]
      have hL := hC.2.1
      have hn := okL_of hA
      have p1 := c185 (sc := sc) hL hn q1
      have p2 := c186 (sc := sc) hL hn q1
      have rle := lS_le A.1.2.2.2 o A.1.2.2.1.toNat
      have r1 : 0 ≤ lS1 A.1.2.2.2 o A.1.2.2.1.toNat ∧ lS1 A.1.2.2.2 o A.1.2.2.1.toNat ≤ A.1.2.2.1.toNat := sm_bz _
      have r2 : 0 ≤ lS2 A.1.2.2.2 o A.1.2.2.1.toNat ∧ lS2 A.1.2.2.2 o A.1.2.2.1.toNat ≤ A.1.2.2.1.toNat := sm_bz _
      have hn2 := hn.2.1
      refine ⟨w, ?_, fr_r _ _⟩
      rw [fq_192]
      by_cases q3 : (60 : Int) < lS1 A.1.2.2.2 o A.1.2.2.1.toNat
      · rw [if_pos q3]
        simp (disch := omega) only [qB_s, qC_t, qC_f, qI_T, qI_F, qI_t, qI_f, r_I, r_L, r_R, r_V, ii_add, ii_sub, ii_mul, ii_neg, bz_0, bz_1, Bool.true_and, Bool.false_and, Bool.and_true, z00, z11, li_0, li_1, li_2, li_60, lj_1, gR_0_1, is_7, s183, s126, ii_eq, ii_lt, p1, jj_neg]
      · rw [if_neg q3]
        by_cases q4 : x = 0
        · rw [if_pos q4]
          have p3 := c191 (sc := sc) (w := w) (P := lS1 A.1.2.2.2 o A.1.2.2.1.toNat) (h := lS2 A.1.2.2.2 o A.1.2.2.1.toNat) (b := 1) (by omega) (by omega) (by omega) (by omega) (by omega) (by omega)
          simp (disch := omega) only [qB_s, qC_t, qC_f, qI_T, qI_F, qI_t, qI_f, r_I, r_L, r_R, r_V, ii_add, ii_sub, ii_mul, ii_neg, bz_0, bz_1, Bool.true_and, Bool.false_and, Bool.and_true, z00, z11, li_0, li_1, li_2, li_60, lj_1, gR_0_1, is_7, s183, s126, ii_eq, ii_lt, p1, p2, p3]
        · rw [if_neg q4]
          have p3 := c190 (sc := sc) (w := w) (x := 2) (k := lS1 A.1.2.2.2 o A.1.2.2.1.toNat) (by omega) (by omega) (by omega) (by omega)
          simp (disch := omega) only [qB_s, qC_t, qC_f, qI_T, qI_F, qI_t, qI_f, r_I, r_L, r_R, r_V, ii_add, ii_sub, ii_mul, ii_neg, bz_0, bz_1, Bool.true_and, Bool.false_and, Bool.and_true, z00, z11, li_0, li_1, li_2, li_60, lj_1, gR_0_1, is_7, s183, s126, ii_eq, ii_lt, p1, p3]
    · rw [if_neg (by omega)]
      exact ⟨w, by
        rw [fq_192]
        simp (disch := omega) only [qB_s, qC_t, qC_f, qI_T, qI_F, qI_t, qI_f, r_I, r_L, r_R, r_V, ii_add, ii_sub, ii_mul, ii_neg, bz_0, bz_1, Bool.true_and, Bool.false_and, Bool.and_true, z00, z11, li_0, li_1, li_2, li_60, lj_1, gR_0_1, is_7, ii_lt, ii_eq, ii_jj, jj_neg, s183, s126], fr_r _ _⟩
  · rw [if_neg (by omega)]
    exact ⟨w, by
      rw [fq_192]
      simp (disch := omega) only [qB_s, qC_t, qC_f, qI_T, qI_F, qI_t, qI_f, r_I, r_L, r_R, r_V, ii_add, ii_sub, ii_mul, ii_neg, bz_0, bz_1, Bool.true_and, Bool.false_and, Bool.and_true, z00, z11, li_0, li_1, li_2, li_60, lj_1, gR_0_1, is_7, ii_lt, ii_eq, ii_jj, jj_neg, s183], fr_r _ _⟩

theorem x_194 (hC : RC ow w A) (hA : okA A) {o b x : Int} (ho1 : -2147483648 ≤ o) (ho2 : o ≤ 2147483647) (hb1 : -2147483648 ≤ b) (hb2 : b ≤ 2147483647) (hx1 : -2147483648 ≤ x) (hx2 : x ≤ 2147483647) : ∃ u, am_F sc 194 [am_R (some 0), am_I (ii o), am_I (ii b), am_I (ii x)] (wst w) = some (some (am_L (jj (if (-1 ≤ o ∧ o ≤ 7) ∧ (1 ≤ b ∧ b ≤ 20) ∧ (x = 0 ∨ x = 1) then if (14 : Int) < lS1 A.1.2.2.2 o A.1.2.2.1.toNat then -1 else if x = 0 then hwS (lS1 A.1.2.2.2 o A.1.2.2.1.toNat) (lS2 A.1.2.2.2 o A.1.2.2.1.toNat) b else (1 + b) ^ (lS1 A.1.2.2.2 o A.1.2.2.1.toNat).toNat else -1))), wst u) ∧ fr scC w u := by
  have hn8 := hA.2.2.1.2.1
  have hn0 := hA.2.2.1.1
  by_cases q1 : -1 ≤ o ∧ o ≤ 7
  · skip
    by_cases q2 : 1 ≤ b ∧ b ≤ 20
    · skip
      by_cases q3 : x = 0 ∨ x = 1
      · skip
        rw [if_pos (by omega)]
        have hL := hC.2.1
        have hn := okL_of hA
        have p1 := c185 (sc := sc) hL hn q1
        have p2 := c186 (sc := sc) hL hn q1
        have rle := lS_le A.1.2.2.2 o A.1.2.2.1.toNat
        have r1 : 0 ≤ lS1 A.1.2.2.2 o A.1.2.2.1.toNat ∧ lS1 A.1.2.2.2 o A.1.2.2.1.toNat ≤ A.1.2.2.1.toNat := sm_bz _
        have r2 : 0 ≤ lS2 A.1.2.2.2 o A.1.2.2.1.toNat ∧ lS2 A.1.2.2.2 o A.1.2.2.1.toNat ≤ A.1.2.2.1.toNat := sm_bz _
        have hn2 := hn.2.1
        have rb : 1 ≤ b ∧ b ≤ 20 := q2
        refine ⟨w, ?_, fr_r _ _⟩
        rw [fq_194]
        by_cases q4 : (14 : Int) < lS1 A.1.2.2.2 o A.1.2.2.1.toNat
        · rw [if_pos q4]
          simp (disch := omega) only [qB_s, qC_t, qC_f, qI_T, qI_F, qI_t, qI_f, r_I, r_L, r_R, r_V, ii_add, ii_sub, ii_mul, ii_neg, bz_0, bz_1, Bool.true_and, Bool.false_and, Bool.and_true, z00, z11, li_0, li_1, li_14, li_20, lj_1, gR_0_1, is_7, s183, s126, ii_eq, ii_lt, p1, jj_neg]
        · rw [if_neg q4]
          by_cases q5 : x = 0
          · rw [if_pos q5]
            have p3 := c191 (sc := sc) (w := w) (P := lS1 A.1.2.2.2 o A.1.2.2.1.toNat) (h := lS2 A.1.2.2.2 o A.1.2.2.1.toNat) (b := b) (by omega) (by omega) (by omega) (by omega) (by omega) (by omega)
            simp (disch := omega) only [qB_s, qC_t, qC_f, qI_T, qI_F, qI_t, qI_f, r_I, r_L, r_R, r_V, ii_add, ii_sub, ii_mul, ii_neg, bz_0, bz_1, Bool.true_and, Bool.false_and, Bool.and_true, z00, z11, li_0, li_1, li_14, li_20, lj_1, gR_0_1, is_7, s183, s126, ii_eq, ii_lt, p1, p2, p3]
          · rw [if_neg q5]
            have p3 := c190 (sc := sc) (w := w) (x := 1 + b) (k := lS1 A.1.2.2.2 o A.1.2.2.1.toNat) (by omega) (by omega) (by omega) (by omega)
            simp (disch := omega) only [qB_s, qC_t, qC_f, qI_T, qI_F, qI_t, qI_f, r_I, r_L, r_R, r_V, ii_add, ii_sub, ii_mul, ii_neg, bz_0, bz_1, Bool.true_and, Bool.false_and, Bool.and_true, z00, z11, li_0, li_1, li_14, li_20, lj_1, gR_0_1, is_7, s183, s126, ii_eq, ii_lt, p1, p3]
      · rw [if_neg (by omega)]
        exact ⟨w, by
          rw [fq_194]
          simp (disch := omega) only [qB_s, qC_t, qC_f, qI_T, qI_F, qI_t, qI_f, r_I, r_L, r_R, r_V, ii_add, ii_sub, ii_mul, ii_neg, bz_0, bz_1, Bool.true_and, Bool.false_and, Bool.and_true, z00, z11, li_0, li_1, li_14, li_20, lj_1, gR_0_1, is_7, ii_lt, ii_eq, ii_jj, jj_neg, s183, s126], fr_r _ _⟩
    · rw [if_neg (by omega)]
      exact ⟨w, by
        rw [fq_194]
        by_cases zz : b < 1
        · simp (disch := omega) only [qB_s, qC_t, qC_f, qI_T, qI_F, qI_t, qI_f, r_I, r_L, r_R, r_V, ii_add, ii_sub, ii_mul, ii_neg, bz_0, bz_1, Bool.true_and, Bool.false_and, Bool.and_true, z00, z11, li_0, li_1, li_14, li_20, lj_1, gR_0_1, is_7, ii_lt, ii_eq, ii_jj, jj_neg, s183]
        · simp (disch := omega) only [qB_s, qC_t, qC_f, qI_T, qI_F, qI_t, qI_f, r_I, r_L, r_R, r_V, ii_add, ii_sub, ii_mul, ii_neg, bz_0, bz_1, Bool.true_and, Bool.false_and, Bool.and_true, z00, z11, li_0, li_1, li_14, li_20, lj_1, gR_0_1, is_7, ii_lt, ii_eq, ii_jj, jj_neg, s183], fr_r _ _⟩
  · rw [if_neg (by omega)]
    exact ⟨w, by
      rw [fq_194]
      simp (disch := omega) only [qB_s, qC_t, qC_f, qI_T, qI_F, qI_t, qI_f, r_I, r_L, r_R, r_V, ii_add, ii_sub, ii_mul, ii_neg, bz_0, bz_1, Bool.true_and, Bool.false_and, Bool.and_true, z00, z11, li_0, li_1, li_14, li_20, lj_1, gR_0_1, is_7, ii_lt, ii_eq, ii_jj, jj_neg, s183], fr_r _ _⟩

theorem y_197 (hM : RM w A) (hw : WY w) (hA : okA A) {o b x : Int} (ho1 : -2147483648 ≤ o) (ho2 : o ≤ 2147483647) (hb1 : -2147483648 ≤ b) (hb2 : b ≤ 2147483647) (hx1 : -2147483648 ≤ x) (hx2 : x ≤ 2147483647) : ∃ u, am_F sc 197 [am_R (some 47), am_I (ii o), am_I (ii b), am_I (ii x)] (wst w) = some (some (am_L (jj (if (-1 ≤ o ∧ o ≤ 7) ∧ (1 ≤ b ∧ b ≤ 20) ∧ (x = 0 ∨ x = 1) then if (14 : Int) < lS1 A.1.2.2.2 o A.1.2.2.1.toNat then -1 else if x = 0 then hwS (lS1 A.1.2.2.2 o A.1.2.2.1.toNat) (lS2 A.1.2.2.2 o A.1.2.2.1.toNat) b else (1 + b) ^ (lS1 A.1.2.2.2 o A.1.2.2.1.toNat).toNat else -1))), wst u) ∧ fr scN w u ∧ WY u := by
  by_cases q1 : -1 ≤ o ∧ o ≤ 7
  · obtain ⟨u, e1, f1, i0, i1, i2⟩ := d188 (sc := sc) hM.2.1 (okL_of hA) ho1 ho2 q1
    have hwu := WY_fr hw f1 rfl
    have hn := okL_of hA
    have hn2 := hn.2.1
    have rle := lS_le A.1.2.2.2 o A.1.2.2.1.toNat
    have r1 : 0 ≤ lS1 A.1.2.2.2 o A.1.2.2.1.toNat ∧ lS1 A.1.2.2.2 o A.1.2.2.1.toNat ≤ A.1.2.2.1.toNat := sm_bz _
    have r2 : 0 ≤ lS2 A.1.2.2.2 o A.1.2.2.1.toNat ∧ lS2 A.1.2.2.2 o A.1.2.2.1.toNat ≤ A.1.2.2.1.toNat := sm_bz _
    have hf := fr_m f1 (m := scN) rfl
    by_cases q2 : (1 ≤ b ∧ b ≤ 20) ∧ (0 ≤ x ∧ x ≤ 1)
    · rw [if_pos (by omega)]
      by_cases q4 : (14 : Int) < lS1 A.1.2.2.2 o A.1.2.2.1.toNat
      · rw [if_pos q4]
        refine ⟨u, ?_, hf, hwu⟩
        rw [fq_197]
        simp (disch := omega) only [qB_s, qC_t, qC_f, qI_T, qI_F, qI_t, qI_f, r_I, r_L, r_R, r_V, ii_add, ii_sub, ii_mul, ii_neg, bz_0, bz_1, Bool.true_and, Bool.false_and, Bool.and_true, z00, z11, li_0, li_14, lj_0, lj_1, lj_20, gI_47_43, is_47, e1, ii_eq, ii_lt, ii_jj, d17, i1, jj_neg]
      · rw [if_neg q4]
        by_cases q5 : x = 0
        · rw [if_pos q5]
          obtain ⟨u2, p3, f3, y3⟩ := d196 (sc := sc) hwu i1 i2 (b := b) (by omega) (by omega) (by omega) (by omega) (by omega) (by omega)
          refine ⟨u2, ?_, fr_t hf (fr_m f3 rfl), y3⟩
          rw [fq_197]
          simp (disch := omega) only [qB_s, qC_t, qC_f, qI_T, qI_F, qI_t, qI_f, r_I, r_L, r_R, r_V, ii_add, ii_sub, ii_mul, ii_neg, bz_0, bz_1, Bool.true_and, Bool.false_and, Bool.and_true, z00, z11, li_0, li_14, lj_0, lj_1, lj_20, gI_47_43, is_47, e1, ii_eq, ii_lt, ii_jj, d17, i1, p3]
        · rw [if_neg q5]
          have p3 := d195 (sc := sc) (w := u) (x := 1 + b) (k := lS1 A.1.2.2.2 o A.1.2.2.1.toNat) (by omega) (by omega)
          refine ⟨u, ?_, hf, hwu⟩
          rw [fq_197]
          simp (disch := omega) only [qB_s, qC_t, qC_f, qI_T, qI_F, qI_t, qI_f, r_I, r_L, r_R, r_V, ii_add, ii_sub, ii_mul, ii_neg, bz_0, bz_1, Bool.true_and, Bool.false_and, Bool.and_true, z00, z11, li_0, li_14, lj_0, lj_1, lj_20, gI_47_43, is_47, e1, ii_eq, ii_lt, ii_jj, d17, i1, jj_add, p3]
    · rw [if_neg (by omega)]
      refine ⟨u, ?_, hf, hwu⟩
      rw [fq_197]
      by_cases q3 : 1 ≤ b ∧ b ≤ 20
      · simp (disch := omega) only [qB_s, qC_t, qC_f, qI_T, qI_F, qI_t, qI_f, r_I, r_L, r_R, r_V, ii_add, ii_sub, ii_mul, ii_neg, bz_0, bz_1, Bool.true_and, Bool.false_and, Bool.and_true, z00, z11, li_0, li_14, lj_0, lj_1, lj_20, gI_47_43, is_47, e1, ii_eq, ii_lt, ii_jj, d17, jj_neg]
      · simp (disch := omega) only [qB_s, qC_t, qC_f, qI_T, qI_F, qI_t, qI_f, r_I, r_L, r_R, r_V, ii_add, ii_sub, ii_mul, ii_neg, bz_0, bz_1, Bool.true_and, Bool.false_and, Bool.and_true, z00, z11, li_0, li_14, lj_0, lj_1, lj_20, gI_47_43, is_47, e1, ii_eq, ii_lt, ii_jj, d17, jj_neg]
  · rw [if_neg (by omega)]
    exact ⟨w, by
      rw [fq_197]
      simp (disch := omega) only [qB_s, qC_t, qC_f, qI_T, qI_F, qI_t, qI_f, r_I, r_L, r_R, r_V, ii_add, ii_sub, ii_mul, ii_neg, bz_0, bz_1, Bool.true_and, Bool.false_and, Bool.and_true, z00, z11, li_0, li_14, lj_0, lj_1, lj_20, gI_47_43, is_47, d188n, ii_eq, jj_neg], fr_r _ _, hw⟩
theorem sh_2 {P : Int} (h0 : 0 ≤ P) (h1 : P ≤ 60) : jj 1 <<< (jj P &&& jj 63) = jj (2 ^ P.toNat) := by
  have : ∀ i : Fin 61, jj 1 <<< (jj (i.val : Int) &&& jj 63) = jj (2 ^ i.val) := by decide +kernel
  have h := this ⟨P.toNat, by omega⟩
  simp only [Int.toNat_of_nonneg h0] at h
  exact h
theorem hwF_1 (P h : Int) (j : Nat) : hwF P h 1 j = cg P (h + j) := by
  unfold hwF
  rw [Int.one_pow, Int.mul_one]
theorem d193 (hw : WY w) {P h x : Int} (h43 : wI w 47 43 = P) (hP : 0 ≤ P) (hP2 : P ≤ 60) (hh : 0 ≤ h) (hh2 : h ≤ P) : ∃ u, am_W sc 193 (51, [some (am_R (some 47)), none, none, some (am_L (jj 0)), none, some (am_I (ii h))], [], wst w) = some (some (am_L (jj (hwS P h 1))), wst u) ∧ fr [6299] w u ∧ WY u := by
  obtain ⟨u, e, hfr, hu⟩ := lp_s0 (am_W sc 193) (fun (j : Nat) (u : wo) => (51, [some (am_R (some 47)), none, none, some (am_L (jj (sm (hwF P h 1) j))), none, some (am_I (ii (h + j)))], [], wst u)) (fun j u => fr [6299] w u ∧ WY u) (P + 1 - h).toNat (fun j u hj hu => by
    obtain ⟨u1, p1, f1, y1⟩ := d140 (sc := sc) hu.2 (n := P) (k := h + j) (by omega) (by omega) (by omega) (by omega)
    have k1 : wI u 47 43 = P := by rw [fr_I hu.1 rfl]; exact h43
    refine ⟨u1, ?_, fr_t hu.1 f1, .inr y1⟩
    rw [wq_193_51, show sm (hwF P h 1) (j + 1) = sm (hwF P h 1) j + hwF P h 1 j from rfl, hwF_1]
    rw [show h + ((j + 1 : Nat) : Int) = h + j + 1 from by omega]
    simp (disch := omega) only [qB_s, qC_t, qC_f, qI_T, qI_F, qI_t, qI_f, r_I, r_L, r_R, r_V, ii_add, ii_sub, ii_mul, ii_neg, bz_0, bz_1, Bool.true_and, Bool.false_and, Bool.and_true, z00, z11, li_0, li_1, li_60, lj_0, lj_1, lj_63, gI_47_43, gI_47_44, is_47, ii_lt, k1, p1, jj_add]) w ⟨fr_r _ _, hw⟩
  have e' : am_W sc 193 (51, [some (am_R (some 47)), none, none, some (am_L (jj 0)), none, some (am_I (ii (h + ((0 : Nat) : Int))))], [], wst w) = _ := e
  rw [show h + ((0 : Nat) : Int) = h from by omega] at e'
  have k1 : wI u 47 43 = P := by rw [fr_I hfr rfl]; exact h43
  refine ⟨u, ?_, hfr, hu⟩
  rw [e', wq_193_51]
  simp (disch := omega) only [qB_s, qC_t, qC_f, qI_T, qI_F, qI_t, qI_f, r_I, r_L, r_R, r_V, ii_add, ii_sub, ii_mul, ii_neg, bz_0, bz_1, Bool.true_and, Bool.false_and, Bool.and_true, z00, z11, li_0, li_1, li_60, lj_0, lj_1, lj_63, gI_47_43, gI_47_44, is_47, ii_lt, k1]
  rfl
theorem y_193 (hM : RM w A) (hw : WY w) (hA : okA A) {o x : Int} (ho1 : -2147483648 ≤ o) (ho2 : o ≤ 2147483647) (hx1 : -2147483648 ≤ x) (hx2 : x ≤ 2147483647) : ∃ u, am_F sc 193 [am_R (some 47), am_I (ii o), am_I (ii x)] (wst w) = some (some (am_L (jj (if (-1 ≤ o ∧ o ≤ 7) ∧ (x = 0 ∨ x = 1) then if (60 : Int) < lS1 A.1.2.2.2 o A.1.2.2.1.toNat then -1 else if x = 0 then hwS (lS1 A.1.2.2.2 o A.1.2.2.1.toNat) (lS2 A.1.2.2.2 o A.1.2.2.1.toNat) 1 else 2 ^ (lS1 A.1.2.2.2 o A.1.2.2.1.toNat).toNat else -1))), wst u) ∧ fr scN w u ∧ WY u := by
  by_cases q1 : -1 ≤ o ∧ o ≤ 7
  · obtain ⟨u, e1, f1, i0, i1, i2⟩ := d188 (sc := sc) hM.2.1 (okL_of hA) ho1 ho2 q1
    have hwu := WY_fr hw f1 rfl
    have hn := okL_of hA
    have hn2 := hn.2.1
    have rle := lS_le A.1.2.2.2 o A.1.2.2.1.toNat
    have r1 : 0 ≤ lS1 A.1.2.2.2 o A.1.2.2.1.toNat ∧ lS1 A.1.2.2.2 o A.1.2.2.1.toNat ≤ A.1.2.2.1.toNat := sm_bz _
    have r2 : 0 ≤ lS2 A.1.2.2.2 o A.1.2.2.1.toNat ∧ lS2 A.1.2.2.2 o A.1.2.2.1.toNat ≤ A.1.2.2.1.toNat := sm_bz _
    have hf := fr_m f1 (m := scN) rfl
    by_cases q2 : 0 ≤ x ∧ x ≤ 1
    · rw [if_pos (by omega)]
      by_cases q4 : (60 : Int) < lS1 A.1.2.2.2 o A.1.2.2.1.toNat
      · rw [if_pos q4]
        refine ⟨u, ?_, hf, hwu⟩
        rw [fq_193]
        simp (disch := omega) only [qB_s, qC_t, qC_f, qI_T, qI_F, qI_t, qI_f, r_I, r_L, r_R, r_V, ii_add, ii_sub, ii_mul, ii_neg, bz_0, bz_1, Bool.true_and, Bool.false_and, Bool.and_true, z00, z11, li_0, li_1, li_60, lj_0, lj_1, lj_63, gI_47_43, gI_47_44, is_47, e1, ii_eq, ii_lt, ii_jj, d17, i1, jj_neg]
      · rw [if_neg q4]
        by_cases q5 : x = 0
        · rw [if_pos q5]
          obtain ⟨u2, p3, f3, y3⟩ := d193 (sc := sc) (x := x) hwu i1 r1.1 (by omega) r2.1 rle
          refine ⟨u2, ?_, fr_t hf (fr_m f3 rfl), y3⟩
          rw [fq_193]
          simp (disch := omega) only [qB_s, qC_t, qC_f, qI_T, qI_F, qI_t, qI_f, r_I, r_L, r_R, r_V, ii_add, ii_sub, ii_mul, ii_neg, bz_0, bz_1, Bool.true_and, Bool.false_and, Bool.and_true, z00, z11, li_0, li_1, li_60, lj_0, lj_1, lj_63, gI_47_43, gI_47_44, is_47, e1, ii_eq, ii_lt, ii_jj, d17, i1, i2, p3]
        · rw [if_neg q5]
          refine ⟨u, ?_, hf, hwu⟩
          rw [fq_193]
          simp (disch := omega) only [qB_s, qC_t, qC_f, qI_T, qI_F, qI_t, qI_f, r_I, r_L, r_R, r_V, ii_add, ii_sub, ii_mul, ii_neg, bz_0, bz_1, Bool.true_and, Bool.false_and, Bool.and_true, z00, z11, li_0, li_1, li_60, lj_0, lj_1, lj_63, gI_47_43, gI_47_44, is_47, e1, ii_eq, ii_lt, ii_jj, d17, i1, sh_2]
    · rw [if_neg (by omega)]
      refine ⟨u, ?_, hf, hwu⟩
      rw [fq_193]
      simp (disch := omega) only [qB_s, qC_t, qC_f, qI_T, qI_F, qI_t, qI_f, r_I, r_L, r_R, r_V, ii_add, ii_sub, ii_mul, ii_neg, bz_0, bz_1, Bool.true_and, Bool.false_and, Bool.and_true, z00, z11, li_0, li_1, li_60, lj_0, lj_1, lj_63, gI_47_43, gI_47_44, is_47, e1, ii_eq, ii_lt, ii_jj, d17, jj_neg]
  · rw [if_neg (by omega)]
    exact ⟨w, by
      rw [fq_193]
      simp (disch := omega) only [qB_s, qC_t, qC_f, qI_T, qI_F, qI_t, qI_f, r_I, r_L, r_R, r_V, ii_add, ii_sub, ii_mul, ii_neg, bz_0, bz_1, Bool.true_and, Bool.false_and, Bool.and_true, z00, z11, li_0, li_1, li_60, lj_0, lj_1, lj_63, gI_47_43, gI_47_44, is_47, d188n, ii_eq, jj_neg], fr_r _ _, hw⟩
end L37
