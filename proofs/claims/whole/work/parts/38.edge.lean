/-! EDGE -/
theorem sm_sh (f : Nat → Int) : ∀ n, sm f (n + 1) = f 0 + sm (fun i => f (i + 1)) n
  | 0 => by simp [sm]
  | n + 1 => by
    rw [sm_s, sm_sh f n, sm_s]
    omega
theorem sm_cat (f : Nat → Int) (a : Nat) : ∀ m, sm f (a + m) = sm f a + sm (fun i => f (a + i)) m
  | 0 => by simp [sm]
  | m + 1 => by
    rw [show a + (m + 1) = (a + m) + 1 from rfl, sm_s, sm_cat f a m, sm_s]
    omega
theorem sm_mul (c : Int) (f : Nat → Int) : ∀ n, sm (fun i => c * f i) n = c * sm f n
  | 0 => by simp [sm]
  | n + 1 => by rw [sm_s, sm_s, sm_mul c f n, Int.mul_add]
theorem bin (b : Int) : ∀ n : Nat, sm (fun k => (ch n k : Int) * b ^ k) (n + 1) = (1 + b) ^ n
  | 0 => by simp [sm, ch]
  | n + 1 => by
    have ih := bin b n
    have h1 := sm_sh (fun k => (ch (n + 1) k : Int) * b ^ k) (n + 1)
    have h2 : sm (fun i => (ch (n + 1) (i + 1) : Int) * b ^ (i + 1)) (n + 1) = sm (fun i => b * ((ch n i : Int) * b ^ i) + (ch n (i + 1) : Int) * b ^ (i + 1)) (n + 1) := sm_c (fun i _ => by
      rw [ch_s, Int.natCast_add, Int.add_mul, Int.pow_succ, Int.mul_comm b, Int.mul_assoc])
    have h3 := sm_sh (fun k => (ch n k : Int) * b ^ k) (n + 1)
    have h4 := sm_s (fun k => (ch n k : Int) * b ^ k) (n + 1)
    have h5 : (ch n (n + 1) : Int) = 0 := by rw [ch_no n (n + 1) (by omega)]; rfl
    simp only [h5, Int.zero_mul, Int.add_zero] at h4
    simp only [ch_0, Int.pow_zero, Int.mul_one] at h1 h3
    rw [h1, h2, sm_add, sm_mul, ih, Int.pow_succ, Int.mul_add, Int.mul_one, Int.mul_comm _ b]
    rw [h4, ih] at h3
    omega
theorem hwS_ran {P h b : Int} (hP : 0 ≤ P) (hP2 : P ≤ 60) (hh : 0 ≤ h) (hh2 : h ≤ P) (hb : 0 ≤ b) : 0 ≤ hwS P h b ∧ hwS P h b ≤ (1 + b) ^ P.toNat := by
  have h1 := bin b P.toNat
  have h2 := sm_cat (fun k => (ch P.toNat k : Int) * b ^ k) h.toNat (P + 1 - h).toNat
  rw [show h.toNat + (P + 1 - h).toNat = P.toNat + 1 from by omega, h1] at h2
  have h3 : hwS P h b = sm (fun i => (ch P.toNat (h.toNat + i) : Int) * b ^ (h.toNat + i)) (P + 1 - h).toNat := sm_c (fun i hi => by
    unfold hwF cg
    rw [if_pos (by omega), show (h + (i : Int)).toNat = h.toNat + i from by omega])
  have h4 : 0 ≤ sm (fun k => (ch P.toNat k : Int) * b ^ k) h.toNat := sm_nn (fun i _ => Int.mul_nonneg (by omega) (Int.pow_nonneg hb))
  have h5 : 0 ≤ sm (fun i => (ch P.toNat (h.toNat + i) : Int) * b ^ (h.toNat + i)) (P + 1 - h).toNat := sm_nn (fun i _ => Int.mul_nonneg (by omega) (Int.pow_nonneg hb))
  rw [h3]
  omega
theorem pow_ran {x : Int} {m : Nat} (hx : 1 ≤ x) (hx2 : x ≤ 21) (hm : m ≤ 14) : 1 ≤ x ^ m ∧ x ^ m ≤ 3243919932521508681 := by
  have : ∀ (i : Fin 21) (j : Fin 15), 1 ≤ ((i.val : Int) + 1) ^ j.val ∧ ((i.val : Int) + 1) ^ j.val ≤ 3243919932521508681 := by decide +kernel
  have h := this ⟨(x - 1).toNat, by omega⟩ ⟨m, by omega⟩
  simp only [show (((x - 1).toNat : Nat) : Int) + 1 = x from by omega] at h
  exact h
def eP (P h : Int) (i : Nat) : Bool := decide (((1 + ((i : Int) + 1)) ^ P.toNat + 19) / 20 ≤ hwS P h (i + 1))
def eg (P h : Int) : Int := if ff (eP P h) 20 < 20 then (ff (eP P h) 20 : Int) + 1 else -2
section L38
variable {sc : am_X} {w : wo} {A : ab} {ow : Nat → Nat}
theorem c198 {P h : Int} (hP : 0 ≤ P) (hP2 : P ≤ 14) (hh : 0 ≤ h) (hh2 : h ≤ P) : am_W sc 198 (43, [none, none, some (am_I (ii P)), some (am_I (ii h)), some (am_I (ii 1)), none, none], [], wst w) = some (some (am_I (ii (eg P h))), wst w) := by
  have hle := ff_le (eP P h) 20
  have st : ∀ i : Nat, i < 20 → am_W sc 198 (43, [none, none, some (am_I (ii P)), some (am_I (ii h)), some (am_I (ii ((i : Int) + 1))), none, none], [], wst w) = if eP P h i = true then some (some (am_I (ii ((i : Int) + 1))), wst w) else am_W sc 198 (43, [none, none, some (am_I (ii P)), some (am_I (ii h)), some (am_I (ii ((i : Int) + 1 + 1))), none, none], [], wst w) := fun i hi => by
    have p1 := c190 (sc := sc) (w := w) (x := 1 + ((i : Int) + 1)) (k := P) (by omega) (by omega) hP (by omega)
    have p2 := c191 (sc := sc) (w := w) (P := P) (h := h) (b := (i : Int) + 1) hP (by omega) hh hh2 (by omega) (by omega)
    have r1 := hwS_ran (P := P) (h := h) (b := (i : Int) + 1) hP (by omega) hh hh2 (by omega)
    have r2 := pow_ran (x := 1 + ((i : Int) + 1)) (m := P.toNat) (by omega) (by omega) (by omega)
    rw [wq_198_43]
    unfold eP
    generalize (1 + ((i : Int) + 1)) ^ P.toNat = a at *
    generalize hwS P h ((i : Int) + 1) = r at *
    have z20 : (jj 20 = 0) = False := eq_false (by decide)
    have z21 : (jj 20 = jj 0) = False := eq_false (by decide)
    by_cases q : (a + 19) / 20 ≤ r
    · rw [if_pos (decide_eq_true q)]
      simp (disch := omega) only [qB_s, qC_t, qC_f, qI_T, qI_F, qI_t, qI_f, r_I, r_L, r_R, r_V, ii_add, ii_sub, ii_mul, ii_neg, bz_0, bz_1, Bool.true_and, Bool.false_and, Bool.and_true, z00, z11, li_0, li_1, li_14, li_2, li_20, lj_19, lj_20, gR_0_1, is_7, ii_lt, ii_eq, z20, z21, p1, p2, jj_add, jj_div0, lg_lt]
    · rw [if_neg (by simpa using q)]
      simp (disch := omega) only [qB_s, qC_t, qC_f, qI_T, qI_F, qI_t, qI_f, r_I, r_L, r_R, r_V, ii_add, ii_sub, ii_mul, ii_neg, bz_0, bz_1, Bool.true_and, Bool.false_and, Bool.and_true, z00, z11, li_0, li_1, li_14, li_2, li_20, lj_19, lj_20, gR_0_1, is_7, ii_lt, ii_eq, z20, z21, p1, p2, jj_add, jj_div0, lg_lt]
  have e := lp_0 (am_W sc 198) (fun i : Nat => (43, [none, none, some (am_I (ii P)), some (am_I (ii h)), some (am_I (ii ((i : Int) + 1))), none, none], [], wst w)) (ff (eP P h) 20) (fun i hi => by
    have hn := ff_no _ _ i hi
    rw [st i (by omega), hn, if_neg (by decide), nat_1])
  have e' : am_W sc 198 (43, [none, none, some (am_I (ii P)), some (am_I (ii h)), some (am_I (ii 1)), none, none], [], wst w) = am_W sc 198 (43, [none, none, some (am_I (ii P)), some (am_I (ii h)), some (am_I (ii ((ff (eP P h) 20 : Int) + 1))), none, none], [], wst w) := e
  rw [e']
  unfold eg
  by_cases q : ff (eP P h) 20 < 20
  · rw [if_pos q, st _ q, if_pos (ff_yes _ _ q)]
  · rw [if_neg q, wq_198_43]
    simp (disch := omega) only [qB_s, qC_t, qC_f, qI_T, qI_F, qI_t, qI_f, r_I, r_L, r_R, r_V, ii_add, ii_sub, ii_mul, ii_neg, bz_0, bz_1, Bool.true_and, Bool.false_and, Bool.and_true, z00, z11, li_0, li_1, li_14, li_2, li_20, lj_19, lj_20, gR_0_1, is_7, ii_lt]
theorem d199 (hw : WY w) {P h : Int} (h43 : wI w 47 43 = P) (h44 : wI w 47 44 = h) (hP : 0 ≤ P) (hP2 : P ≤ 14) (hh : 0 ≤ h) (hh2 : h ≤ P) : ∃ u, am_W sc 199 (21, [some (am_R (some 47)), none, some (am_I (ii 1))], [], wst w) = some (some (am_I (ii (eg P h))), wst u) ∧ fr [6299] w u ∧ WY u := by
  have hle := ff_le (eP P h) 20
  have st : ∀ (i : Nat) (v : wo), fr [6299] w v ∧ WY v → i < 20 → ∃ u, (fr [6299] w u ∧ WY u) ∧ am_W sc 199 (21, [some (am_R (some 47)), none, some (am_I (ii ((i : Int) + 1)))], [], wst v) = if eP P h i = true then some (some (am_I (ii ((i : Int) + 1))), wst u) else am_W sc 199 (21, [some (am_R (some 47)), none, some (am_I (ii ((i : Int) + 1 + 1)))], [], wst u) := fun i v hv hi => by
    have k3 : wI v 47 43 = P := by rw [fr_I hv.1 rfl]; exact h43
    have k4 : wI v 47 44 = h := by rw [fr_I hv.1 rfl]; exact h44
    obtain ⟨u, p1, f1, y1⟩ := d196 (sc := sc) hv.2 k3 k4 (b := (i : Int) + 1) hP (by omega) hh hh2 (by omega) (by omega)
    have k5 : wI u 47 43 = P := by rw [fr_I f1 rfl]; exact k3
    have p2 := d195 (sc := sc) (w := u) (x := 1 + ((i : Int) + 1)) (k := P) hP (by omega)
    have r1 := hwS_ran (P := P) (h := h) (b := (i : Int) + 1) hP (by omega) hh hh2 (by omega)
    have r2 := pow_ran (x := 1 + ((i : Int) + 1)) (m := P.toNat) (by omega) (by omega) (by omega)
    refine ⟨u, ⟨fr_t hv.1 f1, y1⟩, ?_⟩
    rw [wq_199_21]
    unfold eP
    generalize (1 + ((i : Int) + 1)) ^ P.toNat = a at *
    generalize hwS P h ((i : Int) + 1) = r at *
    have z20 : (jj 20 = 0) = False := eq_false (by decide)
    have z21 : (jj 20 = jj 0) = False := eq_false (by decide)
    by_cases q : (a + 19) / 20 ≤ r
    · rw [if_pos (decide_eq_true q)]
      simp (disch := omega) only [qB_s, qC_t, qC_f, qI_T, qI_F, qI_t, qI_f, r_I, r_L, r_R, r_V, ii_add, ii_sub, ii_mul, ii_neg, bz_0, bz_1, Bool.true_and, Bool.false_and, Bool.and_true, z00, z11, li_0, li_1, li_14, li_2, li_20, lj_1, lj_20, gI_47_43, is_47, ii_lt, ii_eq, ii_jj, z20, z21, k5, p1, p2, jj_add, jj_sub, jj_div0, lg_gt]
    · rw [if_neg (by simpa using q)]
      simp (disch := omega) only [qB_s, qC_t, qC_f, qI_T, qI_F, qI_t, qI_f, r_I, r_L, r_R, r_V, ii_add, ii_sub, ii_mul, ii_neg, bz_0, bz_1, Bool.true_and, Bool.false_and, Bool.and_true, z00, z11, li_0, li_1, li_14, li_2, li_20, lj_1, lj_20, gI_47_43, is_47, ii_lt, ii_eq, ii_jj, z20, z21, k5, p1, p2, jj_add, jj_sub, jj_div0, lg_gt]
  obtain ⟨v, e, hv⟩ := lp_s0 (am_W sc 199) (fun (i : Nat) (v : wo) => (21, [some (am_R (some 47)), none, some (am_I (ii ((i : Int) + 1)))], [], wst v)) (fun i v => fr [6299] w v ∧ WY v) (ff (eP P h) 20) (fun i v hi hv => by
    have hn := ff_no _ _ i hi
    obtain ⟨u, hu, eu⟩ := st i v hv (by omega)
    refine ⟨u, ?_, hu⟩
    rw [eu, hn, if_neg (by decide), nat_1]) w ⟨fr_r _ _, hw⟩
  have e' : am_W sc 199 (21, [some (am_R (some 47)), none, some (am_I (ii 1))], [], wst w) = am_W sc 199 (21, [some (am_R (some 47)), none, some (am_I (ii ((ff (eP P h) 20 : Int) + 1)))], [], wst v) := e
  rw [e']
  unfold eg
  by_cases q : ff (eP P h) 20 < 20
  · obtain ⟨u, hu, eu⟩ := st _ v hv q
    refine ⟨u, ?_, hu⟩
    rw [eu, if_pos q, if_pos (ff_yes _ _ q)]
  · refine ⟨v, ?_, hv⟩
    rw [if_neg q, wq_199_21]
    simp (disch := omega) only [qB_s, qC_t, qC_f, qI_T, qI_F, qI_t, qI_f, r_I, r_L, r_R, r_V, ii_add, ii_sub, ii_mul, ii_neg, bz_0, bz_1, Bool.true_and, Bool.false_and, Bool.and_true, z00, z11, li_0, li_1, li_14, li_2, li_20, lj_1, lj_20, gI_47_43, is_47, ii_lt]

theorem x_198 (hC : RC ow w A) (hA : okA A) {o : Int} (ho1 : -2147483648 ≤ o) (ho2 : o ≤ 2147483647) : ∃ u, am_F sc 198 [am_R (some 0), am_I (ii o)] (wst w) = some (some (am_I (ii (if (-1 ≤ o ∧ o ≤ 7) then if (14 : Int) < lS1 A.1.2.2.2 o A.1.2.2.1.toNat then -1 else eg (lS1 A.1.2.2.2 o A.1.2.2.1.toNat) (lS2 A.1.2.2.2 o A.1.2.2.1.toNat) else -1))), wst u) ∧ fr scC w u := by
  have hn8 := hA.2.2.1.2.1
  have hn0 := hA.2.2.1.1
  by_cases q1 : -1 ≤ o ∧ o ≤ 7
  · skip
    rw [if_pos (by omega)]
    have hL := hC.2.1
    have hn := okL_of hA
    have p1 := c185 (sc := sc) hL hn q1
    have p2 := c186 (sc := sc) hL hn q1
    have rle := lS_le A.1.2.2.2 o A.1.2.2.1.toNat
    have r1 : 0 ≤ lS1 A.1.2.2.2 o A.1.2.2.1.toNat ∧ lS1 A.1.2.2.2 o A.1.2.2.1.toNat ≤ A.1.2.2.1.toNat := sm_bz _
    have r2 : 0 ≤ lS2 A.1.2.2.2 o A.1.2.2.1.toNat ∧ lS2 A.1.2.2.2 o A.1.2.2.1.toNat ≤ A.1.2.2.1.toNat := sm_bz _
    have hn2 := hn.2.1
    refine ⟨w, ?_, fr_r _ _⟩
    rw [fq_198]
    by_cases q4 : (14 : Int) < lS1 A.1.2.2.2 o A.1.2.2.1.toNat
    · rw [if_pos q4]
      simp (disch := omega) only [qB_s, qC_t, qC_f, qI_T, qI_F, qI_t, qI_f, r_I, r_L, r_R, r_V, ii_add, ii_sub, ii_mul, ii_neg, bz_0, bz_1, Bool.true_and, Bool.false_and, Bool.and_true, z00, z11, li_0, li_1, li_14, li_2, li_20, lj_19, lj_20, gR_0_1, is_7, s183, ii_eq, ii_lt, p1]
    · rw [if_neg q4]
      have p3 := c198 (sc := sc) (w := w) (P := lS1 A.1.2.2.2 o A.1.2.2.1.toNat) (h := lS2 A.1.2.2.2 o A.1.2.2.1.toNat) (by omega) (by omega) (by omega) (by omega)
      simp (disch := omega) only [qB_s, qC_t, qC_f, qI_T, qI_F, qI_t, qI_f, r_I, r_L, r_R, r_V, ii_add, ii_sub, ii_mul, ii_neg, bz_0, bz_1, Bool.true_and, Bool.false_and, Bool.and_true, z00, z11, li_0, li_1, li_14, li_2, li_20, lj_19, lj_20, gR_0_1, is_7, s183, ii_eq, ii_lt, p1, p2, p3]
  · rw [if_neg (by omega)]
    exact ⟨w, by
      rw [fq_198]
      simp (disch := omega) only [qB_s, qC_t, qC_f, qI_T, qI_F, qI_t, qI_f, r_I, r_L, r_R, r_V, ii_add, ii_sub, ii_mul, ii_neg, bz_0, bz_1, Bool.true_and, Bool.false_and, Bool.and_true, z00, z11, li_0, li_1, li_14, li_2, li_20, lj_19, lj_20, gR_0_1, is_7, ii_lt, ii_eq, ii_jj, jj_neg, s183], fr_r _ _⟩

theorem y_199 (hM : RM w A) (hw : WY w) (hA : okA A) {o : Int} (ho1 : -2147483648 ≤ o) (ho2 : o ≤ 2147483647) : ∃ u, am_F sc 199 [am_R (some 47), am_I (ii o)] (wst w) = some (some (am_I (ii (if (-1 ≤ o ∧ o ≤ 7) then if (14 : Int) < lS1 A.1.2.2.2 o A.1.2.2.1.toNat then -1 else eg (lS1 A.1.2.2.2 o A.1.2.2.1.toNat) (lS2 A.1.2.2.2 o A.1.2.2.1.toNat) else -1))), wst u) ∧ fr scN w u ∧ WY u := by
  by_cases q1 : -1 ≤ o ∧ o ≤ 7
  · obtain ⟨u, e1, f1, i0, i1, i2⟩ := d188 (sc := sc) hM.2.1 (okL_of hA) ho1 ho2 q1
    have hwu := WY_fr hw f1 rfl
    have hn := okL_of hA
    have hn2 := hn.2.1
    have rle := lS_le A.1.2.2.2 o A.1.2.2.1.toNat
    have r1 : 0 ≤ lS1 A.1.2.2.2 o A.1.2.2.1.toNat ∧ lS1 A.1.2.2.2 o A.1.2.2.1.toNat ≤ A.1.2.2.1.toNat := sm_bz _
    have r2 : 0 ≤ lS2 A.1.2.2.2 o A.1.2.2.1.toNat ∧ lS2 A.1.2.2.2 o A.1.2.2.1.toNat ≤ A.1.2.2.1.toNat := sm_bz _
    have hf := fr_m f1 (m := scN) rfl
    rw [if_pos (by omega)]
    by_cases q4 : (14 : Int) < lS1 A.1.2.2.2 o A.1.2.2.1.toNat
    · rw [if_pos q4]
      refine ⟨u, ?_, hf, hwu⟩
      rw [fq_199]
      simp (disch := omega) only [qB_s, qC_t, qC_f, qI_T, qI_F, qI_t, qI_f, r_I, r_L, r_R, r_V, ii_add, ii_sub, ii_mul, ii_neg, bz_0, bz_1, Bool.true_and, Bool.false_and, Bool.and_true, z00, z11, li_0, li_1, li_14, li_2, li_20, lj_1, lj_20, gI_47_43, is_47, e1, ii_eq, ii_lt, i1]
    · rw [if_neg q4]
      obtain ⟨u2, p3, f3, y3⟩ := d199 (sc := sc) hwu i1 i2 r1.1 (by omega) r2.1 rle
      refine ⟨u2, ?_, fr_t hf (fr_m f3 rfl), y3⟩
      rw [fq_199]
      simp (disch := omega) only [qB_s, qC_t, qC_f, qI_T, qI_F, qI_t, qI_f, r_I, r_L, r_R, r_V, ii_add, ii_sub, ii_mul, ii_neg, bz_0, bz_1, Bool.true_and, Bool.false_and, Bool.and_true, z00, z11, li_0, li_1, li_14, li_2, li_20, lj_1, lj_20, gI_47_43, is_47, e1, ii_eq, ii_lt, i1, p3]
  · rw [if_neg (by omega)]
    exact ⟨w, by
      rw [fq_199]
      simp (disch := omega) only [qB_s, qC_t, qC_f, qI_T, qI_F, qI_t, qI_f, r_I, r_L, r_R, r_V, ii_add, ii_sub, ii_mul, ii_neg, bz_0, bz_1, Bool.true_and, Bool.false_and, Bool.and_true, z00, z11, li_0, li_1, li_14, li_2, li_20, lj_1, lj_20, gI_47_43, is_47, d188n, ii_eq, jj_neg], fr_r _ _, hw⟩
end L38
