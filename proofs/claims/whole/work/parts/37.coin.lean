/-! COIN, HIDDEN, EDGE -/
/-- ways, weighed, from h on to P -/
def hwF (P h b : Int) (i : Nat) : Int := cg P (h + i) * b ^ (h + i).toNat
def hwS (P h b : Int) : Int := sm (hwF P h b) (P + 1 - h).toNat
section L37
variable {sc : am_X} {w : wo} {A : ab} {ow : Nat → Nat} {n : Int} {g : Int → Int → Int}
theorem c190 {x k : Int} (hx1 : -2147483648 ≤ x) (hx2 : x ≤ 2147483647) (hk0 : 0 ≤ k) (hk : k ≤ 2147483647) : am_F sc 190 [am_I (ii x), am_I (ii k)] (wst w) = some (some (am_L (jj (x ^ k.toNat))), wst w) := by
  have e := lp_0 (am_W sc 190) (fun j : Nat => (5, [some (am_I (ii x)), some (am_I (ii k)), some (am_L (jj (x ^ j))), none, some (am_I (ii j))], [], wst w)) k.toNat (fun j hj => by
    rw [wq_190_5, Int.pow_succ]
    simp (disch := omega) only [qB_s, qC_t, qC_f, qI_T, qI_F, qI_t, qI_f, r_I, r_L, r_R, r_V, ii_add, ii_sub, ii_mul, ii_neg, bz_0, bz_1, Bool.true_and, Bool.false_and, Bool.and_true, z00, z11, li_0, li_1, lj_1, ii_lt, ii_jj, jj_mul, nat_1])
  rw [Int.pow_zero] at e
  have e' : am_W sc 190 (5, [some (am_I (ii x)), some (am_I (ii k)), some (am_L (jj 1)), none, some (am_I (ii 0))], [], wst w) = _ := e
  rw [fq_190, li_0, show (1 : Int64) = jj 1 from rfl, e', wq_190_5]
  simp (disch := omega) only [qB_s, qC_t, qC_f, qI_T, qI_F, qI_t, qI_f, r_I, r_L, r_R, r_V, ii_add, ii_sub, ii_mul, ii_neg, bz_0, bz_1, Bool.true_and, Bool.false_and, Bool.and_true, z00, z11, li_0, li_1, lj_1, ii_lt]
theorem c191 {P h b : Int} (hP : 0 ≤ P) (hP2 : P ≤ 1000) (hh : 0 ≤ h) (hh2 : h ≤ P) (hb1 : -2147483648 ≤ b) (hb2 : b ≤ 2147483647) : am_F sc 191 [am_I (ii P), am_I (ii h), am_I (ii b)] (wst w) = some (some (am_L (jj (hwS P h b))), wst w) := by
  have e := lp_0 (am_W sc 191) (fun j : Nat => (5, [some (am_I (ii P)), none, some (am_I (ii b)), some (am_L (jj (sm (hwF P h b) j))), none, some (am_I (ii (h + j)))], [], wst w)) (P + 1 - h).toNat (fun j hj => by
    have p1 := c138 (sc := sc) (w := w) (n := P) (k := h + j) (by omega) (by omega) (by omega) (by omega)
    have p2 := c190 (sc := sc) (w := w) (x := b) (k := h + j) hb1 hb2 (by omega) (by omega)
    rw [wq_191_5, show sm (hwF P h b) (j + 1) = sm (hwF P h b) j + cg P (h + j) * b ^ (h + j).toNat from rfl]
    rw [show h + ((j + 1 : Nat) : Int) = h + j + 1 from by omega]
    simp (disch := omega) only [qB_s, qC_t, qC_f, qI_T, qI_F, qI_t, qI_f, r_I, r_L, r_R, r_V, ii_add, ii_sub, ii_mul, ii_neg, bz_0, bz_1, Bool.true_and, Bool.false_and, Bool.and_true, z00, z11, li_0, li_1, lj_0, ii_lt, p1, p2, jj_mul, jj_add])
  have e' : am_W sc 191 (5, [some (am_I (ii P)), none, some (am_I (ii b)), some (am_L (jj 0)), none, some (am_I (ii (h + ((0 : Nat) : Int))))], [], wst w) = _ := e
  rw [show h + ((0 : Nat) : Int) = h from by omega] at e'
  rw [fq_191, show (0 : Int64) = jj 0 from rfl, e', wq_191_5]
  simp (disch := omega) only [qB_s, qC_t, qC_f, qI_T, qI_F, qI_t, qI_f, r_I, r_L, r_R, r_V, ii_add, ii_sub, ii_mul, ii_neg, bz_0, bz_1, Bool.true_and, Bool.false_and, Bool.and_true, z00, z11, li_0, li_1, lj_0, ii_lt]
  rfl
theorem d195 {x k : Int} (hk0 : 0 ≤ k) (hk : k ≤ 2147483647) : am_F sc 195 [am_L (jj x), am_I (ii k)] (wst w) = some (some (am_L (jj (x ^ k.toNat))), wst w) := by
  have e := lp_0 (am_W sc 195) (fun j : Nat => (5, [some (am_L (jj x)), none, some (am_I (ii k)), some (am_L (jj (x ^ j))), none, some (am_I (ii j))], [], wst w)) k.toNat (fun j hj => by
    rw [wq_195_5, Int.pow_succ]
    simp (disch := omega) only [qB_s, qC_t, qC_f, qI_T, qI_F, qI_t, qI_f, r_I, r_L, r_R, r_V, ii_add, ii_sub, ii_mul, ii_neg, bz_0, bz_1, Bool.true_and, Bool.false_and, Bool.and_true, z00, z11, li_0, li_1, lj_1, ii_lt, ii_jj, jj_mul, nat_1])
  rw [Int.pow_zero] at e
  have e' : am_W sc 195 (5, [some (am_L (jj x)), none, some (am_I (ii k)), some (am_L (jj 1)), none, some (am_I (ii 0))], [], wst w) = _ := e
  rw [fq_195, li_0, show (1 : Int64) = jj 1 from rfl, e', wq_195_5]
  simp (disch := omega) only [qB_s, qC_t, qC_f, qI_T, qI_F, qI_t, qI_f, r_I, r_L, r_R, r_V, ii_add, ii_sub, ii_mul, ii_neg, bz_0, bz_1, Bool.true_and, Bool.false_and, Bool.and_true, z00, z11, li_0, li_1, lj_1, ii_lt]
end L37
