/-! FRACTIONS, SECOND HALF -/
section L19
variable {sc : am_X} {w : wo}
theorem c131z {a b c d : Int} (ha : 0 ≤ a ∧ a ≤ 2000) (hb : 0 ≤ b ∧ b ≤ 2000) (hc : 0 ≤ c ∧ c ≤ 2000) (hd : 0 ≤ d ∧ d ≤ 2000) (q : b = 0 ∨ d = 0) : am_F sc 131 [am_R (some 28), am_I (ii a), am_I (ii b), am_I (ii c), am_I (ii d)] (wst w) = some (none, wst (uJ (uJ w 28 0 0) 28 1 0)) := by
  rw [fq_131]
  by_cases q2 : b = 0
  · simp (disch := omega) only [qB_s, qC_t, qC_f, qI_T, qI_F, qI_t, qI_f, r_I, r_L, r_R, r_V, ii_add, ii_sub, ii_mul, ii_neg, bz_0, bz_1, Bool.true_and, Bool.false_and, Bool.and_true, z00, z11, li_0, lj_0, lj_1, gL_28_0, gL_28_1, pL_28_0, pL_28_1, ii_lt]
  · simp (disch := omega) only [qB_s, qC_t, qC_f, qI_T, qI_F, qI_t, qI_f, r_I, r_L, r_R, r_V, ii_add, ii_sub, ii_mul, ii_neg, bz_0, bz_1, Bool.true_and, Bool.false_and, Bool.and_true, z00, z11, li_0, lj_0, lj_1, gL_28_0, gL_28_1, pL_28_0, pL_28_1, ii_lt]
theorem c130g {N E G : Int} (hN : -4000000 ≤ N ∧ N ≤ 4000000) (hE : 0 < E ∧ E ≤ 4000000) (hG : G = ((N.natAbs.gcd E.natAbs : Nat) : Int)) : am_F sc 130 [am_L (jj (if 0 < N then N else -N)), am_L (jj E)] (wst w) = some (some (am_L (jj G)), wst w) := by
  rw [fq_130, li_0]
  have h22 : E.natAbs < 2 ^ 22 := by
    have : (2 : Nat) ^ 22 = 4194304 := by decide
    omega
  have h := c130 (sc := sc) (w := w) 22 N.natAbs E.natAbs 0 h22 (by omega) (by omega) (by omega) (by omega)
  rw [show ((N.natAbs : Nat) : Int) = if 0 < N then N else -N from by split <;> omega, show ((E.natAbs : Nat) : Int) = E from by omega, ← hG] at h
  exact h
end L19
