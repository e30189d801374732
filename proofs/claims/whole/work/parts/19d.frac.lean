/-! FRACTIONS: END -/
section L19
variable {sc : am_X} {w : wo}
theorem c131 {a b c d : Int} (ha : 0 ≤ a ∧ a ≤ 2000) (hb : 0 ≤ b ∧ b ≤ 2000) (hc : 0 ≤ c ∧ c ≤ 2000) (hd : 0 ≤ d ∧ d ≤ 2000) : ∃ v, am_F sc 131 [am_R (some 28), am_I (ii a), am_I (ii b), am_I (ii c), am_I (ii d)] (wst w) = some (none, wst v) ∧ fr [2800, 2801] w v ∧ wJ v 28 0 = frU a b c d ∧ wJ v 28 1 = frD a b c d := by
  by_cases q : b = 0 ∨ d = 0
  · refine ⟨uJ (uJ w 28 0 0) 28 1 0, c131z ha hb hc hd q, fr_uJ (fr_uJ (fr_r _ _) rfl) rfl, ?_, ?_⟩
    · rw [rJm _ _ _ (by decide), rJ, frU, if_pos q]
    · rw [rJ, frD, if_pos q]
  · have hb' : 0 < b ∧ b ≤ 2000 := by omega
    have hd' : 0 < d ∧ d ≤ 2000 := by omega
    obtain ⟨G, U, D, g0, g1, g2, g3, g4, g5, g6, g7, g8, g9, g10, g11, g12, g13, g14⟩ := gUD (a := a) (b := b) (c := c) (d := d) ha hb' hc hd'
    rw [g4, g5]
    exact c131m ha hb' hc hd' rfl rfl ⟨g11, g12⟩ ⟨g13, g14⟩ g0 g1 g2 g3 ⟨g6, g7⟩ ⟨g9, g10⟩ g8
theorem d136z {a b c d : Int} (ha : 0 ≤ a ∧ a ≤ 2000) (hb : 0 ≤ b ∧ b ≤ 2000) (hc : 0 ≤ c ∧ c ≤ 2000) (hd : 0 ≤ d ∧ d ≤ 2000) (q : b = 0 ∨ d = 0) : am_F sc 136 [am_R (some 47), am_L (jj a), am_L (jj b), am_L (jj c), am_L (jj d)] (wst w) = some (none, wst (uJ (uJ w 47 30 0) 47 31 0)) := by
  rw [fq_136]
  by_cases q2 : b = 0
  · simp (disch := omega) only [qB_s, qC_t, qC_f, qI_T, qI_F, qI_t, qI_f, r_I, r_L, r_R, r_V, ii_add, ii_sub, ii_mul, ii_neg, bz_0, bz_1, Bool.true_and, Bool.false_and, Bool.and_true, z00, z11, li_0, lj_0, gL_47_30, gL_47_31, pL_47_30, pL_47_31, lg_eq]
  · simp (disch := omega) only [qB_s, qC_t, qC_f, qI_T, qI_F, qI_t, qI_f, r_I, r_L, r_R, r_V, ii_add, ii_sub, ii_mul, ii_neg, bz_0, bz_1, Bool.true_and, Bool.false_and, Bool.and_true, z00, z11, li_0, lj_0, gL_47_30, gL_47_31, pL_47_30, pL_47_31, lg_eq]
theorem d135g {N E G M : Int} (hN : -4000000 ≤ N ∧ N ≤ 4000000) (hE : 0 < E ∧ E ≤ 4000000) (hG : G = ((N.natAbs.gcd E.natAbs : Nat) : Int)) (hM : M = ((N.natAbs : Nat) : Int)) : am_F sc 135 [am_L (jj M), am_L (jj E)] (wst w) = some (some (am_L (jj G)), wst w) := by
  rw [fq_135]
  have h := d135 (sc := sc) (w := w) E.natAbs N.natAbs (by omega) (by omega)
  rw [show ((E.natAbs : Nat) : Int) = E from by omega, ← hG, ← hM] at h
  exact h
theorem d136m {a b c d N E G U D : Int} (ha : 0 ≤ a ∧ a ≤ 2000) (hb : 0 < b ∧ b ≤ 2000) (hc : 0 ≤ c ∧ c ≤ 2000) (hd : 0 < d ∧ d ≤ 2000) (hN : a * d - c * b = N) (hE : b * d = E) (n1 : -4000000 ≤ N ∧ N ≤ 4000000) (e1 : 0 < E ∧ E ≤ 4000000) (hG : G = ((N.natAbs.gcd E.natAbs : Nat) : Int)) (g1 : 0 < G) (g2 : N = G * U) (g3 : E = G * D) (d1 : 0 < D ∧ D ≤ 4000000) (u1 : -4000000 ≤ U ∧ U ≤ 4000000) (g4 : G ≤ 4000000) : ∃ v, am_F sc 136 [am_R (some 47), am_L (jj a), am_L (jj b), am_L (jj c), am_L (jj d)] (wst w) = some (none, wst v) ∧ fr [4730, 4731] w v ∧ wJ v 47 30 = U ∧ wJ v 47 31 = D := by
  have i1 := jj_divx (q := U) (b := G) g1 (by omega) (by omega) (by omega) (by omega) (by omega)
  have i2 := jj_divx (q := D) (b := G) g1 (by omega) (by omega) (by omega) (by omega) (by omega)
  rw [← g2] at i1
  rw [← g3] at i2
  have r1 : (lg_cmp (jj b) (jj 0) = ii 0) = (b = 0) := lg_eq (by omega) (by omega) (by omega) (by omega)
  have r2 : (lg_cmp (jj d) (jj 0) = ii 0) = (d = 0) := lg_eq (by omega) (by omega) (by omega) (by omega)
  have r3 : (lg_cmp (jj N) (jj 0) < ii 0) = (N < 0) := lg_lt (by omega) (by omega) (by omega) (by omega)
  have r5 : (jj G = jj 0) = (G = 0) := jj_eq (by omega) (by omega) (by omega) (by omega)
  have k1 : (30 : Nat) ≠ 31 := by decide
  have k2 : (31 : Nat) ≠ 30 := by decide
  have g0 : ¬ (G = 0) := by omega
  have z1 : ¬ (b = 0) := by omega
  have z2 : ¬ (d = 0) := by omega
  refine ⟨uJ (uJ (uJ (uJ (uJ (uJ w 47 30 0) 47 31 0) 47 30 N) 47 31 E) 47 30 U) 47 31 D, ?_, fr_uJ (fr_uJ (fr_uJ (fr_uJ (fr_uJ (fr_uJ (fr_r _ _) rfl) rfl) rfl) rfl) rfl) rfl, ?_, rJ _ _ _ _⟩
  · rw [fq_136]
    by_cases q2 : N < 0
    · have e0 := d135g (sc := sc) (w := uJ (uJ (uJ (uJ w 47 30 0) 47 31 0) 47 30 N) 47 31 E) (M := -N) n1 e1 hG (by omega)
      clear ha hb hc hd n1 e1 hG g1 g2 g3 d1 u1 g4
      simp (disch := assumption) only [qB_s, qC_t, qC_f, qI_T, qI_F, qI_t, qI_f, r_I, r_L, r_R, r_V, ii_add, ii_sub, ii_mul, ii_neg, bz_0, bz_1, Bool.true_and, Bool.false_and, Bool.and_true, z00, z11, li_0, lj_0, gL_47_30, gL_47_31, pL_47_30, pL_47_31, r1, r2, r3, r5, jj_mul, jj_sub, jj_neg, hN, hE, rJ, rJm, e0, i1, i2]
    · have e0 := d135g (sc := sc) (w := uJ (uJ (uJ (uJ w 47 30 0) 47 31 0) 47 30 N) 47 31 E) (M := N) n1 e1 hG (by omega)
      clear ha hb hc hd n1 e1 hG g1 g2 g3 d1 u1 g4
      simp (disch := assumption) only [qB_s, qC_t, qC_f, qI_T, qI_F, qI_t, qI_f, r_I, r_L, r_R, r_V, ii_add, ii_sub, ii_mul, ii_neg, bz_0, bz_1, Bool.true_and, Bool.false_and, Bool.and_true, z00, z11, li_0, lj_0, gL_47_30, gL_47_31, pL_47_30, pL_47_31, r1, r2, r3, r5, jj_mul, jj_sub, hN, hE, rJ, rJm, e0, i1, i2]
  · rw [rJm _ _ _ (by decide), rJ]
theorem d136 {a b c d : Int} (ha : 0 ≤ a ∧ a ≤ 2000) (hb : 0 ≤ b ∧ b ≤ 2000) (hc : 0 ≤ c ∧ c ≤ 2000) (hd : 0 ≤ d ∧ d ≤ 2000) : ∃ v, am_F sc 136 [am_R (some 47), am_L (jj a), am_L (jj b), am_L (jj c), am_L (jj d)] (wst w) = some (none, wst v) ∧ fr [4730, 4731] w v ∧ wJ v 47 30 = frU a b c d ∧ wJ v 47 31 = frD a b c d := by
  by_cases q : b = 0 ∨ d = 0
  · refine ⟨uJ (uJ w 47 30 0) 47 31 0, d136z ha hb hc hd q, fr_uJ (fr_uJ (fr_r _ _) rfl) rfl, ?_, ?_⟩
    · rw [rJm _ _ _ (by decide), rJ, frU, if_pos q]
    · rw [rJ, frD, if_pos q]
  · have hb' : 0 < b ∧ b ≤ 2000 := by omega
    have hd' : 0 < d ∧ d ≤ 2000 := by omega
    obtain ⟨G, U, D, g0, g1, g2, g3, g4, g5, g6, g7, g8, g9, g10, g11, g12, g13, g14⟩ := gUD (a := a) (b := b) (c := c) (d := d) ha hb' hc hd'
    rw [g4, g5]
    exact d136m ha hb' hc hd' rfl rfl ⟨g11, g12⟩ ⟨g13, g14⟩ g0 g1 g2 g3 ⟨g6, g7⟩ ⟨g9, g10⟩ g8
end L19
