/-! FRACTIONS: THE CLASS -/
section L19
variable {sc : am_X} {w : wo}
theorem c131m {a b c d N E G U D : Int} (ha : 0 ≤ a ∧ a ≤ 2000) (hb : 0 < b ∧ b ≤ 2000) (hc : 0 ≤ c ∧ c ≤ 2000) (hd : 0 < d ∧ d ≤ 2000) (hN : a * d - c * b = N) (hE : b * d = E) (n1 : -4000000 ≤ N ∧ N ≤ 4000000) (e1 : 0 < E ∧ E ≤ 4000000) (hG : G = ((N.natAbs.gcd E.natAbs : Nat) : Int)) (g1 : 0 < G) (g2 : N = G * U) (g3 : E = G * D) (d1 : 0 < D ∧ D ≤ 4000000) (u1 : -4000000 ≤ U ∧ U ≤ 4000000) (g4 : G ≤ 4000000) : ∃ v, am_F sc 131 [am_R (some 28), am_I (ii a), am_I (ii b), am_I (ii c), am_I (ii d)] (wst w) = some (none, wst v) ∧ fr [2800, 2801] w v ∧ wJ v 28 0 = U ∧ wJ v 28 1 = D := by
  have i1 := jj_divx (q := U) (b := G) g1 (by omega) (by omega) (by omega) (by omega) (by omega)
  have i2 := jj_divx (q := D) (b := G) g1 (by omega) (by omega) (by omega) (by omega) (by omega)
  rw [← g2] at i1
  rw [← g3] at i2
  have e0 := c130g (sc := sc) (w := uJ (uJ (uJ (uJ w 28 0 0) 28 1 0) 28 0 N) 28 1 E) n1 e1 hG
  have p1 : 0 < b := hb.1
  have p2 : 0 < d := hd.1
  have r1 : (ii 0 < ii b) = (0 < b) := ii_lt (by omega) (by omega) (by omega) (by omega)
  have r2 : (ii 0 < ii d) = (0 < d) := ii_lt (by omega) (by omega) (by omega) (by omega)
  have r3 := absL_jj (a := N) (by omega) (by omega)
  have r4 : (ii 0 < lg_cmp (jj G) (jj 1)) = (1 < G) := lg_gt (by omega) (by omega) (by omega) (by omega)
  have r5 : (jj G = jj 0) = (G = 0) := jj_eq (by omega) (by omega) (by omega) (by omega)
  have ta := ii_jj (a := a) (by omega) (by omega)
  have tb := ii_jj (a := b) (by omega) (by omega)
  have tc := ii_jj (a := c) (by omega) (by omega)
  have td := ii_jj (a := d) (by omega) (by omega)
  have tN : (ii a).toInt64 * (ii d).toInt64 - (ii c).toInt64 * (ii b).toInt64 = jj N := by rw [ta, td, tc, tb, jj_mul, jj_mul, jj_sub, hN]
  have tE : (ii b).toInt64 * (ii d).toInt64 = jj E := by rw [td, tb, jj_mul, hE]
  have k1 : (0 : Nat) ≠ 1 := by decide
  have k2 : (1 : Nat) ≠ 0 := by decide
  have g0 : ¬ (G = 0) := by omega
  have i0 : ii 0 < ii b := by rw [r1]; exact p1
  have i00 : ii 0 < ii d := by rw [r2]; exact p2
  have i3 : ¬ (jj G = jj 0) := by rw [r5]; exact g0
  obtain ⟨f, hf⟩ : ∃ f, f = am_absL := ⟨_, rfl⟩
  rw [← hf] at r3
  by_cases q2 : 1 < G
  · refine ⟨uJ (uJ (uJ (uJ (uJ (uJ w 28 0 0) 28 1 0) 28 0 N) 28 1 E) 28 0 U) 28 1 D, ?_, fr_uJ (fr_uJ (fr_uJ (fr_uJ (fr_uJ (fr_uJ (fr_r _ _) rfl) rfl) rfl) rfl) rfl) rfl, ?_, rJ _ _ _ _⟩
    · have i4 : ii 0 < lg_cmp (jj G) (jj 1) := by rw [r4]; exact q2
      rw [fq_131, ← hf, lj_0, li_0, lj_1, pL_28_0, qB_s, pL_28_1, qB_s, qI_t i0, qI_t i00, tN, pL_28_0, qB_s, tE, pL_28_1, qB_s, gL_28_0, qB_s, gL_28_1, qB_s, rJ, rJm _ _ _ k1, rJ, r3, e0, r_L, qB_s]
      rw [qI_t i4, gL_28_0, qB_s, qI_f i3, rJm _ _ _ k1, rJ, i1, pL_28_0, qB_s, gL_28_1, qB_s, qI_f i3, rJm _ _ _ k2, rJ, i2, pL_28_1, qB_s]
    · rw [rJm _ _ _ (by decide), rJ]
  · have hG1 : G = 1 := by omega
    have hU : N = U := by rw [g2, hG1, Int.one_mul]
    have hD : E = D := by rw [g3, hG1, Int.one_mul]
    refine ⟨uJ (uJ (uJ (uJ w 28 0 0) 28 1 0) 28 0 N) 28 1 E, ?_, fr_uJ (fr_uJ (fr_uJ (fr_uJ (fr_r _ _) rfl) rfl) rfl) rfl, ?_, ?_⟩
    · have i4 : ¬ (ii 0 < lg_cmp (jj G) (jj 1)) := by rw [r4]; exact q2
      rw [fq_131, ← hf, lj_0, li_0, lj_1, pL_28_0, qB_s, pL_28_1, qB_s, qI_t i0, qI_t i00, tN, pL_28_0, qB_s, tE, pL_28_1, qB_s, gL_28_0, qB_s, gL_28_1, qB_s, rJ, rJm _ _ _ k1, rJ, r3, e0, r_L, qB_s]
      rw [qI_f i4]
    · rw [rJm _ _ _ (by decide), rJ, hU]
    · rw [rJ, hD]
end L19
