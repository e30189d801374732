/-! CLAIM IN THE OTHER -/
theorem y208g {sc : am_X} {s0 s4 s5 s9 : am_S} {x1 x2 x3 x4 : Int32} {L1 L2 L3 L4 : Int64} (i0 : am_is s0 47 12 = true) (h1 : am_rI (am_F sc 120 [am_R (some 47), am_I x1] s0) = some (1, s0)) (h2 : am_rI (am_F sc 202 [am_R (some 47), am_I x2, am_I x3] s0) = some (1, s0)) (h3 : am_rI (am_F sc 17 [am_L x4.toInt64, am_L (-1000), am_L 1000] s0) = some (1, s0)) (h4 : am_rV (am_F sc 124 [am_R (some 47), am_I x1, am_I 0] s0) = some s4) (i4 : am_is s4 47 12 = true) (h5 : am_rV (am_F sc 203 [am_R (some 47), am_I x2, am_I x3] s4) = some s5) (g1 : am_gL s5 47 12 31 = some L1) (g2 : am_gL s5 47 12 30 = some L2) (i5 : am_is s5 47 12 = true) (h6 : am_rV (am_F sc 204 [am_R (some 47), am_I x2, am_I x3] s5) = some s9) (g3 : am_gL s9 47 12 31 = some L3) (g4 : am_gL s9 47 12 30 = some L4) : (lg_cmp L1 0 = 0 → am_F sc 208 [am_R (some 47), am_I x1, am_I x2, am_I x3, am_I x4] s0 = some (some (am_I (-1)), s5)) ∧ (¬ lg_cmp L1 0 = 0 → ¬ lg_cmp (1000 * L2) (x4.toInt64 * L1) < 0 → am_F sc 208 [am_R (some 47), am_I x1, am_I x2, am_I x3, am_I x4] s0 = some (some (am_I 2), s5)) ∧ (¬ lg_cmp L1 0 = 0 → lg_cmp (1000 * L2) (x4.toInt64 * L1) < 0 → lg_cmp (1000 * L4) (x4.toInt64 * L3) < 0 → am_F sc 208 [am_R (some 47), am_I x1, am_I x2, am_I x3, am_I x4] s0 = some (some (am_I 0), s9)) ∧ (¬ lg_cmp L1 0 = 0 → lg_cmp (1000 * L2) (x4.toInt64 * L1) < 0 → ¬ lg_cmp (1000 * L4) (x4.toInt64 * L3) < 0 → am_F sc 208 [am_R (some 47), am_I x1, am_I x2, am_I x3, am_I x4] s0 = some (some (am_I 1), s9)) := by
  have n1 : ¬ (1 : Int32) = 0 := by decide
  refine ⟨fun q => ?_, fun q q2 => ?_, fun q q2 q3 => ?_, fun q q2 q3 => ?_⟩
  · rw [fq_208]
    simp only [i0, qC_t, h1, qB_s, qI_f n1, h2, h3, h4, i4, h5, g1, g2, i5, h6, g3, g4, qI_t q]
  · rw [fq_208]
    simp only [i0, qC_t, h1, qB_s, qI_f n1, h2, h3, h4, i4, h5, g1, g2, i5, h6, g3, g4, qI_f q, qI_f q2]
  · rw [fq_208]
    simp only [i0, qC_t, h1, qB_s, qI_f n1, h2, h3, h4, i4, h5, g1, g2, i5, h6, g3, g4, qI_f q, qI_t q2, qI_t q3]
  · rw [fq_208]
    simp only [i0, qC_t, h1, qB_s, qI_f n1, h2, h3, h4, i4, h5, g1, g2, i5, h6, g3, g4, qI_f q, qI_t q2, qI_f q3]
section L68
variable {sc : am_X} {w : wo} {A : ab} {ow : Nat → Nat}
theorem y_208 (hM : RM w A) (hA : okA A) {v p q t : Int} (hv1 : -2147483648 ≤ v) (hv2 : v ≤ 2147483647) (hp1 : -2147483648 ≤ p) (hp2 : p ≤ 2147483647) (hq1 : -2147483648 ≤ q) (hq2 : q ≤ 2147483647) (ht1 : -2147483648 ≤ t) (ht2 : t ≤ 2147483647) : ∃ u, am_F sc 208 [am_R (some 47), am_I (ii v), am_I (ii p), am_I (ii q), am_I (ii t)] (wst w) = some (some (am_I (ii (if (0 ≤ v ∧ v < A.2.2.1.1) ∧ (0 ≤ p ∧ p ≤ 999 ∧ 0 ≤ q ∧ q ≤ 999) ∧ (-1000 ≤ t ∧ t ≤ 1000) then if lsD A v p q = 0 then -1 else if t * lsD A v p q ≤ lsU A v p q * 1000 then 2 else if 0 < gsD A v p q ∧ t * gsD A v p q ≤ gsU A v p q * 1000 then 1 else 0 else -1))), wst u) ∧ fr scM w u := by
  have hn8 := hA.2.2.1.2.1
  have hn0 := hA.2.2.1.1
  have h120 := d120 (sc := sc) hM hn8 hn0 (v := v) hv1 hv2
  by_cases q1 : 0 ≤ v ∧ v < A.2.2.1.1
  · skip
    by_cases q2 : 0 ≤ p ∧ p ≤ 999 ∧ 0 ≤ q ∧ q ≤ 999
    · skip
      by_cases q3 : -1000 ≤ t ∧ t ≤ 1000
      · skip
        rw [if_pos (by omega)]
        obtain ⟨u, e1, f1, t1, -, a0, a1, a2, a3⟩ := d124v (sc := sc) hM hA q1
        obtain ⟨r1, r2, r3, r4⟩ := c4_ran hA v
        have hp : p ≤ 999 ∧ 0 ≤ p := by omega
        have hq : q ≤ 999 ∧ 0 ≤ q := by omega
        obtain ⟨u2, e2, f2, j0, j1⟩ := d203 (sc := sc) a0 a1 a2 a3 r1 r2 r3 r4 (p := p) (q := q) (by omega) (by omega)
        rw [← fr_A (a := 60) f2 rfl] at a0 a1
        rw [← fr_A (a := 61) f2 rfl] at a2 a3
        obtain ⟨u3, e3, f3, k0, k1⟩ := d204 (sc := sc) a0 a1 a2 a3 r1 r2 r3 r4 (p := p) (q := q) (by omega) (by omega)
        have j0' : wJ u2 47 30 = lsU A v p q := j0
        have j1' : wJ u2 47 31 = lsD A v p q := j1
        have k0' : wJ u3 47 30 = gsU A v p q := k0
        have k1' : wJ u3 47 31 = gsD A v p q := k1
        have w1 : (-4000000 ≤ lsU A v p q ∧ lsU A v p q ≤ 4000000) ∧ (0 ≤ lsD A v p q ∧ lsD A v p q ≤ 4000000) := frUD_ran (by omega) (by omega) (by omega) (by omega)
        have w2 : (-4000000 ≤ gsU A v p q ∧ gsU A v p q ≤ 4000000) ∧ (0 ≤ gsD A v p q ∧ gsD A v p q ≤ 4000000) := frUD_ran (by omega) (by omega) (by omega) (by omega)
        have hD1 : lsD A v p q ≠ 0 → 0 < gsD A v p q := fun h => by
          have h' : ¬ (cA (aG A) (vF A v) 0 (vM A v) + p = 0 ∨ cA (aG A) (vF A v) 1 (vM A v) + q = 0) := fun z => h (by unfold lsD frD; rw [if_pos z])
          unfold gsD
          have hb' : 0 < cA (aG A) (vF A v) 0 (vM A v) + p ∧ cA (aG A) (vF A v) 0 (vM A v) + p ≤ 2000 := by omega
          have hd' : 0 < cA (aG A) (vF A v) 1 (vM A v) + q ∧ cA (aG A) (vF A v) 1 (vM A v) + q ≤ 2000 := by omega
          obtain ⟨G, U, D, g0, g1, g2, g3, g4, g5, g6, g7, -⟩ := gUD (a := cL (aG A) (vF A v) 0 (vM A v) + p) (b := cA (aG A) (vF A v) 0 (vM A v) + p) (c := cL (aG A) (vF A v) 1 (vM A v)) (d := cA (aG A) (vF A v) 1 (vM A v) + q) (by omega) hb' (by omega) hd'
          rw [g5]
          exact g6
        have bnd : ∀ D : Int, 0 ≤ D → D ≤ 4000000 → -4000000000 ≤ t * D ∧ t * D ≤ 4000000000 := fun D h1 h2 => by
          have b1 := Int.mul_le_mul_of_nonneg_right (a := -1000) (b := t) (c := D) (by omega) h1
          have b2 := Int.mul_le_mul_of_nonneg_right (a := t) (b := 1000) (c := D) (by omega) h1
          omega
        have b1 := bnd _ w1.2.1 w1.2.2
        have b2 := bnd _ w2.2.1 w2.2.2
        clear j0 j1 k0 k1 a0 a1 a2 a3 r1 r2 r3 r4
        have i202 := s202 (sc := sc) (w := w) (x := p) (y := q) hp1 hp2 hq1 hq2
        have i17 := d17 (sc := sc) (w := w) (v := t) (lo := -1000) (hi := 1000) (by omega) (by omega) (by omega) (by omega) (by omega) (by omega)
        have E1 : am_rI (am_F sc 120 [am_R (some 47), am_I (ii v)] (wst w)) = some (1, wst w) := by
          rw [h120, bz_t q1]
          rfl
        have E2 : am_rI (am_F sc 202 [am_R (some 47), am_I (ii p), am_I (ii q)] (wst w)) = some (1, wst w) := by
          rw [i202, bz_t q2]
          rfl
        have E3 : am_rI (am_F sc 17 [am_L (ii t).toInt64, am_L (-1000), am_L 1000] (wst w)) = some (1, wst w) := by
          rw [ii_jj (by omega) (by omega), show (-1000 : Int64) = jj (-1000) by decide, show (1000 : Int64) = jj 1000 by decide, i17, bz_t q3]
          rfl
        have E4 : am_rV (am_F sc 124 [am_R (some 47), am_I (ii v), am_I 0] (wst w)) = some (wst u) := by
          rw [li_0, e1]
          rfl
        have E5 : am_rV (am_F sc 203 [am_R (some 47), am_I (ii p), am_I (ii q)] (wst u)) = some (wst u2) := by
          rw [e2]
          rfl
        have E6 : am_rV (am_F sc 204 [am_R (some 47), am_I (ii p), am_I (ii q)] (wst u2)) = some (wst u3) := by
          rw [e3]
          rfl
        have G1 := gL_47_31 u2
        have G2 := gL_47_30 u2
        have G3 := gL_47_31 u3
        have G4 := gL_47_30 u3
        rw [j1'] at G1
        rw [j0'] at G2
        rw [k1'] at G3
        rw [k0'] at G4
        obtain ⟨K1, K2, K3, K4⟩ := y208g (sc := sc) (is_47 w) E1 E2 E3 E4 (is_47 u) E5 G1 G2 (is_47 u2) E6 G3 G4
        clear E1 E2 E3 E4 E5 E6 G1 G2 G3 G4 h120 i202 i17 e1 e2 e3 j0' j1' k0' k1'
        have C1 : (lg_cmp (jj (lsD A v p q)) 0 = 0) = (lsD A v p q = 0) := by
          rw [show (0 : Int64) = jj 0 by decide, show (0 : Int32) = ii 0 by decide, lg_eq (by omega) (by omega) (by omega) (by omega)]
        have C2 : (lg_cmp (1000 * jj (lsU A v p q)) ((ii t).toInt64 * jj (lsD A v p q)) < 0) = (1000 * lsU A v p q < t * lsD A v p q) := by
          rw [ii_jj (by omega) (by omega), show (1000 : Int64) = jj 1000 by decide, jj_mul, jj_mul, show (0 : Int32) = ii 0 by decide, lg_lt (by omega) (by omega) (by omega) (by omega)]
        have C3 : (lg_cmp (1000 * jj (gsU A v p q)) ((ii t).toInt64 * jj (gsD A v p q)) < 0) = (1000 * gsU A v p q < t * gsD A v p q) := by
          rw [ii_jj (by omega) (by omega), show (1000 : Int64) = jj 1000 by decide, jj_mul, jj_mul, show (0 : Int32) = ii 0 by decide, lg_lt (by omega) (by omega) (by omega) (by omega)]
        rw [C1] at K1 K2 K3 K4
        rw [C2] at K2 K3 K4
        rw [C3] at K3 K4
        have f12 : fr scM w u2 := fr_t (fr_m f1 rfl) (fr_m f2 rfl)
        have f13 : fr scM w u3 := fr_t f12 (fr_m f3 rfl)
        by_cases z1 : lsD A v p q = 0
        · rw [if_pos z1]
          exact ⟨u2, (K1 z1).trans rfl, f12⟩
        · rw [if_neg z1]
          have hD2 := hD1 z1
          by_cases z2 : t * lsD A v p q ≤ lsU A v p q * 1000
          · rw [if_pos z2]
            exact ⟨u2, (K2 z1 (by omega)).trans rfl, f12⟩
          · rw [if_neg z2]
            by_cases z3 : 0 < gsD A v p q ∧ t * gsD A v p q ≤ gsU A v p q * 1000
            · rw [if_pos z3]
              exact ⟨u3, (K4 z1 (by omega) (by omega)).trans rfl, f13⟩
            · rw [if_neg z3]
              have z4 : gsU A v p q * 1000 < t * gsD A v p q := by
                by_cases y : t * gsD A v p q ≤ gsU A v p q * 1000
                · exact absurd ⟨hD2, y⟩ z3
                · omega
              exact ⟨u3, (K3 z1 (by omega) (by omega)).trans rfl, f13⟩
      · rw [if_neg (by omega)]
        exact ⟨w, by
          rw [fq_208]
          simp (disch := omega) only [qB_s, qC_t, qC_f, qI_T, qI_F, qI_t, qI_f, r_I, r_L, r_R, r_V, ii_add, ii_sub, ii_mul, ii_neg, bz_0, bz_1, Bool.true_and, Bool.false_and, Bool.and_true, z00, z11, li_0, li_1, li_2, lj_0, lj_1000, gL_47_30, gL_47_31, is_47, ii_lt, ii_eq, ii_jj, jj_neg, h120, s202, d17], fr_r _ _⟩
    · rw [if_neg (by omega)]
      exact ⟨w, by
        rw [fq_208]
        simp (disch := omega) only [qB_s, qC_t, qC_f, qI_T, qI_F, qI_t, qI_f, r_I, r_L, r_R, r_V, ii_add, ii_sub, ii_mul, ii_neg, bz_0, bz_1, Bool.true_and, Bool.false_and, Bool.and_true, z00, z11, li_0, li_1, li_2, lj_0, lj_1000, gL_47_30, gL_47_31, is_47, ii_lt, ii_eq, ii_jj, jj_neg, h120, s202], fr_r _ _⟩
  · rw [if_neg (by omega)]
    exact ⟨w, by
      rw [fq_208]
      simp (disch := omega) only [qB_s, qC_t, qC_f, qI_T, qI_F, qI_t, qI_f, r_I, r_L, r_R, r_V, ii_add, ii_sub, ii_mul, ii_neg, bz_0, bz_1, Bool.true_and, Bool.false_and, Bool.and_true, z00, z11, li_0, li_1, li_2, lj_0, lj_1000, gL_47_30, gL_47_31, is_47, ii_lt, ii_eq, ii_jj, jj_neg, h120], fr_r _ _⟩

end L68
