/-! FRACTIONS -/
theorem jj_div0 {a b : Int} (h1 : 0 ≤ a) (h2 : a ≤ 9223372036854775807) (h3 : 0 < b) (h4 : b ≤ 9223372036854775807) : jj a / jj b = jj (a / b) := by
  apply Int64.toInt_inj.mp
  have q : (a / b) ≤ a := Int.ediv_le_self _ h1
  have q0 : 0 ≤ a / b := Int.ediv_nonneg h1 (by omega)
  rw [Int64.toInt_div, jj_val (by omega) (by omega), jj_val (by omega) (by omega), jj_val (by omega) (by omega), Int.tdiv_eq_ediv_of_nonneg h1]
  rw [Int.bmod_eq_of_le (by omega) (by omega)]
/-- a long divided without a rest -/
theorem jj_divx {q b : Int} (h3 : 0 < b) (h4 : b ≤ 9223372036854775807) (h1 : -9223372036854775808 ≤ q) (h2 : q ≤ 9223372036854775807) (h5 : -9223372036854775808 ≤ b * q) (h6 : b * q ≤ 9223372036854775807) : jj (b * q) / jj b = jj q := by
  apply Int64.toInt_inj.mp
  rw [Int64.toInt_div, jj_val h5 h6, jj_val (by omega) h4, jj_val h1 h2, Int.mul_tdiv_cancel_left _ (by omega), Int.bmod_eq_of_le (by omega) (by omega)]
theorem jj_rem0 {a b : Int} (h1 : 0 ≤ a) (h2 : a ≤ 9223372036854775807) (h3 : 0 < b) (h4 : b ≤ 9223372036854775807) : jj a - jj a / jj b * jj b = jj (a % b) := by
  rw [jj_div0 h1 h2 h3 h4, jj_mul, jj_sub]
  congr 1
  have := Int.emod_add_mul_ediv a b
  rw [Int.mul_comm (a / b) b]
  omega
def frU (a b c d : Int) : Int := if b = 0 ∨ d = 0 then 0 else (a * d - c * b) / (((a * d - c * b).natAbs.gcd (b * d).natAbs : Nat) : Int)
def frD (a b c d : Int) : Int := if b = 0 ∨ d = 0 then 0 else (b * d) / (((a * d - c * b).natAbs.gcd (b * d).natAbs : Nat) : Int)
section L19
variable {sc : am_X} {w : wo}
theorem d135 : ∀ (b a : Nat), (a : Int) ≤ 9223372036854775807 → (b : Int) ≤ 9223372036854775807 → am_W sc 135 (6, [none, none, none, none, some (am_L (jj a)), none, some (am_L (jj b)), none, none, none], [], wst w) = some (some (am_L (jj ((a.gcd b : Nat) : Int))), wst w) := by
  intro b
  induction b using Nat.strongRecOn with
  | ind b ih =>
    intro a ha hb
    rw [wq_135_6]
    by_cases q : b = 0
    · subst q
      rw [Nat.gcd_zero_right]
      simp (disch := omega) only [qB_s, qC_t, qC_f, qI_T, qI_F, qI_t, qI_f, r_I, r_L, r_R, r_V, ii_add, ii_sub, ii_mul, ii_neg, bz_0, bz_1, Bool.true_and, Bool.false_and, Bool.and_true, z00, z11, li_0, lj_0, lg_eq]
    · have h := ih (a % b) (Nat.mod_lt _ (by omega)) b hb (by have := Nat.mod_lt a (y := b) (by omega); omega)
      rw [Nat.gcd_comm b, ← Nat.gcd_rec, Nat.gcd_comm] at h
      simp (disch := omega) only [qB_s, qC_t, qC_f, qI_T, qI_F, qI_t, qI_f, r_I, r_L, r_R, r_V, ii_add, ii_sub, ii_mul, ii_neg, bz_0, bz_1, Bool.true_and, Bool.false_and, Bool.and_true, z00, z11, li_0, lj_0, lg_eq, jj_eq, jj_rem0]
      rw [show ((a : Int) % (b : Int)) = ((a % b : Nat) : Int) from rfl]
      exact h
theorem c130 : ∀ (k : Nat) (a b : Nat) (i : Int), b < 2 ^ k → 0 ≤ i → i + 2 * k ≤ 100 → (a : Int) ≤ 9223372036854775807 → (b : Int) ≤ 9223372036854775807 → am_W sc 130 (3, [some (am_L (jj a)), none, some (am_L (jj b)), none, some (am_I (ii i)), none, none], [], wst w) = some (some (am_L (jj ((a.gcd b : Nat) : Int))), wst w) := by
  intro k
  have h0 : ∀ (a : Nat) (i : Int), 0 ≤ i → i ≤ 100 → (a : Int) ≤ 9223372036854775807 → am_W sc 130 (3, [some (am_L (jj a)), none, some (am_L (jj ((0 : Nat) : Int))), none, some (am_I (ii i)), none, none], [], wst w) = some (some (am_L (jj ((a.gcd 0 : Nat) : Int))), wst w) := fun a i hi hi2 ha => by
    rw [wq_130_3, Nat.gcd_zero_right]
    by_cases q : i < 100
    · simp (disch := omega) only [qB_s, qC_t, qC_f, qI_T, qI_F, qI_t, qI_f, r_I, r_L, r_R, r_V, ii_add, ii_sub, ii_mul, ii_neg, bz_0, bz_1, Bool.true_and, Bool.false_and, Bool.and_true, z00, z11, li_0, li_1, li_100, lj_0, ii_lt, lg_eq]
    · simp (disch := omega) only [qB_s, qC_t, qC_f, qI_T, qI_F, qI_t, qI_f, r_I, r_L, r_R, r_V, ii_add, ii_sub, ii_mul, ii_neg, bz_0, bz_1, Bool.true_and, Bool.false_and, Bool.and_true, z00, z11, li_0, li_1, li_100, lj_0, ii_lt]
  have h1 : ∀ (a b : Nat) (i : Int), 0 ≤ i → i < 100 → b ≠ 0 → (a : Int) ≤ 9223372036854775807 → (b : Int) ≤ 9223372036854775807 → am_W sc 130 (3, [some (am_L (jj a)), none, some (am_L (jj b)), none, some (am_I (ii i)), none, none], [], wst w) = am_W sc 130 (3, [some (am_L (jj b)), none, some (am_L (jj ((a % b : Nat) : Int))), none, some (am_I (ii (i + 1))), none, none], [], wst w) := fun a b i hi hi2 hb ha hb2 => by
    rw [wq_130_3]
    simp (disch := omega) only [qB_s, qC_t, qC_f, qI_T, qI_F, qI_t, qI_f, r_I, r_L, r_R, r_V, ii_add, ii_sub, ii_mul, ii_neg, bz_0, bz_1, Bool.true_and, Bool.false_and, Bool.and_true, z00, z11, li_0, li_1, li_100, lj_0, ii_lt, lg_eq, jj_eq, jj_rem0]
    rfl
  have hg : ∀ a b : Nat, a.gcd b = b.gcd (a % b) := fun a b => by
    rw [Nat.gcd_comm b, ← Nat.gcd_rec, Nat.gcd_comm]
  induction k with
  | zero =>
    intro a b i hb hi hi2 ha hb2
    have : b = 0 := by simpa using hb
    subst this
    exact h0 a i hi (by omega) ha
  | succ k ih =>
    intro a b i hb hi hi2 ha hb2
    by_cases q : b = 0
    · subst q
      exact h0 a i hi (by omega) ha
    · have hr := Nat.mod_lt a (y := b) (by omega)
      rw [h1 a b i hi (by omega) q ha hb2, hg]
      by_cases q2 : a % b < 2 ^ k
      · exact ih b (a % b) (i + 1) q2 (by omega) (by omega) hb2 (by omega)
      · have q3 : a % b ≠ 0 := by
          have : 0 < 2 ^ k := Nat.two_pow_pos k
          omega
        have hr2 := Nat.mod_lt b (y := a % b) (by omega)
        rw [h1 b (a % b) (i + 1) (by omega) (by omega) q3 hb2 (by omega), hg]
        refine ih (a % b) (b % (a % b)) (i + 1 + 1) ?_ (by omega) (by omega) (by omega) (by omega)
        have h3 : b % (a % b) ≤ b - a % b := by
          rw [Nat.mod_eq_sub_mod (by omega)]
          exact Nat.mod_le _ _
        rw [Nat.pow_succ] at hb
        omega
/-- what both make of a fraction -/
theorem gUD {a b c d : Int} (ha : 0 ≤ a ∧ a ≤ 2000) (hb : 0 < b ∧ b ≤ 2000) (hc : 0 ≤ c ∧ c ≤ 2000) (hd : 0 < d ∧ d ≤ 2000) : ∃ G U D : Int, G = (((a * d - c * b).natAbs.gcd (b * d).natAbs : Nat) : Int) ∧ 0 < G ∧ a * d - c * b = G * U ∧ b * d = G * D ∧ frU a b c d = U ∧ frD a b c d = D ∧ 0 < D ∧ D ≤ 4000000 ∧ G ≤ 4000000 ∧ -4000000 ≤ U ∧ U ≤ 4000000 ∧ -4000000 ≤ a * d - c * b ∧ a * d - c * b ≤ 4000000 ∧ 0 < b * d ∧ b * d ≤ 4000000 := by
  have e1 : 0 ≤ a * d ∧ a * d ≤ 4000000 := ⟨Int.mul_nonneg ha.1 (by omega), Int.le_trans (Int.mul_le_mul ha.2 hd.2 (by omega) (by omega)) (by decide)⟩
  have e2 : 0 ≤ c * b ∧ c * b ≤ 4000000 := ⟨Int.mul_nonneg hc.1 (by omega), Int.le_trans (Int.mul_le_mul hc.2 hb.2 (by omega) (by omega)) (by decide)⟩
  have e3 : 0 < b * d ∧ b * d ≤ 4000000 := ⟨Int.mul_pos hb.1 hd.1, Int.le_trans (Int.mul_le_mul hb.2 hd.2 (by omega) (by omega)) (by decide)⟩
  obtain ⟨u, hu⟩ : ∃ u, u = a * d - c * b := ⟨_, rfl⟩
  obtain ⟨e, he⟩ : ∃ e, e = b * d := ⟨_, rfl⟩
  unfold frU frD
  rw [if_neg (by omega), if_neg (by omega), ← hu, ← he]
  rw [← he] at e3
  have hG : 0 < u.natAbs.gcd e.natAbs := Nat.gcd_pos_of_pos_right _ (by omega)
  obtain ⟨p, hp⟩ : (((u.natAbs.gcd e.natAbs : Nat) : Int)) ∣ u := Int.dvd_natAbs.mp (Int.natCast_dvd_natCast.mpr (Nat.gcd_dvd_left _ _))
  obtain ⟨r, hr⟩ : (((u.natAbs.gcd e.natAbs : Nat) : Int)) ∣ e := Int.dvd_natAbs.mp (Int.natCast_dvd_natCast.mpr (Nat.gcd_dvd_right _ _))
  have hle : u.natAbs.gcd e.natAbs ≤ e.natAbs := Nat.le_of_dvd (by omega) (Nat.gcd_dvd_right _ _)
  revert hp hr hG hle
  generalize hz : u.natAbs.gcd e.natAbs = z
  intro hG hp hr hle
  have hz0 : (0 : Int) < z := by omega
  have k1 : u / (z : Int) = p := by rw [hp, Int.mul_ediv_cancel_left _ (by omega)]
  have k2 : e / (z : Int) = r := by rw [hr, Int.mul_ediv_cancel_left _ (by omega)]
  have hr0 : 0 < r := by
    by_cases q : 0 < r
    · exact q
    · have := Int.mul_nonpos_of_nonneg_of_nonpos (a := (z : Int)) (b := r) (by omega) (by omega)
      omega
  have l1 : r ≤ e := by
    rw [hr]
    have := Int.mul_le_mul_of_nonneg_right (a := 1) (b := (z : Int)) (c := r) (by omega) (by omega)
    omega
  have l2 : p.natAbs ≤ u.natAbs := by
    rw [hp, Int.natAbs_mul]
    exact Nat.le_mul_of_pos_left _ (by omega)
  refine ⟨z, p, r, rfl, hz0, hp, hr, k1, k2, hr0, by omega, by omega, by omega, by omega, by omega, by omega, by omega, by omega⟩
end L19
