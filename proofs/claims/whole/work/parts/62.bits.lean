/-! HOW MANY IN A SET -/
theorem pcS_d {s : Nat} (h : s < 1024) : s = 0 ∨ (s &&& (s - 1) < s ∧ pcS s = 1 + pcS (s &&& (s - 1))) := by
  have := all_lt (p := fun s => decide (s = 0 ∨ (s &&& (s - 1) < s ∧ pcS s = 1 + pcS (s &&& (s - 1))))) (n := 1024) (by decide +kernel) h
  exact of_decide_eq_true this
theorem pcS_ran (s : Nat) : 0 ≤ pcS s ∧ pcS s ≤ 10 := by
  have := sm_ran (f := fun j => if s.testBit j = true then (1 : Int) else 0) (a := 0) (b := 1) (n := 10) (fun j _ => by split <;> omega)
  unfold pcS
  omega
section L62
variable {sc : am_X} {w : wo}
theorem d172l : ∀ (k s : Nat) (c : Int), s ≤ k → s < 1024 → am_W sc 172 (4, [none, some (am_I (ii c)), some (am_I (ii s))], [], wst w) = some (some (am_I (ii (c + pcS s))), wst w)
  | 0, s, c, hk, hs => by
    have e : s = 0 := by omega
    rw [e, wq_172_4, show pcS 0 = 0 by decide +kernel, Int.add_zero]
    simp (disch := omega) only [qB_s, qC_t, qC_f, qI_T, qI_F, qI_t, qI_f, r_I, r_L, r_R, r_V, ii_add, ii_sub, ii_mul, ii_neg, bz_0, bz_1, Bool.true_and, Bool.false_and, Bool.and_true, z00, z11, li_0, li_1, ii_eq, Int.cast_ofNat_Int]
  | k + 1, s, c, hk, hs => by
    rcases pcS_d hs with e | ⟨h1, h2⟩
    · rw [e, wq_172_4, show pcS 0 = 0 by decide +kernel, Int.add_zero]
      simp (disch := omega) only [qB_s, qC_t, qC_f, qI_T, qI_F, qI_t, qI_f, r_I, r_L, r_R, r_V, ii_add, ii_sub, ii_mul, ii_neg, bz_0, bz_1, Bool.true_and, Bool.false_and, Bool.and_true, z00, z11, li_0, li_1, ii_eq, Int.cast_ofNat_Int]
    · have ih := d172l k (s &&& (s - 1)) (c + 1) (by omega) (by omega)
      have hne : s ≠ 0 := by omega
      have ha : ii (s : Int) &&& ii ((s : Int) - 1) = ii ((s &&& (s - 1) : Nat) : Int) := by
        rw [show (s : Int) - 1 = ((s - 1 : Nat) : Int) by omega]
        exact ii_and s (s - 1)
      rw [h2, ← Int.add_assoc, ← ih, wq_172_4]
      simp (disch := omega) only [qB_s, qC_t, qC_f, qI_T, qI_F, qI_t, qI_f, r_I, r_L, r_R, r_V, ii_add, ii_sub, ii_mul, ii_neg, bz_0, bz_1, Bool.true_and, Bool.false_and, Bool.and_true, z00, z11, li_0, li_1, ii_eq, ha]
theorem d172 {s : Nat} (hs : s < 1024) : am_F sc 172 [am_I (ii s)] (wst w) = some (some (am_I (ii (pcS s))), wst w) := by
  have e := d172l (sc := sc) (w := w) s s 0 (Nat.le_refl _) hs
  rw [Int.zero_add] at e
  rw [fq_172, li_0]
  exact e
end L62
