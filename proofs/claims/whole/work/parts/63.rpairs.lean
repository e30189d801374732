/-! PAIRS IN THE OTHER -/
/-- the first ten of a trait -/
def pk (g : Int → Int → Int) (f : Nat → Int) (t : Int) : Nat → Nat × (Nat → Int)
  | 0 => (0, fun _ => 0)
  | i + 1 => if g (f i) 0 = t ∧ (pk g f t i).1 < 10 then ((pk g f t i).1 + 1, fun j => if j = (pk g f t i).1 then f i else (pk g f t i).2 j) else pk g f t i
theorem pkk_t {g : Int → Int → Int} {f : Nat → Int} {t : Int} {i : Nat} (h : g (f i) 0 = t ∧ (pk g f t i).1 < 10) : pk g f t (i + 1) = ((pk g f t i).1 + 1, fun j => if j = (pk g f t i).1 then f i else (pk g f t i).2 j) := if_pos h
theorem pkk_f {g : Int → Int → Int} {f : Nat → Int} {t : Int} {i : Nat} (h : ¬ (g (f i) 0 = t ∧ (pk g f t i).1 < 10)) : pk g f t (i + 1) = pk g f t i := if_neg h
theorem pkk_le (g : Int → Int → Int) (f : Nat → Int) (t : Int) : ∀ i, (pk g f t i).1 ≤ 10
  | 0 => Nat.zero_le _
  | i + 1 => by
    by_cases h : g (f i) 0 = t ∧ (pk g f t i).1 < 10
    · rw [pkk_t h]
      exact h.2
    · rw [pkk_f h]
      exact pkk_le g f t i
theorem pkk_ok {g : Int → Int → Int} {f : Nat → Int} {n : Int} (t : Int) : ∀ i, (∀ z, z < i → 0 ≤ f z ∧ f z < n) → ∀ j, j < (pk g f t i).1 → 0 ≤ (pk g f t i).2 j ∧ (pk g f t i).2 j < n
  | 0, _, j, hj => absurd hj (Nat.not_lt_zero j)
  | i + 1, hf, j, hj => by
    by_cases h : g (f i) 0 = t ∧ (pk g f t i).1 < 10
    · rw [pkk_t h] at hj ⊢
      have hj : j < (pk g f t i).1 + 1 := hj
      show 0 ≤ (if j = (pk g f t i).1 then f i else (pk g f t i).2 j) ∧ (if j = (pk g f t i).1 then f i else (pk g f t i).2 j) < n
      by_cases z : j = (pk g f t i).1
      · rw [if_pos z]
        exact hf i (by omega)
      · rw [if_neg z]
        exact pkk_ok t i (fun z hz => hf z (by omega)) j (by omega)
    · rw [pkk_f h] at hj ⊢
      exact pkk_ok t i (fun z hz => hf z (by omega)) j hj
def sPK : List Nat := [4739, 4740, 6599, 6699]
/-- the ones and the twos -/
def PKw (w : wo) (g : Int → Int → Int) (f : Nat → Int) (i : Nat) : Prop := (wI w 47 39 = (pk g f 0 i).1 ∧ ∀ j : Nat, j < (pk g f 0 i).1 → wA w 65 j = (pk g f 0 i).2 j) ∧ (wI w 47 40 = (pk g f 1 i).1 ∧ ∀ j : Nat, j < (pk g f 1 i).1 → wA w 66 j = (pk g f 1 i).2 j)
section L63
variable {sc : am_X} {w : wo} {n : Int} {g : Int → Int → Int}
theorem d173a (hM : MS w n g) (hg : gK n g) {m : Nat} {f : Nat → Int} (hT : MK w m f) (hm : m ≤ 200) (hf : ∀ i, i < m → 0 ≤ f i ∧ f i < n) {v o : Int} (h0 : wI w 47 39 = 0) (h1 : wI w 47 40 = 0) : ∃ u, am_W sc 173 (38, [some (am_R (some 47)), some (am_I (ii v)), some (am_I (ii o)), some (am_I (ii 0)), none, none, none], [], wst w) = am_W sc 173 (152, [some (am_R (some 47)), some (am_I (ii v)), some (am_I (ii o)), some (am_I (ii 0)), none, none, none], [], wst u) ∧ fr sPK w u ∧ PKw u g f m := by
  obtain ⟨u, e, fu', hu⟩ := lp_s0 (am_W sc 173) (fun (i : Nat) (u : wo) => (38, [some (am_R (some 47)), some (am_I (ii v)), some (am_I (ii o)), some (am_I (ii i)), none, none, none], [], wst u)) (fun i u => fr sPK w u ∧ PKw u g f i) m (fun i u hi hu => by
    obtain ⟨fu', ⟨p1, p2⟩, p3, p4⟩ := hu
    have hTu := MK_fr hT fu' rfl
    have hs := hTu.1
    have h59 := hTu.2 i hi
    have hfi := hf i hi
    have hr := (hg (f i) hfi.1 hfi.2).1
    have t0 := d122 (sc := sc) (MS_fr hM fu' rfl) hfi.1 hfi.2
    have l0 := pkk_le g f 0 i
    have l1 := pkk_le g f 1 i
    rw [wq_173_38]
    by_cases q : g (f i) 0 = 0
    · have e1 : pk g f 1 (i + 1) = pk g f 1 i := pkk_f (fun z => by omega)
      by_cases q2 : (pk g f 0 i).1 < 10
      · have e0 := pkk_t (g := g) (f := f) (t := 0) (i := i) ⟨q, q2⟩
        refine ⟨uI (uA u 65 (fu (wA u 65) (pk g f 0 i).1 (f i))) 47 39 ((pk g f 0 i).1 + 1), ?_, fr_uI (fr_uA fu' rfl) rfl, ⟨?_, fun j hj => ?_⟩, ?_⟩
        · simp (disch := omega) only [qB_s, qC_t, qC_f, qI_T, qI_F, qI_t, qI_f, r_I, r_L, r_R, r_V, ii_add, ii_sub, ii_mul, ii_neg, bz_0, bz_1, Bool.true_and, Bool.false_and, Bool.and_true, z00, z11, li_0, li_1, li_10, li_1000000, li_31, lj_0, lj_1, e_59, e_65, e_66, e_67, gI_47_26, gI_47_39, gI_47_40, gR_47_27, gR_47_37, gR_47_38, gR_47_41, is_47, pI_47_39, pI_47_40, t_59, t_65, t_66, t_67, hs, ii_lt, ii_eq, h59, t0, p1, uA_I, nat_1]
        · rw [e0, rI]
          rfl
        · rw [e0] at hj ⊢
          have hj : j < (pk g f 0 i).1 + 1 := hj
          rw [uI_A, rA, fu_at]
          show _ = (if j = (pk g f 0 i).1 then f i else (pk g f 0 i).2 j)
          by_cases z : j = (pk g f 0 i).1
          · rw [if_pos (by omega), if_pos z]
          · rw [if_neg (by omega), if_neg z]
            exact p2 j (by omega)
        · rw [e1]
          exact ⟨p3, p4⟩
      · have e0 : pk g f 0 (i + 1) = pk g f 0 i := pkk_f (fun z => q2 z.2)
        refine ⟨u, ?_, fu', ?_⟩
        · simp (disch := omega) only [qB_s, qC_t, qC_f, qI_T, qI_F, qI_t, qI_f, r_I, r_L, r_R, r_V, ii_add, ii_sub, ii_mul, ii_neg, bz_0, bz_1, Bool.true_and, Bool.false_and, Bool.and_true, z00, z11, li_0, li_1, li_10, li_1000000, li_31, lj_0, lj_1, e_59, e_65, e_66, e_67, gI_47_26, gI_47_39, gI_47_40, gR_47_27, gR_47_37, gR_47_38, gR_47_41, is_47, pI_47_39, pI_47_40, t_59, t_65, t_66, t_67, hs, ii_lt, ii_eq, h59, t0, p1, nat_1]
        · unfold PKw
          rw [e0, e1]
          exact ⟨⟨p1, p2⟩, p3, p4⟩
    · have q' : g (f i) 0 = 1 := by omega
      have e0 : pk g f 0 (i + 1) = pk g f 0 i := pkk_f (fun z => q z.1)
      by_cases q2 : (pk g f 1 i).1 < 10
      · have e1 := pkk_t (g := g) (f := f) (t := 1) (i := i) ⟨q', q2⟩
        refine ⟨uI (uA u 66 (fu (wA u 66) (pk g f 1 i).1 (f i))) 47 40 ((pk g f 1 i).1 + 1), ?_, fr_uI (fr_uA fu' rfl) rfl, ?_, ⟨?_, fun j hj => ?_⟩⟩
        · simp (disch := omega) only [qB_s, qC_t, qC_f, qI_T, qI_F, qI_t, qI_f, r_I, r_L, r_R, r_V, ii_add, ii_sub, ii_mul, ii_neg, bz_0, bz_1, Bool.true_and, Bool.false_and, Bool.and_true, z00, z11, li_0, li_1, li_10, li_1000000, li_31, lj_0, lj_1, e_59, e_65, e_66, e_67, gI_47_26, gI_47_39, gI_47_40, gR_47_27, gR_47_37, gR_47_38, gR_47_41, is_47, pI_47_39, pI_47_40, t_59, t_65, t_66, t_67, hs, ii_lt, ii_eq, h59, t0, p3, uA_I, nat_1]
        · rw [e0]
          exact ⟨p1, p2⟩
        · rw [e1, rI]
          rfl
        · rw [e1] at hj ⊢
          have hj : j < (pk g f 1 i).1 + 1 := hj
          rw [uI_A, rA, fu_at]
          show _ = (if j = (pk g f 1 i).1 then f i else (pk g f 1 i).2 j)
          by_cases z : j = (pk g f 1 i).1
          · rw [if_pos (by omega), if_pos z]
          · rw [if_neg (by omega), if_neg z]
            exact p4 j (by omega)
      · have e1 : pk g f 1 (i + 1) = pk g f 1 i := pkk_f (fun z => q2 z.2)
        refine ⟨u, ?_, fu', ?_⟩
        · simp (disch := omega) only [qB_s, qC_t, qC_f, qI_T, qI_F, qI_t, qI_f, r_I, r_L, r_R, r_V, ii_add, ii_sub, ii_mul, ii_neg, bz_0, bz_1, Bool.true_and, Bool.false_and, Bool.and_true, z00, z11, li_0, li_1, li_10, li_1000000, li_31, lj_0, lj_1, e_59, e_65, e_66, e_67, gI_47_26, gI_47_39, gI_47_40, gR_47_27, gR_47_37, gR_47_38, gR_47_41, is_47, pI_47_39, pI_47_40, t_59, t_65, t_66, t_67, hs, ii_lt, ii_eq, h59, t0, p3, nat_1]
        · unfold PKw
          rw [e0, e1]
          exact ⟨⟨p1, p2⟩, p3, p4⟩) w ⟨fr_r _ _, ⟨h0, fun j hj => absurd hj (Nat.not_lt_zero j)⟩, ⟨h1, fun j hj => absurd hj (Nat.not_lt_zero j)⟩⟩
  have hs : wI u 47 26 = m := by rw [fr_I fu' rfl]; exact hT.1
  refine ⟨u, ?_, fu', hu⟩
  have e' : am_W sc 173 (38, [some (am_R (some 47)), some (am_I (ii v)), some (am_I (ii o)), some (am_I (ii 0)), none, none, none], [], wst w) = _ := e
  rw [e', wq_173_38]
  simp (disch := omega) only [qB_s, qC_t, qC_f, qI_T, qI_F, qI_t, qI_f, r_I, r_L, r_R, r_V, ii_add, ii_sub, ii_mul, ii_neg, bz_0, bz_1, Bool.true_and, Bool.false_and, Bool.and_true, z00, z11, li_0, li_1, li_10, li_1000000, li_31, lj_0, lj_1, e_59, e_65, e_66, e_67, gI_47_26, gI_47_39, gI_47_40, gR_47_27, gR_47_37, gR_47_38, gR_47_41, is_47, pI_47_39, pI_47_40, t_59, t_65, t_66, t_67, hs, ii_lt]
end L63
