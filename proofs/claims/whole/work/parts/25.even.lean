/-! EVEN -/
theorem mul_ran {a b M : Int} (h1 : 0 ≤ a) (h2 : a ≤ M) (h3 : 0 ≤ b) (h4 : b ≤ M) : 0 ≤ a * b ∧ a * b ≤ M * M := ⟨Int.mul_nonneg h1 h3, Int.mul_le_mul h2 h4 h3 (by omega)⟩
/-- a sight is even, by an office or all -/
def evB (g : Int → Int → Int) (f : Nat → Int) (m : Nat) (z o : Int) : Bool := decide (aL g f (sA z) 0 o m = 0 ∨ aL g f (sA z) 1 o m = 0 ∨ aL g f (sB z) 0 o m * aL g f (sA z) 1 o m = aL g f (sB z) 1 o m * aL g f (sA z) 0 o m)
/-- p holds from k on, d times -/
def allF (p : Nat → Bool) : Nat → Nat → Bool
  | 0, _ => true
  | d + 1, k => p k && allF p d (k + 1)
section L25
variable {sc : am_X} {w : wo} {A : ab} {ow : Nat → Nat} {n : Int} {g : Int → Int → Int}
theorem c212 (hC : CS w n g) (hg : gK n g) {m : Nat} {f : Nat → Int} (hT : TK w m f) (hm : m ≤ 200) (hf : ∀ i, i < m → 0 ≤ f i ∧ f i < n) {z o : Int} (hz : z = 0 ∨ z = 1 ∨ z = 2) (ho : -1 ≤ o ∧ o ≤ 7) : am_F sc 212 [am_R (some 22), am_I (ii (sA z)), am_I (ii (sB z)), am_I (ii o)] (wst w) = some (some (am_I (ii (bz (evB g f m z o = true)))), wst w) := by
  have hs : 0 ≤ sA z ∧ sA z ≤ 2 := by rcases hz with rfl | rfl | rfl <;> decide
  have hs2 : 0 ≤ sB z ∧ sB z ≤ 2 := by rcases hz with rfl | rfl | rfl <;> decide
  have e1 := c127 (sc := sc) hC hg hT hm hf (st := sA z) (tr := 0) (o := o) hs (by decide) ho
  have e2 := c127 (sc := sc) hC hg hT hm hf (st := sA z) (tr := 1) (o := o) hs (by decide) ho
  have e3 := c127 (sc := sc) hC hg hT hm hf (st := sB z) (tr := 0) (o := o) hs2 (by decide) ho
  have e4 := c127 (sc := sc) hC hg hT hm hf (st := sB z) (tr := 1) (o := o) hs2 (by decide) ho
  have r1 := aL_ran g f (sA z) 0 o m
  have r2 := aL_ran g f (sA z) 1 o m
  have r3 := aL_ran g f (sB z) 0 o m
  have r4 := aL_ran g f (sB z) 1 o m
  unfold evB
  rw [fq_212]
  revert e1 e2 e3 e4 r1 r2 r3 r4
  generalize aL g f (sA z) 0 o m = a
  generalize aL g f (sA z) 1 o m = b
  generalize aL g f (sB z) 0 o m = c
  generalize aL g f (sB z) 1 o m = d
  intro e1 e2 e3 e4 r1 r2 r3 r4
  have m1 := mul_ran (a := c) (b := b) (M := 200) (by omega) (by omega) (by omega) (by omega)
  have m2 := mul_ran (a := d) (b := a) (M := 200) (by omega) (by omega) (by omega) (by omega)
  by_cases q1 : a = 0
  · rw [bz_t (by simp [q1])]
    simp (disch := omega) only [qB_s, qC_t, qC_f, qI_T, qI_F, qI_t, qI_f, r_I, r_L, r_R, r_V, ii_add, ii_sub, ii_mul, ii_neg, bz_0, bz_1, Bool.true_and, Bool.false_and, Bool.and_true, z00, z11, li_0, li_1, is_22, e1, e2, ii_eq]
  · by_cases q2 : b = 0
    · rw [bz_t (by simp [q2])]
      simp (disch := omega) only [qB_s, qC_t, qC_f, qI_T, qI_F, qI_t, qI_f, r_I, r_L, r_R, r_V, ii_add, ii_sub, ii_mul, ii_neg, bz_0, bz_1, Bool.true_and, Bool.false_and, Bool.and_true, z00, z11, li_0, li_1, is_22, e1, e2, ii_eq]
    · by_cases q3 : c * b = d * a
      · rw [bz_t (by simp [q3])]
        simp (disch := omega) only [qB_s, qC_t, qC_f, qI_T, qI_F, qI_t, qI_f, r_I, r_L, r_R, r_V, ii_add, ii_sub, ii_mul, ii_neg, bz_0, bz_1, Bool.true_and, Bool.false_and, Bool.and_true, z00, z11, li_0, li_1, is_22, e1, e2, e3, e4, ii_eq]
      · rw [bz_f (by simp [q1, q2, q3])]
        simp (disch := omega) only [qB_s, qC_t, qC_f, qI_T, qI_F, qI_t, qI_f, r_I, r_L, r_R, r_V, ii_add, ii_sub, ii_mul, ii_neg, bz_0, bz_1, Bool.true_and, Bool.false_and, Bool.and_true, z00, z11, li_0, li_1, is_22, e1, e2, e3, e4, ii_eq]
theorem c213 (hC : CS w n g) (hg : gK n g) {m : Nat} {f : Nat → Int} (hT : TK w m f) (hm : m ≤ 200) (hf : ∀ i, i < m → 0 ≤ f i ∧ f i < n) : am_F sc 213 [am_R (some 0)] (wst w) = some (some (am_I (ii (bz (allF (fun o => evB g f m 2 o) 8 0 = true)))), wst w) := by
  have L : ∀ d k : Nat, k + d = 8 → am_W sc 213 (2, [some (am_R (some 0)), some (am_I (ii k))], [], wst w) = some (some (am_I (ii (bz (allF (fun o => evB g f m 2 o) d k = true)))), wst w) := by
    intro d
    induction d with
    | zero =>
      intro k hk
      rw [wq_213_2, bz_t (p := allF (fun o => evB g f m 2 o) 0 k = true) rfl]
      simp (disch := omega) only [qB_s, qC_t, qC_f, qI_T, qI_F, qI_t, qI_f, r_I, r_L, r_R, r_V, ii_add, ii_sub, ii_mul, ii_neg, bz_0, bz_1, Bool.true_and, Bool.false_and, Bool.and_true, z00, z11, li_0, li_1, li_2, li_8, gR_0_9, is_22, ii_lt]
    | succ d ih =>
      intro k hk
      have e := c212 (sc := sc) hC hg hT hm hf (z := 2) (o := k) (.inr (.inr rfl)) (by omega)
      rw [show sA 2 = 0 from rfl, show sB 2 = 2 from rfl] at e
      have ih' := ih (k + 1) (by omega)
      rw [nat_1] at ih'
      rw [wq_213_2]
      unfold allF
      cases q : evB g f m 2 k with
      | false =>
        rw [q] at e
        rw [bz_f (by simp)]
        simp (disch := omega) only [qB_s, qC_t, qC_f, qI_T, qI_F, qI_t, qI_f, r_I, r_L, r_R, r_V, ii_add, ii_sub, ii_mul, ii_neg, bz_0, bz_1, Bool.true_and, Bool.false_and, Bool.and_true, z00, z11, li_0, li_1, li_2, li_8, gR_0_9, is_22, ii_lt, e, Bool.false_eq_true, not_false_eq_true]
      | true =>
        rw [q] at e
        simp (disch := omega) only [qB_s, qC_t, qC_f, qI_T, qI_F, qI_t, qI_f, r_I, r_L, r_R, r_V, ii_add, ii_sub, ii_mul, ii_neg, bz_0, bz_1, Bool.true_and, Bool.false_and, Bool.and_true, z00, z11, li_0, li_1, li_2, li_8, gR_0_9, is_22, ii_lt, e, not_true_eq_false, ih', Bool.true_and]
  rw [fq_213, li_0]
  exact L 8 0 (by omega)
theorem d215 {a b c d : Int} (h1 : wA w 68 0 = a) (h2 : wA w 68 1 = b) (h3 : wA w 69 0 = c) (h4 : wA w 69 1 = d) (r1 : 0 ≤ a ∧ a ≤ 200) (r2 : 0 ≤ b ∧ b ≤ 200) (r3 : 0 ≤ c ∧ c ≤ 200) (r4 : 0 ≤ d ∧ d ≤ 200) : am_F sc 215 [am_R (some 47)] (wst w) = some (some (am_I (ii (bz (decide (a = 0 ∨ b = 0 ∨ c * b = d * a) = true)))), wst w) := by
  have m1 := mul_ran (a := c) (b := b) (M := 200) (by omega) (by omega) (by omega) (by omega)
  have m2 := mul_ran (a := d) (b := a) (M := 200) (by omega) (by omega) (by omega) (by omega)
  rw [fq_215]
  by_cases q1 : a = 0
  · rw [bz_t (by simp [q1])]
    simp (disch := omega) only [qB_s, qC_t, qC_f, qI_T, qI_F, qI_t, qI_f, r_I, r_L, r_R, r_V, ii_add, ii_sub, ii_mul, ii_neg, bz_0, bz_1, Bool.true_and, Bool.false_and, Bool.and_true, z00, z11, li_0, li_1, e_68, e_69, gR_47_45, gR_47_46, h1, ii_eq]
  · by_cases q2 : b = 0
    · rw [bz_t (by simp [q2])]
      simp (disch := omega) only [qB_s, qC_t, qC_f, qI_T, qI_F, qI_t, qI_f, r_I, r_L, r_R, r_V, ii_add, ii_sub, ii_mul, ii_neg, bz_0, bz_1, Bool.true_and, Bool.false_and, Bool.and_true, z00, z11, li_0, li_1, e_68, e_69, gR_47_45, gR_47_46, h1, h2, ii_eq]
    · by_cases q3 : c * b = d * a
      · rw [bz_t (by simp [q3])]
        simp (disch := omega) only [qB_s, qC_t, qC_f, qI_T, qI_F, qI_t, qI_f, r_I, r_L, r_R, r_V, ii_add, ii_sub, ii_mul, ii_neg, bz_0, bz_1, Bool.true_and, Bool.false_and, Bool.and_true, z00, z11, li_0, li_1, e_68, e_69, gR_47_45, gR_47_46, h1, h2, h3, h4, ii_eq]
      · rw [bz_f (by simp [q1, q2, q3])]
        simp (disch := omega) only [qB_s, qC_t, qC_f, qI_T, qI_F, qI_t, qI_f, r_I, r_L, r_R, r_V, ii_add, ii_sub, ii_mul, ii_neg, bz_0, bz_1, Bool.true_and, Bool.false_and, Bool.and_true, z00, z11, li_0, li_1, e_68, e_69, gR_47_45, gR_47_46, h1, h2, h3, h4, ii_eq]
/-- looking, and whether it is even -/
theorem d210e (hM : MS w n g) (hg : gK n g) {m : Nat} {f : Nat → Int} (hT : MK w m f) (hm : m ≤ 200) (hf : ∀ i, i < m → 0 ≤ f i ∧ f i < n) {z o : Int} (hz : z = 0 ∨ z = 1 ∨ z = 2) (ho : -1 ≤ o ∧ o ≤ 7) : ∃ v, am_F sc 210 [am_R (some 47), am_I (ii z), am_I (ii o)] (wst w) = some (none, wst v) ∧ fr [6899, 6999] w v ∧ am_F sc 215 [am_R (some 47)] (wst v) = some (some (am_I (ii (bz (evB g f m z o = true)))), wst v) := by
  obtain ⟨v, e, h, a0, a1, a2, a3⟩ := d210 (sc := sc) hM hg hT hm hf hz ho
  have r1 := aL_ran g f (sA z) 0 o m
  have r2 := aL_ran g f (sA z) 1 o m
  have r3 := aL_ran g f (sB z) 0 o m
  have r4 := aL_ran g f (sB z) 1 o m
  exact ⟨v, e, h, d215 (sc := sc) a0 a1 a2 a3 (by omega) (by omega) (by omega) (by omega)⟩
theorem x_214 (hC : RC ow w A) (hA : okA A) {v k : Int} (hv1 : -2147483648 ≤ v) (hv2 : v ≤ 2147483647) (hk1 : -2147483648 ≤ k) (hk2 : k ≤ 2147483647) : ∃ u, am_F sc 214 [am_R (some 0), am_I (ii v), am_I (ii k)] (wst w) = some (some (am_I (ii (if (0 ≤ k ∧ k ≤ 3) ∧ (0 ≤ v ∧ v < A.2.2.1.1) then if k = 3 then bz (allF (fun o => evB (aG A) (vF A v) (vM A v) 2 o) 8 0 = true) else bz (evB (aG A) (vF A v) (vM A v) k (-1) = true) else -1))), wst u) ∧ fr scC w u := by
  have hn8 := hA.2.2.1.2.1
  have hn0 := hA.2.2.1.1
  by_cases q1 : 0 ≤ k ∧ k ≤ 3
  · skip
    by_cases q2 : 0 ≤ v ∧ v < A.2.2.1.1
    · skip
      rw [if_pos (by omega)]
      obtain ⟨u, e1, f1, t1, -⟩ := (c117 (sc := sc) hC hA hv1 hv2).1 q2
      have hCu := RC_c hC (fr_m f1 rfl)
      have hm := vM_le hA v
      have hg := hA.1.2.2.1
      have hst := stg hA v
      have hok : ∀ i, i < vM A v → 0 ≤ vF A v i ∧ vF A v i < A.1.1 := fun i hi => vF_ok hA v hi
      refine ⟨u, ?_, fr_m f1 rfl⟩
      have e0 := c212 (sc := sc) hCu.1 hg t1 hm hok (z := 0) (o := -1) (.inl rfl) (by decide)
      have e1' := c212 (sc := sc) hCu.1 hg t1 hm hok (z := 1) (o := -1) (.inr (.inl rfl)) (by decide)
      have e2 := c212 (sc := sc) hCu.1 hg t1 hm hok (z := 2) (o := -1) (.inr (.inr rfl)) (by decide)
      have e3 := c213 (sc := sc) hCu.1 hg t1 hm hok
      have hk : k = 0 ∨ k = 1 ∨ k = 2 ∨ k = 3 := by omega
      rw [fq_214]
      unfold aG
      rcases hk with hk | hk | hk | hk
      · subst hk
        rw [show sA 0 = 0 from rfl, show sB 0 = 1 from rfl] at e0
        cases q : evB A.1.2.1 (vF A v) (vM A v) 0 (-1)
        all_goals rw [q] at e0
        all_goals simp (disch := omega) only [qB_s, qC_t, qC_f, qI_T, qI_F, qI_t, qI_f, r_I, r_L, r_R, r_V, ii_add, ii_sub, ii_mul, ii_neg, bz_0, bz_1, Bool.true_and, Bool.false_and, Bool.and_true, z00, z11, li_0, li_1, li_2, li_3, gR_0_9, is_0, is_22, ii_lt, e1, ii_eq, e0, Int.reduceEq, if_false, Bool.false_eq_true, not_false_eq_true, not_true_eq_false]
        all_goals rfl
      · subst hk
        rw [show sA 1 = 1 from rfl, show sB 1 = 2 from rfl] at e1'
        cases q : evB A.1.2.1 (vF A v) (vM A v) 1 (-1)
        all_goals rw [q] at e1'
        all_goals simp (disch := omega) only [qB_s, qC_t, qC_f, qI_T, qI_F, qI_t, qI_f, r_I, r_L, r_R, r_V, ii_add, ii_sub, ii_mul, ii_neg, bz_0, bz_1, Bool.true_and, Bool.false_and, Bool.and_true, z00, z11, li_0, li_1, li_2, li_3, gR_0_9, is_0, is_22, ii_lt, e1, ii_eq, e1', Int.reduceEq, if_false, Bool.false_eq_true, not_false_eq_true, not_true_eq_false]
        all_goals rfl
      · subst hk
        rw [show sA 2 = 0 from rfl, show sB 2 = 2 from rfl] at e2
        cases q : evB A.1.2.1 (vF A v) (vM A v) 2 (-1)
        all_goals rw [q] at e2
        all_goals simp (disch := omega) only [qB_s, qC_t, qC_f, qI_T, qI_F, qI_t, qI_f, r_I, r_L, r_R, r_V, ii_add, ii_sub, ii_mul, ii_neg, bz_0, bz_1, Bool.true_and, Bool.false_and, Bool.and_true, z00, z11, li_0, li_1, li_2, li_3, gR_0_9, is_0, is_22, ii_lt, e1, ii_eq, e2, Int.reduceEq, if_false, Bool.false_eq_true, not_false_eq_true, not_true_eq_false]
        all_goals rfl
      · subst hk
        cases q : allF (fun o => evB A.1.2.1 (vF A v) (vM A v) 2 o) 8 0
        all_goals rw [q] at e3
        all_goals simp (disch := omega) only [qB_s, qC_t, qC_f, qI_T, qI_F, qI_t, qI_f, r_I, r_L, r_R, r_V, ii_add, ii_sub, ii_mul, ii_neg, bz_0, bz_1, Bool.true_and, Bool.false_and, Bool.and_true, z00, z11, li_0, li_1, li_2, li_3, gR_0_9, is_0, is_22, ii_lt, e1, ii_eq, e3, Int.reduceEq, if_true, Bool.false_eq_true, not_false_eq_true, not_true_eq_false]
        all_goals rfl
    · rw [if_neg (by omega)]
      have h117 := (c117 (sc := sc) hC hA hv1 hv2).2 q2
      exact ⟨w, by
        rw [fq_214]
        simp (disch := omega) only [qB_s, qC_t, qC_f, qI_T, qI_F, qI_t, qI_f, r_I, r_L, r_R, r_V, ii_add, ii_sub, ii_mul, ii_neg, bz_0, bz_1, Bool.true_and, Bool.false_and, Bool.and_true, z00, z11, li_0, li_1, li_2, li_3, gR_0_9, is_0, is_22, ii_lt, ii_eq, ii_jj, jj_neg, h117], fr_r _ _⟩
  · rw [if_neg (by omega)]
    exact ⟨w, by
      rw [fq_214]
      by_cases zz : k < 0
      · simp (disch := omega) only [qB_s, qC_t, qC_f, qI_T, qI_F, qI_t, qI_f, r_I, r_L, r_R, r_V, ii_add, ii_sub, ii_mul, ii_neg, bz_0, bz_1, Bool.true_and, Bool.false_and, Bool.and_true, z00, z11, li_0, li_1, li_2, li_3, gR_0_9, is_0, is_22, ii_lt, ii_eq, ii_jj, jj_neg]
      · simp (disch := omega) only [qB_s, qC_t, qC_f, qI_T, qI_F, qI_t, qI_f, r_I, r_L, r_R, r_V, ii_add, ii_sub, ii_mul, ii_neg, bz_0, bz_1, Bool.true_and, Bool.false_and, Bool.and_true, z00, z11, li_0, li_1, li_2, li_3, gR_0_9, is_0, is_22, ii_lt, ii_eq, ii_jj, jj_neg], fr_r _ _⟩

theorem d216o (hM : MS w n g) (hg : gK n g) {m : Nat} {f : Nat → Int} (hm : m ≤ 200) (hf : ∀ i, i < m → 0 ≤ f i ∧ f i < n) : ∀ (d k : Nat) (u : wo), k + d = 8 → fr [6899, 6999] w u → MK u m f → ∃ v, am_W sc 216 (39, [some (am_R (some 47)), none, some (am_I (ii 3)), some (am_I (ii k))], [], wst u) = some (some (am_I (ii (bz (allF (fun o => evB g f m 2 o) d k = true)))), wst v) ∧ fr [6899, 6999] w v := by
  intro d
  induction d with
  | zero =>
    intro k u hk hu hT
    refine ⟨u, ?_, hu⟩
    rw [wq_216_39, bz_t (p := allF (fun o => evB g f m 2 o) 0 k = true) rfl]
    simp (disch := omega) only [qB_s, qC_t, qC_f, qI_T, qI_F, qI_t, qI_f, r_I, r_L, r_R, r_V, ii_add, ii_sub, ii_mul, ii_neg, bz_0, bz_1, Bool.true_and, Bool.false_and, Bool.and_true, z00, z11, li_0, li_1, li_2, li_3, li_8, lj_0, lj_3, is_47, ii_lt]
  | succ d ih =>
    intro k u hk hu hT
    obtain ⟨u2, e1, f2, e2⟩ := d210e (sc := sc) (MS_fr hM hu rfl) hg hT hm hf (z := 2) (o := k) (.inr (.inr rfl)) (by omega)
    obtain ⟨v, e3, f3⟩ := ih (k + 1) u2 (by omega) (fr_t hu f2) ⟨by rw [fr_I f2 rfl]; exact hT.1, by rw [fr_A (a := 59) f2 rfl]; exact hT.2⟩
    rw [nat_1] at e3
    unfold allF
    cases q : evB g f m 2 k with
    | false =>
      rw [q] at e2
      refine ⟨u2, ?_, fr_t hu f2⟩
      rw [wq_216_39, bz_f (by simp)]
      simp (disch := omega) only [qB_s, qC_t, qC_f, qI_T, qI_F, qI_t, qI_f, r_I, r_L, r_R, r_V, ii_add, ii_sub, ii_mul, ii_neg, bz_0, bz_1, Bool.true_and, Bool.false_and, Bool.and_true, z00, z11, li_0, li_1, li_2, li_3, li_8, lj_0, lj_3, is_47, ii_lt, ii_eq, e1, e2, Bool.false_eq_true, not_false_eq_true]
    | true =>
      rw [q] at e2
      refine ⟨v, ?_, f3⟩
      rw [wq_216_39]
      simp (disch := omega) only [qB_s, qC_t, qC_f, qI_T, qI_F, qI_t, qI_f, r_I, r_L, r_R, r_V, ii_add, ii_sub, ii_mul, ii_neg, bz_0, bz_1, Bool.true_and, Bool.false_and, Bool.and_true, z00, z11, li_0, li_1, li_2, li_3, li_8, lj_0, lj_3, is_47, ii_lt, ii_eq, e1, e2, not_true_eq_false, e3, Bool.true_and]
theorem y_216 (hM : RM w A) (hA : okA A) {v k : Int} (hv1 : -2147483648 ≤ v) (hv2 : v ≤ 2147483647) (hk1 : -2147483648 ≤ k) (hk2 : k ≤ 2147483647) : ∃ u, am_F sc 216 [am_R (some 47), am_I (ii v), am_I (ii k)] (wst w) = some (some (am_I (ii (if (0 ≤ v ∧ v < A.2.2.1.1) ∧ (0 ≤ k ∧ k ≤ 3) then if k = 3 then bz (allF (fun o => evB (aG A) (vF A v) (vM A v) 2 o) 8 0 = true) else bz (evB (aG A) (vF A v) (vM A v) k (-1) = true) else -1))), wst u) ∧ fr scM w u := by
  have hn8 := hA.2.2.1.2.1
  have hn0 := hA.2.2.1.1
  have h120 := d120 (sc := sc) hM hn8 hn0 (v := v) hv1 hv2
  by_cases q1 : 0 ≤ v ∧ v < A.2.2.1.1
  · skip
    by_cases q2 : 0 ≤ k ∧ k ≤ 3
    · skip
      rw [if_pos (by omega)]
      obtain ⟨u, e1, f1, t1, -⟩ := d124v (sc := sc) hM hA q1
      have hMu := RM_m hM (fr_m f1 rfl)
      have hm := vM_le hA v
      have hok : ∀ i, i < vM A v → 0 ≤ vF A v i ∧ vF A v i < A.1.1 := fun i hi => vF_ok hA v hi
      by_cases q3 : k = 3
      · obtain ⟨u2, e2, f2⟩ := d216o (sc := sc) hMu.1 hA.1.2.2.1 hm hok 8 0 u rfl (fr_r _ _) t1
        refine ⟨u2, ?_, fr_t (fr_m f1 rfl) (fr_m f2 rfl)⟩
        have e2' : am_W sc 216 (39, [some (am_R (some 47)), none, some (am_I (ii 3)), some (am_I (ii 0))], [], wst u) = _ := e2
        rw [fq_216, if_pos q3]
        subst q3
        simp (disch := omega) only [qB_s, qC_t, qC_f, qI_T, qI_F, qI_t, qI_f, r_I, r_L, r_R, r_V, ii_add, ii_sub, ii_mul, ii_neg, bz_0, bz_1, Bool.true_and, Bool.false_and, Bool.and_true, z00, z11, li_0, li_1, li_2, li_3, li_8, lj_0, lj_3, is_47, h120, e1, ii_lt, ii_eq, ii_jj, d17, e2']
        rfl
      · have hz : k = 0 ∨ k = 1 ∨ k = 2 := by omega
        obtain ⟨u2, e2, f2, e3⟩ := d210e (sc := sc) hMu.1 hA.1.2.2.1 t1 hm hok (z := k) (o := -1) hz (by decide)
        refine ⟨u2, ?_, fr_t (fr_m f1 rfl) (fr_m f2 rfl)⟩
        rw [fq_216, if_neg q3]
        unfold aG
        cases q : evB A.1.2.1 (vF A v) (vM A v) k (-1)
        all_goals rw [q] at e3
        all_goals rcases hz with hz | hz | hz
        all_goals subst hz
        all_goals simp (disch := omega) only [qB_s, qC_t, qC_f, qI_T, qI_F, qI_t, qI_f, r_I, r_L, r_R, r_V, ii_add, ii_sub, ii_mul, ii_neg, bz_0, bz_1, Bool.true_and, Bool.false_and, Bool.and_true, z00, z11, li_0, li_1, li_2, li_3, li_8, lj_0, lj_3, is_47, h120, e1, ii_lt, ii_eq, ii_jj, d17, wq_216_39, e2, e3, Bool.false_eq_true, not_false_eq_true, not_true_eq_false, Int.reduceAdd, Int.reduceNeg, Int.reduceLT]
        all_goals rfl
    · rw [if_neg (by omega)]
      exact ⟨w, by
        rw [fq_216]
        simp (disch := omega) only [qB_s, qC_t, qC_f, qI_T, qI_F, qI_t, qI_f, r_I, r_L, r_R, r_V, ii_add, ii_sub, ii_mul, ii_neg, bz_0, bz_1, Bool.true_and, Bool.false_and, Bool.and_true, z00, z11, li_0, li_1, li_2, li_3, li_8, lj_0, lj_3, is_47, ii_lt, ii_eq, ii_jj, jj_neg, h120, d17], fr_r _ _⟩
  · rw [if_neg (by omega)]
    exact ⟨w, by
      rw [fq_216]
      simp (disch := omega) only [qB_s, qC_t, qC_f, qI_T, qI_F, qI_t, qI_f, r_I, r_L, r_R, r_V, ii_add, ii_sub, ii_mul, ii_neg, bz_0, bz_1, Bool.true_and, Bool.false_and, Bool.and_true, z00, z11, li_0, li_1, li_2, li_3, li_8, lj_0, lj_3, is_47, ii_lt, ii_eq, ii_jj, jj_neg, h120], fr_r _ _⟩

end L25
