/-! MEASURES -/
/-- a measure is taken by one of whom this came, let or not -/
def jB (ms c : Int) (l : Bool) : Bool := decide (ms = 0 ∨ (ms = 1 ∧ c = 1) ∨ (ms = 2 ∧ c = 0) ∨ (ms = 3 ∧ l = true ∧ 0 ≤ c))
/-- and counts him -/
def mB (ms c : Int) (l : Bool) : Bool := if ms = 3 then decide (c = 1) else l
def jS (g : Int → Int → Int) (f : Nat → Int) (inn lt : Nat → Bool) (ms tr : Int) (m : Nat) : Int := sm (fun i => bz (inn i = true ∧ g (f i) 0 = tr ∧ jB ms (g (f i) 3) (lt i) = true)) m
def pS (g : Int → Int → Int) (f : Nat → Int) (inn lt : Nat → Bool) (ms tr : Int) (m : Nat) : Int := sm (fun i => bz (inn i = true ∧ g (f i) 0 = tr ∧ jB ms (g (f i) 3) (lt i) = true ∧ mB ms (g (f i) 3) (lt i) = true)) m
theorem jS_ran (g : Int → Int → Int) (f : Nat → Int) (inn lt : Nat → Bool) (ms tr : Int) (m : Nat) : 0 ≤ jS g f inn lt ms tr m ∧ jS g f inn lt ms tr m ≤ m := sm_bz m
theorem pS_ran (g : Int → Int → Int) (f : Nat → Int) (inn lt : Nat → Bool) (ms tr : Int) (m : Nat) : 0 ≤ pS g f inn lt ms tr m ∧ pS g f inn lt ms tr m ≤ m := sm_bz m
theorem jS_s (g : Int → Int → Int) (f : Nat → Int) (inn lt : Nat → Bool) (ms tr : Int) (k : Nat) : jS g f inn lt ms tr (k + 1) = jS g f inn lt ms tr k + bz (inn k = true ∧ g (f k) 0 = tr ∧ jB ms (g (f k) 3) (lt k) = true) := rfl
theorem pS_s (g : Int → Int → Int) (f : Nat → Int) (inn lt : Nat → Bool) (ms tr : Int) (k : Nat) : pS g f inn lt ms tr (k + 1) = pS g f inn lt ms tr k + bz (inn k = true ∧ g (f k) 0 = tr ∧ jB ms (g (f k) 3) (lt k) = true ∧ mB ms (g (f k) 3) (lt k) = true) := rfl
def lt0 (g : Int → Int → Int) (f : Nat → Int) (i : Nat) : Bool := decide (g (f i) 2 = 2)
section L26
variable {sc : am_X} {w : wo} {A : ab} {ow : Nat → Nat} {n : Int} {g : Int → Int → Int}
theorem c221 (hC : CS w n g) (hg : gK n g) {ms k : Int} (hms : 0 ≤ ms ∧ ms ≤ 3) (hk0 : 0 ≤ k) (hk : k < n) : am_F sc 221 [am_R (some 22), am_I (ii ms), am_I (ii k)] (wst w) = some (some (am_I (ii (bz (jB ms (g k 3) (decide (g k 2 = 2)) = true)))), wst w) := by
  have hr := hg k hk0 hk
  have p4 := c28 (sc := sc) hC hk0 hk
  have p5 := c29 (sc := sc) hC hk0 hk
  simp only [Int.reduceSub] at p4 p5
  rw [fq_221]
  have h4 : ms = 0 ∨ ms = 1 ∨ ms = 2 ∨ ms = 3 := by omega
  rcases h4 with h | h | h | h
  · rw [bz_t (by simp [jB, h])]
    simp (disch := omega) only [qB_s, qC_t, qC_f, qI_T, qI_F, qI_t, qI_f, r_I, r_L, r_R, r_V, ii_add, ii_sub, ii_mul, ii_neg, bz_0, bz_1, Bool.true_and, Bool.false_and, Bool.and_true, z00, z11, li_0, li_1, li_2, gR_22_0, is_1, ii_eq]
  · by_cases q : g k 3 = 1
    · rw [bz_t (by simp [jB, h, q])]
      simp (disch := omega) only [qB_s, qC_t, qC_f, qI_T, qI_F, qI_t, qI_f, r_I, r_L, r_R, r_V, ii_add, ii_sub, ii_mul, ii_neg, bz_0, bz_1, Bool.true_and, Bool.false_and, Bool.and_true, z00, z11, li_0, li_1, li_2, gR_22_0, is_1, ii_eq, p5]
    · rw [bz_f (by simp [jB, h, q])]
      simp (disch := omega) only [qB_s, qC_t, qC_f, qI_T, qI_F, qI_t, qI_f, r_I, r_L, r_R, r_V, ii_add, ii_sub, ii_mul, ii_neg, bz_0, bz_1, Bool.true_and, Bool.false_and, Bool.and_true, z00, z11, li_0, li_1, li_2, gR_22_0, is_1, ii_eq, p5]
  · by_cases q : g k 3 = 0
    · rw [bz_t (by simp [jB, h, q])]
      simp (disch := omega) only [qB_s, qC_t, qC_f, qI_T, qI_F, qI_t, qI_f, r_I, r_L, r_R, r_V, ii_add, ii_sub, ii_mul, ii_neg, bz_0, bz_1, Bool.true_and, Bool.false_and, Bool.and_true, z00, z11, li_0, li_1, li_2, gR_22_0, is_1, ii_eq, p5]
    · rw [bz_f (by simp [jB, h, q])]
      simp (disch := omega) only [qB_s, qC_t, qC_f, qI_T, qI_F, qI_t, qI_f, r_I, r_L, r_R, r_V, ii_add, ii_sub, ii_mul, ii_neg, bz_0, bz_1, Bool.true_and, Bool.false_and, Bool.and_true, z00, z11, li_0, li_1, li_2, gR_22_0, is_1, ii_eq, p5]
  · by_cases q : g k 2 = 2
    · by_cases q2 : g k 3 = -1
      · rw [bz_f (by simp [jB, h, q, q2])]
        simp (disch := omega) only [qB_s, qC_t, qC_f, qI_T, qI_F, qI_t, qI_f, r_I, r_L, r_R, r_V, ii_add, ii_sub, ii_mul, ii_neg, bz_0, bz_1, Bool.true_and, Bool.false_and, Bool.and_true, z00, z11, li_0, li_1, li_2, gR_22_0, is_1, ii_eq, p4, p5]
      · rw [bz_t (by simp [jB, h, q]; omega)]
        simp (disch := omega) only [qB_s, qC_t, qC_f, qI_T, qI_F, qI_t, qI_f, r_I, r_L, r_R, r_V, ii_add, ii_sub, ii_mul, ii_neg, bz_0, bz_1, Bool.true_and, Bool.false_and, Bool.and_true, z00, z11, li_0, li_1, li_2, gR_22_0, is_1, ii_eq, p4, p5]
    · rw [bz_f (by simp [jB, h, q])]
      simp (disch := omega) only [qB_s, qC_t, qC_f, qI_T, qI_F, qI_t, qI_f, r_I, r_L, r_R, r_V, ii_add, ii_sub, ii_mul, ii_neg, bz_0, bz_1, Bool.true_and, Bool.false_and, Bool.and_true, z00, z11, li_0, li_1, li_2, gR_22_0, is_1, ii_eq, p4]
theorem c223 (hC : CS w n g) (hg : gK n g) {m : Nat} {f : Nat → Int} (hT : TK w m f) (hm : m ≤ 200) (hf : ∀ i, i < m → 0 ≤ f i ∧ f i < n) {ms tr : Int} (hms : 0 ≤ ms ∧ ms ≤ 3) (t1 : tr = 0 ∨ tr = 1) : am_F sc 223 [am_R (some 22), am_I (ii ms), am_I (ii tr)] (wst w) = some (some (am_I (ii (jS g f (fun _ => true) (lt0 g f) ms tr m))), wst w) := by
  have hs := hT.1
  have e := lp_0 (am_W sc 223) (fun k : Nat => (5, [some (am_R (some 22)), some (am_I (ii ms)), some (am_I (ii tr)), some (am_I (ii (jS g f (fun _ => true) (lt0 g f) ms tr k))), some (am_I (ii k)), none], [], wst w)) m (fun k hk => by
    have hfk := hf k hk
    have hr := hg (f k) hfk.1 hfk.2
    have p1 := c118 (sc := sc) hT hm hk
    have p2 := c26 (sc := sc) hC hfk.1 hfk.2
    have p4 := c28 (sc := sc) hC hfk.1 hfk.2
    have p5 := c29 (sc := sc) hC hfk.1 hfk.2
    simp only [Int.reduceSub] at p2 p4 p5
    have p3 := c221 (sc := sc) hC hg hms hfk.1 hfk.2
    have hra := jS_ran g f (fun _ => true) (lt0 g f) ms tr k
    rw [wq_223_5, jS_s]
    have hl : lt0 g f k = decide (g (f k) 2 = 2) := rfl
    rw [hl]
    by_cases q1 : g (f k) 0 = tr
    · cases q2 : jB ms (g (f k) 3) (decide (g (f k) 2 = 2)) with
      | true =>
        rw [q2] at p3
        rw [bz_t ⟨rfl, q1, rfl⟩]
        simp (disch := omega) only [qB_s, qC_t, qC_f, qI_T, qI_F, qI_t, qI_f, r_I, r_L, r_R, r_V, ii_add, ii_sub, ii_mul, ii_neg, bz_0, bz_1, Bool.true_and, Bool.false_and, Bool.and_true, z00, z11, li_0, li_1, gI_22_3, gR_22_0, is_1, is_22, hs, ii_lt, ii_eq, p1, p2, p3, nat_1, not_true_eq_false]
      | false =>
        rw [q2] at p3
        rw [bz_f (by simp)]
        simp (disch := omega) only [qB_s, qC_t, qC_f, qI_T, qI_F, qI_t, qI_f, r_I, r_L, r_R, r_V, ii_add, ii_sub, ii_mul, ii_neg, bz_0, bz_1, Bool.true_and, Bool.false_and, Bool.and_true, z00, z11, li_0, li_1, gI_22_3, gR_22_0, is_1, is_22, hs, ii_lt, ii_eq, p1, p2, p3, nat_1, Bool.false_eq_true, not_false_eq_true, Int.add_zero]
    · rw [bz_f (by simp [q1])]
      simp (disch := omega) only [qB_s, qC_t, qC_f, qI_T, qI_F, qI_t, qI_f, r_I, r_L, r_R, r_V, ii_add, ii_sub, ii_mul, ii_neg, bz_0, bz_1, Bool.true_and, Bool.false_and, Bool.and_true, z00, z11, li_0, li_1, gI_22_3, gR_22_0, is_1, is_22, hs, ii_lt, ii_eq, p1, p2, nat_1, Int.add_zero])
  have hra := jS_ran g f (fun _ => true) (lt0 g f) ms tr m
  rw [fq_223]
  have e' : am_W sc 223 (5, [some (am_R (some 22)), some (am_I (ii ms)), some (am_I (ii tr)), some (am_I (ii 0)), some (am_I (ii 0)), none], [], wst w) = _ := e
  rw [li_0, e', wq_223_5]
  simp (disch := omega) only [qB_s, qC_t, qC_f, qI_T, qI_F, qI_t, qI_f, r_I, r_L, r_R, r_V, ii_add, ii_sub, ii_mul, ii_neg, bz_0, bz_1, Bool.true_and, Bool.false_and, Bool.and_true, z00, z11, li_0, li_1, gI_22_3, gR_22_0, is_1, is_22, hs, ii_lt]
theorem c222 (hC : CS w n g) (hg : gK n g) {m : Nat} {f : Nat → Int} (hT : TK w m f) (hm : m ≤ 200) (hf : ∀ i, i < m → 0 ≤ f i ∧ f i < n) {ms tr : Int} (hms : 0 ≤ ms ∧ ms ≤ 3) (t1 : tr = 0 ∨ tr = 1) : am_F sc 222 [am_R (some 22), am_I (ii ms), am_I (ii tr)] (wst w) = some (some (am_I (ii (pS g f (fun _ => true) (lt0 g f) ms tr m))), wst w) := by
  have hs := hT.1
  have e := lp_0 (am_W sc 222) (fun k : Nat => (5, [some (am_R (some 22)), some (am_I (ii ms)), some (am_I (ii tr)), some (am_I (ii (pS g f (fun _ => true) (lt0 g f) ms tr k))), some (am_I (ii k)), none, none], [], wst w)) m (fun k hk => by
    have hfk := hf k hk
    have hr := hg (f k) hfk.1 hfk.2
    have p1 := c118 (sc := sc) hT hm hk
    have p2 := c26 (sc := sc) hC hfk.1 hfk.2
    have p4 := c28 (sc := sc) hC hfk.1 hfk.2
    have p5 := c29 (sc := sc) hC hfk.1 hfk.2
    simp only [Int.reduceSub] at p2 p4 p5
    have p3 := c221 (sc := sc) hC hg hms hfk.1 hfk.2
    have hra := pS_ran g f (fun _ => true) (lt0 g f) ms tr k
    rw [wq_222_5, pS_s]
    have hl : lt0 g f k = decide (g (f k) 2 = 2) := rfl
    rw [hl]
    by_cases q1 : g (f k) 0 = tr
    · by_cases q3 : ms = 3
      · by_cases q4 : g (f k) 3 = 1
        · have hM : mB ms (g (f k) 3) (decide (g (f k) 2 = 2)) = true := by simp [mB, q3, q4]
          rw [hM]
          cases q2 : jB ms (g (f k) 3) (decide (g (f k) 2 = 2)) with
          | true =>
            rw [q2] at p3
            rw [bz_t ⟨rfl, q1, rfl, rfl⟩]
            simp (disch := omega) only [qB_s, qC_t, qC_f, qI_T, qI_F, qI_t, qI_f, r_I, r_L, r_R, r_V, ii_add, ii_sub, ii_mul, ii_neg, bz_0, bz_1, Bool.true_and, Bool.false_and, Bool.and_true, z00, z11, li_0, li_1, li_2, li_3, gI_22_3, gR_22_0, is_1, is_22, hs, ii_lt, ii_eq, p1, p2, p3, p4, p5, nat_1, not_true_eq_false]
          | false =>
            rw [q2] at p3
            rw [bz_f (by simp)]
            simp (disch := omega) only [qB_s, qC_t, qC_f, qI_T, qI_F, qI_t, qI_f, r_I, r_L, r_R, r_V, ii_add, ii_sub, ii_mul, ii_neg, bz_0, bz_1, Bool.true_and, Bool.false_and, Bool.and_true, z00, z11, li_0, li_1, li_2, li_3, gI_22_3, gR_22_0, is_1, is_22, hs, ii_lt, ii_eq, p1, p2, p3, p4, p5, nat_1, Bool.false_eq_true, not_false_eq_true, Int.add_zero]
        · have hM : mB ms (g (f k) 3) (decide (g (f k) 2 = 2)) = false := by simp [mB, q3, q4]
          rw [hM, bz_f (by simp)]
          cases q2 : jB ms (g (f k) 3) (decide (g (f k) 2 = 2)) with
          | true =>
            rw [q2] at p3
            simp (disch := omega) only [qB_s, qC_t, qC_f, qI_T, qI_F, qI_t, qI_f, r_I, r_L, r_R, r_V, ii_add, ii_sub, ii_mul, ii_neg, bz_0, bz_1, Bool.true_and, Bool.false_and, Bool.and_true, z00, z11, li_0, li_1, li_2, li_3, gI_22_3, gR_22_0, is_1, is_22, hs, ii_lt, ii_eq, p1, p2, p3, p4, p5, nat_1, not_true_eq_false, Int.add_zero]
          | false =>
            rw [q2] at p3
            simp (disch := omega) only [qB_s, qC_t, qC_f, qI_T, qI_F, qI_t, qI_f, r_I, r_L, r_R, r_V, ii_add, ii_sub, ii_mul, ii_neg, bz_0, bz_1, Bool.true_and, Bool.false_and, Bool.and_true, z00, z11, li_0, li_1, li_2, li_3, gI_22_3, gR_22_0, is_1, is_22, hs, ii_lt, ii_eq, p1, p2, p3, p4, p5, nat_1, Bool.false_eq_true, not_false_eq_true, Int.add_zero]
      · by_cases q4 : g (f k) 2 = 2
        · have hM : mB ms (g (f k) 3) (decide (g (f k) 2 = 2)) = true := by simp [mB, q3, q4]
          rw [hM]
          cases q2 : jB ms (g (f k) 3) (decide (g (f k) 2 = 2)) with
          | true =>
            rw [q2] at p3
            rw [bz_t ⟨rfl, q1, rfl, rfl⟩]
            simp (disch := omega) only [qB_s, qC_t, qC_f, qI_T, qI_F, qI_t, qI_f, r_I, r_L, r_R, r_V, ii_add, ii_sub, ii_mul, ii_neg, bz_0, bz_1, Bool.true_and, Bool.false_and, Bool.and_true, z00, z11, li_0, li_1, li_2, li_3, gI_22_3, gR_22_0, is_1, is_22, hs, ii_lt, ii_eq, p1, p2, p3, p4, p5, nat_1, not_true_eq_false]
          | false =>
            rw [q2] at p3
            rw [bz_f (by simp)]
            simp (disch := omega) only [qB_s, qC_t, qC_f, qI_T, qI_F, qI_t, qI_f, r_I, r_L, r_R, r_V, ii_add, ii_sub, ii_mul, ii_neg, bz_0, bz_1, Bool.true_and, Bool.false_and, Bool.and_true, z00, z11, li_0, li_1, li_2, li_3, gI_22_3, gR_22_0, is_1, is_22, hs, ii_lt, ii_eq, p1, p2, p3, p4, p5, nat_1, Bool.false_eq_true, not_false_eq_true, Int.add_zero]
        · have hM : mB ms (g (f k) 3) (decide (g (f k) 2 = 2)) = false := by simp [mB, q3, q4]
          rw [hM, bz_f (by simp)]
          cases q2 : jB ms (g (f k) 3) (decide (g (f k) 2 = 2)) with
          | true =>
            rw [q2] at p3
            simp (disch := omega) only [qB_s, qC_t, qC_f, qI_T, qI_F, qI_t, qI_f, r_I, r_L, r_R, r_V, ii_add, ii_sub, ii_mul, ii_neg, bz_0, bz_1, Bool.true_and, Bool.false_and, Bool.and_true, z00, z11, li_0, li_1, li_2, li_3, gI_22_3, gR_22_0, is_1, is_22, hs, ii_lt, ii_eq, p1, p2, p3, p4, p5, nat_1, not_true_eq_false, Int.add_zero]
          | false =>
            rw [q2] at p3
            simp (disch := omega) only [qB_s, qC_t, qC_f, qI_T, qI_F, qI_t, qI_f, r_I, r_L, r_R, r_V, ii_add, ii_sub, ii_mul, ii_neg, bz_0, bz_1, Bool.true_and, Bool.false_and, Bool.and_true, z00, z11, li_0, li_1, li_2, li_3, gI_22_3, gR_22_0, is_1, is_22, hs, ii_lt, ii_eq, p1, p2, p3, p4, p5, nat_1, Bool.false_eq_true, not_false_eq_true, Int.add_zero]
    · rw [bz_f (by simp [q1])]
      by_cases q3 : ms = 3
      · by_cases q4 : g (f k) 3 = 1
        · simp (disch := omega) only [qB_s, qC_t, qC_f, qI_T, qI_F, qI_t, qI_f, r_I, r_L, r_R, r_V, ii_add, ii_sub, ii_mul, ii_neg, bz_0, bz_1, Bool.true_and, Bool.false_and, Bool.and_true, z00, z11, li_0, li_1, li_2, li_3, gI_22_3, gR_22_0, is_1, is_22, hs, ii_lt, ii_eq, p1, p2, p4, p5, nat_1, Int.add_zero]
        · simp (disch := omega) only [qB_s, qC_t, qC_f, qI_T, qI_F, qI_t, qI_f, r_I, r_L, r_R, r_V, ii_add, ii_sub, ii_mul, ii_neg, bz_0, bz_1, Bool.true_and, Bool.false_and, Bool.and_true, z00, z11, li_0, li_1, li_2, li_3, gI_22_3, gR_22_0, is_1, is_22, hs, ii_lt, ii_eq, p1, p2, p4, p5, nat_1, Int.add_zero]
      · by_cases q4 : g (f k) 2 = 2
        · simp (disch := omega) only [qB_s, qC_t, qC_f, qI_T, qI_F, qI_t, qI_f, r_I, r_L, r_R, r_V, ii_add, ii_sub, ii_mul, ii_neg, bz_0, bz_1, Bool.true_and, Bool.false_and, Bool.and_true, z00, z11, li_0, li_1, li_2, li_3, gI_22_3, gR_22_0, is_1, is_22, hs, ii_lt, ii_eq, p1, p2, p4, p5, nat_1, Int.add_zero]
        · simp (disch := omega) only [qB_s, qC_t, qC_f, qI_T, qI_F, qI_t, qI_f, r_I, r_L, r_R, r_V, ii_add, ii_sub, ii_mul, ii_neg, bz_0, bz_1, Bool.true_and, Bool.false_and, Bool.and_true, z00, z11, li_0, li_1, li_2, li_3, gI_22_3, gR_22_0, is_1, is_22, hs, ii_lt, ii_eq, p1, p2, p4, p5, nat_1, Int.add_zero])
  have hra := pS_ran g f (fun _ => true) (lt0 g f) ms tr m
  rw [fq_222]
  have e' : am_W sc 222 (5, [some (am_R (some 22)), some (am_I (ii ms)), some (am_I (ii tr)), some (am_I (ii 0)), some (am_I (ii 0)), none, none], [], wst w) = _ := e
  rw [li_0, e', wq_222_5]
  simp (disch := omega) only [qB_s, qC_t, qC_f, qI_T, qI_F, qI_t, qI_f, r_I, r_L, r_R, r_V, ii_add, ii_sub, ii_mul, ii_neg, bz_0, bz_1, Bool.true_and, Bool.false_and, Bool.and_true, z00, z11, li_0, li_1, li_2, li_3, gI_22_3, gR_22_0, is_1, is_22, hs, ii_lt]
theorem c224 (hC : CS w n g) (hg : gK n g) {m : Nat} {f : Nat → Int} (hT : TK w m f) (hm : m ≤ 200) (hf : ∀ i, i < m → 0 ≤ f i ∧ f i < n) {ms : Int} (hms : 0 ≤ ms ∧ ms ≤ 3) : ∃ v, am_F sc 224 [am_R (some 0), am_I (ii ms)] (wst w) = some (none, wst v) ∧ fr [2800, 2801] w v ∧ wJ v 28 0 = frU (pS g f (fun _ => true) (lt0 g f) ms 0 m) (jS g f (fun _ => true) (lt0 g f) ms 0 m) (pS g f (fun _ => true) (lt0 g f) ms 1 m) (jS g f (fun _ => true) (lt0 g f) ms 1 m) ∧ wJ v 28 1 = frD (pS g f (fun _ => true) (lt0 g f) ms 0 m) (jS g f (fun _ => true) (lt0 g f) ms 0 m) (pS g f (fun _ => true) (lt0 g f) ms 1 m) (jS g f (fun _ => true) (lt0 g f) ms 1 m) := by
  have e1 := c222 (sc := sc) hC hg hT hm hf (tr := 0) hms (.inl rfl)
  have e2 := c223 (sc := sc) hC hg hT hm hf (tr := 0) hms (.inl rfl)
  have e3 := c222 (sc := sc) hC hg hT hm hf (tr := 1) hms (.inr rfl)
  have e4 := c223 (sc := sc) hC hg hT hm hf (tr := 1) hms (.inr rfl)
  have r1 := pS_ran g f (fun _ => true) (lt0 g f) ms 0 m
  have r2 := jS_ran g f (fun _ => true) (lt0 g f) ms 0 m
  have r3 := pS_ran g f (fun _ => true) (lt0 g f) ms 1 m
  have r4 := jS_ran g f (fun _ => true) (lt0 g f) ms 1 m
  obtain ⟨v, e5, f5, h5⟩ := c131 (sc := sc) (w := w) (a := pS g f (fun _ => true) (lt0 g f) ms 0 m) (b := jS g f (fun _ => true) (lt0 g f) ms 0 m) (c := pS g f (fun _ => true) (lt0 g f) ms 1 m) (d := jS g f (fun _ => true) (lt0 g f) ms 1 m) (by omega) (by omega) (by omega) (by omega)
  refine ⟨v, ?_, f5, h5⟩
  rw [fq_224]
  simp (disch := omega) only [qB_s, qC_t, qC_f, qI_T, qI_F, qI_t, qI_f, r_I, r_L, r_R, r_V, ii_add, ii_sub, ii_mul, ii_neg, bz_0, bz_1, Bool.true_and, Bool.false_and, Bool.and_true, z00, z11, li_0, li_1, gR_0_10, gR_0_9, is_22, is_28, e1, e2, e3, e4, e5]
/-- within so many thousandths -/
def wiB (U D t : Int) : Bool := decide (0 < D ∧ (if 0 < U then U else -U) * 1000 ≤ t * D)
theorem c230 {t U D : Int} (ht : 0 ≤ t ∧ t ≤ 1000) (h1 : wJ w 28 0 = U) (h2 : wJ w 28 1 = D) (hU : -4000000 ≤ U ∧ U ≤ 4000000) (hD : 0 ≤ D ∧ D ≤ 4000000) : am_F sc 230 [am_R (some 28), am_I (ii t)] (wst w) = some (some (am_I (ii (bz (wiB U D t = true)))), wst w) := by
  have b1 : 0 ≤ t * D := Int.mul_nonneg ht.1 hD.1
  have b2 : t * D ≤ 4000000000 := Int.le_trans (Int.mul_le_mul_of_nonneg_right (a := t) (b := 1000) (c := D) (by omega) (by omega)) (by omega)
  obtain ⟨M, hM⟩ : ∃ M, M = if 0 < U then U else -U := ⟨_, rfl⟩
  have bM : 0 ≤ M ∧ M ≤ 4000000 := by rw [hM]; split <;> omega
  have l1 : (ii 0 < lg_cmp (jj D) (jj 0)) = (0 < D) := lg_gt (by omega) (by omega) (by omega) (by omega)
  have l2 : (ii 0 < lg_cmp (jj (M * 1000)) (jj (t * D))) = (t * D < M * 1000) := lg_gt (by omega) (by omega) (by omega) (by omega)
  have l3 : jj M * jj 1000 = jj (M * 1000) := jj_mul _ _
  have l4 : (ii t).toInt64 * jj D = jj (t * D) := by rw [ii_jj (by omega) (by omega), jj_mul]
  have l5 : am_absL (jj U) = jj M := by rw [absL_jj (by omega) (by omega), hM]
  unfold wiB
  rw [← hM, fq_230, li_0, lj_0, lj_1000, gL_28_1, qB_s, h2]
  by_cases q1 : 0 < D
  · have i1 : ii 0 < lg_cmp (jj D) (jj 0) := by rw [l1]; exact q1
    rw [qI_t i1, gL_28_0, qB_s, h1, qB_s, l5, l3, l4]
    by_cases q2 : M * 1000 ≤ t * D
    · rw [bz_t (by simp [q1, q2]), qI_f (by rw [l2]; omega)]
      rfl
    · rw [bz_f (by simp [q2]), qI_t (by rw [l2]; omega)]
  · have i1 : ¬ (ii 0 < lg_cmp (jj D) (jj 0)) := by rw [l1]; exact q1
    rw [qI_f i1, bz_f (by simp [q1])]
theorem d232 {t U D : Int} (ht : 0 ≤ t ∧ t ≤ 1000) (h1 : wJ w 47 30 = U) (h2 : wJ w 47 31 = D) (hU : -4000000 ≤ U ∧ U ≤ 4000000) (hD : 0 ≤ D ∧ D ≤ 4000000) : am_F sc 232 [am_R (some 47), am_I (ii t)] (wst w) = some (some (am_I (ii (bz (wiB U D t = true)))), wst w) := by
  have b1 : 0 ≤ t * D := Int.mul_nonneg ht.1 hD.1
  have b2 : t * D ≤ 4000000000 := Int.le_trans (Int.mul_le_mul_of_nonneg_right (a := t) (b := 1000) (c := D) (by omega) (by omega)) (by omega)
  obtain ⟨M, hM⟩ : ∃ M, M = if 0 < U then U else -U := ⟨_, rfl⟩
  have bM : 0 ≤ M ∧ M ≤ 4000000 := by rw [hM]; split <;> omega
  have l1 : (ii 0 < lg_cmp (jj D) (jj 0)) = (0 < D) := lg_gt (by omega) (by omega) (by omega) (by omega)
  have l0 : (lg_cmp (jj U) (jj 0) < ii 0) = (U < 0) := lg_lt (by omega) (by omega) (by omega) (by omega)
  have l2 : (ii 0 < lg_cmp (jj (1000 * M)) (jj (t * D))) = (t * D < 1000 * M) := lg_gt (by omega) (by omega) (by omega) (by omega)
  have l3 : jj 1000 * jj M = jj (1000 * M) := jj_mul _ _
  have l4 : (ii t).toInt64 * jj D = jj (t * D) := by rw [ii_jj (by omega) (by omega), jj_mul]
  unfold wiB
  rw [← hM, fq_232, li_0, lj_0, lj_1000, gL_47_31, qB_s, h2]
  by_cases q1 : 0 < D
  · have i1 : ii 0 < lg_cmp (jj D) (jj 0) := by rw [l1]; exact q1
    rw [qI_t i1, gL_47_30, qB_s, h1]
    have fin : (qI (ii 0 < lg_cmp (jj (1000 * M)) (jj (t * D))) (some (some (am_I (ii 0)), wst w)) (some (some (am_I 1), wst w)) () : Option am_Y) = some (some (am_I (ii (bz (decide (0 < D ∧ M * 1000 ≤ t * D) = true)))), wst w) := by
      by_cases q2 : M * 1000 ≤ t * D
      · rw [bz_t (by simp [q1, q2]), qI_f (by rw [l2]; omega)]
        rfl
      · rw [bz_f (by simp [q2]), qI_t (by rw [l2]; omega)]
    by_cases q3 : U < 0
    · have hMU : M = -U := by rw [hM, if_neg (by omega)]
      rw [qI_t (by rw [l0]; exact q3), qB_s, qB_s, jj_neg, ← hMU, l3, l4]
      exact fin
    · have hMU : M = U := by rw [hM]; split <;> omega
      rw [qI_f (by rw [l0]; exact q3), qB_s, qB_s, ← hMU, l3, l4]
      exact fin
  · have i1 : ¬ (ii 0 < lg_cmp (jj D) (jj 0)) := by rw [l1]; exact q1
    rw [qI_f i1, bz_f (by simp [q1])]
/-- the split of a measure -/
def spU (A : ab) (v ms : Int) : Int := frU (pS (aG A) (vF A v) (fun _ => true) (lt0 (aG A) (vF A v)) ms 0 (vM A v)) (jS (aG A) (vF A v) (fun _ => true) (lt0 (aG A) (vF A v)) ms 0 (vM A v)) (pS (aG A) (vF A v) (fun _ => true) (lt0 (aG A) (vF A v)) ms 1 (vM A v)) (jS (aG A) (vF A v) (fun _ => true) (lt0 (aG A) (vF A v)) ms 1 (vM A v))
def spD (A : ab) (v ms : Int) : Int := frD (pS (aG A) (vF A v) (fun _ => true) (lt0 (aG A) (vF A v)) ms 0 (vM A v)) (jS (aG A) (vF A v) (fun _ => true) (lt0 (aG A) (vF A v)) ms 0 (vM A v)) (pS (aG A) (vF A v) (fun _ => true) (lt0 (aG A) (vF A v)) ms 1 (vM A v)) (jS (aG A) (vF A v) (fun _ => true) (lt0 (aG A) (vF A v)) ms 1 (vM A v))
theorem sp_ran {A : ab} (hA : okA A) (v ms : Int) : (-4000000 ≤ spU A v ms ∧ spU A v ms ≤ 4000000) ∧ (0 ≤ spD A v ms ∧ spD A v ms ≤ 4000000) := by
  have hm := vM_le hA v
  have r1 := pS_ran (aG A) (vF A v) (fun _ => true) (lt0 (aG A) (vF A v)) ms 0 (vM A v)
  have r2 := jS_ran (aG A) (vF A v) (fun _ => true) (lt0 (aG A) (vF A v)) ms 0 (vM A v)
  have r3 := pS_ran (aG A) (vF A v) (fun _ => true) (lt0 (aG A) (vF A v)) ms 1 (vM A v)
  have r4 := jS_ran (aG A) (vF A v) (fun _ => true) (lt0 (aG A) (vF A v)) ms 1 (vM A v)
  exact frUD_ran (by omega) (by omega) (by omega) (by omega)
theorem x_225 (hC : RC ow w A) (hA : okA A) {v ms o : Int} (hv1 : -2147483648 ≤ v) (hv2 : v ≤ 2147483647) (hms1 : -2147483648 ≤ ms) (hms2 : ms ≤ 2147483647) (ho1 : -2147483648 ≤ o) (ho2 : o ≤ 2147483647) : ∃ u, am_F sc 225 [am_R (some 0), am_I (ii v), am_I (ii ms), am_I (ii o)] (wst w) = some (some (am_I (ii (if (0 ≤ ms ∧ ms < 4) ∧ (o = 0 ∨ o = 1) ∧ (0 ≤ v ∧ v < A.2.2.1.1) then if o = 0 then spU A v ms else spD A v ms else -1))), wst u) ∧ fr scC w u := by
  have hn8 := hA.2.2.1.2.1
  have hn0 := hA.2.2.1.1
  by_cases q1 : 0 ≤ ms ∧ ms < 4
  · skip
    by_cases q2 : o = 0 ∨ o = 1
    · skip
      by_cases q3 : 0 ≤ v ∧ v < A.2.2.1.1
      · skip
        rw [if_pos (by omega)]
        obtain ⟨u, e1, f1, t1, -⟩ := (c117 (sc := sc) hC hA hv1 hv2).1 q3
        have hCu := RC_c hC (fr_m f1 rfl)
        have hm := vM_le hA v
        have hg := hA.1.2.2.1
        have hst := stg hA v
        have hok : ∀ i, i < vM A v → 0 ≤ vF A v i ∧ vF A v i < A.1.1 := fun i hi => vF_ok hA v hi
        obtain ⟨u2, e2, f2, j0, j1⟩ := c224 (sc := sc) hCu.1 hg t1 hm hok (ms := ms) (by omega)
        have e3 := c133 (sc := sc) (w := u2) (p := o) q2
        rw [j0, j1] at e3
        refine ⟨u2, ?_, fr_t (fr_m f1 rfl) (fr_m f2 rfl)⟩
        rw [fq_225]
        simp (disch := omega) only [qB_s, qC_t, qC_f, qI_T, qI_F, qI_t, qI_f, r_I, r_L, r_R, r_V, ii_add, ii_sub, ii_mul, ii_neg, bz_0, bz_1, Bool.true_and, Bool.false_and, Bool.and_true, z00, z11, li_0, li_1, gR_0_10, is_0, is_28, s220, s126, e1, ii_eq, e2, e3]
        rfl
      · rw [if_neg (by omega)]
        have h117 := (c117 (sc := sc) hC hA hv1 hv2).2 q3
        exact ⟨w, by
          rw [fq_225]
          simp (disch := omega) only [qB_s, qC_t, qC_f, qI_T, qI_F, qI_t, qI_f, r_I, r_L, r_R, r_V, ii_add, ii_sub, ii_mul, ii_neg, bz_0, bz_1, Bool.true_and, Bool.false_and, Bool.and_true, z00, z11, li_0, li_1, gR_0_10, is_0, is_28, ii_lt, ii_eq, ii_jj, jj_neg, h117, s220, s220, s126], fr_r _ _⟩
    · rw [if_neg (by omega)]
      exact ⟨w, by
        rw [fq_225]
        simp (disch := omega) only [qB_s, qC_t, qC_f, qI_T, qI_F, qI_t, qI_f, r_I, r_L, r_R, r_V, ii_add, ii_sub, ii_mul, ii_neg, bz_0, bz_1, Bool.true_and, Bool.false_and, Bool.and_true, z00, z11, li_0, li_1, gR_0_10, is_0, is_28, ii_lt, ii_eq, ii_jj, jj_neg, s220, s126], fr_r _ _⟩
  · rw [if_neg (by omega)]
    exact ⟨w, by
      rw [fq_225]
      simp (disch := omega) only [qB_s, qC_t, qC_f, qI_T, qI_F, qI_t, qI_f, r_I, r_L, r_R, r_V, ii_add, ii_sub, ii_mul, ii_neg, bz_0, bz_1, Bool.true_and, Bool.false_and, Bool.and_true, z00, z11, li_0, li_1, gR_0_10, is_0, is_28, ii_lt, ii_eq, ii_jj, jj_neg, s220], fr_r _ _⟩

theorem x_231 (hC : RC ow w A) (hA : okA A) {v ms t : Int} (hv1 : -2147483648 ≤ v) (hv2 : v ≤ 2147483647) (hms1 : -2147483648 ≤ ms) (hms2 : ms ≤ 2147483647) (ht1 : -2147483648 ≤ t) (ht2 : t ≤ 2147483647) : ∃ u, am_F sc 231 [am_R (some 0), am_I (ii v), am_I (ii ms), am_I (ii t)] (wst w) = some (some (am_I (ii (if (0 ≤ ms ∧ ms < 4) ∧ (0 ≤ t ∧ t ≤ 1000) ∧ (0 ≤ v ∧ v < A.2.2.1.1) then bz (wiB (spU A v ms) (spD A v ms) t = true) else -1))), wst u) ∧ fr scC w u := by
  have hn8 := hA.2.2.1.2.1
  have hn0 := hA.2.2.1.1
  by_cases q1 : 0 ≤ ms ∧ ms < 4
  · skip
    by_cases q2 : 0 ≤ t ∧ t ≤ 1000
    · skip
      by_cases q3 : 0 ≤ v ∧ v < A.2.2.1.1
      · skip
        rw [if_pos (by omega)]
        obtain ⟨u, e1, f1, t1, -⟩ := (c117 (sc := sc) hC hA hv1 hv2).1 q3
        have hCu := RC_c hC (fr_m f1 rfl)
        have hm := vM_le hA v
        have hg := hA.1.2.2.1
        have hst := stg hA v
        have hok : ∀ i, i < vM A v → 0 ≤ vF A v i ∧ vF A v i < A.1.1 := fun i hi => vF_ok hA v hi
        obtain ⟨u2, e2, f2, j0, j1⟩ := c224 (sc := sc) hCu.1 hg t1 hm hok (ms := ms) (by omega)
        have j0' : wJ u2 28 0 = spU A v ms := j0
        have j1' : wJ u2 28 1 = spD A v ms := j1
        obtain ⟨hU, hD⟩ := sp_ran hA v ms
        have e3 := c230 (sc := sc) q2 j0' j1' hU hD
        refine ⟨u2, ?_, fr_t (fr_m f1 rfl) (fr_m f2 rfl)⟩
        rw [fq_231]
        cases q : wiB (spU A v ms) (spD A v ms) t
        all_goals rw [q] at e3
        all_goals simp (disch := omega) only [qB_s, qC_t, qC_f, qI_T, qI_F, qI_t, qI_f, r_I, r_L, r_R, r_V, ii_add, ii_sub, ii_mul, ii_neg, bz_0, bz_1, Bool.true_and, Bool.false_and, Bool.and_true, z00, z11, li_0, li_1, gR_0_10, is_0, is_28, s220, s229, e1, ii_eq, e2, e3, Bool.false_eq_true, not_false_eq_true, not_true_eq_false]
        all_goals rfl
      · rw [if_neg (by omega)]
        have h117 := (c117 (sc := sc) hC hA hv1 hv2).2 q3
        exact ⟨w, by
          rw [fq_231]
          simp (disch := omega) only [qB_s, qC_t, qC_f, qI_T, qI_F, qI_t, qI_f, r_I, r_L, r_R, r_V, ii_add, ii_sub, ii_mul, ii_neg, bz_0, bz_1, Bool.true_and, Bool.false_and, Bool.and_true, z00, z11, li_0, li_1, gR_0_10, is_0, is_28, ii_lt, ii_eq, ii_jj, jj_neg, h117, s220, s220, s229], fr_r _ _⟩
    · rw [if_neg (by omega)]
      exact ⟨w, by
        rw [fq_231]
        simp (disch := omega) only [qB_s, qC_t, qC_f, qI_T, qI_F, qI_t, qI_f, r_I, r_L, r_R, r_V, ii_add, ii_sub, ii_mul, ii_neg, bz_0, bz_1, Bool.true_and, Bool.false_and, Bool.and_true, z00, z11, li_0, li_1, gR_0_10, is_0, is_28, ii_lt, ii_eq, ii_jj, jj_neg, s220, s229], fr_r _ _⟩
  · rw [if_neg (by omega)]
    exact ⟨w, by
      rw [fq_231]
      simp (disch := omega) only [qB_s, qC_t, qC_f, qI_T, qI_F, qI_t, qI_f, r_I, r_L, r_R, r_V, ii_add, ii_sub, ii_mul, ii_neg, bz_0, bz_1, Bool.true_and, Bool.false_and, Bool.and_true, z00, z11, li_0, li_1, gR_0_10, is_0, is_28, ii_lt, ii_eq, ii_jj, jj_neg, s220], fr_r _ _⟩

end L26
