/-! WAYS TO CHOOSE -/
def ch : Nat → Nat → Nat
  | _, 0 => 1
  | 0, _ + 1 => 0
  | n + 1, k + 1 => ch n k + ch n (k + 1)
theorem ch_0 (n : Nat) : ch n 0 = 1 := by cases n <;> rfl
theorem ch_s (n k : Nat) : ch (n + 1) (k + 1) = ch n k + ch n (k + 1) := rfl
theorem ch_no : ∀ (n k : Nat), n < k → ch n k = 0
  | _, 0, h => absurd h (Nat.not_lt_zero _)
  | 0, _ + 1, _ => rfl
  | n + 1, k + 1, h => by rw [ch_s, ch_no n k (by omega), ch_no n (k + 1) (by omega)]
theorem ch_nn : ∀ n : Nat, ch n n = 1
  | 0 => rfl
  | n + 1 => by rw [ch_s, ch_nn n, ch_no n (n + 1) (by omega)]
theorem ch_mul : ∀ n k : Nat, (k + 1) * ch n (k + 1) + k * ch n k = n * ch n k
  | 0, 0 => rfl
  | 0, k + 1 => by simp [ch]
  | n + 1, 0 => by
    have := ch_mul n 0
    rw [ch_s, ch_0, ch_0]
    rw [ch_0] at this
    omega
  | n + 1, k + 1 => by
    have h1 := ch_mul n k
    have h2 := ch_mul n (k + 1)
    rw [ch_s n (k + 1), ch_s n k]
    generalize ch n k = a at *
    generalize ch n (k + 1) = b at *
    generalize ch n (k + 1 + 1) = c at *
    simp only [Nat.mul_add, Nat.add_mul, Nat.one_mul] at *
    omega
theorem ch_up (n k : Nat) : (k + 1) * ch (n + 1) (k + 1) = (n + 1) * ch n k := by
  have h1 := ch_mul n k
  rw [ch_s n k]
  generalize ch n k = a at *
  generalize ch n (k + 1) = b at *
  simp only [Nat.mul_add, Nat.add_mul, Nat.one_mul] at *
  omega
theorem ch_mono (n k : Nat) : ch n k ≤ ch (n + 1) k := by
  cases k with
  | zero => rw [ch_0, ch_0]; exact Nat.le_refl _
  | succ k => rw [ch_s]; omega
theorem ch_10 (k : Nat) : ch 10 k ≤ 252 := by
  by_cases h : 10 < k
  · rw [ch_no 10 k h]; omega
  · have : ∀ i : Fin 11, ch 10 i.val ≤ 252 := by decide +kernel
    exact this ⟨k, by omega⟩
theorem ch_b : ∀ (n k : Nat), ch (n + 10) k ≤ 252 * 2 ^ n
  | 0, k => by have := ch_10 k; simpa using this
  | n + 1, 0 => by rw [ch_0]; have := Nat.two_pow_pos (n + 1); omega
  | n + 1, k + 1 => by
    have h1 := ch_b n k
    have h2 := ch_b n (k + 1)
    rw [show n + 1 + 10 = (n + 10) + 1 from by omega, ch_s, Nat.pow_succ]
    omega
theorem ch_mn (k : Nat) {n : Nat} : ∀ d, ch n k ≤ ch (n + d) k
  | 0 => Nat.le_refl _
  | d + 1 => Nat.le_trans (ch_mn k d) (ch_mono (n + d) k)
theorem ch_59 {n : Nat} (h : n ≤ 59) (k : Nat) : ch n k ≤ 141863388262170624 := by
  have h1 := ch_mn k (n := n) (59 - n)
  rw [show n + (59 - n) = 59 from by omega] at h1
  have h2 := ch_b 49 k
  simp only [Nat.reduceAdd, Nat.reducePow, Nat.reduceMul] at h2
  omega
theorem ch_60 {n : Nat} (h : n ≤ 60) (k : Nat) : ch n k ≤ 283726776524341248 := by
  have h1 := ch_mn k (n := n) (60 - n)
  rw [show n + (60 - n) = 60 from by omega] at h1
  have h2 := ch_b 50 k
  simp only [Nat.reduceAdd, Nat.reducePow, Nat.reduceMul] at h2
  omega
theorem ch_st {n : Nat} (h : n ≤ 60) (k : Nat) : (k + 1) * ch n (k + 1) ≤ 8511803295730237440 := by
  cases n with
  | zero => simp [ch]
  | succ n =>
    rw [ch_up]
    have := ch_59 (n := n) (by omega) k
    calc (n + 1) * ch n k ≤ 60 * 141863388262170624 := Nat.mul_le_mul (by omega) this
      _ = 8511803295730237440 := rfl
/-- over the integers -/
def cg (n k : Int) : Int := if 0 ≤ k ∧ k ≤ n ∧ n ≤ 60 then (ch n.toNat k.toNat : Int) else 0
section L35
variable {sc : am_X} {w : wo}
theorem c138 {n k : Int} (hn1 : -2147483648 ≤ n) (hn2 : n ≤ 2147483647) (hk1 : -2147483648 ≤ k) (hk2 : k ≤ 2147483647) : am_F sc 138 [am_I (ii n), am_I (ii k)] (wst w) = some (some (am_L (jj (cg n k))), wst w) := by
  rw [fq_138]
  unfold cg
  by_cases q : 0 ≤ k ∧ k ≤ n ∧ n ≤ 60
  · rw [if_pos q]
    obtain ⟨q0, q1, q2⟩ := q
    have hN : (n.toNat : Int) = n := Int.toNat_of_nonneg (by omega)
    have hK : (k.toNat : Int) = k := Int.toNat_of_nonneg q0
    generalize n.toNat = N at *
    generalize k.toNat = K at *
    have e := lp_0 (am_W sc 138) (fun j : Nat => (22, [some (am_I (ii n)), some (am_I (ii k)), some (am_L (jj (ch N j))), none, some (am_I (ii ((j : Int) + 1)))], [], wst w)) K (fun j hj => by
      have hm : ((ch N j : Int)) * (n - ((j : Int) + 1) + 1) = ((j : Int) + 1) * (ch N (j + 1) : Int) := by
        have := ch_mul N j
        rw [← hN]
        have h3 : ((j : Int) + 1) * (ch N (j + 1) : Int) + (j : Int) * (ch N j : Int) = (N : Int) * (ch N j : Int) := by exact_mod_cast this
        have h4 : (N : Int) - ((j : Int) + 1) + 1 = N - j := by omega
        rw [h4, Int.mul_comm, Int.sub_mul]
        omega
      have hb := ch_st (n := N) (by omega) j
      have hb2 : ((j : Int) + 1) * (ch N (j + 1) : Int) ≤ 8511803295730237440 := by
        have := Int.ofNat_le.mpr hb
        rw [Int.natCast_mul, nat_1] at this
        exact this
      have hb0 : 0 ≤ ((j : Int) + 1) * (ch N (j + 1) : Int) := Int.mul_nonneg (by omega) (by omega)
      have hd : jj ((ch N j : Int) * (n - ((j : Int) + 1) + 1)) / jj ((j : Int) + 1) = jj (ch N (j + 1) : Int) := by
        rw [hm, jj_div0 hb0 (by omega) (by omega) (by omega), Int.mul_ediv_cancel_left _ (by omega)]
      rw [wq_138_22]
      simp (disch := omega) only [qB_s, qC_t, qC_f, qI_T, qI_F, qI_t, qI_f, r_I, r_L, r_R, r_V, ii_add, ii_sub, ii_mul, ii_neg, bz_0, bz_1, Bool.true_and, Bool.false_and, Bool.and_true, z00, z11, li_0, li_1, li_60, lj_0, lj_1, ii_lt, ii_jj, jj_eq, jj_mul, hd, nat_1])
    have e' : am_W sc 138 (22, [some (am_I (ii n)), some (am_I (ii k)), some (am_L (jj 1)), none, some (am_I (ii 1))], [], wst w) = am_W sc 138 (22, [some (am_I (ii n)), some (am_I (ii k)), some (am_L (jj (ch N K))), none, some (am_I (ii ((K : Int) + 1)))], [], wst w) := by
      have e2 : am_W sc 138 (22, [some (am_I (ii n)), some (am_I (ii k)), some (am_L (jj (ch N 0 : Nat))), none, some (am_I (ii (((0 : Nat) : Int) + 1)))], [], wst w) = am_W sc 138 (22, [some (am_I (ii n)), some (am_I (ii k)), some (am_L (jj (ch N K))), none, some (am_I (ii ((K : Int) + 1)))], [], wst w) := e
      rw [ch_0] at e2
      exact e2
    simp (disch := omega) only [qB_s, qC_t, qC_f, qI_T, qI_F, qI_t, qI_f, r_I, r_L, r_R, r_V, ii_add, ii_sub, ii_mul, ii_neg, bz_0, bz_1, Bool.true_and, Bool.false_and, Bool.and_true, z00, z11, li_0, li_1, li_60, lj_0, lj_1, ii_lt]
    rw [e', wq_138_22]
    simp (disch := omega) only [qB_s, qC_t, qC_f, qI_T, qI_F, qI_t, qI_f, r_I, r_L, r_R, r_V, ii_add, ii_sub, ii_mul, ii_neg, bz_0, bz_1, Bool.true_and, Bool.false_and, Bool.and_true, z00, z11, li_0, li_1, li_60, lj_0, lj_1, ii_lt]
  · rw [if_neg q]
    by_cases q0 : k < 0
    · simp (disch := omega) only [qB_s, qC_t, qC_f, qI_T, qI_F, qI_t, qI_f, r_I, r_L, r_R, r_V, ii_add, ii_sub, ii_mul, ii_neg, bz_0, bz_1, Bool.true_and, Bool.false_and, Bool.and_true, z00, z11, li_0, li_1, li_60, lj_0, lj_1, ii_lt]
    · by_cases q1 : n < k
      · simp (disch := omega) only [qB_s, qC_t, qC_f, qI_T, qI_F, qI_t, qI_f, r_I, r_L, r_R, r_V, ii_add, ii_sub, ii_mul, ii_neg, bz_0, bz_1, Bool.true_and, Bool.false_and, Bool.and_true, z00, z11, li_0, li_1, li_60, lj_0, lj_1, ii_lt]
      · simp (disch := omega) only [qB_s, qC_t, qC_f, qI_T, qI_F, qI_t, qI_f, r_I, r_L, r_R, r_V, ii_add, ii_sub, ii_mul, ii_neg, bz_0, bz_1, Bool.true_and, Bool.false_and, Bool.and_true, z00, z11, li_0, li_1, li_60, lj_0, lj_1, ii_lt]
/-- the other's rows of ways -/
def WYr (w : wo) (i : Nat) : Prop := ∀ a b : Nat, b ≤ a → a < i → wB w 62 (61 * a + b) = ch a b
def WY (w : wo) : Prop := wB w 62 0 = 0 ∨ WYr w 61
theorem d140i {n k : Int} {i : Nat} (hi : i ≤ 60) (hr : WYr w i) : ∃ v, am_W sc 140 (22, [some (am_R (some 47)), some (am_I (ii n)), some (am_I (ii k)), some (am_I (ii i)), some (am_I (ii 0))], [], wst w) = am_W sc 140 (13, [some (am_R (some 47)), some (am_I (ii n)), some (am_I (ii k)), some (am_I (ii (i + 1))), none], [], wst v) ∧ fr [6299] w v ∧ WYr v (i + 1) := by
  obtain ⟨v, e, hfr, hv1, hv2⟩ := lp_s0 (am_W sc 140) (fun (j : Nat) (v : wo) => (22, [some (am_R (some 47)), some (am_I (ii n)), some (am_I (ii k)), some (am_I (ii i)), some (am_I (ii j))], [], wst v)) (fun j v => fr [6299] w v ∧ WYr v i ∧ ∀ b : Nat, b < j → wB v 62 (61 * i + b) = ch i b) (i + 1) (fun j v hj hv => by
    obtain ⟨hfr, hv1, hv2⟩ := hv
    refine ⟨uB v 62 (fu (wB v 62) (61 * (i : Int) + j) (ch i j)), ?_, fr_uB hfr rfl, fun a b h1 h2 => ?_, fun b hb => ?_⟩
    · rw [wq_140_22]
      by_cases q : j = 0
      · rw [q, ch_0]
        simp (disch := omega) only [qB_s, qC_t, qC_f, qI_T, qI_F, qI_t, qI_f, r_I, r_L, r_R, r_V, ii_add, ii_sub, ii_mul, ii_neg, bz_0, bz_1, Bool.true_and, Bool.false_and, Bool.and_true, z00, z11, li_0, li_1, li_60, li_61, lj_0, lj_1, e_62, gR_47_32, t_62, ii_lt, ii_eq, nat_1]
        rfl
      · by_cases q2 : j = i
        · rw [q2, ch_nn]
          simp (disch := omega) only [qB_s, qC_t, qC_f, qI_T, qI_F, qI_t, qI_f, r_I, r_L, r_R, r_V, ii_add, ii_sub, ii_mul, ii_neg, bz_0, bz_1, Bool.true_and, Bool.false_and, Bool.and_true, z00, z11, li_0, li_1, li_60, li_61, lj_0, lj_1, e_62, gR_47_32, t_62, ii_lt, ii_eq, nat_1]
          rfl
        · have a1 := hv1 (i - 1) (j - 1) (by omega) (by omega)
          have a2 := hv1 (i - 1) j (by omega) (by omega)
          rw [show 61 * ((i - 1 : Nat) : Int) + ((j - 1 : Nat) : Int) = 61 * ((i : Int) - 1) + j - 1 from by omega] at a1
          rw [show 61 * ((i - 1 : Nat) : Int) + (j : Int) = 61 * ((i : Int) - 1) + j from by omega] at a2
          have hs := ch_s (i - 1) (j - 1)
          rw [show i - 1 + 1 = i from by omega, show j - 1 + 1 = j from by omega] at hs
          have hs2 : ((ch i j : Nat) : Int) = (ch (i - 1) (j - 1) : Int) + (ch (i - 1) j : Int) := by rw [hs]; exact Int.natCast_add _ _
          rw [hs2]
          simp (disch := omega) only [qB_s, qC_t, qC_f, qI_T, qI_F, qI_t, qI_f, r_I, r_L, r_R, r_V, ii_add, ii_sub, ii_mul, ii_neg, bz_0, bz_1, Bool.true_and, Bool.false_and, Bool.and_true, z00, z11, li_0, li_1, li_60, li_61, lj_0, lj_1, e_62, gR_47_32, t_62, ii_lt, ii_eq, a1, a2, jj_add, nat_1]
    · rw [rB, fu_at, if_neg (by omega)]
      exact hv1 a b h1 h2
    · rw [rB, fu_at]
      by_cases q : b = j
      · rw [if_pos (by omega), q]
      · rw [if_neg (by omega)]
        exact hv2 b (by omega)) w ⟨fr_r _ _, hr, fun b hb => absurd hb (Nat.not_lt_zero _)⟩
  refine ⟨v, ?_, hfr, fun a b h1 h2 => ?_⟩
  · have e' : am_W sc 140 (22, [some (am_R (some 47)), some (am_I (ii n)), some (am_I (ii k)), some (am_I (ii i)), some (am_I (ii 0))], [], wst w) = am_W sc 140 (22, [some (am_R (some 47)), some (am_I (ii n)), some (am_I (ii k)), some (am_I (ii i)), some (am_I (ii ((i + 1 : Nat) : Int)))], [], wst v) := e
    rw [e', wq_140_22]
    simp (disch := omega) only [qB_s, qC_t, qC_f, qI_T, qI_F, qI_t, qI_f, r_I, r_L, r_R, r_V, ii_add, ii_sub, ii_mul, ii_neg, bz_0, bz_1, Bool.true_and, Bool.false_and, Bool.and_true, z00, z11, li_0, li_1, li_60, li_61, lj_0, lj_1, e_62, gR_47_32, t_62, ii_lt]
  · by_cases q : a = i
    · rw [q]
      exact hv2 b (by omega)
    · exact hv1 a b h1 (by omega)
theorem d140 (hw : WY w) {n k : Int} (hn0 : 0 ≤ n) (hn : n ≤ 60) (hk1 : -2147483648 ≤ k) (hk2 : k ≤ 2147483647) : ∃ v, am_F sc 140 [am_R (some 47), am_I (ii n), am_I (ii k)] (wst w) = some (some (am_L (jj (cg n k))), wst v) ∧ fr [6299] w v ∧ WYr v 61 := by
  have hk : ∀ v, WYr v 61 → 0 ≤ k → k ≤ n → wB v 62 (61 * n + k) = cg n k := fun v hv h1 h2 => by
    have := hv n.toNat k.toNat (by omega) (by omega)
    rw [Int.toNat_of_nonneg hn0, Int.toNat_of_nonneg h1] at this
    unfold cg
    rw [if_pos ⟨h1, h2, hn⟩, this]
  have hc : ¬ (0 ≤ k ∧ k ≤ n) → cg n k = 0 := fun h => if_neg (by omega)
  by_cases q : wB w 62 0 = 0
  · obtain ⟨v, e, hfr, hv⟩ := lp_s0 (am_W sc 140) (fun (i : Nat) (v : wo) => (13, [some (am_R (some 47)), some (am_I (ii n)), some (am_I (ii k)), some (am_I (ii i)), none], [], wst v)) (fun i v => fr [6299] w v ∧ WYr v i) 61 (fun i v hi hv => by
      obtain ⟨u, e1, f1, h1⟩ := d140i (sc := sc) (n := n) (k := k) (i := i) (by omega) hv.2
      refine ⟨u, ?_, fr_t hv.1 f1, h1⟩
      rw [wq_140_13, nat_1, ← e1]
      simp (disch := omega) only [qB_s, qC_t, qC_f, qI_T, qI_F, qI_t, qI_f, r_I, r_L, r_R, r_V, ii_add, ii_sub, ii_mul, ii_neg, bz_0, bz_1, Bool.true_and, Bool.false_and, Bool.and_true, z00, z11, li_0, li_1, li_60, li_61, lj_0, lj_1, e_62, gR_47_32, t_62, ii_lt]) w ⟨fr_r _ _, fun a b h1 h2 => absurd h2 (Nat.not_lt_zero _)⟩
    have e' : am_W sc 140 (13, [some (am_R (some 47)), some (am_I (ii n)), some (am_I (ii k)), some (am_I (ii 0)), none], [], wst w) = am_W sc 140 (13, [some (am_R (some 47)), some (am_I (ii n)), some (am_I (ii k)), some (am_I (ii 61)), none], [], wst v) := e
    refine ⟨v, ?_, hfr, hv⟩
    rw [fq_140]
    simp (disch := omega) only [qB_s, qC_t, qC_f, qI_T, qI_F, qI_t, qI_f, r_I, r_L, r_R, r_V, ii_add, ii_sub, ii_mul, ii_neg, bz_0, bz_1, Bool.true_and, Bool.false_and, Bool.and_true, z00, z11, li_0, li_1, li_60, li_61, lj_0, lj_1, e_62, gR_47_32, t_62, q, lg_eq]
    rw [e', wq_140_13]
    by_cases q1 : 0 ≤ k ∧ k ≤ n
    · have h := hk v hv q1.1 q1.2
      simp (disch := omega) only [qB_s, qC_t, qC_f, qI_T, qI_F, qI_t, qI_f, r_I, r_L, r_R, r_V, ii_add, ii_sub, ii_mul, ii_neg, bz_0, bz_1, Bool.true_and, Bool.false_and, Bool.and_true, z00, z11, li_0, li_1, li_60, li_61, lj_0, lj_1, e_62, gR_47_32, t_62, ii_lt, h]
    · rw [hc q1]
      by_cases q2 : k < 0
      · simp (disch := omega) only [qB_s, qC_t, qC_f, qI_T, qI_F, qI_t, qI_f, r_I, r_L, r_R, r_V, ii_add, ii_sub, ii_mul, ii_neg, bz_0, bz_1, Bool.true_and, Bool.false_and, Bool.and_true, z00, z11, li_0, li_1, li_60, li_61, lj_0, lj_1, e_62, gR_47_32, t_62, ii_lt]
      · simp (disch := omega) only [qB_s, qC_t, qC_f, qI_T, qI_F, qI_t, qI_f, r_I, r_L, r_R, r_V, ii_add, ii_sub, ii_mul, ii_neg, bz_0, bz_1, Bool.true_and, Bool.false_and, Bool.and_true, z00, z11, li_0, li_1, li_60, li_61, lj_0, lj_1, e_62, gR_47_32, t_62, ii_lt]
  · have hv : WYr w 61 := hw.resolve_left q
    have h00 : wB w 62 0 = 1 := hv 0 0 (Nat.le_refl _) (by omega)
    refine ⟨w, ?_, fr_r _ _, hv⟩
    rw [fq_140]
    by_cases q1 : 0 ≤ k ∧ k ≤ n
    · have h := hk w hv q1.1 q1.2
      simp (disch := omega) only [qB_s, qC_t, qC_f, qI_T, qI_F, qI_t, qI_f, r_I, r_L, r_R, r_V, ii_add, ii_sub, ii_mul, ii_neg, bz_0, bz_1, Bool.true_and, Bool.false_and, Bool.and_true, z00, z11, li_0, li_1, li_60, li_61, lj_0, lj_1, e_62, gR_47_32, t_62, ii_lt, h00, lg_eq, h]
    · rw [hc q1]
      by_cases q2 : k < 0
      · simp (disch := omega) only [qB_s, qC_t, qC_f, qI_T, qI_F, qI_t, qI_f, r_I, r_L, r_R, r_V, ii_add, ii_sub, ii_mul, ii_neg, bz_0, bz_1, Bool.true_and, Bool.false_and, Bool.and_true, z00, z11, li_0, li_1, li_60, li_61, lj_0, lj_1, e_62, gR_47_32, t_62, ii_lt, h00, lg_eq]
      · simp (disch := omega) only [qB_s, qC_t, qC_f, qI_T, qI_F, qI_t, qI_f, r_I, r_L, r_R, r_V, ii_add, ii_sub, ii_mul, ii_neg, bz_0, bz_1, Bool.true_and, Bool.false_and, Bool.and_true, z00, z11, li_0, li_1, li_60, li_61, lj_0, lj_1, e_62, gR_47_32, t_62, ii_lt, h00, lg_eq]
end L35
