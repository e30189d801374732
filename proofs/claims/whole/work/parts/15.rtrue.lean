/-! WHAT A TEST SAYS, IN THE OTHER -/
theorem ii_and15 {x : Int} (h0 : 0 ≤ x) : ii x &&& ii 15 = ii (x % 16) := by
  obtain ⟨n, rfl⟩ := Int.eq_ofNat_of_zero_le h0
  have := ii_and n 15
  rw [show n &&& 15 = n % 16 from Nat.and_two_pow_sub_one_eq_mod n 4] at this
  exact this
theorem ii_shr4 {x : Int} (h1 : -2147483648 ≤ x) (h2 : x ≤ 2147483647) : ii x >>> ii 4 = ii (x / 16) := by
  apply Int32.toBitVec.inj
  rw [Int32.toBitVec_shiftRight]
  rw [show ((ii 4).toBitVec.smod 32 : BitVec 32) = 4#32 from by decide]
  rw [show (ii x).toBitVec.sshiftRight' 4#32 = (ii x).toBitVec.sshiftRight 4 from rfl, BitVec.sshiftRight_eq]
  rw [show (ii x).toBitVec.toInt = (ii x).toInt from rfl, ii_val h1 h2, Int.shiftRight_eq_div_pow]
  rfl
theorem i431 : ii 4 &&& ii 31 = ii 4 := by decide
/-- the signs of the other, by those of the class -/
def sg (o : Int) : Int := if o = 60 then 0 else if o = 201 then 1 else if o = 61 then 2 else if o = 202 then 3 else 4
/-- where the k-th step begins in the other's row -/
def pof (P : pg) (k : Nat) : Int := sm (fun i => 1 + bz (P.2.1 i = 1 ∨ P.2.1 i = 2)) k
def pcl (kd o : Int) : Int := if kd ≤ 2 then bz (10000 ≤ o) else if kd = 3 then 4 + sg o else if kd = 4 then 11 else if kd = 5 then 10 else 9
def pch (kd o : Int) : Int := if kd ≤ 2 then (if o < 10000 then o else o - 10000) else 0
/-- the other holds a program as its text t -/
def PM (w : wo) (t : Int) (P : pg) : Prop := wA w 52 t = pof P P.1 ∧ pof P P.1 ≤ 400 ∧ ∀ k : Nat, k < P.1 → wA w 51 (400 * t + pof P k) = pcl (P.2.1 k) (P.2.2 k) + 16 * pch (P.2.1 k) (P.2.2 k) ∧ ((P.2.1 k = 1 ∨ P.2.1 k = 2) → wA w 51 (400 * t + pof P k + 1) = 1 + P.2.1 k)
def skr : List Int → (Int → Int) → Prop
  | [], _ => True
  | b :: q, f => f (q.length : Int) = b ∧ skr q f
theorem skr_up : ∀ {l : List Int} {f : Int → Int} {i x : Int}, skr l f → (l.length : Int) ≤ i → skr l (fu f i x)
  | [], _, _, _, _, _ => trivial
  | b :: q, f, i, x, h, hi => by
    rw [List.length_cons] at hi
    refine ⟨?_, skr_up h.2 (by omega)⟩
    rw [fu_at, if_neg (by omega)]
    exact h.1
section L15
variable {sc : am_X} {w : wo} {n : Int} {g : Int → Int → Int}
theorem d106 {t x : Int} (ht : wI w 47 23 = t) (h0 : 0 ≤ t) (h1 : t < 64) : am_F sc 106 [am_R (some 47), am_I (ii x)] (wst w) = some (none, wst (uI (uA w 58 (fu (wA w 58) t x)) 47 23 (t + 1))) := by
  rw [fq_106]
  simp (disch := omega) only [qB_s, qC_t, qC_f, qI_T, qI_F, qI_t, qI_f, r_I, r_L, r_R, r_V, ii_add, ii_sub, ii_mul, ii_neg, bz_0, bz_1, Bool.true_and, Bool.false_and, Bool.and_true, z00, z11, li_0, li_1, gI_47_23, gR_47_22, pI_47_23, t_58, ht, uA_I]
theorem d109 {t : Int} (ht : wI w 47 23 = t) (h0 : 1 ≤ t) (h1 : t ≤ 64) : am_F sc 109 [am_R (some 47)] (wst w) = some (some (am_I (ii (wA w 58 (t - 1)))), wst (uI w 47 23 (t - 1))) := by
  rw [fq_109]
  simp (disch := omega) only [qB_s, qC_t, qC_f, qI_T, qI_F, qI_t, qI_f, r_I, r_L, r_R, r_V, ii_add, ii_sub, ii_mul, ii_neg, bz_0, bz_1, Bool.true_and, Bool.false_and, Bool.and_true, z00, z11, li_0, li_1, e_58, gI_47_23, gR_47_22, pI_47_23, ht, rI, uI_A]
theorem d110 {x y o : Int} (hx1 : -2147483648 ≤ x) (hx2 : x ≤ 2147483647) (hy1 : -2147483648 ≤ y) (hy2 : y ≤ 2147483647) (hs : o = 60 ∨ o = 61 ∨ o = 62 ∨ o = 201 ∨ o = 202) : am_F sc 110 [am_I (ii (sg o)), am_I (ii x), am_I (ii y)] (wst w) = some (some (am_I (ii (bz (pcm x o y = true)))), wst w) := by
  rw [fq_110]
  rcases hs with rfl | rfl | rfl | rfl | rfl
  · by_cases q : x < y
    · rw [bz_t (by simp [pcm]; omega)]
      simp (disch := omega) only [qB_s, qC_t, qC_f, qI_T, qI_F, qI_t, qI_f, r_I, r_L, r_R, r_V, ii_add, ii_sub, ii_mul, ii_neg, bz_0, bz_1, Bool.true_and, Bool.false_and, Bool.and_true, z00, z11, li_0, li_1, li_2, li_3, sg, Int.reduceEq, if_true, if_false, ii_lt, ii_eq]
    · rw [bz_f (by simp [pcm]; omega)]
      simp (disch := omega) only [qB_s, qC_t, qC_f, qI_T, qI_F, qI_t, qI_f, r_I, r_L, r_R, r_V, ii_add, ii_sub, ii_mul, ii_neg, bz_0, bz_1, Bool.true_and, Bool.false_and, Bool.and_true, z00, z11, li_0, li_1, li_2, li_3, sg, Int.reduceEq, if_true, if_false, ii_lt, ii_eq]
  · by_cases q : x = y
    · rw [bz_t (by simp [pcm]; omega)]
      simp (disch := omega) only [qB_s, qC_t, qC_f, qI_T, qI_F, qI_t, qI_f, r_I, r_L, r_R, r_V, ii_add, ii_sub, ii_mul, ii_neg, bz_0, bz_1, Bool.true_and, Bool.false_and, Bool.and_true, z00, z11, li_0, li_1, li_2, li_3, sg, Int.reduceEq, if_true, if_false, ii_lt, ii_eq]
    · rw [bz_f (by simp [pcm]; omega)]
      simp (disch := omega) only [qB_s, qC_t, qC_f, qI_T, qI_F, qI_t, qI_f, r_I, r_L, r_R, r_V, ii_add, ii_sub, ii_mul, ii_neg, bz_0, bz_1, Bool.true_and, Bool.false_and, Bool.and_true, z00, z11, li_0, li_1, li_2, li_3, sg, Int.reduceEq, if_true, if_false, ii_lt, ii_eq]
  · by_cases q : y < x
    · rw [bz_t (by simp [pcm]; omega)]
      simp (disch := omega) only [qB_s, qC_t, qC_f, qI_T, qI_F, qI_t, qI_f, r_I, r_L, r_R, r_V, ii_add, ii_sub, ii_mul, ii_neg, bz_0, bz_1, Bool.true_and, Bool.false_and, Bool.and_true, z00, z11, li_0, li_1, li_2, li_3, sg, Int.reduceEq, if_true, if_false, ii_lt, ii_eq]
    · rw [bz_f (by simp [pcm]; omega)]
      simp (disch := omega) only [qB_s, qC_t, qC_f, qI_T, qI_F, qI_t, qI_f, r_I, r_L, r_R, r_V, ii_add, ii_sub, ii_mul, ii_neg, bz_0, bz_1, Bool.true_and, Bool.false_and, Bool.and_true, z00, z11, li_0, li_1, li_2, li_3, sg, Int.reduceEq, if_true, if_false, ii_lt, ii_eq]
  · by_cases q : x ≤ y
    · rw [bz_t (by simp [pcm]; omega)]
      simp (disch := omega) only [qB_s, qC_t, qC_f, qI_T, qI_F, qI_t, qI_f, r_I, r_L, r_R, r_V, ii_add, ii_sub, ii_mul, ii_neg, bz_0, bz_1, Bool.true_and, Bool.false_and, Bool.and_true, z00, z11, li_0, li_1, li_2, li_3, sg, Int.reduceEq, if_true, if_false, ii_lt, ii_eq]
    · rw [bz_f (by simp [pcm]; omega)]
      simp (disch := omega) only [qB_s, qC_t, qC_f, qI_T, qI_F, qI_t, qI_f, r_I, r_L, r_R, r_V, ii_add, ii_sub, ii_mul, ii_neg, bz_0, bz_1, Bool.true_and, Bool.false_and, Bool.and_true, z00, z11, li_0, li_1, li_2, li_3, sg, Int.reduceEq, if_true, if_false, ii_lt, ii_eq]
  · by_cases q : y ≤ x
    · rw [bz_t (by simp [pcm]; omega)]
      simp (disch := omega) only [qB_s, qC_t, qC_f, qI_T, qI_F, qI_t, qI_f, r_I, r_L, r_R, r_V, ii_add, ii_sub, ii_mul, ii_neg, bz_0, bz_1, Bool.true_and, Bool.false_and, Bool.and_true, z00, z11, li_0, li_1, li_2, li_3, sg, Int.reduceEq, if_true, if_false, ii_lt, ii_eq]
    · rw [bz_f (by simp [pcm]; omega)]
      simp (disch := omega) only [qB_s, qC_t, qC_f, qI_T, qI_F, qI_t, qI_f, r_I, r_L, r_R, r_V, ii_add, ii_sub, ii_mul, ii_neg, bz_0, bz_1, Bool.true_and, Bool.false_and, Bool.and_true, z00, z11, li_0, li_1, li_2, li_3, sg, Int.reduceEq, if_true, if_false, ii_lt, ii_eq]
theorem d108 (hM : MS w n g) (hg : gK n g) {k wd ms : Int} (hk0 : 0 ≤ k) (hk : k < n) (hms : wI w 47 24 = ms) (hm : ms = 0 ∨ ms = 1) (h0 : 0 ≤ wd) (h1 : wd < 11) : am_F sc 108 [am_R (some 47), am_I (ii wd), am_I (ii k)] (wst w) = some (some (am_I (ii (rw1 g k wd))), wst (uI w 47 24 (bz (ms = 1 ∨ (wd < 6 ∧ rw1 g k wd = -1))))) := by
  have hM' := hM
  obtain ⟨hn, hn0, hn1, h2⟩ := hM
  have hr := hg k hk0 hk
  have e3 := h2 k 3 hk0 hk (by omega) (by omega)
  rw [fq_108]
  by_cases q : wd < 6
  · have hv : rw1 g k wd = g k (4 + wd) := if_pos q
    have hb := hr.2.2.2.2 wd h0 q
    rw [hv]
    rcases hm with m | m
    · by_cases q2 : g k (4 + wd) < 0
      · have hp : bz (ms = 1 ∨ (wd < 6 ∧ g k (4 + wd) = -1)) = 1 := bz_t (.inr ⟨q, by omega⟩)
        rw [hp]
        simp (disch := omega) only [qB_s, qC_t, qC_f, qI_T, qI_F, qI_t, qI_f, r_I, r_L, r_R, r_V, ii_add, ii_sub, ii_mul, ii_neg, bz_0, bz_1, Bool.true_and, Bool.false_and, Bool.and_true, z00, z11, li_0, li_1, li_10, li_3, li_6, li_9, e_48, gI_47_24, gR_47_1, is_47, pI_47_24, e3, ii_lt, ii_eq, q, q2, hms, m, d107 hM', if_true]
      · have hp : bz (ms = 1 ∨ (wd < 6 ∧ g k (4 + wd) = -1)) = 0 := bz_f (by omega)
        rw [hp]
        simp (disch := omega) only [qB_s, qC_t, qC_f, qI_T, qI_F, qI_t, qI_f, r_I, r_L, r_R, r_V, ii_add, ii_sub, ii_mul, ii_neg, bz_0, bz_1, Bool.true_and, Bool.false_and, Bool.and_true, z00, z11, li_0, li_1, li_10, li_3, li_6, li_9, e_48, gI_47_24, gR_47_1, is_47, pI_47_24, e3, ii_lt, ii_eq, q, q2, hms, m, d107 hM', if_true, if_false]
    · have hp : bz (ms = 1 ∨ (wd < 6 ∧ g k (4 + wd) = -1)) = 1 := bz_t (.inl m)
      rw [hp]
      simp (disch := omega) only [qB_s, qC_t, qC_f, qI_T, qI_F, qI_t, qI_f, r_I, r_L, r_R, r_V, ii_add, ii_sub, ii_mul, ii_neg, bz_0, bz_1, Bool.true_and, Bool.false_and, Bool.and_true, z00, z11, li_0, li_1, li_10, li_3, li_6, li_9, e_48, gI_47_24, gR_47_1, is_47, pI_47_24, e3, ii_lt, ii_eq, q, hms, m, d107 hM', if_true, if_false, Int.reduceEq]
  · have hp : bz (ms = 1 ∨ (wd < 6 ∧ rw1 g k wd = -1)) = ms := by
      rcases hm with m | m
      · rw [m]; exact bz_f (by omega)
      · rw [m]; exact bz_t (.inl rfl)
    rw [hp, ← hms, uI_same]
    have hw : wd = 6 ∨ wd = 7 ∨ wd = 8 ∨ wd = 9 ∨ wd = 10 := by omega
    have f0 := h2 k 0 hk0 hk (by omega) (by omega)
    have f1 := h2 k 1 hk0 hk (by omega) (by omega)
    have f2 := h2 k 2 hk0 hk (by omega) (by omega)
    have g0 : 10 * k + 6 - 6 = 10 * k + 0 := by omega
    have g1 : 10 * k + 7 - 6 = 10 * k + 1 := by omega
    have g2 : 10 * k + 8 - 6 = 10 * k + 2 := by omega
    rcases hw with rfl | rfl | rfl | rfl | rfl
    · simp (disch := omega) only [qB_s, qC_t, qC_f, qI_T, qI_F, qI_t, qI_f, r_I, r_L, r_R, r_V, ii_add, ii_sub, ii_mul, ii_neg, bz_0, bz_1, Bool.true_and, Bool.false_and, Bool.and_true, z00, z11, li_0, li_1, li_10, li_3, li_6, li_9, e_48, gI_47_24, gR_47_1, is_47, pI_47_24, e3, ii_lt, ii_eq, g0, f0, rw1, Int.reduceLT, Int.reduceEq, if_true, if_false]
    · simp (disch := omega) only [qB_s, qC_t, qC_f, qI_T, qI_F, qI_t, qI_f, r_I, r_L, r_R, r_V, ii_add, ii_sub, ii_mul, ii_neg, bz_0, bz_1, Bool.true_and, Bool.false_and, Bool.and_true, z00, z11, li_0, li_1, li_10, li_3, li_6, li_9, e_48, gI_47_24, gR_47_1, is_47, pI_47_24, e3, ii_lt, ii_eq, g1, f1, rw1, Int.reduceLT, Int.reduceEq, if_true, if_false]
    · simp (disch := omega) only [qB_s, qC_t, qC_f, qI_T, qI_F, qI_t, qI_f, r_I, r_L, r_R, r_V, ii_add, ii_sub, ii_mul, ii_neg, bz_0, bz_1, Bool.true_and, Bool.false_and, Bool.and_true, z00, z11, li_0, li_1, li_10, li_3, li_6, li_9, e_48, gI_47_24, gR_47_1, is_47, pI_47_24, e3, ii_lt, ii_eq, g2, f2, rw1, Int.reduceLT, Int.reduceEq, if_true, if_false]
    · by_cases q3 : g k 3 < 0
      · simp (disch := omega) only [qB_s, qC_t, qC_f, qI_T, qI_F, qI_t, qI_f, r_I, r_L, r_R, r_V, ii_add, ii_sub, ii_mul, ii_neg, bz_0, bz_1, Bool.true_and, Bool.false_and, Bool.and_true, z00, z11, li_0, li_1, li_10, li_3, li_6, li_9, e_48, gI_47_24, gR_47_1, is_47, pI_47_24, e3, ii_lt, ii_eq, rw1, q3, Int.reduceLT, Int.reduceEq, if_true, if_false]
      · simp (disch := omega) only [qB_s, qC_t, qC_f, qI_T, qI_F, qI_t, qI_f, r_I, r_L, r_R, r_V, ii_add, ii_sub, ii_mul, ii_neg, bz_0, bz_1, Bool.true_and, Bool.false_and, Bool.and_true, z00, z11, li_0, li_1, li_10, li_3, li_6, li_9, e_48, gI_47_24, gR_47_1, is_47, pI_47_24, e3, ii_lt, ii_eq, rw1, q3, Int.reduceLT, Int.reduceEq, if_true, if_false]
    · by_cases q3 : g k 3 < 0
      · simp (disch := omega) only [qB_s, qC_t, qC_f, qI_T, qI_F, qI_t, qI_f, r_I, r_L, r_R, r_V, ii_add, ii_sub, ii_mul, ii_neg, bz_0, bz_1, Bool.true_and, Bool.false_and, Bool.and_true, z00, z11, li_0, li_1, li_10, li_3, li_6, li_9, e_48, gI_47_24, gR_47_1, is_47, pI_47_24, e3, ii_lt, ii_eq, rw1, q3, Int.reduceLT, Int.reduceEq, if_true, if_false]
      · simp (disch := omega) only [qB_s, qC_t, qC_f, qI_T, qI_F, qI_t, qI_f, r_I, r_L, r_R, r_V, ii_add, ii_sub, ii_mul, ii_neg, bz_0, bz_1, Bool.true_and, Bool.false_and, Bool.and_true, z00, z11, li_0, li_1, li_10, li_3, li_6, li_9, e_48, gI_47_24, gR_47_1, is_47, pI_47_24, e3, ii_lt, ii_eq, rw1, q3, Int.reduceLT, Int.reduceEq, if_true, if_false]
theorem MS_fr {l : List Nat} {v : wo} (h : MS w n g) (f : fr l w v) (q : (fhas l 4700 || fhas l 4899) = false) : MS v n g := by
  obtain ⟨h0, h1, h2, h3⟩ := h
  rw [Bool.or_eq_false_iff] at q
  refine ⟨by rw [fr_I f q.1]; exact h0, h1, h2, ?_⟩
  rw [fr_A (a := 48) f q.2]
  exact h3
theorem CS_fr {l : List Nat} {v : wo} (h : CS w n g) (f : fr l w v) (q : (fhas l 105 || (fhas l 299 || (fhas l 399 || (fhas l 499 || (fhas l 599 || fhas l 699))))) = false) : CS v n g := by
  obtain ⟨h0, h1, h2, h3⟩ := h
  simp only [Bool.or_eq_false_iff] at q
  obtain ⟨q0, q1, q2, q3, q4, q5⟩ := q
  refine ⟨by rw [fr_I f q0]; exact h0, h1, h2, ?_⟩
  rw [fr_A (a := 2) f q1, fr_A (a := 3) f q2, fr_A (a := 4) f q3, fr_A (a := 5) f q4, fr_A (a := 6) f q5]
  exact h3
theorem rw1_ok (hg : gK n g) {k : Int} (hk0 : 0 ≤ k) (hk : k < n) : okr (rw1 g k) := by
  intro j h0 h1
  obtain ⟨a0, a1, a2, a3, a4⟩ := hg k hk0 hk
  unfold rw1
  split
  · exact a4 j h0 (by omega)
  · repeat' split
    all_goals omega
/-- a value comes on the stack -/
theorem d111v (hM : MS w n g) (hg : gK n g) {k t i o T ms : Int} (hk0 : 0 ≤ k) (hk : k < n) (ht0 : 0 ≤ t) (ht : t < 16) (hi0 : 0 ≤ i) (hi : i < 400) (hln : i < wA w 52 t) (hl4 : wA w 52 t ≤ 400) (he : wA w 51 (400 * t + i) = bz (10000 ≤ o) + 16 * (if o < 10000 then o else o - 10000)) (ho0 : 0 ≤ o) (ho : o ≤ 10010) (hT : wI w 47 23 = T) (hT0 : 0 ≤ T) (hT1 : T < 64) (hms : wI w 47 24 = ms) (hm : ms = 0 ∨ ms = 1) :
    ∃ v, am_W sc 111 (12, [some (am_R (some 47)), some (am_I (ii t)), some (am_I (ii k)), some (am_I (ii i)), none, none, none, none], [], wst w) = am_W sc 111 (12, [some (am_R (some 47)), some (am_I (ii t)), some (am_I (ii k)), some (am_I (ii (i + 1))), none, none, none, none], [], wst v) ∧ fr [4723, 4724, 5899] w v ∧ wI v 47 23 = T + 1 ∧ wA v 58 = fu (wA w 58) T (pv (rw1 g k) o) ∧ wI v 47 24 = pms (rw1 g k) o ms := by
  rw [wq_111_12]
  by_cases q : o < 10000
  · have e0 : wA w 51 (400 * t + i) = 16 * o := by rw [he, bz_f (by omega), if_pos q]; omega
    have e1 : (16 * o) % 16 = 0 := by omega
    have e2 : (16 * o) / 16 = o := by omega
    refine ⟨uI (uA w 58 (fu (wA w 58) T o)) 47 23 (T + 1), ?_, fr_uI (fr_uA (fr_r _ _) rfl) rfl, rI _ _ _ _, ?_, ?_⟩
    · simp (disch := omega) only [qB_s, qC_t, qC_f, qI_T, qI_F, qI_t, qI_f, r_I, r_L, r_R, r_V, ii_add, ii_sub, ii_mul, ii_neg, bz_0, bz_1, Bool.true_and, Bool.false_and, Bool.and_true, z00, z11, li_0, li_1, li_10, li_11, li_15, li_2, li_3, li_31, li_4, li_400, li_9, e_51, e_52, gI_47_24, gR_47_6, gR_47_7, is_47, pI_47_23, pI_47_24, i431, ii_and15, ii_shr4, e0, e1, e2, ii_lt, hln, if_true, d106 hT]
    · rw [uI_A, rA, show pv (rw1 g k) o = o from if_pos q]
    · rw [rIn _ _ rfl, uA_I, hms]
      unfold pms
      rcases hm with m | m
      · rw [m, bz_f (by omega)]
      · rw [m, bz_t (.inl rfl)]
  · have e0 : wA w 51 (400 * t + i) = 1 + 16 * (o - 10000) := by rw [he, bz_t (by omega), if_neg q]
    have e1 : (1 + 16 * (o - 10000)) % 16 = 1 := by omega
    have e2 : (1 + 16 * (o - 10000)) / 16 = o - 10000 := by omega
    have hd := d108 (sc := sc) hM hg (wd := o - 10000) hk0 hk hms hm (by omega) (by omega)
    have hd2 := d106 (sc := sc) (w := uI w 47 24 (bz (ms = 1 ∨ (o - 10000 < 6 ∧ rw1 g k (o - 10000) = -1)))) (t := T) (x := rw1 g k (o - 10000)) (by rw [rIn _ _ rfl]; exact hT) hT0 hT1
    refine ⟨uI (uA (uI w 47 24 (bz (ms = 1 ∨ (o - 10000 < 6 ∧ rw1 g k (o - 10000) = -1)))) 58 (fu (wA w 58) T (rw1 g k (o - 10000)))) 47 23 (T + 1), ?_, fr_uI (fr_uA (fr_uI (fr_r _ _) rfl) rfl) rfl, rI _ _ _ _, ?_, ?_⟩
    · simp (disch := omega) only [qB_s, qC_t, qC_f, qI_T, qI_F, qI_t, qI_f, r_I, r_L, r_R, r_V, ii_add, ii_sub, ii_mul, ii_neg, bz_0, bz_1, Bool.true_and, Bool.false_and, Bool.and_true, z00, z11, li_0, li_1, li_10, li_11, li_15, li_2, li_3, li_31, li_4, li_400, li_9, e_51, e_52, gI_47_24, gR_47_6, gR_47_7, is_47, pI_47_23, pI_47_24, i431, ii_and15, ii_shr4, e0, e1, e2, ii_lt, ii_eq, hln, if_true, if_false, Int.reduceEq, hd, hd2, uI_A]
    · rw [uI_A, rA, show pv (rw1 g k) o = rw1 g k (o - 10000) from if_neg q]
    · rw [rIn _ _ rfl, uA_I, rI]
      unfold pms
      exact bz_c (by rw [show pv (rw1 g k) o = rw1 g k (o - 10000) from if_neg q]; omega)
/-- two come off the stack, one comes on -/
theorem d111b {k t i c T x y z ms : Int} (ht0 : 0 ≤ t) (ht : t < 16) (hi0 : 0 ≤ i) (hi : i < 400) (hln : i < wA w 52 t) (hl4 : wA w 52 t ≤ 400) (he : wA w 51 (400 * t + i) = c) (hT : wI w 47 23 = T) (hT0 : 2 ≤ T) (hT1 : T < 64) (hx : wA w 58 (T - 2) = x) (hy : wA w 58 (T - 1) = y) (hms : wI w 47 24 = ms)
    (hz : (c = 2 ∧ z = x + y) ∨ (c = 3 ∧ z = x - y) ∨ (c = 10 ∧ z = x * y ∧ (x = 0 ∨ x = 1) ∧ (y = 0 ∨ y = 1)) ∨ (c = 11 ∧ z = bz (x = 1 ∨ y = 1) ∧ (x = 0 ∨ x = 1) ∧ (y = 0 ∨ y = 1))) :
    ∃ v, am_W sc 111 (12, [some (am_R (some 47)), some (am_I (ii t)), some (am_I (ii k)), some (am_I (ii i)), none, none, none, none], [], wst w) = am_W sc 111 (12, [some (am_R (some 47)), some (am_I (ii t)), some (am_I (ii k)), some (am_I (ii (i + 1))), none, none, none, none], [], wst v) ∧ fr [4723, 4724, 5899] w v ∧ wI v 47 23 = T - 1 ∧ wA v 58 = fu (wA w 58) (T - 2) z ∧ wI v 47 24 = ms := by
  rw [wq_111_12]
  have p1 := d109 (sc := sc) (w := w) hT (by omega) (by omega)
  have p2 := d109 (sc := sc) (w := uI w 47 23 (T - 1)) (t := T - 1) (rI _ _ _ _) (by omega) (by omega)
  have p3 := d106 (sc := sc) (w := uI (uI w 47 23 (T - 1)) 47 23 (T - 1 - 1)) (t := T - 1 - 1) (x := z) (rI _ _ _ _) (by omega) (by omega)
  rw [show T - 1 - 1 = T - 2 from by omega] at p2 p3
  refine ⟨uI (uA (uI (uI w 47 23 (T - 1)) 47 23 (T - 2)) 58 (fu (wA w 58) (T - 2) z)) 47 23 (T - 2 + 1), ?_, fr_uI (fr_uA (fr_uI (fr_uI (fr_r _ _) rfl) rfl) rfl) rfl, ?_, ?_, ?_⟩
  · rcases hz with ⟨e, hz⟩ | ⟨e, hz⟩ | ⟨e, hz, hx', hy'⟩ | ⟨e, hz, hx', hy'⟩
    · simp (disch := omega) only [qB_s, qC_t, qC_f, qI_T, qI_F, qI_t, qI_f, r_I, r_L, r_R, r_V, ii_add, ii_sub, ii_mul, ii_neg, bz_0, bz_1, Bool.true_and, Bool.false_and, Bool.and_true, z00, z11, li_0, li_1, li_10, li_11, li_15, li_2, li_3, li_31, li_4, li_400, li_9, e_51, e_52, gI_47_24, gR_47_6, gR_47_7, is_47, pI_47_23, pI_47_24, i431, ii_and15, ii_shr4, he, e, ii_lt, ii_eq, hln, if_true, if_false, Int.reduceMod, Int.reduceDiv, Int.reduceEq, p1, p2, p3, uI_A, hx, hy, ← hz]
    · simp (disch := omega) only [qB_s, qC_t, qC_f, qI_T, qI_F, qI_t, qI_f, r_I, r_L, r_R, r_V, ii_add, ii_sub, ii_mul, ii_neg, bz_0, bz_1, Bool.true_and, Bool.false_and, Bool.and_true, z00, z11, li_0, li_1, li_10, li_11, li_15, li_2, li_3, li_31, li_4, li_400, li_9, e_51, e_52, gI_47_24, gR_47_6, gR_47_7, is_47, pI_47_23, pI_47_24, i431, ii_and15, ii_shr4, he, e, ii_lt, ii_eq, hln, if_true, if_false, Int.reduceMod, Int.reduceDiv, Int.reduceEq, p1, p2, p3, uI_A, hx, hy, ← hz]
    · have hz' : ii x &&& ii y = ii z := by rcases hx' with h | h <;> rcases hy' with h' | h' <;> rw [hz, h, h'] <;> decide
      simp (disch := omega) only [qB_s, qC_t, qC_f, qI_T, qI_F, qI_t, qI_f, r_I, r_L, r_R, r_V, ii_add, ii_sub, ii_mul, ii_neg, bz_0, bz_1, Bool.true_and, Bool.false_and, Bool.and_true, z00, z11, li_0, li_1, li_10, li_11, li_15, li_2, li_3, li_31, li_4, li_400, li_9, e_51, e_52, gI_47_24, gR_47_6, gR_47_7, is_47, pI_47_23, pI_47_24, i431, ii_and15, ii_shr4, he, e, ii_lt, ii_eq, hln, if_true, if_false, Int.reduceMod, Int.reduceDiv, Int.reduceEq, p1, p2, p3, uI_A, hx, hy, hz']
    · have hz' : ii x ||| ii y = ii z := by rcases hx' with h | h <;> rcases hy' with h' | h' <;> rw [hz, h, h'] <;> decide
      simp (disch := omega) only [qB_s, qC_t, qC_f, qI_T, qI_F, qI_t, qI_f, r_I, r_L, r_R, r_V, ii_add, ii_sub, ii_mul, ii_neg, bz_0, bz_1, Bool.true_and, Bool.false_and, Bool.and_true, z00, z11, li_0, li_1, li_10, li_11, li_15, li_2, li_3, li_31, li_4, li_400, li_9, e_51, e_52, gI_47_24, gR_47_6, gR_47_7, is_47, pI_47_23, pI_47_24, i431, ii_and15, ii_shr4, he, e, ii_lt, ii_eq, hln, if_true, if_false, Int.reduceMod, Int.reduceDiv, Int.reduceEq, p1, p2, p3, uI_A, hx, hy, hz']
  · rw [rI]; omega
  · rw [uI_A, rA]
  · rw [rIn _ _ rfl, uA_I, rIn _ _ rfl, rIn _ _ rfl, hms]
/-- a comparison -/
theorem d111c {k t i o T x y ms : Int} (ht0 : 0 ≤ t) (ht : t < 16) (hi0 : 0 ≤ i) (hi : i < 400) (hln : i < wA w 52 t) (hl4 : wA w 52 t ≤ 400) (he : wA w 51 (400 * t + i) = 4 + sg o) (ho : o = 60 ∨ o = 61 ∨ o = 62 ∨ o = 201 ∨ o = 202) (hT : wI w 47 23 = T) (hT0 : 2 ≤ T) (hT1 : T < 64) (hx : wA w 58 (T - 2) = x) (hy : wA w 58 (T - 1) = y) (hms : wI w 47 24 = ms) (hm : ms = 0 ∨ ms = 1) (hx1 : -2147483648 ≤ x) (hx2 : x ≤ 2147483647) (hy1 : -2147483648 ≤ y) (hy2 : y ≤ 2147483647) :
    ∃ v, am_W sc 111 (12, [some (am_R (some 47)), some (am_I (ii t)), some (am_I (ii k)), some (am_I (ii i)), none, none, none, none], [], wst w) = am_W sc 111 (12, [some (am_R (some 47)), some (am_I (ii t)), some (am_I (ii k)), some (am_I (ii (i + 1))), none, none, none, none], [], wst v) ∧ fr [4723, 4724, 5899] w v ∧ wI v 47 23 = T - 1 ∧ wA v 58 = fu (wA w 58) (T - 2) (bz (ms = 0 ∧ pcm x o y = true)) ∧ wI v 47 24 = 0 := by
  rw [wq_111_12]
  have p1 := d109 (sc := sc) (w := w) hT (by omega) (by omega)
  have p2 := d109 (sc := sc) (w := uI w 47 23 (T - 1)) (t := T - 1) (rI _ _ _ _) (by omega) (by omega)
  have p3 := fun z => d106 (sc := sc) (w := uI (uI w 47 23 (T - 1)) 47 23 (T - 1 - 1)) (t := T - 1 - 1) (x := z) (rI _ _ _ _) (by omega) (by omega)
  rw [show T - 1 - 1 = T - 2 from by omega] at p2 p3
  have p4 := d110 (sc := sc) (w := uI (uI w 47 23 (T - 1)) 47 23 (T - 2)) hx1 hx2 hy1 hy2 ho
  have hsg : 0 ≤ sg o ∧ sg o ≤ 4 := by rcases ho with h | h | h | h | h <;> rw [h] <;> decide
  have hmv : wI (uI (uI w 47 23 (T - 1)) 47 23 (T - 2)) 47 24 = ms := by rw [rIn _ _ rfl, rIn _ _ rfl, hms]
  have e1 : (4 + sg o) % 16 = 4 + sg o := by omega
  have e2 : 4 + sg o - 4 = sg o := by omega
  have n0 : ¬ (4 + sg o = 0) := by omega
  have n1 : ¬ (4 + sg o = 1) := by omega
  have n2 : ¬ (4 + sg o = 2) := by omega
  have n3 : ¬ (4 + sg o = 3) := by omega
  have n9 : ¬ (4 + sg o = 9) := by omega
  have n10 : ¬ (4 + sg o = 10) := by omega
  have n11 : ¬ (4 + sg o = 11) := by omega
  refine ⟨uI (uI (uA (uI (uI w 47 23 (T - 1)) 47 23 (T - 2)) 58 (fu (wA w 58) (T - 2) (bz (ms = 0 ∧ pcm x o y = true)))) 47 23 (T - 2 + 1)) 47 24 0, ?_, fr_uI (fr_uI (fr_uA (fr_uI (fr_uI (fr_r _ _) rfl) rfl) rfl) rfl) rfl, ?_, ?_, rI _ _ _ _⟩
  · rcases hm with m | m
    · by_cases q : pcm x o y = true
      · rw [bz_t ⟨m, q⟩]
        simp (disch := omega) only [qB_s, qC_t, qC_f, qI_T, qI_F, qI_t, qI_f, r_I, r_L, r_R, r_V, ii_add, ii_sub, ii_mul, ii_neg, bz_0, bz_1, Bool.true_and, Bool.false_and, Bool.and_true, z00, z11, li_0, li_1, li_10, li_11, li_15, li_2, li_3, li_31, li_4, li_400, li_9, e_51, e_52, gI_47_24, gR_47_6, gR_47_7, is_47, pI_47_23, pI_47_24, i431, ii_and15, ii_shr4, he, e1, e2, n0, n1, n2, n3, n9, n10, n11, ii_lt, ii_eq, hln, if_true, if_false, Int.reduceEq, p1, p2, p3, p4, uI_A, hx, hy, hmv, m, q, not_true_eq_false]
      · rw [bz_f (fun z => q z.2)]
        simp (disch := omega) only [qB_s, qC_t, qC_f, qI_T, qI_F, qI_t, qI_f, r_I, r_L, r_R, r_V, ii_add, ii_sub, ii_mul, ii_neg, bz_0, bz_1, Bool.true_and, Bool.false_and, Bool.and_true, z00, z11, li_0, li_1, li_10, li_11, li_15, li_2, li_3, li_31, li_4, li_400, li_9, e_51, e_52, gI_47_24, gR_47_6, gR_47_7, is_47, pI_47_23, pI_47_24, i431, ii_and15, ii_shr4, he, e1, e2, n0, n1, n2, n3, n9, n10, n11, ii_lt, ii_eq, hln, if_true, if_false, Int.reduceEq, p1, p2, p3, p4, uI_A, hx, hy, hmv, m, q, not_false_eq_true, Bool.false_eq_true]
    · rw [bz_f (by omega)]
      simp (disch := omega) only [qB_s, qC_t, qC_f, qI_T, qI_F, qI_t, qI_f, r_I, r_L, r_R, r_V, ii_add, ii_sub, ii_mul, ii_neg, bz_0, bz_1, Bool.true_and, Bool.false_and, Bool.and_true, z00, z11, li_0, li_1, li_10, li_11, li_15, li_2, li_3, li_31, li_4, li_400, li_9, e_51, e_52, gI_47_24, gR_47_6, gR_47_7, is_47, pI_47_23, pI_47_24, i431, ii_and15, ii_shr4, he, e1, e2, n0, n1, n2, n3, n9, n10, n11, ii_lt, ii_eq, hln, if_true, if_false, Int.reduceEq, p1, p2, p3, p4, uI_A, hx, hy, hmv, m]
  · rw [rIn _ _ rfl, rI]; omega
  · rw [uI_A, uI_A, rA]
/-- not -/
theorem d111n {k t i T b ms : Int} (ht0 : 0 ≤ t) (ht : t < 16) (hi0 : 0 ≤ i) (hi : i < 400) (hln : i < wA w 52 t) (hl4 : wA w 52 t ≤ 400) (he : wA w 51 (400 * t + i) = 9) (hT : wI w 47 23 = T) (hT0 : 1 ≤ T) (hT1 : T < 64) (hx : wA w 58 (T - 1) = b) (hms : wI w 47 24 = ms) :
    ∃ v, am_W sc 111 (12, [some (am_R (some 47)), some (am_I (ii t)), some (am_I (ii k)), some (am_I (ii i)), none, none, none, none], [], wst w) = am_W sc 111 (12, [some (am_R (some 47)), some (am_I (ii t)), some (am_I (ii k)), some (am_I (ii (i + 1))), none, none, none, none], [], wst v) ∧ fr [4723, 4724, 5899] w v ∧ wI v 47 23 = T ∧ wA v 58 = fu (wA w 58) (T - 1) (1 - b) ∧ wI v 47 24 = ms := by
  rw [wq_111_12]
  have p1 := d109 (sc := sc) (w := w) hT (by omega) (by omega)
  have p3 := d106 (sc := sc) (w := uI w 47 23 (T - 1)) (t := T - 1) (x := 1 - b) (rI _ _ _ _) (by omega) (by omega)
  refine ⟨uI (uA (uI w 47 23 (T - 1)) 58 (fu (wA w 58) (T - 1) (1 - b))) 47 23 (T - 1 + 1), ?_, fr_uI (fr_uA (fr_uI (fr_r _ _) rfl) rfl) rfl, ?_, ?_, ?_⟩
  · simp (disch := omega) only [qB_s, qC_t, qC_f, qI_T, qI_F, qI_t, qI_f, r_I, r_L, r_R, r_V, ii_add, ii_sub, ii_mul, ii_neg, bz_0, bz_1, Bool.true_and, Bool.false_and, Bool.and_true, z00, z11, li_0, li_1, li_10, li_11, li_15, li_2, li_3, li_31, li_4, li_400, li_9, e_51, e_52, gI_47_24, gR_47_6, gR_47_7, is_47, pI_47_23, pI_47_24, i431, ii_and15, ii_shr4, he, ii_lt, ii_eq, hln, if_true, if_false, Int.reduceMod, Int.reduceDiv, Int.reduceEq, p1, p3, uI_A, hx]
  · rw [rI]; omega
  · rw [uI_A, rA]
  · rw [rIn _ _ rfl, uA_I, rIn _ _ rfl, hms]
theorem pof_s (P : pg) (k : Nat) : pof P (k + 1) = pof P k + (1 + bz (P.2.1 k = 1 ∨ P.2.1 k = 2)) := rfl
theorem pof_le (P : pg) (k : Nat) : ∀ d, pof P k + d ≤ pof P (k + d)
  | 0 => by simp
  | d + 1 => by
    have ih := pof_le P k d
    have := bz_ran (p := P.2.1 (k + d) = 1 ∨ P.2.1 (k + d) = 2)
    rw [← Nat.add_assoc, pof_s]
    omega
theorem pof_nn (P : pg) (k : Nat) : 0 ≤ pof P k := by
  have := pof_le P 0 k
  rw [Nat.zero_add] at this
  have h : pof P 0 = 0 := rfl
  omega
/-- what the other's stack holds behind k steps -/
def SI (P : pg) (r : Int → Int) (k : Nat) (v : wo) : Prop := wI v 47 23 = (pz P k).1 + (pz P k).2 ∧ skr (er r P k).1 (wA v 58) ∧ (1 ≤ (pz P k).1 → wA v 58 ((pz P k).1 + (pz P k).2 - 1) = (er r P k).2.2.1) ∧ ((pz P k).1 = 2 → wA v 58 (pz P k).2 = (er r P k).2.1) ∧ wI v 47 24 = (er r P k).2.2.2
theorem pvn_le {P : pg} (hP : okP P) {k : Nat} (hk : k ≤ P.1) : pvn P k ≤ 40 := by
  have : ∀ d, pvn P k ≤ pvn P (k + d) := fun d => by
    induction d with
    | zero => exact Int.le_refl _
    | succ d ih =>
      have e : pvn P (k + (d + 1)) = pvn P (k + d) + bz (P.2.1 (k + d) = 0 ∨ P.2.1 (k + d) = 1 ∨ P.2.1 (k + d) = 2) := rfl
      have := bz_ran (p := P.2.1 (k + d) = 0 ∨ P.2.1 (k + d) = 1 ∨ P.2.1 (k + d) = 2)
      omega
  have h := this (P.1 - k)
  rw [show k + (P.1 - k) = P.1 from by omega] at h
  exact Int.le_trans h hP.2.2.2
set_option maxHeartbeats 4000000 in
theorem d111s (hM : MS w n g) (hg : gK n g) {k t : Int} {P : pg} (hP : okP P) (hPM : PM w t P) (hk0 : 0 ≤ k) (hk : k < n) (ht0 : 0 ≤ t) (ht : t < 16) : ∀ (j : Nat) (v : wo), j < P.1 → (fr [4723, 4724, 5899] w v ∧ SI P (rw1 g k) j v) →
    ∃ u, am_W sc 111 (12, [some (am_R (some 47)), some (am_I (ii t)), some (am_I (ii k)), some (am_I (ii (pof P j))), none, none, none, none], [], wst v) = am_W sc 111 (12, [some (am_R (some 47)), some (am_I (ii t)), some (am_I (ii k)), some (am_I (ii (pof P (j + 1)))), none, none, none, none], [], wst u) ∧ (fr [4723, 4724, 5899] w u ∧ SI P (rw1 g k) (j + 1) u) := by
  rintro j v hj ⟨hf, hi0, hi1, hi2, hi3, hi4⟩
  have hr := rw1_ok hg hk0 hk
  obtain ⟨a1, a2, a3, a4, a5, a6, a7, a8⟩ := er_ok hr hP j (by omega)
  have hpn := pvn_le hP (k := j) (by omega)
  have hMv := MS_fr hM hf rfl
  obtain ⟨m0, m1, m2⟩ := hPM
  obtain ⟨m3, m4⟩ := m2 j hj
  rw [← fr_A (a := 51) hf rfl] at m3 m4
  rw [← fr_A (a := 52) hf rfl] at m0
  have hnn := pof_nn P j
  have hpl := pof_le P (j + 1) (P.1 - (j + 1))
  rw [show j + 1 + (P.1 - (j + 1)) = P.1 from by omega] at hpl
  have hps := pof_s P j
  have hbr := bz_ran (p := P.2.1 j = 1 ∨ P.2.1 j = 2)
  have hk1 := hP.2.1 j hj
  have hn : j ≤ 400 := by have := hP.1; omega
  have hss : er (rw1 g k) P (j + 1) = e1 (rw1 g k) (P.2.1 j) (P.2.2 j) (er (rw1 g k) P j) := rfl
  unfold SI
  rcases hk1 with ⟨e, h1, h2, h3⟩ | ⟨e, h1, h2, h3⟩ | ⟨e, h1, h2⟩ | ⟨e, h1, h2, h3⟩ | ⟨e, h1, h2, h3⟩
  · rw [bz_f (by omega)] at hps
    have hrow : wA v 51 (400 * t + pof P j) = bz (10000 ≤ P.2.2 j) + 16 * (if P.2.2 j < 10000 then P.2.2 j else P.2.2 j - 10000) := by
      rw [m3, e]; rfl
    obtain ⟨u, b1, b2, b3, b4, b5⟩ := d111v (sc := sc) hMv hg (T := (pz P j).1 + (pz P j).2) (i := pof P j) hk0 hk ht0 ht hnn (by omega) (by omega) (by omega) hrow h2 h3 hi0 (by omega) (by omega) hi4 a8
    refine ⟨u, by rw [b1, hps]; rfl, fr_t hf b2, ?_⟩
    rw [hss, pz_a e, e1_0 e]
    dsimp only
    rw [b3, b4, b5]
    refine ⟨by omega, skr_up hi1 (by omega), fun _ => ?_, fun hq => ?_, rfl⟩
    · rw [fu_at, if_pos (by omega)]
    · rw [fu_at, if_neg (by omega)]
      rw [← hi2 (by omega)]
      congr 1
      omega
  · rw [bz_t e] at hps
    have hrow : wA v 51 (400 * t + pof P j) = bz (10000 ≤ P.2.2 j) + 16 * (if P.2.2 j < 10000 then P.2.2 j else P.2.2 j - 10000) := by
      rw [m3]
      unfold pcl pch
      rw [if_pos (by omega), if_pos (by omega)]
    obtain ⟨u, b1, b2, b3, b4, b5⟩ := d111v (sc := sc) hMv hg (T := (pz P j).1 + (pz P j).2) (i := pof P j) hk0 hk ht0 ht hnn (by omega) (by omega) (by omega) hrow h2 h3 hi0 (by omega) (by omega) hi4 a8
    have hx : wA u 58 ((pz P j).1 + (pz P j).2 + 1 - 2) = (er (rw1 g k) P j).2.2.1 := by
      rw [b4, fu_at, if_neg (by omega), ← hi2 (by omega)]
      congr 1
      omega
    have hy : wA u 58 ((pz P j).1 + (pz P j).2 + 1 - 1) = pv (rw1 g k) (P.2.2 j) := by
      rw [b4, fu_at, if_pos (by omega)]
    have hrow2 : wA u 51 (400 * t + (pof P j + 1)) = 1 + P.2.1 j := by
      rw [fr_A (a := 51) b2 rfl, ← Int.add_assoc]
      exact m4 e
    have hl : wA u 52 t = pof P P.1 := by rw [fr_A (a := 52) b2 rfl]; exact m0
    have hz : ∃ z, ((1 + P.2.1 j = 2 ∧ z = (er (rw1 g k) P j).2.2.1 + pv (rw1 g k) (P.2.2 j)) ∨ (1 + P.2.1 j = 3 ∧ z = (er (rw1 g k) P j).2.2.1 - pv (rw1 g k) (P.2.2 j))) := by
      rcases e with e | e
      · exact ⟨_, .inl ⟨by omega, rfl⟩⟩
      · exact ⟨_, .inr ⟨by omega, rfl⟩⟩
    obtain ⟨z, hz⟩ := hz
    obtain ⟨u2, c1, c2, c3, c4, c5⟩ := d111b (sc := sc) (k := k) (c := 1 + P.2.1 j) (T := (pz P j).1 + (pz P j).2 + 1) (i := pof P j + 1) (z := z) ht0 ht (by omega) (by omega) (by omega) (by omega) hrow2 b3 (by omega) (by omega) hx hy b5 (by
      rcases hz with h | h
      · exact .inl h
      · exact .inr (.inl h))
    refine ⟨u2, by rw [b1, c1, show pof P j + 1 + 1 = pof P (j + 1) from by omega], fr_t hf (fr_t b2 c2), ?_⟩
    rw [hss, pz_d (by omega)]
    have he1 : e1 (rw1 g k) (P.2.1 j) (P.2.2 j) (er (rw1 g k) P j) = ((er (rw1 g k) P j).1, (er (rw1 g k) P j).2.1, z, pms (rw1 g k) (P.2.2 j) (er (rw1 g k) P j).2.2.2) := by
      rcases hz with ⟨h, hz⟩ | ⟨h, hz⟩
      · rw [e1_1 (by omega), hz]
      · rw [e1_2 (by omega), hz]
    rw [he1]
    dsimp only
    rw [c3, c4, c5, b4]
    refine ⟨by omega, skr_up (skr_up hi1 (by omega)) (by omega), fun _ => ?_, fun hq => ?_, rfl⟩
    · rw [fu_at, if_pos (by omega)]
    · rw [fu_at, if_neg (by omega), fu_at, if_neg (by omega)]
      exact hi3 hq
  · rw [bz_f (by omega)] at hps
    have hrow : wA v 51 (400 * t + pof P j) = 4 + sg (P.2.2 j) := by
      rw [m3, e]; show 4 + sg (P.2.2 j) + 16 * 0 = _; omega
    obtain ⟨u, b1, b2, b3, b4, b5⟩ := d111c (sc := sc) (k := k) (T := (pz P j).1 + (pz P j).2) (i := pof P j) (x := (er (rw1 g k) P j).2.1) (y := (er (rw1 g k) P j).2.2.1) ht0 ht hnn (by omega) (by omega) (by omega) hrow h2 hi0 (by omega) (by omega) (by rw [← hi3 h1]; congr 1; omega) (hi2 (by omega)) hi4 a8 (by omega) (by omega) (by omega) (by omega)
    refine ⟨u, by rw [b1, hps]; rfl, fr_t hf b2, ?_⟩
    rw [hss, pz_b e, e1_3 e]
    dsimp only
    rw [b3, b4, b5]
    refine ⟨by omega, ⟨?_, skr_up hi1 (by omega)⟩, fun hq => absurd hq (by omega), fun hq => absurd hq (by omega), rfl⟩
    rw [fu_at, if_pos (by omega)]
  · rw [bz_f (by omega)] at hps
    have hrow : wA v 51 (400 * t + pof P j) = 9 := by
      rw [m3, e]; rfl
    have hbb : ∃ b q, (er (rw1 g k) P j).1 = b :: q := by
      cases hb : (er (rw1 g k) P j).1 with
      | nil => rw [hb] at a2; simp at a2; omega
      | cons b q => exact ⟨b, q, rfl⟩
    obtain ⟨b, q, hbq⟩ := hbb
    rw [hbq] at hi1 a2
    rw [List.length_cons] at a2
    obtain ⟨u, b1, b2, b3, b4, b5⟩ := d111n (sc := sc) (k := k) (T := (pz P j).1 + (pz P j).2) (i := pof P j) (b := b) ht0 ht hnn (by omega) (by omega) (by omega) hrow hi0 (by omega) (by omega) (by rw [← hi1.1]; congr 1; omega) hi4
    refine ⟨u, by rw [b1, hps]; rfl, fr_t hf b2, ?_⟩
    rw [hss, pz_d (by omega), e1_6 e, hbq]
    dsimp only [bnot]
    rw [b3, b4, b5]
    refine ⟨rfl, ⟨?_, skr_up hi1.2 (by omega)⟩, fun hq => absurd hq (by omega), fun hq => absurd hq (by omega), rfl⟩
    rw [fu_at, if_pos (by omega)]
  · rw [bz_f (by omega)] at hps
    have hbb : ∃ a b q, (er (rw1 g k) P j).1 = a :: b :: q := by
      match hb : (er (rw1 g k) P j).1 with
      | [] => rw [hb] at a2; simp at a2; omega
      | [b] => rw [hb] at a2; simp at a2; omega
      | a :: b :: q => exact ⟨a, b, q, rfl⟩
    obtain ⟨a, b, q, hbq⟩ := hbb
    rw [hbq] at hi1 a2 a1
    rw [List.length_cons, List.length_cons] at a2
    have hx : wA v 58 ((pz P j).1 + (pz P j).2 - 2) = b := by rw [← hi1.2.1]; congr 1; omega
    have hy : wA v 58 ((pz P j).1 + (pz P j).2 - 1) = a := by rw [← hi1.1, List.length_cons]; congr 1; omega
    have hz : ∃ c z, wA v 51 (400 * t + pof P j) = c ∧ ((c = 10 ∧ z = b * a) ∨ (c = 11 ∧ z = bz (b = 1 ∨ a = 1))) ∧ e1 (rw1 g k) (P.2.1 j) (P.2.2 j) (er (rw1 g k) P j) = (z :: q, (er (rw1 g k) P j).2) := by
      rcases e with e | e
      · refine ⟨11, bz (b = 1 ∨ a = 1), by rw [m3, e]; rfl, .inr ⟨rfl, rfl⟩, ?_⟩
        rw [e1_4 e, hbq]
        dsimp only [bor]
        rw [bz_c (p := a = 1 ∨ b = 1) (q := b = 1 ∨ a = 1) ⟨Or.symm, Or.symm⟩]
      · refine ⟨10, b * a, by rw [m3, e]; rfl, .inl ⟨rfl, rfl⟩, ?_⟩
        rw [e1_5 e, hbq]
        dsimp only [band]
        rw [Int.mul_comm]
    obtain ⟨c, z, hc, hz, hE⟩ := hz
    obtain ⟨u, b1, b2, b3, b4, b5⟩ := d111b (sc := sc) (k := k) (T := (pz P j).1 + (pz P j).2) (i := pof P j) (x := b) (y := a) (z := z) ht0 ht hnn (by omega) (by omega) (by omega) hc hi0 (by omega) (by omega) hx hy hi4 (by
      rcases hz with ⟨h, hz⟩ | ⟨h, hz⟩
      · exact .inr (.inr (.inl ⟨h, hz, a1.2.1, a1.1⟩))
      · exact .inr (.inr (.inr ⟨h, hz, a1.2.1, a1.1⟩)))
    refine ⟨u, by rw [b1, hps]; rfl, fr_t hf b2, ?_⟩
    rw [hss, pz_c e, hE]
    dsimp only
    rw [b3, b4, b5]
    refine ⟨by omega, ⟨?_, skr_up hi1.2.2 (by omega)⟩, fun hq => absurd hq (by omega), fun hq => absurd hq (by omega), rfl⟩
    rw [fu_at, if_pos (by omega)]
theorem d111 (hM : MS w n g) (hg : gK n g) {k t : Int} {P : pg} (hP : okP P) (hPM : PM w t P) (hk0 : 0 ≤ k) (hk : k < n) (ht0 : 0 ≤ t) (ht : t < 16) : ∃ v, am_F sc 111 [am_R (some 47), am_I (ii t), am_I (ii k)] (wst w) = some (some (am_I (ii (bz (evp (rw1 g k) P = true)))), wst v) ∧ fr [4723, 4724, 5899] w v := by
  have hr := rw1_ok hg hk0 hk
  obtain ⟨v, h1, h2, h3⟩ := lp_s0 (am_W sc 111) (fun (j : Nat) (v : wo) => (12, [some (am_R (some 47)), some (am_I (ii t)), some (am_I (ii k)), some (am_I (ii (pof P j))), none, none, none, none], [], wst v)) (fun j v => fr [4723, 4724, 5899] w v ∧ SI P (rw1 g k) j v) P.1 (fun j v hj hi => d111s hM hg hP hPM hk0 hk ht0 ht j v hj hi) (uI (uI w 47 23 0) 47 24 0) ⟨fr_uI (fr_uI (fr_r _ _) rfl) rfl, by
    refine ⟨by rw [rIn _ _ rfl, rI]; rfl, trivial, fun h => absurd h (by show ¬ ((1 : Int) ≤ 0); omega), fun h => absurd h (by show ¬ ((0 : Int) = 2); omega), by rw [rI]; rfl⟩⟩
  obtain ⟨a1, a2, a3, a4, a5, a6, a7, a8⟩ := er_ok hr hP P.1 (Nat.le_refl _)
  obtain ⟨i0, i1, i2, i3, i4⟩ := h3
  rw [hP.2.2.1] at a2 i0
  dsimp only at a2 i0
  have hl : wA v 52 t = pof P P.1 := by rw [fr_A (a := 52) h2 rfl]; exact hPM.1
  have hl4 := hPM.2.1
  have hnn := pof_nn P P.1
  have p1 := d109 (sc := sc) (w := v) (t := 0 + 1) i0 (by omega) (by omega)
  rw [show (0 + 1 - 1 : Int) = 0 from rfl] at p1
  refine ⟨uI v 47 23 0, ?_, fr_uI h2 rfl⟩
  rw [fq_111]
  have h0 : pof P 0 = 0 := rfl
  rw [h0] at h1
  simp (disch := omega) only [qB_s, qC_t, qC_f, qI_T, qI_F, qI_t, qI_f, r_I, r_L, r_R, r_V, ii_add, ii_sub, ii_mul, ii_neg, bz_0, bz_1, Bool.true_and, Bool.false_and, Bool.and_true, z00, z11, li_0, li_1, li_10, li_11, li_15, li_2, li_3, li_31, li_4, li_400, li_9, e_51, e_52, gI_47_24, gR_47_6, gR_47_7, is_47, pI_47_23, pI_47_24]
  rw [h1, wq_111_12]
  have hq : ¬ (pof P P.1 < pof P P.1) := by omega
  unfold evp
  match hb : (er (rw1 g k) P P.1).1 with
  | [] => rw [hb] at a2; simp at a2
  | b :: c :: q => rw [hb] at a2; simp at a2; omega
  | [b] =>
    rw [hb] at i1 a1
    have hx : wA v 58 0 = b := i1.1
    have hB : bz (decide (([b] : List Int).headD 0 = 1) = true) = b := by
      rcases a1.1 with h | h <;> rw [h] <;> decide
    rw [hB]
    rcases a1.1 with h | h
    · simp (disch := omega) only [qB_s, qC_t, qC_f, qI_T, qI_F, qI_t, qI_f, r_I, r_L, r_R, r_V, ii_add, ii_sub, ii_mul, ii_neg, bz_0, bz_1, Bool.true_and, Bool.false_and, Bool.and_true, z00, z11, li_0, li_1, li_10, li_11, li_15, li_2, li_3, li_31, li_4, li_400, li_9, e_51, e_52, gI_47_24, gR_47_6, gR_47_7, is_47, pI_47_23, pI_47_24, hl, ii_lt, ii_eq, hq, if_false, p1, hx, h, Int.reduceEq]
    · simp (disch := omega) only [qB_s, qC_t, qC_f, qI_T, qI_F, qI_t, qI_f, r_I, r_L, r_R, r_V, ii_add, ii_sub, ii_mul, ii_neg, bz_0, bz_1, Bool.true_and, Bool.false_and, Bool.and_true, z00, z11, li_0, li_1, li_10, li_11, li_15, li_2, li_3, li_31, li_4, li_400, li_9, e_51, e_52, gI_47_24, gR_47_6, gR_47_7, is_47, pI_47_23, pI_47_24, hl, ii_lt, ii_eq, hq, if_false, p1, hx, h, Int.reduceEq]
end L15
