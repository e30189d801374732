/-! THE CLASS READS A TEST -/
theorem wlen : ∀ l : List Int, (l.length : Int) ≤ wop l + dpt l
  | [] => Int.le_refl _
  | x :: q => by
    have ih := wlen q
    show ((q.length + 1 : Nat) : Int) ≤ wop q + bz (x ≠ 3) + (dpt q + bz (x = 6 ∨ x = 3))
    by_cases z : x = 3
    · rw [bz_f (fun y => y z), bz_t (Or.inr z)]
      omega
    · have := bz_ran (p := x = 6 ∨ x = 3)
      rw [bz_t z]
      omega
theorem aI_w {b : Nat → Int} {L T : Nat} {z ph e : Int} {s : st} (hT : TT b L T) (h : aI b T z ph e s) (hz : 0 ≤ z) : (s.2.2.2.1 : Int) + s.2.2.1.length ≤ 250 := by
  obtain ⟨h1, h2, ⟨h3, h4, h5⟩, ⟨h6, h7⟩, h8, h9⟩ := h
  have := wlen s.2.2.1
  have := (tS_r hT.1 s.1).1
  have := hT.1.1
  omega
theorem wok_ran : ∀ {l : List Int}, wok l → ∀ {x : Int}, x ∈ l → 3 ≤ x ∧ x ≤ 6
  | [], _, x, hx => absurd hx List.not_mem_nil
  | y :: q, h, x, hx => by
    have h : (y = 3 ∨ y = 4 ∨ y = 5 ∨ y = 6) ∧ wok q := h
    rcases List.mem_cons.mp hx with z | z
    · omega
    · exact wok_ran h.2 z
theorem skr_m : ∀ {l : List Int} {f : Int → Int}, skr l f → ∀ {i : Nat}, i < l.length → f i ∈ l
  | [], _, _, i, hi => absurd hi (Nat.not_lt_zero i)
  | y :: q, f, h, i, hi => by
    have h : f (q.length : Int) = y ∧ skr q f := h
    have hi : i < q.length + 1 := hi
    by_cases z : i = q.length
    · rw [z, h.1]
      exact List.mem_cons_self
    · exact List.mem_cons_of_mem _ (skr_m h.2 (by omega))
theorem skr_i {l : List Int} {f : Int → Int} (h : skr l f) {i : Nat} (hi : i < l.length) (hr : ∀ x, x ∈ l → 3 ≤ x ∧ x ≤ 6) {k : Int} (e : ii (f i) = ii k) (hk : k = 3 ∨ k = 4 ∨ k = 5 ∨ k = 6) : f i = k := by
  have := hr _ (skr_m h hi)
  rw [ii_eq (by omega) (by omega) (by omega) (by omega)] at e
  exact e
section L57
variable {sc : am_X} {w : wo} {b : Nat → Int} {L T : Nat}
theorem c56 {n j k : Int} (h12 : wI w 13 12 = n) (h0 : 0 ≤ n) (hn : n < 400) (h6 : wI w 13 6 = j) : am_F sc 56 [am_R (some 13), am_I (ii k)] (wst w) = some (none, wst (uI (uI (uA w 19 (fu (wA w 19) n k)) 13 12 (n + 1)) 13 6 (j + 1))) := by
  rw [fq_56]
  simp (disch := omega) only [qB_s, qC_t, qC_f, qI_T, qI_F, qI_t, qI_f, r_I, r_L, r_R, r_V, ii_add, ii_sub, ii_mul, ii_neg, bz_0, bz_1, Bool.true_and, Bool.false_and, Bool.and_true, z00, z11, li_0, li_1, li_400, gI_13_12, gI_13_6, gR_13_11, pI_13_12, pI_13_6, t_19, ii_lt, h12, uI_I, uA_I, uI_A, uA_A, Nat.reduceEqDiff, and_self, and_false, and_true, if_true, if_false, h6]
theorem c56n {j k : Int} (h12 : wI w 13 12 = 400) (h6 : wI w 13 6 = j) : am_F sc 56 [am_R (some 13), am_I (ii k)] (wst w) = some (none, wst (uI w 13 6 (j + 1))) := by
  rw [fq_56]
  simp (disch := omega) only [qB_s, qC_t, qC_f, qI_T, qI_F, qI_t, qI_f, r_I, r_L, r_R, r_V, ii_add, ii_sub, ii_mul, ii_neg, bz_0, bz_1, Bool.true_and, Bool.false_and, Bool.and_true, z00, z11, li_0, li_1, li_400, gI_13_12, gI_13_6, gR_13_11, pI_13_12, pI_13_6, t_19, ii_lt, h12, h6]
theorem c56w {s : st} (hW : CW w b L T s) (hl : s.2.2.1.length < 400) {k : Int} : ∃ u, am_F sc 56 [am_R (some 13), am_I (ii k)] (wst w) = some (none, wst u) ∧ fr lR w u ∧ CW u b L T (aPsh k s) := by
  obtain ⟨w1, w2, w3, w4, ⟨w5, w6⟩, w7, w8⟩ := hW
  have f1 : fr lR w (uI (uI (uA w 19 (fu (wA w 19) s.2.2.1.length k)) 13 12 (s.2.2.1.length + 1)) 13 6 (s.1 + 1)) := fr_uI (fr_uI (fr_uA (fr_r _ _) rfl) rfl) rfl
  refine ⟨_, c56 w5 (by omega) (by omega) w2, f1, CK_R w1 f1, ?_, w3, w4, ⟨?_, ?_⟩, w7, w8⟩
  · rw [rI]
    show _ = ((s.1 + 1 : Nat) : Int)
    omega
  · simp only [uI_I, uA_I, uI_A, uA_A, Nat.reduceEqDiff, and_self, and_false, and_true, if_true, if_false]
    show _ = ((s.2.2.1.length + 1 : Nat) : Int)
    omega
  · simp only [uI_I, uA_I, uI_A, uA_A, Nat.reduceEqDiff, and_self, and_false, and_true, if_true, if_false]
    show fu (wA w 19) s.2.2.1.length k (s.2.2.1.length : Int) = k ∧ skr s.2.2.1 (fu (wA w 19) s.2.2.1.length k)
    exact ⟨by rw [fu_at, if_pos rfl], skr_up w6 (Int.le_refl _)⟩
theorem c56x {c : Int} {N : Nat} (h : CX w b L T c N) {k : Int} : ∃ u, am_F sc 56 [am_R (some 13), am_I (ii k)] (wst w) = some (none, wst u) ∧ fr lR w u ∧ CX u b L T c (N + 1) := by
  obtain ⟨h1, h2, h3, ⟨j, h4, h5⟩, h7, h8, h11⟩ := h
  by_cases z : wI w 13 12 = 400
  · have f1 : fr lR w (uI w 13 6 (j + 1)) := fr_uI (fr_r _ _) rfl
    exact ⟨_, c56n z h4, f1, CK_R h1 f1, h2, h3, ⟨j + 1, by rw [rI, nat_1], by omega⟩, h7, h8, by
      show 0 ≤ wI w 13 10 ∧ wI w 13 10 ≤ ((N + 1 : Nat) : Int)
      omega⟩
  · have f1 : fr lR w (uI (uI (uA w 19 (fu (wA w 19) (wI w 13 12) k)) 13 12 (wI w 13 12 + 1)) 13 6 (j + 1)) := fr_uI (fr_uI (fr_uA (fr_r _ _) rfl) rfl) rfl
    refine ⟨_, c56 rfl h7.1 (by omega) h4, f1, CK_R h1 f1, h2, h3, ⟨j + 1, by rw [rI, nat_1], by omega⟩, ?_, h8, ?_⟩
    · simp only [uI_I, uA_I, uI_A, uA_A, Nat.reduceEqDiff, and_self, and_false, and_true, if_true, if_false]
      omega
    · show 0 ≤ wI w 13 10 ∧ wI w 13 10 ≤ ((N + 1 : Nat) : Int)
      omega
theorem c57 (hT : TT b L T) {s : st} (hW : CW w b L T s) {z ph e : Int} (hI : aI b T z ph e s) (hz : 0 ≤ z) {k : Int} : ∃ u, am_F sc 57 [am_R (some 13), am_I (ii k)] (wst w) = some (none, wst u) ∧ fr lR w u ∧ CR u b L T 500 (aOpn b k s) := by
  have hn := aI_n hT hI hz
  have hwl := aI_w hT hI hz
  have hW0 := hW
  obtain ⟨w1, w2, w3, w4, ⟨w5, w6⟩, w7, w8⟩ := hW
  have hsm := skr_sm w6
  obtain ⟨F, hF⟩ : ∃ F : Nat → Int, F = fun i : Nat => bz (wA w 19 i = 6 ∨ wA w 19 i = 3) := ⟨_, rfl⟩
  rw [← hF] at hsm
  have hFr : ∀ i, i ≤ 400 → 0 ≤ sm F i ∧ sm F i ≤ i := fun i hi => by
    have := sm_ran (f := F) (a := 0) (b := 1) (n := i) (fun i _ => by rw [hF]; exact bz_ran)
    omega
  have e := lp_0 (am_W sc 57) (fun i => (4, [some (am_R (some 13)), some (am_I (ii k)), some (am_I (ii (sm F i))), some (am_I (ii i))], [], wst w)) s.2.2.1.length (fun i hi => by
    have hr := hFr i (by omega)
    rw [sm_s, wq_57_4]
    by_cases z1 : wA w 19 i = 6
    · rw [show F i = 1 by rw [hF]; exact bz_t (Or.inl z1)]
      simp (disch := omega) only [qB_s, qC_t, qC_f, qI_T, qI_F, qI_t, qI_f, r_I, r_L, r_R, r_V, ii_add, ii_sub, ii_mul, ii_neg, bz_0, bz_1, Bool.true_and, Bool.false_and, Bool.and_true, z00, z11, li_0, li_1, li_10, li_2, li_3, li_400, li_6, e_19, gI_13_12, gR_13_11, is_13, ii_lt, ii_eq, w5, z1, nat_1]
    · by_cases z2 : wA w 19 i = 3
      · rw [show F i = 1 by rw [hF]; exact bz_t (Or.inr z2)]
        simp (disch := omega) only [qB_s, qC_t, qC_f, qI_T, qI_F, qI_t, qI_f, r_I, r_L, r_R, r_V, ii_add, ii_sub, ii_mul, ii_neg, bz_0, bz_1, Bool.true_and, Bool.false_and, Bool.and_true, z00, z11, li_0, li_1, li_10, li_2, li_3, li_400, li_6, e_19, gI_13_12, gR_13_11, is_13, ii_lt, ii_eq, w5, z2, nat_1]
      · rw [show F i = 0 by rw [hF]; exact bz_f (by omega)]
        have y1 : ¬ ii (wA w 19 i) = ii 6 := fun y => z1 (skr_i w6 hi (fun x hx => wok_ran hI.2.2.1.2.1 hx) y (.inr (.inr (.inr rfl))))
        have y2 : ¬ ii (wA w 19 i) = ii 3 := fun y => z2 (skr_i w6 hi (fun x hx => wok_ran hI.2.2.1.2.1 hx) y (.inl rfl))
        simp (disch := omega) only [qB_s, qC_t, qC_f, qI_T, qI_F, qI_t, qI_f, r_I, r_L, r_R, r_V, ii_add, ii_sub, ii_mul, ii_neg, bz_0, bz_1, Bool.true_and, Bool.false_and, Bool.and_true, z00, z11, li_0, li_1, li_10, li_2, li_3, li_400, li_6, e_19, gI_13_12, gR_13_11, is_13, ii_lt, w5, y1, y2, qI_F, nat_1, Int.add_zero])
  have e' : am_W sc 57 (4, [some (am_R (some 13)), some (am_I (ii k)), some (am_I (ii 0)), some (am_I (ii 0))], [], wst w) = am_W sc 57 (4, [some (am_R (some 13)), some (am_I (ii k)), some (am_I (ii (dpt s.2.2.1))), some (am_I (ii s.2.2.1.length))], [], wst w) := by
    rw [← hsm]
    exact e
  have hd := hFr s.2.2.1.length (by omega)
  rw [hsm] at hd
  unfold aOpn
  by_cases y : 10 ≤ dpt s.2.2.1
  · rw [if_pos y]
    obtain ⟨fx, hx⟩ := CX_of hT hW0 hn.2.2.1 (by omega) (m := s.2.1) (by have := hI.2.1; omega) (c := 2) ⟨by decide, by decide⟩ rfl
    have eq : uI w 13 10 s.2.1 = w := by rw [← w4]; exact uI_same w 13 10
    rw [eq] at fx hx
    have b55 := c55 (sc := sc) hT w1 w2 (by omega) w3 (c := 2)
    obtain ⟨u, k1, k2, k3⟩ := c56x (sc := sc) hx (k := k)
    refine ⟨u, ?_, fr_t fx k2, CX_m k3 (by omega)⟩
    rw [fq_57]
    simp only [li_0, li_1, li_10, li_2, li_3, li_400, li_6, e_19, gI_13_12, gR_13_11, is_13]
    rw [e', wq_57_4]
    simp (disch := omega) only [qB_s, qC_t, qC_f, qI_T, qI_F, qI_t, qI_f, r_I, r_L, r_R, r_V, ii_add, ii_sub, ii_mul, ii_neg, bz_0, bz_1, Bool.true_and, Bool.false_and, Bool.and_true, z00, z11, li_0, li_1, li_10, li_2, li_3, li_400, li_6, e_19, gI_13_12, gR_13_11, is_13, ii_lt, w5, b55, k1]
  · rw [if_neg y]
    obtain ⟨u, k1, k2, k3⟩ := c56w (sc := sc) hW0 (by omega) (k := k)
    refine ⟨u, ?_, k2, k3⟩
    rw [fq_57]
    simp only [li_0, li_1, li_10, li_2, li_3, li_400, li_6, e_19, gI_13_12, gR_13_11, is_13]
    rw [e', wq_57_4]
    simp (disch := omega) only [qB_s, qC_t, qC_f, qI_T, qI_F, qI_t, qI_f, r_I, r_L, r_R, r_V, ii_add, ii_sub, ii_mul, ii_neg, bz_0, bz_1, Bool.true_and, Bool.false_and, Bool.and_true, z00, z11, li_0, li_1, li_10, li_2, li_3, li_400, li_6, e_19, gI_13_12, gR_13_11, is_13, ii_lt, w5, k1]
/-- what waits is settled -/
theorem c64l {k : Int} (hk : 4 ≤ k ∧ k ≤ 6) : ∀ (l : List Int) (P : pg) (i : Nat) (w : wo) (j : Nat) (m : Int), i + l.length ≤ 400 → P.1 + l.length ≤ 400 → wok l → CW w b L T (j, m, l, P) → ∃ u, am_W sc 64 (2, [some (am_R (some 13)), some (am_I (ii k)), some (am_I (ii i))], [], wst w) = some (none, wst u) ∧ fr lR w u ∧ CW u b L T (j, m, stl k l P)
  | [], P, i, w, j, m, hi, hp, ho, hW => by
    have w5 : wI w 13 12 = 0 := hW.2.2.2.2.1.1
    refine ⟨w, ?_, fr_r _ _, hW⟩
    rw [wq_64_2]
    by_cases z : i < 400
    · simp (disch := omega) only [qB_s, qC_t, qC_f, qI_T, qI_F, qI_t, qI_f, r_I, r_L, r_R, r_V, ii_add, ii_sub, ii_mul, ii_neg, bz_0, bz_1, Bool.true_and, Bool.false_and, Bool.and_true, z00, z11, li_0, li_1, li_400, e_19, gI_13_12, gR_13_11, is_13, pI_13_12, ii_lt, w5]
    · simp (disch := omega) only [qB_s, qC_t, qC_f, qI_T, qI_F, qI_t, qI_f, r_I, r_L, r_R, r_V, ii_add, ii_sub, ii_mul, ii_neg, bz_0, bz_1, Bool.true_and, Bool.false_and, Bool.and_true, z00, z11, li_0, li_1, li_400, e_19, gI_13_12, gR_13_11, is_13, pI_13_12, ii_lt]
  | x :: q, P, i, w, j, m, hi, hp, ho, hW => by
    have hi : i + (q.length + 1) ≤ 400 := hi
    have hp : P.1 + (q.length + 1) ≤ 400 := hp
    have ho : (x = 3 ∨ x = 4 ∨ x = 5 ∨ x = 6) ∧ wok q := ho
    have hW0 := hW
    obtain ⟨w1, w2, w3, w4, ⟨w5, w6⟩, w7, w8⟩ := hW
    have w5 : wI w 13 12 = ((q.length + 1 : Nat) : Int) := w5
    have w6 : wA w 19 q.length = x ∧ skr q (wA w 19) := w6
    have w7 : SPk w P := w7
    have w8 : MSk (wI w 13 9) P := w8
    have el : ((q.length + 1 : Nat) : Int) - 1 = q.length := by omega
    have e6 := w6.1
    unfold stl
    by_cases y : x < k
    · rw [if_pos y]
      refine ⟨w, ?_, fr_r _ _, hW0⟩
      rw [wq_64_2]
      simp (disch := omega) only [qB_s, qC_t, qC_f, qI_T, qI_F, qI_t, qI_f, r_I, r_L, r_R, r_V, ii_add, ii_sub, ii_mul, ii_neg, bz_0, bz_1, Bool.true_and, Bool.false_and, Bool.and_true, z00, z11, li_0, li_1, li_400, e_19, gI_13_12, gR_13_11, is_13, pI_13_12, ii_lt, w5, el, e6]
    · rw [if_neg y]
      have h13 : wI (uI w 13 12 q.length) 13 13 = 0 := w3
      have e59 := c59 (sc := sc) (w := uI w 13 12 q.length) (n := P.1) w7.1 (by omega) h13 (kd := x) (on := 0)
      obtain ⟨u1, hu1⟩ : ∃ v, v = uI (uA (uI w 13 12 q.length) 18 (fu (wA (uI w 13 12 q.length) 18) P.1 (x * 65536 + 0))) 13 8 (P.1 + 1) := ⟨_, rfl⟩
      rw [← hu1] at e59
      have f1 : fr lR w u1 := by
        rw [hu1]
        exact fr_uI (fr_uA (fr_uI (fr_r _ _) rfl) rfl) rfl
      have hW1 : CW u1 b L T (j, m, q, pu P x 0) := by
        refine ⟨CK_R w1 f1, ?_, ?_, ?_, ⟨?_, ?_⟩, SPk_pu w7 ?_ ?_, ?_⟩
        · rw [hu1]; exact w2
        · rw [hu1]; exact w3
        · rw [hu1]; exact w4
        · rw [hu1]; simp only [uI_I, uA_I, uI_A, uA_A, Nat.reduceEqDiff, and_self, and_false, and_true, if_true, if_false]
        · rw [hu1]; simp only [uI_I, uA_I, uI_A, uA_A, Nat.reduceEqDiff, and_self, and_false, and_true, if_true, if_false]; exact w6.2
        · rw [hu1]; simp only [uI_I, uA_I, uI_A, uA_A, Nat.reduceEqDiff, and_self, and_false, and_true, if_true, if_false]
        · rw [hu1]; simp only [uI_I, uA_I, uI_A, uA_A, Nat.reduceEqDiff, and_self, and_false, and_true, if_true, if_false]
        · rw [hu1]; simp only [uI_I, uA_I, uI_A, uA_A, Nat.reduceEqDiff, and_self, and_false, and_true, if_true, if_false]; exact MSk_0 w8 (fun _ => by omega)
      obtain ⟨u, k1, k2, k3⟩ := c64l hk q (pu P x 0) (i + 1) u1 j m (by omega) (by show P.1 + 1 + q.length ≤ 400; omega) ho.2 hW1
      refine ⟨u, ?_, fr_t f1 k2, k3⟩
      rw [nat_1] at k1
      rw [wq_64_2]
      simp (disch := omega) only [qB_s, qC_t, qC_f, qI_T, qI_F, qI_t, qI_f, r_I, r_L, r_R, r_V, ii_add, ii_sub, ii_mul, ii_neg, bz_0, bz_1, Bool.true_and, Bool.false_and, Bool.and_true, z00, z11, li_0, li_1, li_400, e_19, gI_13_12, gR_13_11, is_13, pI_13_12, ii_lt, w5, el, e6, uI_I, uA_I, uI_A, uA_A, Nat.reduceEqDiff, and_self, and_false, and_true, if_true, if_false, e59, k1]
theorem c64 (hT : TT b L T) {s : st} (hW : CW w b L T s) {z ph e : Int} (hI : aI b T z ph e s) (hz : 0 ≤ z) {k : Int} (hk : 4 ≤ k ∧ k ≤ 6) : ∃ u, am_F sc 64 [am_R (some 13), am_I (ii k)] (wst w) = some (none, wst u) ∧ fr lR w u ∧ CW u b L T (aStl k s) := by
  have hwl := aI_w hT hI hz
  obtain ⟨u, k1, k2, k3⟩ := c64l (sc := sc) hk s.2.2.1 s.2.2.2 0 w s.1 s.2.1 (by omega) (by omega) hI.2.2.1.2.1 hW
  refine ⟨u, ?_, k2, k3⟩
  rw [fq_64]
  exact k1
theorem c64x {c : Int} {N : Nat} {k : Int} : ∀ (d i : Nat) (w : wo), i + d = 400 → CX w b L T c N → ∃ u, am_W sc 64 (2, [some (am_R (some 13)), some (am_I (ii k)), some (am_I (ii i))], [], wst w) = some (none, wst u) ∧ fr lR w u ∧ CX u b L T c N
  | 0, i, w, hd, hX => by
    refine ⟨w, ?_, fr_r _ _, hX⟩
    rw [wq_64_2]
    simp (disch := omega) only [qB_s, qC_t, qC_f, qI_T, qI_F, qI_t, qI_f, r_I, r_L, r_R, r_V, ii_add, ii_sub, ii_mul, ii_neg, bz_0, bz_1, Bool.true_and, Bool.false_and, Bool.and_true, z00, z11, li_0, li_1, li_400, e_19, gI_13_12, gR_13_11, is_13, pI_13_12, ii_lt]
  | d + 1, i, w, hd, hX => by
    have hX0 := hX
    obtain ⟨h1, h2, h3, ⟨j, h4, h5⟩, h7, h8, h11⟩ := hX
    by_cases z : wI w 13 12 = 0
    · refine ⟨w, ?_, fr_r _ _, hX0⟩
      rw [wq_64_2]
      simp (disch := omega) only [qB_s, qC_t, qC_f, qI_T, qI_F, qI_t, qI_f, r_I, r_L, r_R, r_V, ii_add, ii_sub, ii_mul, ii_neg, bz_0, bz_1, Bool.true_and, Bool.false_and, Bool.and_true, z00, z11, li_0, li_1, li_400, e_19, gI_13_12, gR_13_11, is_13, pI_13_12, ii_lt, z]
    · by_cases y : ii (wA w 19 (wI w 13 12 - 1)) < ii k
      · refine ⟨w, ?_, fr_r _ _, hX0⟩
        rw [wq_64_2]
        simp (disch := omega) only [qB_s, qC_t, qC_f, qI_T, qI_F, qI_t, qI_f, r_I, r_L, r_R, r_V, ii_add, ii_sub, ii_mul, ii_neg, bz_0, bz_1, Bool.true_and, Bool.false_and, Bool.and_true, z00, z11, li_0, li_1, li_400, e_19, gI_13_12, gR_13_11, is_13, pI_13_12, ii_lt, y, qI_T]
      · have f1 : fr lR w (uI w 13 12 (wI w 13 12 - 1)) := fr_uI (fr_r _ _) rfl
        have hX1 : CX (uI w 13 12 (wI w 13 12 - 1)) b L T c N := ⟨CK_R h1 f1, h2, h3, ⟨j, h4, h5⟩, by rw [rI]; omega, h8, h11⟩
        obtain ⟨u, k1, k2, k3⟩ := c64x (k := k) d (i + 1) _ (by omega) hX1
        have e59 := fun x y => c59x (sc := sc) (w := uI w 13 12 (wI w 13 12 - 1)) (c := c) h2 h3 (x := x) (y := y)
        refine ⟨u, ?_, fr_t f1 k2, k3⟩
        rw [nat_1] at k1
        rw [wq_64_2]
        simp (disch := omega) only [qB_s, qC_t, qC_f, qI_T, qI_F, qI_t, qI_f, r_I, r_L, r_R, r_V, ii_add, ii_sub, ii_mul, ii_neg, bz_0, bz_1, Bool.true_and, Bool.false_and, Bool.and_true, z00, z11, li_0, li_1, li_400, e_19, gI_13_12, gR_13_11, is_13, pI_13_12, ii_lt, y, qI_F, uI_I, uA_I, uI_A, uA_A, Nat.reduceEqDiff, and_self, and_false, and_true, if_true, if_false, e59, k1]
theorem c64y {c : Int} {N : Nat} (h : CX w b L T c N) {k : Int} : ∃ u, am_F sc 64 [am_R (some 13), am_I (ii k)] (wst w) = some (none, wst u) ∧ fr lR w u ∧ CX u b L T c N := by
  obtain ⟨u, k1, k2, k3⟩ := c64x (sc := sc) (k := k) 400 0 w rfl h
  refine ⟨u, ?_, k2, k3⟩
  rw [fq_64]
  exact k1
def CRb (w : wo) (b : Nat → Int) (L T : Nat) (N : Nat) (x : Int) (r : Sum Int (Bool × st)) : Prop := match r with
  | .inl c => CX w b L T c N
  | .inr z => x = bz (z.1 = true) ∧ CW w b L T z.2
/-- and, or -/
theorem c65a (hT : TT b L T) {s : st} (hW : CW w b L T s) {z : Int} (hI : aI b T z 0 1 s) (hz : 0 ≤ z) {k : Int} (hk : (k = 5 ∧ tK b s.1 = 15) ∨ (k = 4 ∧ tK b s.1 = 16)) : ∃ u, am_W sc 65 (95, [some (am_R (some 13)), none], [], wst w) = some (some (am_I (ii 1)), wst u) ∧ fr lR w u ∧ CW u b L T (aPsh k (aStl k s)) := by
  have hn := aI_n hT hI hz
  have h54 := c54 (sc := sc) hT hW.1 hW.2.1 (by omega)
  have hk6 : 4 ≤ k ∧ k ≤ 6 := by omega
  obtain ⟨u1, k1, k2, k3⟩ := c64 (sc := sc) hT hW hI hz hk6
  have hI2 := (aStl_I hk6.1 hI).1
  have hwl := aI_w hT hI2 hz
  obtain ⟨u2, m1, m2, m3⟩ := c56w (sc := sc) k3 (by omega) (k := k)
  refine ⟨u2, ?_, fr_t k2 m2, m3⟩
  rw [wq_65_95]
  rcases hk with ⟨y1, y2⟩ | ⟨y1, y2⟩
  · subst y1
    simp (disch := omega) only [qB_s, qC_t, qC_f, qI_T, qI_F, qI_t, qI_f, r_I, r_L, r_R, r_V, ii_add, ii_sub, ii_mul, ii_neg, bz_0, bz_1, Bool.true_and, Bool.false_and, Bool.and_true, z00, z11, li_0, li_1, li_15, li_16, li_4, li_400, li_5, li_6, li_93, gI_13_12, gI_13_13, gI_13_6, is_13, pI_13_12, pI_13_6, ii_eq, h54, k1, m1]
  · subst y1
    simp (disch := omega) only [qB_s, qC_t, qC_f, qI_T, qI_F, qI_t, qI_f, r_I, r_L, r_R, r_V, ii_add, ii_sub, ii_mul, ii_neg, bz_0, bz_1, Bool.true_and, Bool.false_and, Bool.and_true, z00, z11, li_0, li_1, li_15, li_16, li_4, li_400, li_5, li_6, li_93, gI_13_12, gI_13_13, gI_13_6, is_13, pI_13_12, pI_13_6, ii_eq, h54, k1, m1]
theorem c65e (hT : TT b L T) {s : st} (hW : CW w b L T s) {z : Int} (hI : aI b T z 0 1 s) (hz : 0 ≤ z) {i : Nat} (hi : i ≤ 400) (h93 : i = 400 ∨ tK b s.1 ≠ 93) : ∃ (u : wo) (x : Int), am_W sc 65 (8, [some (am_R (some 13)), some (am_I (ii i))], [], wst w) = some (some (am_I (ii x)), wst u) ∧ fr lR w u ∧ CRb u b L T 500 x (aEnd b s) := by
  have hn := aI_n hT hI hz
  have hk := tK_r hT.1 s.1
  have h54 := c54 (sc := sc) hT hW.1 hW.2.1 (by omega)
  have w3 := hW.2.2.1
  unfold aEnd
  by_cases y1 : tK b s.1 = 15
  · rw [if_pos y1]
    obtain ⟨u, k1, k2, k3⟩ := c65a (sc := sc) hT hW hI hz (.inl ⟨rfl, y1⟩)
    refine ⟨u, 1, ?_, k2, rfl, k3⟩
    rw [wq_65_8]
    by_cases zi : i < 400
    · simp (disch := omega) only [qB_s, qC_t, qC_f, qI_T, qI_F, qI_t, qI_f, r_I, r_L, r_R, r_V, ii_add, ii_sub, ii_mul, ii_neg, bz_0, bz_1, Bool.true_and, Bool.false_and, Bool.and_true, z00, z11, li_0, li_1, li_15, li_16, li_4, li_400, li_5, li_6, li_93, gI_13_12, gI_13_13, gI_13_6, is_13, pI_13_12, pI_13_6, ii_lt, ii_eq, w3, h54, k1]
    · simp (disch := omega) only [qB_s, qC_t, qC_f, qI_T, qI_F, qI_t, qI_f, r_I, r_L, r_R, r_V, ii_add, ii_sub, ii_mul, ii_neg, bz_0, bz_1, Bool.true_and, Bool.false_and, Bool.and_true, z00, z11, li_0, li_1, li_15, li_16, li_4, li_400, li_5, li_6, li_93, gI_13_12, gI_13_13, gI_13_6, is_13, pI_13_12, pI_13_6, ii_lt, ii_eq, w3, h54, k1]
  · rw [if_neg y1]
    by_cases y2 : tK b s.1 = 16
    · rw [if_pos y2]
      obtain ⟨u, k1, k2, k3⟩ := c65a (sc := sc) hT hW hI hz (.inr ⟨rfl, y2⟩)
      refine ⟨u, 1, ?_, k2, rfl, k3⟩
      rw [wq_65_8]
      by_cases zi : i < 400
      · simp (disch := omega) only [qB_s, qC_t, qC_f, qI_T, qI_F, qI_t, qI_f, r_I, r_L, r_R, r_V, ii_add, ii_sub, ii_mul, ii_neg, bz_0, bz_1, Bool.true_and, Bool.false_and, Bool.and_true, z00, z11, li_0, li_1, li_15, li_16, li_4, li_400, li_5, li_6, li_93, gI_13_12, gI_13_13, gI_13_6, is_13, pI_13_12, pI_13_6, ii_lt, ii_eq, w3, h54, k1]
      · simp (disch := omega) only [qB_s, qC_t, qC_f, qI_T, qI_F, qI_t, qI_f, r_I, r_L, r_R, r_V, ii_add, ii_sub, ii_mul, ii_neg, bz_0, bz_1, Bool.true_and, Bool.false_and, Bool.and_true, z00, z11, li_0, li_1, li_15, li_16, li_4, li_400, li_5, li_6, li_93, gI_13_12, gI_13_13, gI_13_6, is_13, pI_13_12, pI_13_6, ii_lt, ii_eq, w3, h54, k1]
    · rw [if_neg y2]
      obtain ⟨u, k1, k2, k3⟩ := c64 (sc := sc) hT hW hI hz (k := 4) ⟨by decide, by decide⟩
      have hI2 := (aStl_I (k := 4) (by decide) hI).1
      have hwl := aI_w hT hI2 hz
      have hn2 := aI_n hT hI2 hz
      have hp2 := hI2.2.1
      have v5 := k3.2.2.2.2.1.1
      have v6 := k3.2.1
      generalize hl : (aStl 4 s).2.2.1 = l at v5 hwl ⊢
      cases l with
      | nil =>
        have v5 : wI u 13 12 = 0 := v5
        refine ⟨u, 0, ?_, k2, rfl, k3⟩
        rw [wq_65_8]
        by_cases zi : i < 400
        · simp (disch := omega) only [qB_s, qC_t, qC_f, qI_T, qI_F, qI_t, qI_f, r_I, r_L, r_R, r_V, ii_add, ii_sub, ii_mul, ii_neg, bz_0, bz_1, Bool.true_and, Bool.false_and, Bool.and_true, z00, z11, li_0, li_1, li_15, li_16, li_4, li_400, li_5, li_6, li_93, gI_13_12, gI_13_13, gI_13_6, is_13, pI_13_12, pI_13_6, ii_lt, ii_eq, w3, h54, k1, v5]
        · simp (disch := omega) only [qB_s, qC_t, qC_f, qI_T, qI_F, qI_t, qI_f, r_I, r_L, r_R, r_V, ii_add, ii_sub, ii_mul, ii_neg, bz_0, bz_1, Bool.true_and, Bool.false_and, Bool.and_true, z00, z11, li_0, li_1, li_15, li_16, li_4, li_400, li_5, li_6, li_93, gI_13_12, gI_13_13, gI_13_6, is_13, pI_13_12, pI_13_6, ii_lt, ii_eq, w3, h54, k1, v5]
      | cons x q =>
        have v5 : wI u 13 12 = ((q.length + 1 : Nat) : Int) := v5
        have hwl : ((aStl 4 s).2.2.2.1 : Int) + ((q.length + 1 : Nat) : Int) ≤ 250 := hwl
        obtain ⟨fx, hx⟩ := CX_of hT k3 hn2.2.2.1 (by rw [hl]; show q.length + 1 ≤ 400; omega) (m := (aStl 4 s).2.1) (by omega) (c := 0) ⟨by decide, by decide⟩ rfl
        have eq : uI u 13 10 (aStl 4 s).2.1 = u := by rw [← k3.2.2.2.1]; exact uI_same u 13 10
        rw [eq] at fx hx
        have b55 := c55 (sc := sc) hT k3.1 v6 (by omega) k3.2.2.1 (c := 0)
        refine ⟨_, 0, ?_, fr_t k2 fx, CX_m hx (by omega)⟩
        rw [wq_65_8]
        by_cases zi : i < 400
        · simp (disch := omega) only [qB_s, qC_t, qC_f, qI_T, qI_F, qI_t, qI_f, r_I, r_L, r_R, r_V, ii_add, ii_sub, ii_mul, ii_neg, bz_0, bz_1, Bool.true_and, Bool.false_and, Bool.and_true, z00, z11, li_0, li_1, li_15, li_16, li_4, li_400, li_5, li_6, li_93, gI_13_12, gI_13_13, gI_13_6, is_13, pI_13_12, pI_13_6, ii_lt, ii_eq, w3, h54, k1, v5, b55]
        · simp (disch := omega) only [qB_s, qC_t, qC_f, qI_T, qI_F, qI_t, qI_f, r_I, r_L, r_R, r_V, ii_add, ii_sub, ii_mul, ii_neg, bz_0, bz_1, Bool.true_and, Bool.false_and, Bool.and_true, z00, z11, li_0, li_1, li_15, li_16, li_4, li_400, li_5, li_6, li_93, gI_13_12, gI_13_13, gI_13_6, is_13, pI_13_12, pI_13_6, ii_lt, ii_eq, w3, h54, k1, v5, b55]
theorem c65l (hT : TT b L T) {z : Int} (hz : 0 ≤ z) : ∀ (d i : Nat) (w : wo) (s : st), i + d = 400 → CW w b L T s → aI b T z 0 1 s → ∃ (u : wo) (x : Int), am_W sc 65 (8, [some (am_R (some 13)), some (am_I (ii i))], [], wst w) = some (some (am_I (ii x)), wst u) ∧ fr lR w u ∧ CRb u b L T 500 x (aBhL b d s)
  | 0, i, w, s, hd, hW, hI => c65e hT hW hI hz (by omega) (.inl (by omega))
  | d + 1, i, w, s, hd, hW, hI => by
    by_cases y1 : tK b s.1 = 93
    · have hn := aI_n hT hI hz
      have h54 := c54 (sc := sc) hT hW.1 hW.2.1 (by omega)
      have w3 := hW.2.2.1
      obtain ⟨u, k1, k2, k3⟩ := c64 (sc := sc) hT hW hI hz (k := 4) ⟨by decide, by decide⟩
      obtain ⟨hI2, hlow⟩ := aStl_I (k := 4) (by decide) hI
      have v5 := k3.2.2.2.2.1.1
      have v6 : wI u 13 6 = s.1 := k3.2.1
      rw [show aBhL b (d + 1) s = (match (aStl 4 s).2.2.1 with
        | [] => .inr (false, aStl 4 s)
        | _ :: q => aBhL b d (aStl 6 (s.1 + 1, s.2.1, q, (aStl 4 s).2.2.2))) from if_pos y1]
      have hI2 : aI b T z 0 1 (s.1, s.2.1, (aStl 4 s).2.2.1, (aStl 4 s).2.2.2) := hI2
      have k3' : CW u b L T (s.1, s.2.1, (aStl 4 s).2.2.1, (aStl 4 s).2.2.2) := k3
      generalize hl : (aStl 4 s).2.2.1 = l at v5 hI2 k3' hlow ⊢
      generalize (aStl 4 s).2.2.2 = P at hI2 k3'
      cases l with
      | nil =>
        have v5 : wI u 13 12 = 0 := v5
        refine ⟨u, 0, ?_, k2, rfl, k3⟩
        rw [wq_65_8]
        simp (disch := omega) only [qB_s, qC_t, qC_f, qI_T, qI_F, qI_t, qI_f, r_I, r_L, r_R, r_V, ii_add, ii_sub, ii_mul, ii_neg, bz_0, bz_1, Bool.true_and, Bool.false_and, Bool.and_true, z00, z11, li_0, li_1, li_15, li_16, li_4, li_400, li_5, li_6, li_93, gI_13_12, gI_13_13, gI_13_6, is_13, pI_13_12, pI_13_6, ii_lt, ii_eq, w3, h54, k1, v5]
      | cons x q =>
        have v5 : wI u 13 12 = ((q.length + 1 : Nat) : Int) := v5
        have hwl0 := aI_w hT hI2 hz
        have hwl : (P.1 : Int) + ((q.length + 1 : Nat) : Int) ≤ 250 := hwl0
        have el : ((q.length + 1 : Nat) : Int) - 1 = q.length := by omega
        have hI3 := aPop_I hT hI2 hlow (by omega)
        obtain ⟨u1, hu1⟩ : ∃ v, v = uI (uI u 13 12 q.length) 13 6 (s.1 + 1) := ⟨_, rfl⟩
        have f1 : fr lR u u1 := by
          rw [hu1]
          exact fr_uI (fr_uI (fr_r _ _) rfl) rfl
        obtain ⟨x1, x2, x3, x4, ⟨x5, x6⟩, x7, x8⟩ := k3'
        have x6 : wA u 19 q.length = x ∧ skr q (wA u 19) := x6
        have hW1 : CW u1 b L T (s.1 + 1, s.2.1, q, P) := by
          refine ⟨CK_R x1 f1, ?_, ?_, ?_, ⟨?_, ?_⟩, ?_, ?_⟩
          · rw [hu1, rI]
            show _ = ((s.1 + 1 : Nat) : Int)
            omega
          · rw [hu1]; exact x3
          · rw [hu1]; exact x4
          · rw [hu1]; simp only [uI_I, uA_I, uI_A, uA_A, Nat.reduceEqDiff, and_self, and_false, and_true, if_true, if_false]
          · rw [hu1]; simp only [uI_I, uA_I, uI_A, uA_A, Nat.reduceEqDiff, and_self, and_false, and_true, if_true, if_false]; exact x6.2
          · rw [hu1]; exact x7
          · rw [hu1]; exact x8
        obtain ⟨u2, m1, m2, m3⟩ := c64 (sc := sc) hT hW1 hI3 hz (k := 6) ⟨by decide, by decide⟩
        obtain ⟨u3, y, n1, n2, n3⟩ := c65l hT hz d (i + 1) u2 _ (by omega) m3 (aStl_I (k := 6) (by decide) hI3).1
        refine ⟨u3, y, ?_, fr_t (fr_t (fr_t k2 f1) m2) n2, n3⟩
        rw [nat_1] at n1
        rw [hu1] at m1
        rw [wq_65_8]
        simp (disch := omega) only [qB_s, qC_t, qC_f, qI_T, qI_F, qI_t, qI_f, r_I, r_L, r_R, r_V, ii_add, ii_sub, ii_mul, ii_neg, bz_0, bz_1, Bool.true_and, Bool.false_and, Bool.and_true, z00, z11, li_0, li_1, li_15, li_16, li_4, li_400, li_5, li_6, li_93, gI_13_12, gI_13_13, gI_13_6, is_13, pI_13_12, pI_13_6, ii_lt, ii_eq, w3, h54, k1, v5, el, uI_I, uA_I, uI_A, uA_A, Nat.reduceEqDiff, and_self, and_false, and_true, if_true, if_false, v6, m1, n1]
    · rw [show aBhL b (d + 1) s = aEnd b s from if_neg y1]
      exact c65e hT hW hI hz (by omega) (.inr y1)
theorem c65 (hT : TT b L T) {s : st} (hW : CW w b L T s) {z : Int} (hI : aI b T z 0 1 s) (hz : 0 ≤ z) : ∃ (u : wo) (x : Int), am_F sc 65 [am_R (some 13)] (wst w) = some (some (am_I (ii x)), wst u) ∧ fr lR w u ∧ CRb u b L T 500 x (aBeh b s) := by
  obtain ⟨u, k1, k2, k3⟩ := c64 (sc := sc) hT hW hI hz (k := 6) ⟨by decide, by decide⟩
  obtain ⟨u2, x, m1, m2, m3⟩ := c65l (sc := sc) hT hz 400 0 u (aStl 6 s) (Nat.zero_add 400) k3 (aStl_I (k := 6) (by decide) hI).1
  unfold aBeh
  have m1 : am_W sc 65 (8, [some (am_R (some 13)), some (am_I (ii 0))], [], wst u) = _ := m1
  refine ⟨u2, x, ?_, fr_t k2 m2, m3⟩
  rw [fq_65]
  simp (disch := omega) only [qB_s, qC_t, qC_f, qI_T, qI_F, qI_t, qI_f, r_I, r_L, r_R, r_V, ii_add, ii_sub, ii_mul, ii_neg, bz_0, bz_1, Bool.true_and, Bool.false_and, Bool.and_true, z00, z11, li_0, li_1, li_15, li_16, li_4, li_400, li_5, li_6, li_93, gI_13_12, gI_13_13, gI_13_6, is_13, pI_13_12, pI_13_6, k1, m1]
theorem c65x (hT : TT b L T) {c : Int} {N : Nat} (h : CX w b L T c N) (hN : N ≤ 7000) : ∃ (u : wo) (x : Int), am_F sc 65 [am_R (some 13)] (wst w) = some (some (am_I (ii x)), wst u) ∧ fr lR w u ∧ CX u b L T c (N + 1) := by
  obtain ⟨u1, k1, k2, k3⟩ := c64y (sc := sc) h (k := 6)
  obtain ⟨h1, h2, h3, ⟨j, h4, h5⟩, h7, h8, h11⟩ := id k3
  have hk := tK_r hT.1 j
  have h54 := c54 (sc := sc) hT h1 h4 (by omega)
  by_cases y1 : tK b j = 15
  · obtain ⟨u2, m1, m2, m3⟩ := c64y (sc := sc) k3 (k := 5)
    obtain ⟨u3, n1, n2, n3⟩ := c56x (sc := sc) m3 (k := 5)
    refine ⟨u3, 1, ?_, fr_t (fr_t k2 m2) n2, n3⟩
    have e : am_W sc 65 (95, [some (am_R (some 13)), none], [], wst u1) = some (some (am_I (ii 1)), wst u3) := by
      rw [wq_65_95]
      simp (disch := omega) only [qB_s, qC_t, qC_f, qI_T, qI_F, qI_t, qI_f, r_I, r_L, r_R, r_V, ii_add, ii_sub, ii_mul, ii_neg, bz_0, bz_1, Bool.true_and, Bool.false_and, Bool.and_true, z00, z11, li_0, li_1, li_15, li_16, li_4, li_400, li_5, li_6, li_93, gI_13_12, gI_13_13, gI_13_6, is_13, pI_13_12, pI_13_6, ii_eq, h54, m1, n1]
    rw [fq_65]
    simp (disch := omega) only [qB_s, qC_t, qC_f, qI_T, qI_F, qI_t, qI_f, r_I, r_L, r_R, r_V, ii_add, ii_sub, ii_mul, ii_neg, bz_0, bz_1, Bool.true_and, Bool.false_and, Bool.and_true, z00, z11, li_0, li_1, li_15, li_16, li_4, li_400, li_5, li_6, li_93, gI_13_12, gI_13_13, gI_13_6, is_13, pI_13_12, pI_13_6, k1]
    rw [wq_65_8]
    simp (disch := omega) only [qB_s, qC_t, qC_f, qI_T, qI_F, qI_t, qI_f, r_I, r_L, r_R, r_V, ii_add, ii_sub, ii_mul, ii_neg, bz_0, bz_1, Bool.true_and, Bool.false_and, Bool.and_true, z00, z11, li_0, li_1, li_15, li_16, li_4, li_400, li_5, li_6, li_93, gI_13_12, gI_13_13, gI_13_6, is_13, pI_13_12, pI_13_6, ii_lt, ii_eq, h2, h54, e]
  · by_cases y2 : tK b j = 16
    · obtain ⟨u2, m1, m2, m3⟩ := c64y (sc := sc) k3 (k := 4)
      obtain ⟨u3, n1, n2, n3⟩ := c56x (sc := sc) m3 (k := 4)
      refine ⟨u3, 1, ?_, fr_t (fr_t k2 m2) n2, n3⟩
      have e : am_W sc 65 (95, [some (am_R (some 13)), none], [], wst u1) = some (some (am_I (ii 1)), wst u3) := by
        rw [wq_65_95]
        simp (disch := omega) only [qB_s, qC_t, qC_f, qI_T, qI_F, qI_t, qI_f, r_I, r_L, r_R, r_V, ii_add, ii_sub, ii_mul, ii_neg, bz_0, bz_1, Bool.true_and, Bool.false_and, Bool.and_true, z00, z11, li_0, li_1, li_15, li_16, li_4, li_400, li_5, li_6, li_93, gI_13_12, gI_13_13, gI_13_6, is_13, pI_13_12, pI_13_6, ii_eq, h54, m1, n1]
      rw [fq_65]
      simp (disch := omega) only [qB_s, qC_t, qC_f, qI_T, qI_F, qI_t, qI_f, r_I, r_L, r_R, r_V, ii_add, ii_sub, ii_mul, ii_neg, bz_0, bz_1, Bool.true_and, Bool.false_and, Bool.and_true, z00, z11, li_0, li_1, li_15, li_16, li_4, li_400, li_5, li_6, li_93, gI_13_12, gI_13_13, gI_13_6, is_13, pI_13_12, pI_13_6, k1]
      rw [wq_65_8]
      simp (disch := omega) only [qB_s, qC_t, qC_f, qI_T, qI_F, qI_t, qI_f, r_I, r_L, r_R, r_V, ii_add, ii_sub, ii_mul, ii_neg, bz_0, bz_1, Bool.true_and, Bool.false_and, Bool.and_true, z00, z11, li_0, li_1, li_15, li_16, li_4, li_400, li_5, li_6, li_93, gI_13_12, gI_13_13, gI_13_6, is_13, pI_13_12, pI_13_6, ii_lt, ii_eq, h2, h54, e]
    · obtain ⟨u2, m1, m2, m3⟩ := c64y (sc := sc) k3 (k := 4)
      obtain ⟨g1, g2, g3, -, g7, -⟩ := id m3
      have b55 := c55x (sc := sc) g2 g3 (x := 0)
      refine ⟨u2, 0, ?_, fr_t k2 m2, CX_m m3 (by omega)⟩
      rw [fq_65]
      simp (disch := omega) only [qB_s, qC_t, qC_f, qI_T, qI_F, qI_t, qI_f, r_I, r_L, r_R, r_V, ii_add, ii_sub, ii_mul, ii_neg, bz_0, bz_1, Bool.true_and, Bool.false_and, Bool.and_true, z00, z11, li_0, li_1, li_15, li_16, li_4, li_400, li_5, li_6, li_93, gI_13_12, gI_13_13, gI_13_6, is_13, pI_13_12, pI_13_6, k1]
      rw [wq_65_8]
      by_cases z : 0 < wI u2 13 12
      · have b55 : am_F sc 55 [am_R (some 13), am_I (ii 0)] (wst u2) = some (none, wst u2) := b55
        simp (disch := omega) only [qB_s, qC_t, qC_f, qI_T, qI_F, qI_t, qI_f, r_I, r_L, r_R, r_V, ii_add, ii_sub, ii_mul, ii_neg, bz_0, bz_1, Bool.true_and, Bool.false_and, Bool.and_true, z00, z11, li_0, li_1, li_15, li_16, li_4, li_400, li_5, li_6, li_93, gI_13_12, gI_13_13, gI_13_6, is_13, pI_13_12, pI_13_6, ii_lt, ii_eq, h2, h54, m1, b55]
      · simp (disch := omega) only [qB_s, qC_t, qC_f, qI_T, qI_F, qI_t, qI_f, r_I, r_L, r_R, r_V, ii_add, ii_sub, ii_mul, ii_neg, bz_0, bz_1, Bool.true_and, Bool.false_and, Bool.and_true, z00, z11, li_0, li_1, li_15, li_16, li_4, li_400, li_5, li_6, li_93, gI_13_12, gI_13_13, gI_13_6, is_13, pI_13_12, pI_13_6, ii_lt, ii_eq, h2, h54, m1]
end L57
