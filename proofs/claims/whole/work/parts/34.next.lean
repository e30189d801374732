/-! NEXT -/
def pw (m : Int) : Int := 2 ^ m.toNat
theorem pw_or {l m : Int} (h1 : 0 ≤ l) (h2 : l < 64) (h3 : 0 ≤ m) (h4 : m < 6) : bt l m = 0 → (ii l ||| ii (pw m) = ii (l + pw m) ∧ 0 ≤ l + pw m ∧ l + pw m < 64) :=
  fin64 (P := fun l m => bt l m = 0 → (ii l ||| ii (pw m) = ii (l + pw m) ∧ 0 ≤ l + pw m ∧ l + pw m < 64)) (by decide +kernel) h1 h2 h3 h4
theorem pw_sh {m : Int} (h3 : 0 ≤ m) (h4 : m < 6) : ii 1 <<< (ii m &&& ii 31) = ii (pw m) :=
  fin64 (P := fun _ m => ii 1 <<< (ii m &&& ii 31) = ii (pw m)) (by decide +kernel) (l := 0) (by decide) (by decide) h3 h4
/-- some group is mixed -/
def anm (s : gst) : Nat → Bool
  | 0 => false
  | j + 1 => anm s j || decide (mx s j)
theorem anm_mono {s : gst} {j : Nat} (h : mx s j) : ∀ {m : Nat}, j < m → anm s m = true
  | 0, q => absurd q (Nat.not_lt_zero _)
  | m + 1, q => by
    unfold anm
    by_cases z : j = m
    · rw [← z]
      rw [decide_eq_true h, Bool.or_true]
    · rw [anm_mono h (m := m) (by omega), Bool.true_or]
def na (x : Int) : Int := if 0 ≤ x then x else -x
theorem gp_T1 (g : Int → Int → Int) (l : Int) (f : Nat → Int) (sk : Int) : ∀ (i : Nat) (j : Int), (gp g l f sk i).2.2 j 1 ≤ (gp g l f sk i).2.2 j 0 ∧ (gp g l f sk i).2.2 j 3 ≤ (gp g l f sk i).2.2 j 2
  | 0, j => ⟨Int.le_refl _, Int.le_refl _⟩
  | i + 1, j => by
    have ih := gp_T1 g l f sk i j
    unfold gp
    by_cases q : f i = sk
    · rw [if_pos q]
      exact ih
    · rw [if_neg q]
      unfold g1 tQ
      try dsimp only
      generalize gj g l (f i) (gp g l f sk i) = y at *
      constructor
      all_goals repeat' split
      all_goals omega
theorem lk1_ran {s : gst} (hT : gT s 200) {j : Int} (h1 : s.2.2 j 1 ≤ s.2.2 j 0) : -200000 ≤ lk1 s j ∧ lk1 s j ≤ 200000 := by
  unfold lk1
  split
  · rename_i q
    have q0 := q.1
    have t1 := hT j 1
    have t2 := hT j 2
    have t3 := hT j 3
    have a0 : 0 ≤ s.2.2 j 2 * s.2.2 j 1 * 1000 / s.2.2 j 0 := Int.ediv_nonneg (Int.mul_nonneg (Int.mul_nonneg t2.1 t1.1) (by decide)) (by omega)
    have a1 : s.2.2 j 2 * s.2.2 j 1 * 1000 / s.2.2 j 0 ≤ s.2.2 j 2 * 1000 := by
      apply Int.ediv_le_of_le_mul q0
      rw [Int.mul_right_comm]
      exact Int.mul_le_mul_of_nonneg_left h1 (by omega)
    omega
  · omega
theorem lkS_ran {s : gst} (hT : gT s 200) (h1 : ∀ j : Int, s.2.2 j 1 ≤ s.2.2 j 0) {m : Nat} (hm : m ≤ 200) : -40000000 ≤ lkS s m ∧ lkS s m ≤ 40000000 := by
  have := sm_ran (n := m) (f := fun j => lk1 s j) (a := -200000) (b := 200000) (fun i _ => lk1_ran hT (h1 i))
  unfold lkS
  omega
/-- the groups with one letter more to be the same -/
def nS (A : ab) (v i : Int) : gst := gp (aG A) ((aV A v).2.1 + pw i) (tg (pT (aG A) (aV A v).1 ((aV A v).2.1 + pw i)) (aN A).toNat).2 (-1) (tg (pT (aG A) (aV A v).1 ((aV A v).2.1 + pw i)) (aN A).toNat).1
def nQ (A : ab) (v : Int) (i : Nat) : Prop := bt (aV A v).2.1 i = 0 ∧ anm (nS A v i) (nS A v i).1 = true
def nA (A : ab) (v i : Int) : Int := na (lkS (nS A v i) (nS A v i).1)
def nxt (A : ab) (v : Int) : Nat → Int × Int
  | 0 => (-2, 0)
  | i + 1 => if bt (aV A v).2.1 i = 0 ∧ anm (nS A v i) (nS A v i).1 = true ∧ ((nxt A v i).1 < 0 ∨ nA A v i < (nxt A v i).2) then ((i : Int), nA A v i) else nxt A v i
theorem nS_T {A : ab} (hA : okA A) (v i : Int) : gT (nS A v i) 200 ∧ (∀ j : Int, (nS A v i).2.2 j 1 ≤ (nS A v i).2.2 j 0) ∧ (nS A v i).1 ≤ (tg (pT (aG A) (aV A v).1 ((aV A v).2.1 + pw i)) (aN A).toNat).1 ∧ (tg (pT (aG A) (aV A v).1 ((aV A v).2.1 + pw i)) (aN A).toNat).1 ≤ 200 := by
  have := tg_le (pT (aG A) (aV A v).1 ((aV A v).2.1 + pw i)) (aN A).toNat
  have h := hA.1.2.1
  have hm : (tg (pT (aG A) (aV A v).1 ((aV A v).2.1 + pw i)) (aN A).toNat).1 ≤ 200 := by
    unfold aN at this ⊢
    omega
  exact ⟨gT_of _ _ _ _ hm, fun j => (gp_T1 _ _ _ _ _ j).1, gp_le _ _ _ _ _, hm⟩
theorem nA_ran {A : ab} (hA : okA A) (v i : Int) : 0 ≤ nA A v i ∧ nA A v i ≤ 40000000 := by
  obtain ⟨h1, h2, h3, h4⟩ := nS_T hA v i
  have := lkS_ran h1 h2 (m := (nS A v i).1) (by omega)
  unfold nA na
  split <;> omega
theorem nxt_ran {A : ab} (hA : okA A) (v : Int) : ∀ i : Nat, (-2 ≤ (nxt A v i).1 ∧ (nxt A v i).1 < i) ∧ 0 ≤ (nxt A v i).2 ∧ (nxt A v i).2 ≤ 40000000
  | 0 => ⟨⟨Int.le_refl _, (by decide : (-2 : Int) < 0)⟩, Int.le_refl _, (by decide : (0 : Int) ≤ 40000000)⟩
  | i + 1 => by
    have ih := nxt_ran hA v i
    have := nA_ran hA v i
    unfold nxt
    split
    · exact ⟨⟨by simp only []; omega, by simp only []; omega⟩, this⟩
    · exact ⟨⟨ih.1.1, by omega⟩, ih.2⟩
section L34
variable {sc : am_X} {w : wo} {A : ab} {ow : Nat → Nat} {n : Int} {g : Int → Int → Int} {l : Int} {s : gst}
theorem c174l (h : GS w g l s) (hT : gT s 200) (hs : s.1 ≤ 200) : ∀ (d j : Nat), j + d = s.1 → anm s j = false → am_W sc 174 (2, [some (am_R (some 22)), some (am_I (ii j))], [], wst w) = some (some (am_I (ii (bz (anm s s.1 = true)))), wst w)
  | 0, j, hj, ha => by
    have hG := h.1
    have hj' : j = s.1 := by omega
    rw [hj'] at ha
    rw [bz_f (by rw [ha]; decide), wq_174_2]
    simp (disch := omega) only [qB_s, qC_t, qC_f, qI_T, qI_F, qI_t, qI_f, r_I, r_L, r_R, r_V, ii_add, ii_sub, ii_mul, ii_neg, bz_0, bz_1, Bool.true_and, Bool.false_and, Bool.and_true, z00, z11, li_0, li_1, gI_22_8, is_22, hG, ii_lt]
  | d + 1, j, hj, ha => by
    have hG := h.1
    have p := c148 (sc := sc) h hT (j := j) (by omega) (by omega)
    rw [wq_174_2]
    by_cases q : mx s j
    · rw [bz_t q] at p
      rw [bz_t (anm_mono q (by omega))]
      simp (disch := omega) only [qB_s, qC_t, qC_f, qI_T, qI_F, qI_t, qI_f, r_I, r_L, r_R, r_V, ii_add, ii_sub, ii_mul, ii_neg, bz_0, bz_1, Bool.true_and, Bool.false_and, Bool.and_true, z00, z11, li_0, li_1, gI_22_8, is_22, hG, ii_lt, ii_eq, p]
    · have ih := c174l h hT hs d (j + 1) (by omega) (by unfold anm; rw [ha]; rw [decide_eq_false q]; rfl)
      rw [nat_1] at ih
      rw [bz_f q] at p
      simp (disch := omega) only [qB_s, qC_t, qC_f, qI_T, qI_F, qI_t, qI_f, r_I, r_L, r_R, r_V, ii_add, ii_sub, ii_mul, ii_neg, bz_0, bz_1, Bool.true_and, Bool.false_and, Bool.and_true, z00, z11, li_0, li_1, gI_22_8, is_22, hG, ii_lt, ii_eq, p, ih]
theorem c174 (h : GS w g l s) (hT : gT s 200) (hs : s.1 ≤ 200) : am_F sc 174 [am_R (some 22)] (wst w) = some (some (am_I (ii (bz (anm s s.1 = true)))), wst w) := by
  rw [fq_174, li_0]
  exact c174l h hT hs s.1 0 (by omega) rfl
theorem d176l (h : HS w s) (hT : gT s 200) (hs : s.1 ≤ 200) {v b e i : Int} : am_W sc 176 (62, [some (am_R (some 47)), some (am_I (ii v)), some (am_I (ii b)), some (am_I (ii e)), some (am_I (ii i)), some (am_I (ii 0)), some (am_I (ii 0))], [], wst w) = am_W sc 176 (62, [some (am_R (some 47)), some (am_I (ii v)), some (am_I (ii b)), some (am_I (ii e)), some (am_I (ii i)), some (am_I (ii (bz (anm s s.1 = true)))), some (am_I (ii s.1))], [], wst w) := by
  have hG := h.1
  have e := lp_0 (am_W sc 176) (fun j : Nat => (62, [some (am_R (some 47)), some (am_I (ii v)), some (am_I (ii b)), some (am_I (ii e)), some (am_I (ii i)), some (am_I (ii (bz (anm s j = true)))), some (am_I (ii j))], [], wst w)) s.1 (fun j hj => by
    have p := d153 (sc := sc) h hT hs (j := j) (by omega) (by omega)
    rw [wq_176_62, show anm s (j + 1) = (anm s j || decide (mx s j)) from rfl]
    cases q0 : anm s j with
    | true =>
      rw [bz_t rfl, bz_t (by simp)]
      simp (disch := omega) only [qB_s, qC_t, qC_f, qI_T, qI_F, qI_t, qI_f, r_I, r_L, r_R, r_V, ii_add, ii_sub, ii_mul, ii_neg, bz_0, bz_1, Bool.true_and, Bool.false_and, Bool.and_true, z00, z11, li_0, li_1, li_2, li_31, li_6, e_54, gI_47_33, gR_47_11, is_47, hG, ii_lt, ii_eq, nat_1]
    | false =>
      by_cases q : mx s j
      · rw [bz_t q] at p
        rw [bz_f (by simp), bz_t (by rw [decide_eq_true q]; rfl)]
        simp (disch := omega) only [qB_s, qC_t, qC_f, qI_T, qI_F, qI_t, qI_f, r_I, r_L, r_R, r_V, ii_add, ii_sub, ii_mul, ii_neg, bz_0, bz_1, Bool.true_and, Bool.false_and, Bool.and_true, z00, z11, li_0, li_1, li_2, li_31, li_6, e_54, gI_47_33, gR_47_11, is_47, hG, ii_lt, ii_eq, p, nat_1]
      · rw [bz_f q] at p
        rw [bz_f (by simp), bz_f (by rw [decide_eq_false q]; decide)]
        simp (disch := omega) only [qB_s, qC_t, qC_f, qI_T, qI_F, qI_t, qI_f, r_I, r_L, r_R, r_V, ii_add, ii_sub, ii_mul, ii_neg, bz_0, bz_1, Bool.true_and, Bool.false_and, Bool.and_true, z00, z11, li_0, li_1, li_2, li_31, li_6, e_54, gI_47_33, gR_47_11, is_47, hG, ii_lt, ii_eq, p, nat_1])
  exact e
theorem nxt_s (A : ab) (v : Int) (i : Nat) : nxt A v (i + 1) = if bt (aV A v).2.1 i = 0 ∧ anm (nS A v i) (nS A v i).1 = true ∧ ((nxt A v i).1 < 0 ∨ nA A v i < (nxt A v i).2) then ((i : Int), nA A v i) else nxt A v i := rfl
theorem c175 (hC : RC ow w A) (hA : okA A) {v : Int} (q1 : 0 ≤ v ∧ v < A.2.2.1.1) {a : Nat} (hV : CVo ow w a (aV A v)) : ∃ u, am_W sc 175 (21, [some (am_R (some 0)), none, some (am_R (some a)), some (am_I (ii (-2))), some (am_I (ii 0)), some (am_I (ii 0)), none], [], wst w) = some (some (am_I (ii (nxt A v 6).1)), wst u) ∧ fr scC w u := by
  have hx : okV (aV A v) := hA.2.2.1.2.2 v q1.1 q1.2
  have hl := hx.2.1
  have hg : gK (aN A) (aG A) := hA.1.2.2.1
  obtain ⟨u, e, hfr, -⟩ := lp_s0 (am_W sc 175) (fun (i : Nat) (u : wo) => (21, [some (am_R (some 0)), none, some (am_R (some a)), some (am_I (ii (nxt A v i).1)), some (am_I (ii (nxt A v i).2)), some (am_I (ii i)), none], [], wst u)) (fun i u => fr scC w u ∧ True) 6 (fun i u hi hu => by
    have hCu := RC_c hC hu.1
    have hCu1 : CS u (aN A) (aG A) := hCu.1
    have hVu := CVo_d hV (fr_d hu.1 rfl _)
    have hga : am_gI (wst u) a 10 1 = some (ii (aV A v).2.1) := by
      obtain ⟨⟨v1, v2, v3, v4⟩, v5, v6, -⟩ := id hVu
      rw [gI_of (by unfold shp; rw [if_neg (by omega), v4]) rfl, v6]
    have hbt := bt_ran (aV A v).2.1 i
    have hbi := bt_ii hl.1 hl.2 (m := i) (by omega) (by omega)
    have hr := nxt_ran hA v i
    rw [wq_175_21]
    by_cases q : bt (aV A v).2.1 i = 0
    · have ho := pw_or hl.1 hl.2 (m := i) (by omega) (by omega) q
      have hsh := pw_sh (m := i) (by omega) (by omega)
      obtain ⟨u1, e1, f1, t1, hL, -⟩ := c116 (sc := sc) hCu1 hg hVu hx ho.2.1 ho.2.2
      obtain ⟨hT, hT1, hs, hm⟩ := nS_T hA v i
      have hel := tg_el (pT (aG A) (aV A v).1 ((aV A v).2.1 + pw i)) (aN A).toNat
      have hn0 : 0 ≤ aN A := hA.1.1
      obtain ⟨u2, e2, f2, g2, -⟩ := c146 (sc := sc) (CS_fr hCu1 f1 rfl) hg t1 hm (fun z hz => by
        have := hel z hz
        exact ⟨this.1, by have := this.2.1; omega⟩) hL ho.2.1 ho.2.2 (fun z hz => by
        have := (hel z hz).2.2
        unfold pT at this
        simp only [Bool.and_eq_true, Bool.not_eq_true'] at this
        exact this.1)
      have g2' : GS u2 (aG A) ((aV A v).2.1 + pw i) (nS A v i) := g2
      have e3 := c157 (sc := sc) g2' hT (by omega)
      have e4 := c174 (sc := sc) g2' hT (by omega)
      have hlk := lkS_ran hT hT1 (m := (nS A v i).1) (by omega)
      have hna := nA_ran hA v i
      have eab : am_absI (ii (lkS (nS A v i) (nS A v i).1)) = ii (nA A v i) := absI_ii (by omega) (by omega)
      have f12 : fr scC w u2 := fr_t hu.1 (fr_t (fr_m f1 rfl) (fr_m f2 rfl))
      refine ⟨u2, ?_, f12, trivial⟩
      rw [nxt_s]
      cases q2 : anm (nS A v i) (nS A v i).1 with
      | false =>
        rw [q2, bz_f (by decide)] at e4
        rw [if_neg (fun z => by simp at z)]
        simp (disch := omega) only [qB_s, qC_t, qC_f, qI_T, qI_F, qI_t, qI_f, r_I, r_L, r_R, r_V, ii_add, ii_sub, ii_mul, ii_neg, bz_0, bz_1, Bool.true_and, Bool.false_and, Bool.and_true, z00, z11, li_0, li_1, li_2, li_31, li_6, gR_0_9, is_0, is_22, ii_lt, ii_eq, hga, hbi, hsh, ho.1, e1, e2, e3, e4, nat_1]
      | true =>
        rw [q2, bz_t rfl] at e4
        by_cases q3 : (nxt A v i).1 < 0
        · rw [if_pos ⟨q, rfl, .inl q3⟩]
          simp (disch := omega) only [qB_s, qC_t, qC_f, qI_T, qI_F, qI_t, qI_f, r_I, r_L, r_R, r_V, ii_add, ii_sub, ii_mul, ii_neg, bz_0, bz_1, Bool.true_and, Bool.false_and, Bool.and_true, z00, z11, li_0, li_1, li_2, li_31, li_6, gR_0_9, is_0, is_22, ii_lt, ii_eq, hga, hbi, hsh, ho.1, e1, e2, e3, e4, eab, nat_1]
        · by_cases q4 : nA A v i < (nxt A v i).2
          · rw [if_pos ⟨q, rfl, .inr q4⟩]
            simp (disch := omega) only [qB_s, qC_t, qC_f, qI_T, qI_F, qI_t, qI_f, r_I, r_L, r_R, r_V, ii_add, ii_sub, ii_mul, ii_neg, bz_0, bz_1, Bool.true_and, Bool.false_and, Bool.and_true, z00, z11, li_0, li_1, li_2, li_31, li_6, gR_0_9, is_0, is_22, ii_lt, ii_eq, hga, hbi, hsh, ho.1, e1, e2, e3, e4, eab, nat_1]
          · rw [if_neg (by omega)]
            simp (disch := omega) only [qB_s, qC_t, qC_f, qI_T, qI_F, qI_t, qI_f, r_I, r_L, r_R, r_V, ii_add, ii_sub, ii_mul, ii_neg, bz_0, bz_1, Bool.true_and, Bool.false_and, Bool.and_true, z00, z11, li_0, li_1, li_2, li_31, li_6, gR_0_9, is_0, is_22, ii_lt, ii_eq, hga, hbi, hsh, ho.1, e1, e2, e3, e4, eab, nat_1]
    · refine ⟨u, ?_, hu⟩
      rw [nxt_s, if_neg (fun z => q z.1)]
      simp (disch := omega) only [qB_s, qC_t, qC_f, qI_T, qI_F, qI_t, qI_f, r_I, r_L, r_R, r_V, ii_add, ii_sub, ii_mul, ii_neg, bz_0, bz_1, Bool.true_and, Bool.false_and, Bool.and_true, z00, z11, li_0, li_1, li_2, li_31, li_6, gR_0_9, is_0, is_22, ii_lt, ii_eq, hga, hbi, nat_1]) w ⟨fr_r _ _, trivial⟩
  refine ⟨u, ?_, hfr⟩
  have e' : am_W sc 175 (21, [some (am_R (some 0)), none, some (am_R (some a)), some (am_I (ii (-2))), some (am_I (ii 0)), some (am_I (ii 0)), none], [], wst w) = _ := e
  rw [e', wq_175_21]
  simp (disch := omega) only [qB_s, qC_t, qC_f, qI_T, qI_F, qI_t, qI_f, r_I, r_L, r_R, r_V, ii_add, ii_sub, ii_mul, ii_neg, bz_0, bz_1, Bool.true_and, Bool.false_and, Bool.and_true, z00, z11, li_0, li_1, li_2, li_31, li_6, gR_0_9, is_0, is_22, ii_lt]
theorem d176 (hM : RM w A) (hA : okA A) (hsk : wI w 47 36 = -1) {v : Int} (q1 : 0 ≤ v ∧ v < A.2.2.1.1) : ∃ u, am_W sc 176 (18, [some (am_R (some 47)), some (am_I (ii v)), some (am_I (ii (-2))), some (am_I (ii 0)), some (am_I (ii 0)), none, none], [], wst w) = some (some (am_I (ii (nxt A v 6).1)), wst u) ∧ fr scM w u := by
  have hx : okV (aV A v) := hA.2.2.1.2.2 v q1.1 q1.2
  have hl := hx.2.1
  have hg : gK (aN A) (aG A) := hA.1.2.2.1
  have h8 := hA.2.2.1.2.1
  have hv8 : v < 8 := by omega
  obtain ⟨u, e, hfr, -⟩ := lp_s0 (am_W sc 176) (fun (i : Nat) (u : wo) => (18, [some (am_R (some 47)), some (am_I (ii v)), some (am_I (ii (nxt A v i).1)), some (am_I (ii (nxt A v i).2)), some (am_I (ii i)), none, none], [], wst u)) (fun i u => fr scM w u ∧ wI u 47 36 = -1) 6 (fun i u hi hu => by
    have hMu := RM_m hM hu.1
    have hMu1 : MS u (aN A) (aG A) := hMu.1
    have hVu : MVo u v (aV A v) := hMu.2.2.2.1.2 v q1.1 q1.2
    have h54 : wA u 54 v = (aV A v).2.1 := hVu.2.1
    have hbt := bt_ran (aV A v).2.1 i
    have hbi := bt_ii hl.1 hl.2 (m := i) (by omega) (by omega)
    have hr := nxt_ran hA v i
    rw [wq_176_18]
    by_cases q : bt (aV A v).2.1 i = 0
    · have ho := pw_or hl.1 hl.2 (m := i) (by omega) (by omega) q
      have hsh := pw_sh (m := i) (by omega) (by omega)
      obtain ⟨u1, e1, f1, t1, hL, -⟩ := d124 (sc := sc) hMu1 hg hVu hx q1.1 hv8 (l := (aV A v).2.1 + pw i) (o := pw i) ho.1 ho.2.1 ho.2.2
      obtain ⟨hT, hT1, hs, hm⟩ := nS_T hA v i
      have hel := tg_el (pT (aG A) (aV A v).1 ((aV A v).2.1 + pw i)) (aN A).toNat
      have hn0 : 0 ≤ aN A := hA.1.1
      have hsk1 : wI u1 47 36 = -1 := by rw [fr_I f1 rfl]; exact hu.2
      obtain ⟨u2, e2, f2, g2⟩ := d152 (sc := sc) (MS_fr hMu1 f1 rfl) hg t1 hm (fun z hz => by
        have := hel z hz
        exact ⟨this.1, by have := this.2.1; omega⟩) hL ho.2.1 ho.2.2 hsk1 (by omega) (by omega)
      have g2' : HS u2 (nS A v i) := g2
      have e3 := d159 (sc := sc) g2' hT (by omega)
      have e4 := d176l (sc := sc) g2' hT (by omega) (v := v) (b := (nxt A v i).1) (e := (nxt A v i).2) (i := i)
      have hG := g2'.1
      have hlk := lkS_ran hT hT1 (m := (nS A v i).1) (by omega)
      have hna := nA_ran hA v i
      have f12 : fr scM w u2 := fr_t hu.1 (fr_t (fr_m f1 rfl) (fr_m f2 rfl))
      refine ⟨u2, ?_, f12, by rw [fr_I f2 rfl]; exact hsk1⟩
      simp (disch := omega) only [qB_s, qC_t, qC_f, qI_T, qI_F, qI_t, qI_f, r_I, r_L, r_R, r_V, ii_add, ii_sub, ii_mul, ii_neg, bz_0, bz_1, Bool.true_and, Bool.false_and, Bool.and_true, z00, z11, li_0, li_1, li_2, li_31, li_6, e_54, gI_47_33, gR_47_11, is_47, ii_lt, ii_eq, h54, hbi, hsh, e1, e2]
      rw [e4, wq_176_62, nxt_s]
      have hnA : nA A v i = if 0 ≤ lkS (nS A v i) (nS A v i).1 then lkS (nS A v i) (nS A v i).1 else -lkS (nS A v i) (nS A v i).1 := rfl
      by_cases q0 : lkS (nS A v i) (nS A v i).1 < 0
      · rw [if_neg (by omega)] at hnA
        cases q2 : anm (nS A v i) (nS A v i).1 with
        | false =>
          rw [if_neg (fun z => by simp at z), bz_f (by decide)]
          simp (disch := omega) only [qB_s, qC_t, qC_f, qI_T, qI_F, qI_t, qI_f, r_I, r_L, r_R, r_V, ii_add, ii_sub, ii_mul, ii_neg, bz_0, bz_1, Bool.true_and, Bool.false_and, Bool.and_true, z00, z11, li_0, li_1, li_2, li_31, li_6, e_54, gI_47_33, gR_47_11, is_47, ii_lt, ii_eq, hG, e3, nat_1]
        | true =>
          rw [bz_t rfl]
          by_cases q3 : (nxt A v i).1 < 0
          · rw [if_pos ⟨q, rfl, .inl q3⟩, hnA]
            simp (disch := omega) only [qB_s, qC_t, qC_f, qI_T, qI_F, qI_t, qI_f, r_I, r_L, r_R, r_V, ii_add, ii_sub, ii_mul, ii_neg, bz_0, bz_1, Bool.true_and, Bool.false_and, Bool.and_true, z00, z11, li_0, li_1, li_2, li_31, li_6, e_54, gI_47_33, gR_47_11, is_47, ii_lt, ii_eq, hG, e3, nat_1]
          · by_cases q4 : nA A v i < (nxt A v i).2
            · rw [if_pos ⟨q, rfl, .inr q4⟩, hnA]
              simp (disch := omega) only [qB_s, qC_t, qC_f, qI_T, qI_F, qI_t, qI_f, r_I, r_L, r_R, r_V, ii_add, ii_sub, ii_mul, ii_neg, bz_0, bz_1, Bool.true_and, Bool.false_and, Bool.and_true, z00, z11, li_0, li_1, li_2, li_31, li_6, e_54, gI_47_33, gR_47_11, is_47, ii_lt, ii_eq, hG, e3, nat_1]
            · rw [if_neg (by omega)]
              simp (disch := omega) only [qB_s, qC_t, qC_f, qI_T, qI_F, qI_t, qI_f, r_I, r_L, r_R, r_V, ii_add, ii_sub, ii_mul, ii_neg, bz_0, bz_1, Bool.true_and, Bool.false_and, Bool.and_true, z00, z11, li_0, li_1, li_2, li_31, li_6, e_54, gI_47_33, gR_47_11, is_47, ii_lt, ii_eq, hG, e3, nat_1]
      · rw [if_pos (by omega)] at hnA
        cases q2 : anm (nS A v i) (nS A v i).1 with
        | false =>
          rw [if_neg (fun z => by simp at z), bz_f (by decide)]
          simp (disch := omega) only [qB_s, qC_t, qC_f, qI_T, qI_F, qI_t, qI_f, r_I, r_L, r_R, r_V, ii_add, ii_sub, ii_mul, ii_neg, bz_0, bz_1, Bool.true_and, Bool.false_and, Bool.and_true, z00, z11, li_0, li_1, li_2, li_31, li_6, e_54, gI_47_33, gR_47_11, is_47, ii_lt, ii_eq, hG, e3, nat_1]
        | true =>
          rw [bz_t rfl]
          by_cases q3 : (nxt A v i).1 < 0
          · rw [if_pos ⟨q, rfl, .inl q3⟩, hnA]
            simp (disch := omega) only [qB_s, qC_t, qC_f, qI_T, qI_F, qI_t, qI_f, r_I, r_L, r_R, r_V, ii_add, ii_sub, ii_mul, ii_neg, bz_0, bz_1, Bool.true_and, Bool.false_and, Bool.and_true, z00, z11, li_0, li_1, li_2, li_31, li_6, e_54, gI_47_33, gR_47_11, is_47, ii_lt, ii_eq, hG, e3, nat_1]
          · by_cases q4 : nA A v i < (nxt A v i).2
            · rw [if_pos ⟨q, rfl, .inr q4⟩, hnA]
              simp (disch := omega) only [qB_s, qC_t, qC_f, qI_T, qI_F, qI_t, qI_f, r_I, r_L, r_R, r_V, ii_add, ii_sub, ii_mul, ii_neg, bz_0, bz_1, Bool.true_and, Bool.false_and, Bool.and_true, z00, z11, li_0, li_1, li_2, li_31, li_6, e_54, gI_47_33, gR_47_11, is_47, ii_lt, ii_eq, hG, e3, nat_1]
            · rw [if_neg (by omega)]
              simp (disch := omega) only [qB_s, qC_t, qC_f, qI_T, qI_F, qI_t, qI_f, r_I, r_L, r_R, r_V, ii_add, ii_sub, ii_mul, ii_neg, bz_0, bz_1, Bool.true_and, Bool.false_and, Bool.and_true, z00, z11, li_0, li_1, li_2, li_31, li_6, e_54, gI_47_33, gR_47_11, is_47, ii_lt, ii_eq, hG, e3, nat_1]
    · refine ⟨u, ?_, hu⟩
      rw [nxt_s, if_neg (fun z => q z.1)]
      simp (disch := omega) only [qB_s, qC_t, qC_f, qI_T, qI_F, qI_t, qI_f, r_I, r_L, r_R, r_V, ii_add, ii_sub, ii_mul, ii_neg, bz_0, bz_1, Bool.true_and, Bool.false_and, Bool.and_true, z00, z11, li_0, li_1, li_2, li_31, li_6, e_54, gI_47_33, gR_47_11, is_47, ii_lt, ii_eq, h54, hbi, nat_1]) w ⟨fr_r _ _, hsk⟩
  refine ⟨u, ?_, hfr⟩
  have e' : am_W sc 176 (18, [some (am_R (some 47)), some (am_I (ii v)), some (am_I (ii (-2))), some (am_I (ii 0)), some (am_I (ii 0)), none, none], [], wst w) = _ := e
  rw [e', wq_176_18]
  simp (disch := omega) only [qB_s, qC_t, qC_f, qI_T, qI_F, qI_t, qI_f, r_I, r_L, r_R, r_V, ii_add, ii_sub, ii_mul, ii_neg, bz_0, bz_1, Bool.true_and, Bool.false_and, Bool.and_true, z00, z11, li_0, li_1, li_2, li_31, li_6, e_54, gI_47_33, gR_47_11, is_47, ii_lt]
theorem x_175 (hC : RC ow w A) (hA : okA A) {v : Int} (hv1 : -2147483648 ≤ v) (hv2 : v ≤ 2147483647) : ∃ u, am_F sc 175 [am_R (some 0), am_I (ii v)] (wst w) = some (some (am_I (ii (if (0 ≤ v ∧ v < A.2.2.1.1) then (nxt A v 6).1 else -1))), wst u) ∧ fr scC w u := by
  have hn8 := hA.2.2.1.2.1
  have hn0 := hA.2.2.1.1
  by_cases q1 : 0 ≤ v ∧ v < A.2.2.1.1
  · skip
    rw [if_pos (by omega)]
    obtain ⟨a, eV, h113⟩ := (c113 (sc := sc) hC.2.2.2.2.1 hA.2.2.1.1 hA.2.2.1.2.1 hv1 hv2).1 q1
    obtain ⟨u, e2, f2⟩ := c175 (sc := sc) hC hA q1 eV
    refine ⟨u, ?_, f2⟩
    rw [fq_175]
    simp (disch := omega) only [qB_s, qC_t, qC_f, qI_T, qI_F, qI_t, qI_f, r_I, r_L, r_R, r_V, ii_add, ii_sub, ii_mul, ii_neg, bz_0, bz_1, Bool.true_and, Bool.false_and, Bool.and_true, z00, z11, li_0, li_1, li_2, li_31, li_6, gR_0_9, is_0, is_22, h113, Option.isNone_some, e2]
  · rw [if_neg (by omega)]
    have h113 := (c113 (sc := sc) hC.2.2.2.2.1 hA.2.2.1.1 hA.2.2.1.2.1 hv1 hv2).2 q1
    exact ⟨w, by
      rw [fq_175]
      simp (disch := omega) only [qB_s, qC_t, qC_f, qI_T, qI_F, qI_t, qI_f, r_I, r_L, r_R, r_V, ii_add, ii_sub, ii_mul, ii_neg, bz_0, bz_1, Bool.true_and, Bool.false_and, Bool.and_true, z00, z11, li_0, li_1, li_2, li_31, li_6, gR_0_9, is_0, is_22, ii_lt, ii_eq, ii_jj, jj_neg, h113, Option.isNone_none], fr_r _ _⟩

theorem y_176 (hM : RM w A) (hsk : wI w 47 36 = -1) (hA : okA A) {v : Int} (hv1 : -2147483648 ≤ v) (hv2 : v ≤ 2147483647) : ∃ u, am_F sc 176 [am_R (some 47), am_I (ii v)] (wst w) = some (some (am_I (ii (if (0 ≤ v ∧ v < A.2.2.1.1) then (nxt A v 6).1 else -1))), wst u) ∧ fr scM w u := by
  have hn8 := hA.2.2.1.2.1
  have hn0 := hA.2.2.1.1
  have h120 := d120 (sc := sc) hM hn8 hn0 (v := v) hv1 hv2
  by_cases q1 : 0 ≤ v ∧ v < A.2.2.1.1
  · skip
    rw [if_pos (by omega)]
    obtain ⟨u, e2, f2⟩ := d176 (sc := sc) hM hA hsk q1
    refine ⟨u, ?_, f2⟩
    rw [fq_176]
    simp (disch := omega) only [qB_s, qC_t, qC_f, qI_T, qI_F, qI_t, qI_f, r_I, r_L, r_R, r_V, ii_add, ii_sub, ii_mul, ii_neg, bz_0, bz_1, Bool.true_and, Bool.false_and, Bool.and_true, z00, z11, li_0, li_1, li_2, li_31, li_6, e_54, gI_47_33, gR_47_11, is_47, h120, ii_eq, e2]
  · rw [if_neg (by omega)]
    exact ⟨w, by
      rw [fq_176]
      simp (disch := omega) only [qB_s, qC_t, qC_f, qI_T, qI_F, qI_t, qI_f, r_I, r_L, r_R, r_V, ii_add, ii_sub, ii_mul, ii_neg, bz_0, bz_1, Bool.true_and, Bool.false_and, Bool.and_true, z00, z11, li_0, li_1, li_2, li_31, li_6, e_54, gI_47_33, gR_47_11, is_47, ii_lt, ii_eq, ii_jj, jj_neg, h120], fr_r _ _⟩

end L34
