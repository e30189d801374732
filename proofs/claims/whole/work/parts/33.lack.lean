/-! GROUP; LACK -/
/-- a group is mixed; how many would; how many lack -/
abbrev mx (s : gst) (j : Int) : Prop := 0 < s.2.2 j 0 ∧ 0 < s.2.2 j 2
def wd (s : gst) (j : Int) : Int := if mx s j then s.2.2 j 2 * s.2.2 j 1 * 1000 / s.2.2 j 0 else -1
def lk1 (s : gst) (j : Int) : Int := if mx s j then s.2.2 j 2 * s.2.2 j 1 * 1000 / s.2.2 j 0 - 1000 * s.2.2 j 3 else 0
def lkS (s : gst) (m : Nat) : Int := sm (fun j => lk1 s j) m
/-- what a view's groups are -/
def grV (A : ab) (v : Int) : gst := gp (aG A) (aV A v).2.1 (vF A v) (-1) (vM A v)
def gT (s : gst) (M : Int) : Prop := ∀ j c : Int, 0 ≤ s.2.2 j c ∧ s.2.2 j c ≤ M
theorem gT_of (g : Int → Int → Int) (l : Int) (f : Nat → Int) (sk : Int) {m : Nat} (hm : m ≤ 200) : gT (gp g l f sk m) 200 := fun j c => by
  have := (gp_T g l f sk m j c).1
  omega
theorem mul3 (a b : Int) : 1000 * a * b = a * b * 1000 := by
  rw [Int.mul_assoc, Int.mul_comm]
section L33
variable {sc : am_X} {w : wo} {A : ab} {ow : Nat → Nat} {n : Int} {g : Int → Int → Int} {l : Int} {s : gst}
theorem c147 (h : GS w g l s) {j c : Int} (j0 : 0 ≤ j) (j1 : j < 200) (c0 : 0 ≤ c) (c1 : c < 4) : am_F sc 147 [am_R (some 22), am_I (ii j), am_I (ii c)] (wst w) = some (some (am_I (ii (s.2.2 j c))), wst w) := by
  have e := h.2.2 j c j0 j1 c0 c1
  have q : j * 4 + c = 4 * j + c := by omega
  rw [fq_147]
  simp (disch := omega) only [qB_s, qC_t, qC_f, qI_T, qI_F, qI_t, qI_f, r_I, r_L, r_R, r_V, ii_add, ii_sub, ii_mul, ii_neg, bz_0, bz_1, Bool.true_and, Bool.false_and, Bool.and_true, z00, z11, li_0, li_4, li_nat, e_27, gR_22_7, len_27, ii_lt, li_nat, q, e]
theorem c148 (h : GS w g l s) (hT : gT s 200) {j : Int} (j0 : 0 ≤ j) (j1 : j < 200) : am_F sc 148 [am_R (some 22), am_I (ii j)] (wst w) = some (some (am_I (ii (bz (mx s j)))), wst w) := by
  have p0 := c147 (sc := sc) h j0 j1 (c := 0) (by omega) (by omega)
  have p2 := c147 (sc := sc) h j0 j1 (c := 2) (by omega) (by omega)
  have h0 := hT j 0
  have h2 := hT j 2
  rw [fq_148]
  unfold bz mx
  by_cases q : 0 < s.2.2 j 0
  · by_cases q2 : 0 < s.2.2 j 2
    · rw [if_pos ⟨q, q2⟩]
      simp (disch := omega) only [qB_s, qC_t, qC_f, qI_T, qI_F, qI_t, qI_f, r_I, r_L, r_R, r_V, ii_add, ii_sub, ii_mul, ii_neg, bz_0, bz_1, Bool.true_and, Bool.false_and, Bool.and_true, z00, z11, li_0, li_1, li_2, is_22, ii_lt, p0, p2]
    · rw [if_neg (by omega)]
      simp (disch := omega) only [qB_s, qC_t, qC_f, qI_T, qI_F, qI_t, qI_f, r_I, r_L, r_R, r_V, ii_add, ii_sub, ii_mul, ii_neg, bz_0, bz_1, Bool.true_and, Bool.false_and, Bool.and_true, z00, z11, li_0, li_1, li_2, is_22, ii_lt, p0, p2]
  · rw [if_neg (by omega)]
    simp (disch := omega) only [qB_s, qC_t, qC_f, qI_T, qI_F, qI_t, qI_f, r_I, r_L, r_R, r_V, ii_add, ii_sub, ii_mul, ii_neg, bz_0, bz_1, Bool.true_and, Bool.false_and, Bool.and_true, z00, z11, li_0, li_1, li_2, is_22, ii_lt, p0, p2]
theorem c149 (h : GS w g l s) (hT : gT s 200) {j : Int} (j0 : 0 ≤ j) (j1 : j < 200) : am_F sc 149 [am_R (some 22), am_I (ii j)] (wst w) = some (some (am_I (ii (wd s j))), wst w) := by
  have p0 := c147 (sc := sc) h j0 j1 (c := 0) (by omega) (by omega)
  have p1 := c147 (sc := sc) h j0 j1 (c := 1) (by omega) (by omega)
  have p2 := c147 (sc := sc) h j0 j1 (c := 2) (by omega) (by omega)
  have p3 := c148 (sc := sc) h hT j0 j1
  have h0 := hT j 0
  have h1 := hT j 1
  have h2 := hT j 2
  have m1 := mul_ran (a := s.2.2 j 2) (b := s.2.2 j 1) (M := 200) h2.1 h2.2 h1.1 h1.2
  have m2 := mul3 (s.2.2 j 2) (s.2.2 j 1)
  rw [fq_149]
  unfold wd
  by_cases q : 0 < s.2.2 j 0
  · by_cases q2 : 0 < s.2.2 j 2
    · rw [bz_t (p := mx s j) ⟨q, q2⟩] at p3
      rw [if_pos (show mx s j from ⟨q, q2⟩)]
      simp (disch := omega) only [qB_s, qC_t, qC_f, qI_T, qI_F, qI_t, qI_f, r_I, r_L, r_R, r_V, ii_add, ii_sub, ii_mul, ii_neg, bz_0, bz_1, Bool.true_and, Bool.false_and, Bool.and_true, z00, z11, li_0, li_1, li_1000, li_2, is_22, ii_lt, ii_eq, p0, p1, p2, p3, ii_div, m2]
    · rw [bz_f (p := mx s j) (fun z => q2 z.2)] at p3
      rw [if_neg (show ¬ mx s j from fun z => q2 z.2)]
      simp (disch := omega) only [qB_s, qC_t, qC_f, qI_T, qI_F, qI_t, qI_f, r_I, r_L, r_R, r_V, ii_add, ii_sub, ii_mul, ii_neg, bz_0, bz_1, Bool.true_and, Bool.false_and, Bool.and_true, z00, z11, li_0, li_1, li_1000, li_2, is_22, ii_lt, ii_eq, p0, p1, p2, p3]
  · rw [if_neg (show ¬ mx s j from fun z => q z.1)]
    simp (disch := omega) only [qB_s, qC_t, qC_f, qI_T, qI_F, qI_t, qI_f, r_I, r_L, r_R, r_V, ii_add, ii_sub, ii_mul, ii_neg, bz_0, bz_1, Bool.true_and, Bool.false_and, Bool.and_true, z00, z11, li_0, li_1, li_1000, li_2, is_22, ii_lt, ii_eq, p0, p1, p2, p3]
theorem c156 (h : GS w g l s) (hT : gT s 200) {j : Int} (j0 : 0 ≤ j) (j1 : j < 200) : am_F sc 156 [am_R (some 22), am_I (ii j)] (wst w) = some (some (am_I (ii (lk1 s j))), wst w) := by
  have p0 := c149 (sc := sc) h hT j0 j1
  have p2 := c147 (sc := sc) h j0 j1 (c := 3) (by omega) (by omega)
  have p3 := c148 (sc := sc) h hT j0 j1
  rw [fq_156]
  unfold lk1
  unfold wd at p0
  by_cases q : mx s j
  · rw [bz_t q] at p3
    rw [if_pos q] at p0 ⊢
    simp (disch := omega) only [qB_s, qC_t, qC_f, qI_T, qI_F, qI_t, qI_f, r_I, r_L, r_R, r_V, ii_add, ii_sub, ii_mul, ii_neg, bz_0, bz_1, Bool.true_and, Bool.false_and, Bool.and_true, z00, z11, li_0, li_1000, li_3, is_22, ii_lt, ii_eq, p0, p2, p3]
  · rw [bz_f q] at p3
    rw [if_neg q]
    simp (disch := omega) only [qB_s, qC_t, qC_f, qI_T, qI_F, qI_t, qI_f, r_I, r_L, r_R, r_V, ii_add, ii_sub, ii_mul, ii_neg, bz_0, bz_1, Bool.true_and, Bool.false_and, Bool.and_true, z00, z11, li_0, li_1000, li_3, is_22, ii_lt, ii_eq, p3]
theorem c157 (h : GS w g l s) (hT : gT s 200) (hs : s.1 ≤ 200) : am_F sc 157 [am_R (some 22)] (wst w) = some (some (am_I (ii (lkS s s.1))), wst w) := by
  have hG := h.1
  have e := lp_0 (am_W sc 157) (fun j : Nat => (4, [some (am_R (some 22)), some (am_I (ii (lkS s j))), some (am_I (ii j))], [], wst w)) s.1 (fun j hj => by
    have p := c156 (sc := sc) h hT (j := j) (by omega) (by omega)
    rw [wq_157_4, show lkS s (j + 1) = lkS s j + lk1 s j from rfl]
    simp (disch := omega) only [qB_s, qC_t, qC_f, qI_T, qI_F, qI_t, qI_f, r_I, r_L, r_R, r_V, ii_add, ii_sub, ii_mul, ii_neg, bz_0, bz_1, Bool.true_and, Bool.false_and, Bool.and_true, z00, z11, li_0, li_1, gI_22_8, is_22, hG, ii_lt, p, nat_1])
  have e' : am_W sc 157 (4, [some (am_R (some 22)), some (am_I (ii 0)), some (am_I (ii 0))], [], wst w) = _ := e
  rw [fq_157, li_0, e', wq_157_4]
  simp (disch := omega) only [qB_s, qC_t, qC_f, qI_T, qI_F, qI_t, qI_f, r_I, r_L, r_R, r_V, ii_add, ii_sub, ii_mul, ii_neg, bz_0, bz_1, Bool.true_and, Bool.false_and, Bool.and_true, z00, z11, li_0, li_1, gI_22_8, is_22, hG, ii_lt]
theorem d153 (h : HS w s) (hT : gT s 200) (hs : s.1 ≤ 200) {j : Int} (j0 : 0 ≤ j) (j1 : j < s.1) : am_F sc 153 [am_R (some 47), am_I (ii j)] (wst w) = some (some (am_I (ii (bz (mx s j)))), wst w) := by
  have p0 := h.2.2 j 0 j0 j1 (by omega) (by omega)
  have p2 := h.2.2 j 2 j0 j1 (by omega) (by omega)
  rw [Int.add_zero] at p0
  have h0 := hT j 0
  have h2 := hT j 2
  rw [fq_153]
  unfold bz mx
  by_cases q : 0 < s.2.2 j 0
  · by_cases q2 : 0 < s.2.2 j 2
    · rw [if_pos ⟨q, q2⟩]
      simp (disch := omega) only [qB_s, qC_t, qC_f, qI_T, qI_F, qI_t, qI_f, r_I, r_L, r_R, r_V, ii_add, ii_sub, ii_mul, ii_neg, bz_0, bz_1, Bool.true_and, Bool.false_and, Bool.and_true, z00, z11, li_0, li_1, li_2, li_4, e_64, gR_47_35, ii_lt, p0, p2]
    · rw [if_neg (by omega)]
      simp (disch := omega) only [qB_s, qC_t, qC_f, qI_T, qI_F, qI_t, qI_f, r_I, r_L, r_R, r_V, ii_add, ii_sub, ii_mul, ii_neg, bz_0, bz_1, Bool.true_and, Bool.false_and, Bool.and_true, z00, z11, li_0, li_1, li_2, li_4, e_64, gR_47_35, ii_lt, p0, p2]
  · rw [if_neg (by omega)]
    simp (disch := omega) only [qB_s, qC_t, qC_f, qI_T, qI_F, qI_t, qI_f, r_I, r_L, r_R, r_V, ii_add, ii_sub, ii_mul, ii_neg, bz_0, bz_1, Bool.true_and, Bool.false_and, Bool.and_true, z00, z11, li_0, li_1, li_2, li_4, e_64, gR_47_35, ii_lt, p0]
theorem d154 (h : HS w s) (hT : gT s 200) (hs : s.1 ≤ 200) {j : Int} (j0 : 0 ≤ j) (j1 : j < s.1) (q : mx s j) : am_F sc 154 [am_R (some 47), am_I (ii j)] (wst w) = some (some (am_I (ii (s.2.2 j 2 * s.2.2 j 1 * 1000 / s.2.2 j 0))), wst w) := by
  have p0 := h.2.2 j 0 j0 j1 (by omega) (by omega)
  have p1 := h.2.2 j 1 j0 j1 (by omega) (by omega)
  have p2 := h.2.2 j 2 j0 j1 (by omega) (by omega)
  rw [Int.add_zero] at p0
  have h0 := hT j 0
  have h1 := hT j 1
  have h2 := hT j 2
  have q1 := q.1
  have m1 := mul_ran (a := s.2.2 j 2) (b := s.2.2 j 1) (M := 200) h2.1 h2.2 h1.1 h1.2
  rw [fq_154]
  simp (disch := omega) only [qB_s, qC_t, qC_f, qI_T, qI_F, qI_t, qI_f, r_I, r_L, r_R, r_V, ii_add, ii_sub, ii_mul, ii_neg, bz_0, bz_1, Bool.true_and, Bool.false_and, Bool.and_true, z00, z11, li_0, li_1, li_1000, li_2, li_4, e_64, gR_47_35, ii_lt, ii_eq, p0, p1, p2, ii_div]
theorem d159 (h : HS w s) (hT : gT s 200) (hs : s.1 ≤ 200) : am_F sc 159 [am_R (some 47)] (wst w) = some (some (am_I (ii (lkS s s.1))), wst w) := by
  have hG := h.1
  have e := lp_0 (am_W sc 159) (fun j : Nat => (4, [some (am_R (some 47)), some (am_I (ii (lkS s j))), some (am_I (ii j))], [], wst w)) s.1 (fun j hj => by
    have p := d153 (sc := sc) h hT hs (j := j) (by omega) (by omega)
    have p3 := h.2.2 j 3 (by omega) (by omega) (by omega) (by omega)
    rw [wq_159_4, show lkS s (j + 1) = lkS s j + lk1 s j from rfl]
    unfold lk1
    by_cases q : mx s j
    · have p2 := d154 (sc := sc) h hT hs (j := j) (by omega) (by omega) q
      rw [bz_t q] at p
      rw [if_pos q]
      simp (disch := omega) only [qB_s, qC_t, qC_f, qI_T, qI_F, qI_t, qI_f, r_I, r_L, r_R, r_V, ii_add, ii_sub, ii_mul, ii_neg, bz_0, bz_1, Bool.true_and, Bool.false_and, Bool.and_true, z00, z11, li_0, li_1, li_1000, li_3, li_4, e_64, gI_47_33, gR_47_35, is_47, hG, ii_lt, ii_eq, p, p2, p3, nat_1]
    · rw [bz_f q] at p
      rw [if_neg q]
      simp (disch := omega) only [qB_s, qC_t, qC_f, qI_T, qI_F, qI_t, qI_f, r_I, r_L, r_R, r_V, ii_add, ii_sub, ii_mul, ii_neg, bz_0, bz_1, Bool.true_and, Bool.false_and, Bool.and_true, z00, z11, li_0, li_1, li_1000, li_3, li_4, e_64, gI_47_33, gR_47_35, is_47, hG, ii_lt, ii_eq, p, nat_1, Int.add_zero])
  have e' : am_W sc 159 (4, [some (am_R (some 47)), some (am_I (ii 0)), some (am_I (ii 0))], [], wst w) = _ := e
  rw [fq_159, li_0, e', wq_159_4]
  simp (disch := omega) only [qB_s, qC_t, qC_f, qI_T, qI_F, qI_t, qI_f, r_I, r_L, r_R, r_V, ii_add, ii_sub, ii_mul, ii_neg, bz_0, bz_1, Bool.true_and, Bool.false_and, Bool.and_true, z00, z11, li_0, li_1, li_1000, li_3, li_4, e_64, gI_47_33, gR_47_35, is_47, hG, ii_lt]
theorem x_150 (hC : RC ow w A) (hA : okA A) {v k x : Int} (hv1 : -2147483648 ≤ v) (hv2 : v ≤ 2147483647) (hk1 : -2147483648 ≤ k) (hk2 : k ≤ 2147483647) (hx1 : -2147483648 ≤ x) (hx2 : x ≤ 2147483647) : ∃ u, am_F sc 150 [am_R (some 0), am_I (ii v), am_I (ii k), am_I (ii x)] (wst w) = some (some (am_I (ii (if (0 ≤ v ∧ v < A.2.2.1.1) then if k = -1 then ((grV A v).1 : Int) else if 0 ≤ k ∧ k < (grV A v).1 ∧ 0 ≤ x ∧ x ≤ 4 then (if x = 4 then wd (grV A v) k else (grV A v).2.2 k x) else -1 else -1))), wst u) ∧ fr scC w u := by
  have hn8 := hA.2.2.1.2.1
  have hn0 := hA.2.2.1.1
  by_cases q1 : 0 ≤ v ∧ v < A.2.2.1.1
  · skip
    rw [if_pos (by omega)]
    obtain ⟨u, e1, f1, t1, hL⟩ := (c117 (sc := sc) hC hA hv1 hv2).1 q1
    have hCu := RC_c hC (fr_m f1 rfl)
    have hm := vM_le hA v
    have hg := hA.1.2.2.1
    have hst := stg hA v
    have hok : ∀ i, i < vM A v → 0 ≤ vF A v i ∧ vF A v i < A.1.1 := fun i hi => vF_ok hA v hi
    have hx := hA.2.2.1.2.2 v q1.1 q1.2
    obtain ⟨u2, e2, f2, g2, -⟩ := c146 (sc := sc) hCu.1 hg t1 hm hok hL hx.2.1.1 hx.2.1.2 (fun i hi => vF_lm v hi)
    have g2' : GS u2 (aG A) (aV A v).2.1 (grV A v) := g2
    have hT : gT (grV A v) 200 := gT_of _ _ _ _ hm
    have hG := g2'.1
    have hGl : (grV A v).1 ≤ vM A v := gp_le _ _ _ _ _
    have f12 : fr scC w u2 := fr_t (fr_m f1 rfl) (fr_m f2 rfl)
    refine ⟨u2, ?_, f12⟩
    rw [fq_150]
    by_cases q2 : k = -1
    · rw [if_pos q2]
      simp (disch := omega) only [qB_s, qC_t, qC_f, qI_T, qI_F, qI_t, qI_f, r_I, r_L, r_R, r_V, ii_add, ii_sub, ii_mul, ii_neg, bz_0, bz_1, Bool.true_and, Bool.false_and, Bool.and_true, z00, z11, li_0, li_1, li_4, gI_22_8, gR_0_9, is_0, is_22, e1, e2, ii_eq, hG]
    · rw [if_neg q2]
      by_cases q3 : 0 ≤ k ∧ k < (grV A v).1 ∧ 0 ≤ x ∧ x ≤ 4
      · rw [if_pos q3]
        by_cases q4 : x = 4
        · have e3 := c149 (sc := sc) g2' hT (j := k) (by omega) (by omega)
          rw [if_pos q4]
          simp (disch := omega) only [qB_s, qC_t, qC_f, qI_T, qI_F, qI_t, qI_f, r_I, r_L, r_R, r_V, ii_add, ii_sub, ii_mul, ii_neg, bz_0, bz_1, Bool.true_and, Bool.false_and, Bool.and_true, z00, z11, li_0, li_1, li_4, gI_22_8, gR_0_9, is_0, is_22, e1, e2, e3, ii_eq, ii_lt, hG]
        · have e3 := c147 (sc := sc) g2' (j := k) (c := x) (by omega) (by omega) (by omega) (by omega)
          rw [if_neg q4]
          simp (disch := omega) only [qB_s, qC_t, qC_f, qI_T, qI_F, qI_t, qI_f, r_I, r_L, r_R, r_V, ii_add, ii_sub, ii_mul, ii_neg, bz_0, bz_1, Bool.true_and, Bool.false_and, Bool.and_true, z00, z11, li_0, li_1, li_4, gI_22_8, gR_0_9, is_0, is_22, e1, e2, e3, ii_eq, ii_lt, hG]
      · rw [if_neg q3]
        by_cases q4 : k < 0
        · simp (disch := omega) only [qB_s, qC_t, qC_f, qI_T, qI_F, qI_t, qI_f, r_I, r_L, r_R, r_V, ii_add, ii_sub, ii_mul, ii_neg, bz_0, bz_1, Bool.true_and, Bool.false_and, Bool.and_true, z00, z11, li_0, li_1, li_4, gI_22_8, gR_0_9, is_0, is_22, e1, e2, ii_eq, ii_lt, hG]
        · by_cases q5 : k < (grV A v).1
          · by_cases q6 : x < 0
            · simp (disch := omega) only [qB_s, qC_t, qC_f, qI_T, qI_F, qI_t, qI_f, r_I, r_L, r_R, r_V, ii_add, ii_sub, ii_mul, ii_neg, bz_0, bz_1, Bool.true_and, Bool.false_and, Bool.and_true, z00, z11, li_0, li_1, li_4, gI_22_8, gR_0_9, is_0, is_22, e1, e2, ii_eq, ii_lt, hG]
            · simp (disch := omega) only [qB_s, qC_t, qC_f, qI_T, qI_F, qI_t, qI_f, r_I, r_L, r_R, r_V, ii_add, ii_sub, ii_mul, ii_neg, bz_0, bz_1, Bool.true_and, Bool.false_and, Bool.and_true, z00, z11, li_0, li_1, li_4, gI_22_8, gR_0_9, is_0, is_22, e1, e2, ii_eq, ii_lt, hG]
          · simp (disch := omega) only [qB_s, qC_t, qC_f, qI_T, qI_F, qI_t, qI_f, r_I, r_L, r_R, r_V, ii_add, ii_sub, ii_mul, ii_neg, bz_0, bz_1, Bool.true_and, Bool.false_and, Bool.and_true, z00, z11, li_0, li_1, li_4, gI_22_8, gR_0_9, is_0, is_22, e1, e2, ii_eq, ii_lt, hG]
  · rw [if_neg (by omega)]
    have h117 := (c117 (sc := sc) hC hA hv1 hv2).2 q1
    exact ⟨w, by
      rw [fq_150]
      simp (disch := omega) only [qB_s, qC_t, qC_f, qI_T, qI_F, qI_t, qI_f, r_I, r_L, r_R, r_V, ii_add, ii_sub, ii_mul, ii_neg, bz_0, bz_1, Bool.true_and, Bool.false_and, Bool.and_true, z00, z11, li_0, li_1, li_4, gI_22_8, gR_0_9, is_0, is_22, ii_lt, ii_eq, ii_jj, jj_neg, h117], fr_r _ _⟩

theorem x_287 (hC : RC ow w A) (hA : okA A) {v : Int} (hv1 : -2147483648 ≤ v) (hv2 : v ≤ 2147483647) : ∃ u, am_F sc 287 [am_R (some 0), am_I (ii v)] (wst w) = some (some (am_I (ii (if (0 ≤ v ∧ v < A.2.2.1.1) then lkS (grV A v) (grV A v).1 else -1000000))), wst u) ∧ fr scC w u := by
  have hn8 := hA.2.2.1.2.1
  have hn0 := hA.2.2.1.1
  by_cases q1 : 0 ≤ v ∧ v < A.2.2.1.1
  · skip
    rw [if_pos (by omega)]
    obtain ⟨u, e1, f1, t1, hL⟩ := (c117 (sc := sc) hC hA hv1 hv2).1 q1
    have hCu := RC_c hC (fr_m f1 rfl)
    have hm := vM_le hA v
    have hg := hA.1.2.2.1
    have hst := stg hA v
    have hok : ∀ i, i < vM A v → 0 ≤ vF A v i ∧ vF A v i < A.1.1 := fun i hi => vF_ok hA v hi
    have hx := hA.2.2.1.2.2 v q1.1 q1.2
    obtain ⟨u2, e2, f2, g2, -⟩ := c146 (sc := sc) hCu.1 hg t1 hm hok hL hx.2.1.1 hx.2.1.2 (fun i hi => vF_lm v hi)
    have g2' : GS u2 (aG A) (aV A v).2.1 (grV A v) := g2
    have hT : gT (grV A v) 200 := gT_of _ _ _ _ hm
    have hG := g2'.1
    have hGl : (grV A v).1 ≤ vM A v := gp_le _ _ _ _ _
    have f12 : fr scC w u2 := fr_t (fr_m f1 rfl) (fr_m f2 rfl)
    have e3 := c157 (sc := sc) g2' hT (by omega)
    refine ⟨u2, ?_, f12⟩
    rw [fq_287]
    simp (disch := omega) only [qB_s, qC_t, qC_f, qI_T, qI_F, qI_t, qI_f, r_I, r_L, r_R, r_V, ii_add, ii_sub, ii_mul, ii_neg, bz_0, bz_1, Bool.true_and, Bool.false_and, Bool.and_true, z00, z11, li_0, li_1000000, gR_0_9, is_0, is_22, e1, e2, e3, ii_eq, ii_lt, hG]
  · rw [if_neg (by omega)]
    have h117 := (c117 (sc := sc) hC hA hv1 hv2).2 q1
    exact ⟨w, by
      rw [fq_287]
      simp (disch := omega) only [qB_s, qC_t, qC_f, qI_T, qI_F, qI_t, qI_f, r_I, r_L, r_R, r_V, ii_add, ii_sub, ii_mul, ii_neg, bz_0, bz_1, Bool.true_and, Bool.false_and, Bool.and_true, z00, z11, li_0, li_1000000, gR_0_9, is_0, is_22, ii_lt, ii_eq, ii_jj, jj_neg, h117], fr_r _ _⟩

theorem y_155 (hM : RM w A) (hsk : wI w 47 36 = -1) (hA : okA A) {v k x : Int} (hv1 : -2147483648 ≤ v) (hv2 : v ≤ 2147483647) (hk1 : -2147483648 ≤ k) (hk2 : k ≤ 2147483647) (hx1 : -2147483648 ≤ x) (hx2 : x ≤ 2147483647) : ∃ u, am_F sc 155 [am_R (some 47), am_I (ii v), am_I (ii k), am_I (ii x)] (wst w) = some (some (am_I (ii (if (0 ≤ v ∧ v < A.2.2.1.1) then if k = -1 then ((grV A v).1 : Int) else if 0 ≤ k ∧ k < (grV A v).1 ∧ 0 ≤ x ∧ x ≤ 4 then (if x = 4 then wd (grV A v) k else (grV A v).2.2 k x) else -1 else -1))), wst u) ∧ fr scM w u := by
  have hn8 := hA.2.2.1.2.1
  have hn0 := hA.2.2.1.1
  have h120 := d120 (sc := sc) hM hn8 hn0 (v := v) hv1 hv2
  by_cases q1 : 0 ≤ v ∧ v < A.2.2.1.1
  · skip
    rw [if_pos (by omega)]
    obtain ⟨u, e1, f1, t1, hL, -⟩ := d124v (sc := sc) hM hA q1
    have hMu := RM_m hM (fr_m f1 rfl)
    have hm := vM_le hA v
    have hok : ∀ i, i < vM A v → 0 ≤ vF A v i ∧ vF A v i < A.1.1 := fun i hi => vF_ok hA v hi
    have hx := hA.2.2.1.2.2 v q1.1 q1.2
    have hsk2 : wI u 47 36 = -1 := by rw [fr_I f1 rfl]; exact hsk
    obtain ⟨u2, e2, f2, g2⟩ := d152 (sc := sc) hMu.1 hA.1.2.2.1 t1 hm hok hL hx.2.1.1 hx.2.1.2 hsk2 (by omega) (by omega)
    have g2' : HS u2 (grV A v) := g2
    have hT : gT (grV A v) 200 := gT_of _ _ _ _ hm
    have hG := g2'.1
    have hGl : (grV A v).1 ≤ vM A v := gp_le _ _ _ _ _
    have f12 : fr scM w u2 := fr_t (fr_m f1 rfl) (fr_m f2 rfl)
    refine ⟨u2, ?_, f12⟩
    rw [fq_155]
    by_cases q2 : k = -1
    · rw [if_pos q2]
      simp (disch := omega) only [qB_s, qC_t, qC_f, qI_T, qI_F, qI_t, qI_f, r_I, r_L, r_R, r_V, ii_add, ii_sub, ii_mul, ii_neg, bz_0, bz_1, Bool.true_and, Bool.false_and, Bool.and_true, z00, z11, li_0, li_1, li_4, lj_0, lj_4, e_64, gI_47_33, gR_47_35, is_47, h120, e1, e2, ii_eq, hG]
    · rw [if_neg q2]
      have hz : ii ((grV A v).1 : Int) - ii 1 = ii ((grV A v).1 - 1) := by simp only [qB_s, qC_t, qC_f, qI_T, qI_F, qI_t, qI_f, r_I, r_L, r_R, r_V, ii_add, ii_sub, ii_mul, ii_neg, bz_0, bz_1, Bool.true_and, Bool.false_and, Bool.and_true, z00, z11]
      by_cases q3 : 0 ≤ k ∧ k ≤ (grV A v).1 - 1
      · by_cases q4 : 0 ≤ x ∧ x ≤ 4
        · rw [if_pos (by omega)]
          by_cases q5 : x = 4
          · have e3 := d153 (sc := sc) g2' hT (by omega) (j := k) (by omega) (by omega)
            rw [if_pos q5]
            unfold wd
            by_cases q6 : mx (grV A v) k
            · have e4 := d154 (sc := sc) g2' hT (by omega) (j := k) (by omega) (by omega) q6
              rw [bz_t q6] at e3
              rw [if_pos q6]
              simp (disch := omega) only [qB_s, qC_t, qC_f, qI_T, qI_F, qI_t, qI_f, r_I, r_L, r_R, r_V, ii_add, ii_sub, ii_mul, ii_neg, bz_0, bz_1, Bool.true_and, Bool.false_and, Bool.and_true, z00, z11, li_0, li_1, li_4, lj_0, lj_4, e_64, gI_47_33, gR_47_35, is_47, h120, e1, e2, e3, e4, ii_eq, ii_lt, ii_jj, d17, hG]
            · rw [bz_f q6] at e3
              rw [if_neg q6]
              simp (disch := omega) only [qB_s, qC_t, qC_f, qI_T, qI_F, qI_t, qI_f, r_I, r_L, r_R, r_V, ii_add, ii_sub, ii_mul, ii_neg, bz_0, bz_1, Bool.true_and, Bool.false_and, Bool.and_true, z00, z11, li_0, li_1, li_4, lj_0, lj_4, e_64, gI_47_33, gR_47_35, is_47, h120, e1, e2, e3, ii_eq, ii_lt, ii_jj, d17, hG]
          · have e3 := g2'.2.2 k x (by omega) (by omega) (by omega) (by omega)
            rw [if_neg q5]
            simp (disch := omega) only [qB_s, qC_t, qC_f, qI_T, qI_F, qI_t, qI_f, r_I, r_L, r_R, r_V, ii_add, ii_sub, ii_mul, ii_neg, bz_0, bz_1, Bool.true_and, Bool.false_and, Bool.and_true, z00, z11, li_0, li_1, li_4, lj_0, lj_4, e_64, gI_47_33, gR_47_35, is_47, h120, e1, e2, e3, ii_eq, ii_lt, ii_jj, d17, hG]
        · rw [if_neg (by omega)]
          simp (disch := omega) only [qB_s, qC_t, qC_f, qI_T, qI_F, qI_t, qI_f, r_I, r_L, r_R, r_V, ii_add, ii_sub, ii_mul, ii_neg, bz_0, bz_1, Bool.true_and, Bool.false_and, Bool.and_true, z00, z11, li_0, li_1, li_4, lj_0, lj_4, e_64, gI_47_33, gR_47_35, is_47, h120, e1, e2, ii_eq, ii_lt, ii_jj, d17, hG]
      · rw [if_neg (by omega)]
        simp (disch := omega) only [qB_s, qC_t, qC_f, qI_T, qI_F, qI_t, qI_f, r_I, r_L, r_R, r_V, ii_add, ii_sub, ii_mul, ii_neg, bz_0, bz_1, Bool.true_and, Bool.false_and, Bool.and_true, z00, z11, li_0, li_1, li_4, lj_0, lj_4, e_64, gI_47_33, gR_47_35, is_47, h120, e1, e2, ii_eq, ii_lt, ii_jj, d17, hG]
  · rw [if_neg (by omega)]
    exact ⟨w, by
      rw [fq_155]
      simp (disch := omega) only [qB_s, qC_t, qC_f, qI_T, qI_F, qI_t, qI_f, r_I, r_L, r_R, r_V, ii_add, ii_sub, ii_mul, ii_neg, bz_0, bz_1, Bool.true_and, Bool.false_and, Bool.and_true, z00, z11, li_0, li_1, li_4, lj_0, lj_4, e_64, gI_47_33, gR_47_35, is_47, ii_lt, ii_eq, ii_jj, jj_neg, h120], fr_r _ _⟩

theorem y_288 (hM : RM w A) (hsk : wI w 47 36 = -1) (hA : okA A) {v : Int} (hv1 : -2147483648 ≤ v) (hv2 : v ≤ 2147483647) : ∃ u, am_F sc 288 [am_R (some 47), am_I (ii v)] (wst w) = some (some (am_I (ii (if (0 ≤ v ∧ v < A.2.2.1.1) then lkS (grV A v) (grV A v).1 else -1000000))), wst u) ∧ fr scM w u := by
  have hn8 := hA.2.2.1.2.1
  have hn0 := hA.2.2.1.1
  have h120 := d120 (sc := sc) hM hn8 hn0 (v := v) hv1 hv2
  by_cases q1 : 0 ≤ v ∧ v < A.2.2.1.1
  · skip
    rw [if_pos (by omega)]
    obtain ⟨u, e1, f1, t1, hL, -⟩ := d124v (sc := sc) hM hA q1
    have hMu := RM_m hM (fr_m f1 rfl)
    have hm := vM_le hA v
    have hok : ∀ i, i < vM A v → 0 ≤ vF A v i ∧ vF A v i < A.1.1 := fun i hi => vF_ok hA v hi
    have hx := hA.2.2.1.2.2 v q1.1 q1.2
    have hsk2 : wI u 47 36 = -1 := by rw [fr_I f1 rfl]; exact hsk
    obtain ⟨u2, e2, f2, g2⟩ := d152 (sc := sc) hMu.1 hA.1.2.2.1 t1 hm hok hL hx.2.1.1 hx.2.1.2 hsk2 (by omega) (by omega)
    have g2' : HS u2 (grV A v) := g2
    have hT : gT (grV A v) 200 := gT_of _ _ _ _ hm
    have hG := g2'.1
    have hGl : (grV A v).1 ≤ vM A v := gp_le _ _ _ _ _
    have f12 : fr scM w u2 := fr_t (fr_m f1 rfl) (fr_m f2 rfl)
    have e3 := d159 (sc := sc) g2' hT (by omega)
    refine ⟨u2, ?_, f12⟩
    rw [fq_288]
    simp (disch := omega) only [qB_s, qC_t, qC_f, qI_T, qI_F, qI_t, qI_f, r_I, r_L, r_R, r_V, ii_add, ii_sub, ii_mul, ii_neg, bz_0, bz_1, Bool.true_and, Bool.false_and, Bool.and_true, z00, z11, li_0, li_1000000, is_47, h120, e1, e2, e3, ii_eq, ii_lt, hG]
  · rw [if_neg (by omega)]
    exact ⟨w, by
      rw [fq_288]
      simp (disch := omega) only [qB_s, qC_t, qC_f, qI_T, qI_F, qI_t, qI_f, r_I, r_L, r_R, r_V, ii_add, ii_sub, ii_mul, ii_neg, bz_0, bz_1, Bool.true_and, Bool.false_and, Bool.and_true, z00, z11, li_0, li_1000000, is_47, ii_lt, ii_eq, ii_jj, jj_neg, h120], fr_r _ _⟩

end L33
