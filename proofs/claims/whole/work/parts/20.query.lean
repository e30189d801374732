/-! LOOKING UP; COUNTING THOSE TAKEN -/
def vok (A : ab) (v : Int) : Prop := 0 ≤ v ∧ v < A.2.2.1.1
def rok (A : ab) (r : Int) : Prop := 0 ≤ r ∧ r < A.2.2.2.1.1
def aN (A : ab) : Int := A.1.1
def aG (A : ab) : Int → Int → Int := A.1.2.1
def aV (A : ab) (v : Int) : vw := A.2.2.1.2 v
/-- how many a view takes, and which -/
def vM (A : ab) (v : Int) : Nat := (tg (pT (aG A) (aV A v).1 (aV A v).2.1) (aN A).toNat).1
def vF (A : ab) (v : Int) : Nat → Int := (tg (pT (aG A) (aV A v).1 (aV A v).2.1) (aN A).toNat).2
theorem vM_le {A : ab} (hA : okA A) (v : Int) : vM A v ≤ 200 := by
  have := tg_le (pT (aG A) (aV A v).1 (aV A v).2.1) (aN A).toNat
  have h := hA.1.2.1
  unfold vM
  unfold aN at this ⊢
  omega
theorem vF_ok {A : ab} (hA : okA A) (v : Int) {i : Nat} (hi : i < vM A v) : 0 ≤ vF A v i ∧ vF A v i < aN A := by
  have := tg_el (pT (aG A) (aV A v).1 (aV A v).2.1) (aN A).toNat i hi
  have h := hA.1.1
  unfold vF
  unfold aN at this ⊢
  omega
/-- of those taken, of a trait, at this stage at least, by an office or all -/
def aL (g : Int → Int → Int) (f : Nat → Int) (st tr o : Int) (m : Nat) : Int := sm (fun i => bz (g (f i) 0 = tr ∧ st ≤ g (f i) 2 ∧ (o = -1 ∨ g (f i) 1 = o))) m
theorem aL_ran (g : Int → Int → Int) (f : Nat → Int) (st tr o : Int) (m : Nat) : 0 ≤ aL g f st tr o m ∧ aL g f st tr o m ≤ m := sm_bz m
section L20
variable {sc : am_X} {w : wo} {A : ab} {ow : Nat → Nat}
theorem c113 (hV : VS ow w A.2.2.1.1 A.2.2.1.2) (h0 : 0 ≤ A.2.2.1.1) (h8 : A.2.2.1.1 ≤ 8) {v : Int} (h1 : -2147483648 ≤ v) (h2 : v ≤ 2147483647) : (vok A v → ∃ a, CVo ow w a (aV A v) ∧ am_F sc 113 [am_R (some 0), am_I (ii v)] (wst w) = some (some (am_R (some a)), wst w)) ∧ (¬ vok A v → am_F sc 113 [am_R (some 0), am_I (ii v)] (wst w) = some (some (am_R none), wst w)) := by
  obtain ⟨hn, hv⟩ := hV
  constructor
  · rintro ⟨q1, q2⟩
    obtain ⟨a, e1, e2⟩ := hv v q1 q2
    refine ⟨a, e2, ?_⟩
    rw [fq_113]
    simp (disch := omega) only [qB_s, qC_t, qC_f, qI_T, qI_F, qI_t, qI_f, r_I, r_L, r_R, r_V, ii_add, ii_sub, ii_mul, ii_neg, bz_0, bz_1, Bool.true_and, Bool.false_and, Bool.and_true, z00, z11, li_0, li_nat, e_20, gI_0_7, gR_0_5, len_20, hn, ii_lt, li_nat, e1]
  · intro q
    unfold vok at q
    rw [fq_113]
    by_cases q1 : v < 0
    · simp (disch := omega) only [qB_s, qC_t, qC_f, qI_T, qI_F, qI_t, qI_f, r_I, r_L, r_R, r_V, ii_add, ii_sub, ii_mul, ii_neg, bz_0, bz_1, Bool.true_and, Bool.false_and, Bool.and_true, z00, z11, li_0, li_nat, e_20, gI_0_7, gR_0_5, len_20, hn, ii_lt]
    · simp (disch := omega) only [qB_s, qC_t, qC_f, qI_T, qI_F, qI_t, qI_f, r_I, r_L, r_R, r_V, ii_add, ii_sub, ii_mul, ii_neg, bz_0, bz_1, Bool.true_and, Bool.false_and, Bool.and_true, z00, z11, li_0, li_nat, e_20, gI_0_7, gR_0_5, len_20, hn, ii_lt]
theorem c100 (hV : RS ow w A.2.2.2.1.1 A.2.2.2.1.2) (h0 : 0 ≤ A.2.2.2.1.1) (h8 : A.2.2.2.1.1 ≤ 8) {v : Int} (h1 : -2147483648 ≤ v) (h2 : v ≤ 2147483647) : (rok A v → ∃ a, PTo ow w a (A.2.2.2.1.2 v) ∧ am_F sc 100 [am_R (some 0), am_I (ii v)] (wst w) = some (some (am_R (some a)), wst w)) ∧ (¬ rok A v → am_F sc 100 [am_R (some 0), am_I (ii v)] (wst w) = some (some (am_R none), wst w)) := by
  obtain ⟨hn, hv⟩ := hV
  constructor
  · rintro ⟨q1, q2⟩
    obtain ⟨a, e1, e2⟩ := hv v q1 q2
    refine ⟨a, e2, ?_⟩
    rw [fq_100]
    simp (disch := omega) only [qB_s, qC_t, qC_f, qI_T, qI_F, qI_t, qI_f, r_I, r_L, r_R, r_V, ii_add, ii_sub, ii_mul, ii_neg, bz_0, bz_1, Bool.true_and, Bool.false_and, Bool.and_true, z00, z11, li_0, li_nat, e_21, gI_0_8, gR_0_6, len_21, hn, ii_lt, li_nat, e1]
  · intro q
    unfold rok at q
    rw [fq_100]
    by_cases q1 : v < 0
    · simp (disch := omega) only [qB_s, qC_t, qC_f, qI_T, qI_F, qI_t, qI_f, r_I, r_L, r_R, r_V, ii_add, ii_sub, ii_mul, ii_neg, bz_0, bz_1, Bool.true_and, Bool.false_and, Bool.and_true, z00, z11, li_0, li_nat, e_21, gI_0_8, gR_0_6, len_21, hn, ii_lt]
    · simp (disch := omega) only [qB_s, qC_t, qC_f, qI_T, qI_F, qI_t, qI_f, r_I, r_L, r_R, r_V, ii_add, ii_sub, ii_mul, ii_neg, bz_0, bz_1, Bool.true_and, Bool.false_and, Bool.and_true, z00, z11, li_0, li_nat, e_21, gI_0_8, gR_0_6, len_21, hn, ii_lt]
theorem d120 (hM : RM w A) (h8 : A.2.2.1.1 ≤ 8) (h0 : 0 ≤ A.2.2.1.1) {v : Int} (h1 : -2147483648 ≤ v) (h2 : v ≤ 2147483647) : am_F sc 120 [am_R (some 47), am_I (ii v)] (wst w) = some (some (am_I (ii (bz (0 ≤ v ∧ v < A.2.2.1.1)))), wst w) := by
  have hn := hM.2.2.2.1.1
  rw [fq_120]
  by_cases q1 : v < 0
  · rw [bz_f (by omega)]
    simp (disch := omega) only [qB_s, qC_t, qC_f, qI_T, qI_F, qI_t, qI_f, r_I, r_L, r_R, r_V, ii_add, ii_sub, ii_mul, ii_neg, bz_0, bz_1, Bool.true_and, Bool.false_and, Bool.and_true, z00, z11, li_0, li_1, gI_47_8, hn, ii_lt]
  · by_cases q2 : v < A.2.2.1.1
    · rw [bz_t ⟨by omega, q2⟩]
      simp (disch := omega) only [qB_s, qC_t, qC_f, qI_T, qI_F, qI_t, qI_f, r_I, r_L, r_R, r_V, ii_add, ii_sub, ii_mul, ii_neg, bz_0, bz_1, Bool.true_and, Bool.false_and, Bool.and_true, z00, z11, li_0, li_1, gI_47_8, hn, ii_lt]
    · rw [bz_f (by omega)]
      simp (disch := omega) only [qB_s, qC_t, qC_f, qI_T, qI_F, qI_t, qI_f, r_I, r_L, r_R, r_V, ii_add, ii_sub, ii_mul, ii_neg, bz_0, bz_1, Bool.true_and, Bool.false_and, Bool.and_true, z00, z11, li_0, li_1, gI_47_8, hn, ii_lt]
/-- looking by a view, in the class -/
theorem c117 (hC : RC ow w A) (hA : okA A) {v : Int} (h1 : -2147483648 ≤ v) (h2 : v ≤ 2147483647) : (vok A v → ∃ u, am_F sc 117 [am_R (some 0), am_I (ii v)] (wst w) = some (some (am_I (ii 1)), wst u) ∧ fr [2203, 2204, 2208, 2399, 2499] w u ∧ TK u (vM A v) (vF A v) ∧ wI u 22 4 = (aV A v).2.1) ∧ (¬ vok A v → am_F sc 117 [am_R (some 0), am_I (ii v)] (wst w) = some (some (am_I (ii 0)), wst w)) := by
  obtain ⟨c1, c2, c3, c4, c5, c6, c7, c8⟩ := hC
  have h113 := c113 (sc := sc) c5 hA.2.2.1.1 hA.2.2.1.2.1 h1 h2
  constructor
  · intro q
    obtain ⟨a, e1, e2⟩ := h113.1 q
    have hx := hA.2.2.1.2.2 v q.1 q.2
    obtain ⟨u, e3, e4, e5, e6, e7⟩ := c116 (sc := sc) c1 hA.1.2.2.1 e1 hx (l := (aV A v).2.1) hx.2.1.1 hx.2.1.2
    refine ⟨u, ?_, e4, e5, e6⟩
    obtain ⟨⟨v1, v2, v3, v4⟩, v5, v6, -⟩ := id e1
    have hga : am_gI (wst w) a 10 1 = some (ii (aV A v).2.1) := by
      rw [gI_of (by unfold shp; rw [if_neg (by omega), v4]) rfl, v6]
    rw [fq_117]
    simp (disch := omega) only [qB_s, qC_t, qC_f, qI_T, qI_F, qI_t, qI_f, r_I, r_L, r_R, r_V, ii_add, ii_sub, ii_mul, ii_neg, bz_0, bz_1, Bool.true_and, Bool.false_and, Bool.and_true, z00, z11, li_0, li_1, gR_0_9, is_0, is_22, e2, Option.isNone_some, hga, e3]
  · intro q
    have e2 := h113.2 q
    rw [fq_117]
    simp (disch := omega) only [qB_s, qC_t, qC_f, qI_T, qI_F, qI_t, qI_f, r_I, r_L, r_R, r_V, ii_add, ii_sub, ii_mul, ii_neg, bz_0, bz_1, Bool.true_and, Bool.false_and, Bool.and_true, z00, z11, li_0, li_1, gR_0_9, is_0, is_22, e2, Option.isNone_none]
/-- and in the other -/
theorem d124v (hM : RM w A) (hA : okA A) {v : Int} (q : vok A v) : ∃ u, am_F sc 124 [am_R (some 47), am_I (ii v), am_I (ii 0)] (wst w) = some (none, wst u) ∧ fr [4725, 4726, 5999, 6099, 6199, 4723, 4724, 5899] w u ∧ MK u (vM A v) (vF A v) ∧ wI u 47 25 = (aV A v).2.1 ∧ (wA u 60 0 = cA (aG A) (vF A v) 0 (vM A v) ∧ wA u 60 1 = cA (aG A) (vF A v) 1 (vM A v) ∧ wA u 61 0 = cL (aG A) (vF A v) 0 (vM A v) ∧ wA u 61 1 = cL (aG A) (vF A v) 1 (vM A v)) := by
  have hx := hA.2.2.1.2.2 v q.1 q.2
  have h8 := hA.2.2.1.2.1
  have hq := q.2
  exact d124 (sc := sc) hM.1 hA.1.2.2.1 (hM.2.2.2.1.2 v q.1 q.2) hx q.1 (by omega) (l := (aV A v).2.1) (o := 0) (by
    show ii (aV A v).2.1 ||| ii 0 = _
    exact fin64 (P := fun l _ => ii l ||| ii 0 = ii l) (by decide +kernel) hx.2.1.1 hx.2.1.2 (m := 0) (by decide) (by decide)) hx.2.1.1 hx.2.1.2
theorem c118 {m : Nat} {f : Nat → Int} (hT : TK w m f) (hm : m ≤ 200) {i : Nat} (hi : i < m) : am_F sc 118 [am_R (some 22), am_I (ii i)] (wst w) = some (some (am_I (ii (f i))), wst w) := by
  have hs := hT.1
  have he := hT.2 i hi
  rw [fq_118]
  simp (disch := omega) only [qB_s, qC_t, qC_f, qI_T, qI_F, qI_t, qI_f, r_I, r_L, r_R, r_V, ii_add, ii_sub, ii_mul, ii_neg, bz_0, bz_1, Bool.true_and, Bool.false_and, Bool.and_true, z00, z11, li_0, li_1, li_200, e_24, gI_22_3, gR_22_2, hs, ii_lt, he]
theorem c118n {m : Nat} {f : Nat → Int} (hT : TK w m f) (hm : m ≤ 200) {i : Int} (h1 : -2147483648 ≤ i) (h2 : i ≤ 2147483647) (hi : ¬ (0 ≤ i ∧ i < m)) : am_F sc 118 [am_R (some 22), am_I (ii i)] (wst w) = some (some (am_I (ii (-1))), wst w) := by
  have hs := hT.1
  rw [fq_118]
  by_cases q : i < 0
  · simp (disch := omega) only [qB_s, qC_t, qC_f, qI_T, qI_F, qI_t, qI_f, r_I, r_L, r_R, r_V, ii_add, ii_sub, ii_mul, ii_neg, bz_0, bz_1, Bool.true_and, Bool.false_and, Bool.and_true, z00, z11, li_0, li_1, li_200, e_24, gI_22_3, gR_22_2, hs, ii_lt]
  · simp (disch := omega) only [qB_s, qC_t, qC_f, qI_T, qI_F, qI_t, qI_f, r_I, r_L, r_R, r_V, ii_add, ii_sub, ii_mul, ii_neg, bz_0, bz_1, Bool.true_and, Bool.false_and, Bool.and_true, z00, z11, li_0, li_1, li_200, e_24, gI_22_3, gR_22_2, hs, ii_lt]
theorem c127 {n : Int} {g : Int → Int → Int} (hC : CS w n g) (hg : gK n g) {m : Nat} {f : Nat → Int} (hT : TK w m f) (hm : m ≤ 200) (hf : ∀ i, i < m → 0 ≤ f i ∧ f i < n) {st tr o : Int} (s1 : 0 ≤ st ∧ st ≤ 2) (t1 : -2147483648 ≤ tr ∧ tr ≤ 2147483647) (o1 : -1 ≤ o ∧ o ≤ 7) : am_F sc 127 [am_R (some 22), am_I (ii st), am_I (ii tr), am_I (ii o)] (wst w) = some (some (am_I (ii (aL g f st tr o m))), wst w) := by
  have hs := hT.1
  have e := lp_0 (am_W sc 127) (fun k : Nat => (6, [some (am_R (some 22)), some (am_I (ii st)), some (am_I (ii tr)), some (am_I (ii o)), some (am_I (ii (aL g f st tr o k))), some (am_I (ii k)), none], [], wst w)) m (fun k hk => by
    have hfk := hf k hk
    have hr := hg (f k) hfk.1 hfk.2
    have p1 := c118 (sc := sc) hT hm hk
    have p2 := c26 (sc := sc) hC hfk.1 hfk.2
    have p3 := c27 (sc := sc) hC hfk.1 hfk.2
    have p4 := c28 (sc := sc) hC hfk.1 hfk.2
    simp only [Int.reduceSub] at p2 p3 p4
    have hsum : aL g f st tr o (k + 1) = aL g f st tr o k + bz (g (f k) 0 = tr ∧ st ≤ g (f k) 2 ∧ (o = -1 ∨ g (f k) 1 = o)) := rfl
    have hra := aL_ran g f st tr o k
    rw [wq_127_6, hsum]
    by_cases q1 : g (f k) 0 = tr
    · by_cases q2 : g (f k) 2 < st
      · rw [bz_f (by omega)]
        simp (disch := omega) only [qB_s, qC_t, qC_f, qI_T, qI_F, qI_t, qI_f, r_I, r_L, r_R, r_V, ii_add, ii_sub, ii_mul, ii_neg, bz_0, bz_1, Bool.true_and, Bool.false_and, Bool.and_true, z00, z11, li_0, li_1, gI_22_3, gR_22_0, is_1, is_22, hs, ii_lt, ii_eq, p1, p2, p4, nat_1, Int.add_zero]
      · by_cases q3 : o = -1
        · rw [bz_t ⟨q1, by omega, .inl q3⟩]
          simp (disch := omega) only [qB_s, qC_t, qC_f, qI_T, qI_F, qI_t, qI_f, r_I, r_L, r_R, r_V, ii_add, ii_sub, ii_mul, ii_neg, bz_0, bz_1, Bool.true_and, Bool.false_and, Bool.and_true, z00, z11, li_0, li_1, gI_22_3, gR_22_0, is_1, is_22, hs, ii_lt, ii_eq, p1, p2, p4, nat_1]
        · by_cases q4 : g (f k) 1 = o
          · rw [bz_t ⟨q1, by omega, .inr q4⟩]
            simp (disch := omega) only [qB_s, qC_t, qC_f, qI_T, qI_F, qI_t, qI_f, r_I, r_L, r_R, r_V, ii_add, ii_sub, ii_mul, ii_neg, bz_0, bz_1, Bool.true_and, Bool.false_and, Bool.and_true, z00, z11, li_0, li_1, gI_22_3, gR_22_0, is_1, is_22, hs, ii_lt, ii_eq, p1, p2, p3, p4, nat_1]
          · rw [bz_f (by omega)]
            simp (disch := omega) only [qB_s, qC_t, qC_f, qI_T, qI_F, qI_t, qI_f, r_I, r_L, r_R, r_V, ii_add, ii_sub, ii_mul, ii_neg, bz_0, bz_1, Bool.true_and, Bool.false_and, Bool.and_true, z00, z11, li_0, li_1, gI_22_3, gR_22_0, is_1, is_22, hs, ii_lt, ii_eq, p1, p2, p3, p4, nat_1, Int.add_zero]
    · rw [bz_f (by omega)]
      simp (disch := omega) only [qB_s, qC_t, qC_f, qI_T, qI_F, qI_t, qI_f, r_I, r_L, r_R, r_V, ii_add, ii_sub, ii_mul, ii_neg, bz_0, bz_1, Bool.true_and, Bool.false_and, Bool.and_true, z00, z11, li_0, li_1, gI_22_3, gR_22_0, is_1, is_22, hs, ii_lt, ii_eq, p1, p2, nat_1, Int.add_zero])
  have hra := aL_ran g f st tr o m
  rw [fq_127]
  have e' : am_W sc 127 (6, [some (am_R (some 22)), some (am_I (ii st)), some (am_I (ii tr)), some (am_I (ii o)), some (am_I (ii 0)), some (am_I (ii 0)), none], [], wst w) = _ := e
  rw [li_0, e', wq_127_6]
  simp (disch := omega) only [qB_s, qC_t, qC_f, qI_T, qI_F, qI_t, qI_f, r_I, r_L, r_R, r_V, ii_add, ii_sub, ii_mul, ii_neg, bz_0, bz_1, Bool.true_and, Bool.false_and, Bool.and_true, z00, z11, li_0, li_1, gI_22_3, gR_22_0, is_1, is_22, hs, ii_lt]
theorem aL_A (g : Int → Int → Int) (f : Nat → Int) (t : Int) (m : Nat) (h : ∀ i, i < m → 0 ≤ g (f i) 2) : aL g f 0 t (-1) m = cA g f t m :=
  sm_c (fun i hi => bz_c ⟨fun z => z.1, fun z => ⟨z, h i hi, .inl rfl⟩⟩)
theorem aL_L (g : Int → Int → Int) (f : Nat → Int) (t : Int) (m : Nat) (h : ∀ i, i < m → g (f i) 2 ≤ 2) : aL g f 2 t (-1) m = cL g f t m :=
  sm_c (fun i hi => bz_c ⟨fun z => ⟨z.1, by have := h i hi; omega⟩, fun z => ⟨z.1, by omega, .inl rfl⟩⟩)
end L20
