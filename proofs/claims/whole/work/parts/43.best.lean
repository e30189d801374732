/-! FEW, BEST: THE SEARCH -/
def bB : Bool → Int
  | true => 1
  | false => 0
theorem bB_t : bB true = 1 := rfl
theorem bB_f : bB false = 0 := rfl
/-- the fewest wrong in the class' cells -/
def BC (w : wo) (r : bst) : Prop := (0 ≤ r.1 ∧ r.1 ≤ 201) ∧ wI w 42 3 = r.1 ∧ wI w 42 4 = bB r.2.1 ∧ wI w 42 5 = bB r.2.2
def sBC : List Nat := [4203, 4204, 4205]
theorem bs_lt {r : bst} {x : Int} (t : Bool) (h : x < r.1) : bs r x t = (x, t, t) := if_pos h
theorem bs_eq {r : bst} {x : Int} (t : Bool) (h : x = r.1) : bs r x t = (x, r.2.1 || t, r.2.2 && t) := by
  unfold bs
  rw [if_neg (by omega), if_pos h]
theorem bs_gt {r : bst} {x : Int} (t : Bool) (h : r.1 < x) : bs r x t = r := by
  unfold bs
  rw [if_neg (by omega), if_neg (by omega)]
theorem bz_tt : bz (true = true) = 1 := rfl
theorem bz_ff : bz (false = true) = 0 := rfl
/-- for each depth in turn -/
def fwD (g : Int → Int → Int) (f : Nat → Int) (m : Nat) (x : Int) : Int := if (bsD g f m 0).1 ≤ x then 0 else if (bsD g f m 1).1 ≤ x then 1 else if (bsD g f m 2).1 ≤ x then 2 else -2
def bsA (r : bst) (o : Int) : Int := if o = 0 then r.1 else if r.2.2 = true then 2 else if r.2.1 = true then 1 else 0
section L43
variable {sc : am_X} {w : wo} {A : ab} {ow : Nat → Nat} {n : Int} {g : Int → Int → Int} {f : Nat → Int} {m : Nat}
theorem SBi_fr {v : wo} {l : List Nat} (h : SBi w g f m) (q : fr l w v) (z : (fhas l 4399 || fhas l 4499) = false) : SBi v g f m := SB_fr h q z
/-- the bits of a part -/
theorem c160 {a k : Nat} (ha : a < 111) (hk : k < 4) : am_F sc 160 [am_R (some 42), am_I (ii a), am_I (ii k)] (wst w) = some (some (am_L (jj (wB w 43 ((a : Int) * 4 + k)))), wst w) := by
  rw [fq_160]
  simp (disch := omega) only [qB_s, qC_t, qC_f, qI_T, qI_F, qI_t, qI_f, r_I, r_L, r_R, r_V, ii_add, ii_sub, ii_mul, ii_neg, bz_0, bz_1, Bool.true_and, Bool.false_and, Bool.and_true, z00, z11, li_0, li_4, li_nat, lj_0, e_43, gR_42_0, len_43, ii_lt]
theorem c251 (h : SBi w g f m) (hm : m ≤ 200) (h2 : wI w 42 2 = ((m + 63) / 64 : Nat)) {a b : Nat} (ha : a < 111) (hb : b < 111) : am_F sc 251 [am_R (some 42), am_I (ii a), am_I (ii b)] (wst w) = some (some (am_I (ii (wr g f m a b))), wst w) := by
  obtain ⟨Y, hY⟩ : ∃ Y : Nat → Bool, Y = fun i => (((decide (i < m) && tR g a (f i)) && (decide (i < m) && tR g b (f i))) ^^ (decide (i < m) && decide (g (f i) 2 = 2))) := ⟨_, rfl⟩
  have e := lp_0 (am_W sc 251) (fun k : Nat => (5, [some (am_R (some 42)), some (am_I (ii a)), some (am_I (ii b)), some (am_I (ii (sb Y (64 * k) : Nat))), some (am_I (ii k))], [], wst w)) ((m + 63) / 64) (fun k hk => by
    have k4 : k < 4 := by omega
    have h1 := h.1 a k ha k4
    have h3 := h.1 b k hb k4
    rw [Int.mul_comm] at h1 h3
    have h4 := h.2 k k4
    have p : am_F sc 250 [am_L ((jj (wB w 43 ((a : Int) * 4 + k)) &&& jj (wB w 43 ((b : Int) * 4 + k))) ^^^ jj (wB w 44 k))] (wst w) = some (some (am_I (ii (sb (fun j => Y (64 * k + j)) 64 : Nat))), wst w) := by
      rw [h1, h3, h4, bw_and, bw_xor, c250, hY]
    have hc : sb Y (64 * (k + 1)) = sb Y (64 * k) + sb (fun j => Y (64 * k + j)) 64 := sb_ct Y (64 * k) 64
    have pa := c160 (sc := sc) (w := w) ha k4
    have pb := c160 (sc := sc) (w := w) hb k4
    rw [wq_251_5, hc]
    simp (disch := omega) only [qB_s, qC_t, qC_f, qI_T, qI_F, qI_t, qI_f, r_I, r_L, r_R, r_V, ii_add, ii_sub, ii_mul, ii_neg, bz_0, bz_1, Bool.true_and, Bool.false_and, Bool.and_true, z00, z11, li_0, li_1, li_4, e_44, gI_42_2, gR_42_1, is_42, ii_lt, h2, pa, pb, p, Int.natCast_add, nat_1])
  have e' : am_W sc 251 (5, [some (am_R (some 42)), some (am_I (ii a)), some (am_I (ii b)), some (am_I (ii 0)), some (am_I (ii 0))], [], wst w) = _ := e
  have hs : sb Y (64 * ((m + 63) / 64)) = sb (tX g f a b) m := by
    rw [show 64 * ((m + 63) / 64) = m + (64 * ((m + 63) / 64) - m) by omega, sb_end (a := m) (fun i hi => by
      rw [hY]
      try dsimp only
      rw [decide_eq_false (by omega)]
      rfl)]
    refine sb_c (fun i hi => ?_)
    rw [hY]
    try dsimp only
    rw [decide_eq_true hi]
    rfl
  rw [fq_251, li_0, e', wq_251_5, hs]
  by_cases z : ((m + 63) / 64 : Nat) < 4
  · simp (disch := omega) only [qB_s, qC_t, qC_f, qI_T, qI_F, qI_t, qI_f, r_I, r_L, r_R, r_V, ii_add, ii_sub, ii_mul, ii_neg, bz_0, bz_1, Bool.true_and, Bool.false_and, Bool.and_true, z00, z11, li_0, li_1, li_4, e_44, gI_42_2, gR_42_1, is_42, ii_lt, h2]
    rfl
  · simp (disch := omega) only [qB_s, qC_t, qC_f, qI_T, qI_F, qI_t, qI_f, r_I, r_L, r_R, r_V, ii_add, ii_sub, ii_mul, ii_neg, bz_0, bz_1, Bool.true_and, Bool.false_and, Bool.and_true, z00, z11, li_0, li_1, li_4, e_44, gI_42_2, gR_42_1, is_42, ii_lt, h2]
    rfl
theorem s252 {a : Nat} (ha : a < 111) : am_F sc 252 [am_I (ii a)] (wst w) = some (some (am_I (ii (bz (tt a = true)))), wst w) := by
  rw [fq_252]
  rw [show bz (tt a = true) = bz (108 ≤ a ∧ a < 110) from bz_c (by unfold tt; exact decide_eq_true_iff)]
  by_cases h1 : a < 108
  · rw [bz_f (by omega)]
    simp (disch := omega) only [qB_s, qC_t, qC_f, qI_T, qI_F, qI_t, qI_f, r_I, r_L, r_R, r_V, ii_add, ii_sub, ii_mul, ii_neg, bz_0, bz_1, Bool.true_and, Bool.false_and, Bool.and_true, z00, z11, li_0, li_1, li_108, li_110, ii_lt]
  · by_cases h2 : a < 110
    · rw [bz_t (by omega)]
      simp (disch := omega) only [qB_s, qC_t, qC_f, qI_T, qI_F, qI_t, qI_f, r_I, r_L, r_R, r_V, ii_add, ii_sub, ii_mul, ii_neg, bz_0, bz_1, Bool.true_and, Bool.false_and, Bool.and_true, z00, z11, li_0, li_1, li_108, li_110, ii_lt]
    · rw [bz_f (by omega)]
      simp (disch := omega) only [qB_s, qC_t, qC_f, qI_T, qI_F, qI_t, qI_f, r_I, r_L, r_R, r_V, ii_add, ii_sub, ii_mul, ii_neg, bz_0, bz_1, Bool.true_and, Bool.false_and, Bool.and_true, z00, z11, li_0, li_1, li_108, li_110, ii_lt]
theorem c253t {r : bst} (hr : BC w r) {x : Int} (hx : 0 ≤ x ∧ x ≤ 200) : ∃ v, am_W sc 253 (21, [some (am_R (some 42)), none, none, some (am_I (ii x)), none], [], wst w) = some (none, wst v) ∧ fr sBC w v ∧ BC v (bs r x true) := by
  obtain ⟨hr0, h3, h4, h5⟩ := hr
  have k5 : ∀ y, wI (uI w 42 4 y) 42 5 = wI w 42 5 := fun y => rfl
  rw [wq_253_21]
  by_cases q : x < r.1
  · refine ⟨uI (uI (uI w 42 3 x) 42 4 1) 42 5 1, ?_, fr_uI (fr_uI (fr_uI (fr_r _ _) rfl) rfl) rfl, ?_⟩
    · simp (disch := omega) only [qB_s, qC_t, qC_f, qI_T, qI_F, qI_t, qI_f, r_I, r_L, r_R, r_V, ii_add, ii_sub, ii_mul, ii_neg, bz_0, bz_1, Bool.true_and, Bool.false_and, Bool.and_true, z00, z11, li_0, li_1, gI_42_3, gI_42_4, gI_42_5, is_42, pI_42_3, pI_42_4, pI_42_5, ii_lt, ii_eq, h3]
    · rw [bs_lt true q]
      exact ⟨by show 0 ≤ x ∧ x ≤ 201; omega, rfl, rfl, rfl⟩
  · by_cases q2 : x = r.1
    · refine ⟨uI (uI w 42 4 1) 42 5 (bB r.2.2), ?_, fr_uI (fr_uI (fr_r _ _) rfl) rfl, ?_⟩
      · obtain ⟨r1, r2, r3⟩ := r
        cases r2 <;> cases r3
        all_goals simp only [bB_t, bB_f] at h4 h5 ⊢
        all_goals simp (disch := omega) only [qB_s, qC_t, qC_f, qI_T, qI_F, qI_t, qI_f, r_I, r_L, r_R, r_V, ii_add, ii_sub, ii_mul, ii_neg, bz_0, bz_1, Bool.true_and, Bool.false_and, Bool.and_true, z00, z11, li_0, li_1, gI_42_3, gI_42_4, gI_42_5, is_42, pI_42_3, pI_42_4, pI_42_5, ii_lt, ii_eq, h3, h4, h5, k5]
      · rw [bs_eq true q2, Bool.or_true, Bool.and_true]
        exact ⟨by show 0 ≤ x ∧ x ≤ 201; omega, h3.trans q2.symm, rfl, rfl⟩
    · refine ⟨w, ?_, fr_r _ _, ?_⟩
      · simp (disch := omega) only [qB_s, qC_t, qC_f, qI_T, qI_F, qI_t, qI_f, r_I, r_L, r_R, r_V, ii_add, ii_sub, ii_mul, ii_neg, bz_0, bz_1, Bool.true_and, Bool.false_and, Bool.and_true, z00, z11, li_0, li_1, gI_42_3, gI_42_4, gI_42_5, is_42, pI_42_3, pI_42_4, pI_42_5, ii_lt, ii_eq, h3]
      · rw [bs_gt true (by omega)]
        exact ⟨hr0, h3, h4, h5⟩
theorem c253 (h : SBi w g f m) (hm : m ≤ 200) (h2 : wI w 42 2 = ((m + 63) / 64 : Nat)) {a b : Nat} (ha : a < 111) (hb : b < 111) {r : bst} (hr : BC w r) : ∃ v, am_F sc 253 [am_R (some 42), am_I (ii a), am_I (ii b)] (wst w) = some (none, wst v) ∧ fr sBC w v ∧ BC v (bs r (wr g f m a b) (tt2 a b)) := by
  have p1 := c251 (sc := sc) h hm h2 ha hb
  have p2 := s252 (sc := sc) (w := w) ha
  have p3 := s252 (sc := sc) (w := w) hb
  have hx := wr_ran g f m a b
  obtain ⟨x, ex⟩ : ∃ x, x = wr g f m a b := ⟨_, rfl⟩
  rw [← ex] at p1 hx ⊢
  rw [fq_253]
  unfold tt2
  cases ta : tt a with
  | true =>
    obtain ⟨v, e, hf, hv⟩ := c253t (sc := sc) hr (x := x) (by omega)
    rw [ta, bz_tt] at p2
    refine ⟨v, ?_, hf, hv⟩
    simp (disch := omega) only [qB_s, qC_t, qC_f, qI_T, qI_F, qI_t, qI_f, r_I, r_L, r_R, r_V, ii_add, ii_sub, ii_mul, ii_neg, bz_0, bz_1, Bool.true_and, Bool.false_and, Bool.and_true, z00, z11, li_0, li_1, gI_42_3, gI_42_4, gI_42_5, is_42, pI_42_3, pI_42_4, pI_42_5, ii_lt, ii_eq, p1, p2, e]
  | false =>
    rw [ta, bz_ff] at p2
    cases tb : tt b with
    | true =>
      obtain ⟨v, e, hf, hv⟩ := c253t (sc := sc) hr (x := x) (by omega)
      rw [tb, bz_tt] at p3
      refine ⟨v, ?_, hf, hv⟩
      simp (disch := omega) only [qB_s, qC_t, qC_f, qI_T, qI_F, qI_t, qI_f, r_I, r_L, r_R, r_V, ii_add, ii_sub, ii_mul, ii_neg, bz_0, bz_1, Bool.true_and, Bool.false_and, Bool.and_true, z00, z11, li_0, li_1, gI_42_3, gI_42_4, gI_42_5, is_42, pI_42_3, pI_42_4, pI_42_5, ii_lt, ii_eq, p1, p2, p3, e]
    | false =>
      rw [tb, bz_ff] at p3
      obtain ⟨hr0, h3, h4, h5⟩ := hr
      have k5 : ∀ y, wI (uI w 42 4 y) 42 5 = wI w 42 5 := fun y => rfl
      by_cases q : x < r.1
      · refine ⟨uI (uI (uI w 42 3 x) 42 4 0) 42 5 0, ?_, fr_uI (fr_uI (fr_uI (fr_r _ _) rfl) rfl) rfl, ?_⟩
        · simp (disch := omega) only [qB_s, qC_t, qC_f, qI_T, qI_F, qI_t, qI_f, r_I, r_L, r_R, r_V, ii_add, ii_sub, ii_mul, ii_neg, bz_0, bz_1, Bool.true_and, Bool.false_and, Bool.and_true, z00, z11, li_0, li_1, gI_42_3, gI_42_4, gI_42_5, is_42, pI_42_3, pI_42_4, pI_42_5, ii_lt, ii_eq, h3, p1, p2, p3]
        · rw [Bool.or_false, bs_lt false q]
          exact ⟨by show 0 ≤ x ∧ x ≤ 201; omega, rfl, rfl, rfl⟩
      · by_cases q2 : x = r.1
        · refine ⟨uI (uI w 42 4 (bB r.2.1)) 42 5 0, ?_, fr_uI (fr_uI (fr_r _ _) rfl) rfl, ?_⟩
          · obtain ⟨r1, r2, r3⟩ := r
            cases r2 <;> cases r3
            all_goals simp only [bB_t, bB_f] at h4 h5 ⊢
            all_goals simp (disch := omega) only [qB_s, qC_t, qC_f, qI_T, qI_F, qI_t, qI_f, r_I, r_L, r_R, r_V, ii_add, ii_sub, ii_mul, ii_neg, bz_0, bz_1, Bool.true_and, Bool.false_and, Bool.and_true, z00, z11, li_0, li_1, gI_42_3, gI_42_4, gI_42_5, is_42, pI_42_3, pI_42_4, pI_42_5, ii_lt, ii_eq, h3, h4, h5, k5, p1, p2, p3]
          · rw [Bool.or_false, bs_eq false q2, Bool.or_false, Bool.and_false]
            exact ⟨by show 0 ≤ x ∧ x ≤ 201; omega, h3.trans q2.symm, rfl, rfl⟩
        · refine ⟨w, ?_, fr_r _ _, ?_⟩
          · simp (disch := omega) only [qB_s, qC_t, qC_f, qI_T, qI_F, qI_t, qI_f, r_I, r_L, r_R, r_V, ii_add, ii_sub, ii_mul, ii_neg, bz_0, bz_1, Bool.true_and, Bool.false_and, Bool.and_true, z00, z11, li_0, li_1, gI_42_3, gI_42_4, gI_42_5, is_42, pI_42_3, pI_42_4, pI_42_5, ii_lt, ii_eq, h3, p1, p2, p3]
          · rw [bs_gt _ (by omega)]
            exact ⟨hr0, h3, h4, h5⟩
/-- the rows stand -/
def SF (w : wo) (g : Int → Int → Int) (f : Nat → Int) (m : Nat) : Prop := SBi w g f m ∧ wI w 42 2 = ((m + 63) / 64 : Nat)
theorem SF_fr {v : wo} (h : SF w g f m) (q : fr sBC w v) : SF v g f m := ⟨SBi_fr h.1 q rfl, by rw [fr_I q rfl]; exact h.2⟩
theorem c254 (h : SF w g f m) (hm : m ≤ 200) {d : Int} (hd : d = 0 ∨ d = 1 ∨ d = 2) : ∃ v, am_F sc 254 [am_R (some 42), am_I (ii d)] (wst w) = some (none, wst v) ∧ fr sBC w v ∧ BC v (bsD g f m d) := by
  have f0 : fr sBC w (uI (uI (uI w 42 3 201) 42 4 0) 42 5 0) := fr_uI (fr_uI (fr_uI (fr_r _ _) rfl) rfl) rfl
  have b0 : BC (uI (uI (uI w 42 3 201) 42 4 0) 42 5 0) (201, false, false) := ⟨by decide, rfl, rfl, rfl⟩
  have h0 := SF_fr h f0
  rw [fq_254]
  rcases hd with rfl | rfl | rfl
  · obtain ⟨v, e, fv, hv⟩ := c253 (sc := sc) h0.1 hm h0.2 (a := 110) (b := 110) (by decide) (by decide) b0
    have e' : am_F sc 253 [am_R (some 42), am_I (ii 110), am_I (ii 110)] (wst (uI (uI (uI w 42 3 201) 42 4 0) 42 5 0)) = some (none, wst v) := e
    refine ⟨v, ?_, fr_t f0 fv, ?_⟩
    · simp (disch := omega) only [qB_s, qC_t, qC_f, qI_T, qI_F, qI_t, qI_f, r_I, r_L, r_R, r_V, ii_add, ii_sub, ii_mul, ii_neg, bz_0, bz_1, Bool.true_and, Bool.false_and, Bool.and_true, z00, z11, li_0, li_1, li_110, li_201, is_42, pI_42_3, pI_42_4, pI_42_5, ii_eq, e']
    · rw [show bsD g f m 0 = bs (201, false, false) (wr g f m 110 110) (tt2 110 110) from if_pos rfl]
      exact hv
  · obtain ⟨v, e, fv, hv⟩ := lp_s0 (am_W sc 254) (fun (k : Nat) (v : wo) => (39, [some (am_R (some 42)), none, some (am_I (ii k)), none], [], wst v)) (fun k v => fr sBC w v ∧ BC v (bs1 g f m k)) 110 (fun k v hk hv => by
      have h1 := SF_fr h hv.1
      obtain ⟨u, e, fu', hu⟩ := c253 (sc := sc) h1.1 hm h1.2 (a := k) (b := 110) (by omega) (by decide) hv.2
      have e' : am_F sc 253 [am_R (some 42), am_I (ii k), am_I (ii 110)] (wst v) = some (none, wst u) := e
      refine ⟨u, ?_, fr_t hv.1 fu', hu⟩
      rw [wq_254_39]
      simp (disch := omega) only [qB_s, qC_t, qC_f, qI_T, qI_F, qI_t, qI_f, r_I, r_L, r_R, r_V, ii_add, ii_sub, ii_mul, ii_neg, bz_0, bz_1, Bool.true_and, Bool.false_and, Bool.and_true, z00, z11, li_0, li_1, li_110, li_201, is_42, pI_42_3, pI_42_4, pI_42_5, ii_lt, e', nat_1]) _ ⟨f0, b0⟩
    have e' : am_W sc 254 (39, [some (am_R (some 42)), none, some (am_I (ii 0)), none], [], wst (uI (uI (uI w 42 3 201) 42 4 0) 42 5 0)) = _ := e
    refine ⟨v, ?_, fv, ?_⟩
    · simp (disch := omega) only [qB_s, qC_t, qC_f, qI_T, qI_F, qI_t, qI_f, r_I, r_L, r_R, r_V, ii_add, ii_sub, ii_mul, ii_neg, bz_0, bz_1, Bool.true_and, Bool.false_and, Bool.and_true, z00, z11, li_0, li_1, li_110, li_201, is_42, pI_42_3, pI_42_4, pI_42_5, ii_eq]
      rw [e', wq_254_39]
      simp (disch := omega) only [qB_s, qC_t, qC_f, qI_T, qI_F, qI_t, qI_f, r_I, r_L, r_R, r_V, ii_add, ii_sub, ii_mul, ii_neg, bz_0, bz_1, Bool.true_and, Bool.false_and, Bool.and_true, z00, z11, li_0, li_1, li_110, li_201, is_42, pI_42_3, pI_42_4, pI_42_5, ii_lt]
    · rw [show bsD g f m 1 = bs1 g f m 110 by unfold bsD; rw [if_neg (by decide), if_pos rfl]]
      exact hv
  · obtain ⟨v, e, fv, hv⟩ := lp_s0 (am_W sc 254) (fun (a : Nat) (v : wo) => (63, [some (am_R (some 42)), none, some (am_I (ii a)), none], [], wst v)) (fun a v => fr sBC w v ∧ BC v (bsO g f m a)) 110 (fun a v ha hv => by
      obtain ⟨u, e, k1, fu', hu⟩ := lp_s (am_W sc 254) (fun (k : Nat) (v : wo) => (73, [some (am_R (some 42)), none, some (am_I (ii a)), some (am_I (ii k))], [], wst v)) (fun k v => a + 1 ≤ k ∧ fr sBC w v ∧ BC v (bsI g f m a (k - (a + 1)) (bsO g f m a))) 110 (fun k v hk hv => by
        obtain ⟨k1, fv, hv⟩ := hv
        have h1 := SF_fr h fv
        obtain ⟨u, e, fu', hu⟩ := c253 (sc := sc) h1.1 hm h1.2 (a := a) (b := k) (by omega) (by omega) hv
        refine ⟨u, ?_, by omega, fr_t fv fu', ?_⟩
        · rw [wq_254_73]
          simp (disch := omega) only [qB_s, qC_t, qC_f, qI_T, qI_F, qI_t, qI_f, r_I, r_L, r_R, r_V, ii_add, ii_sub, ii_mul, ii_neg, bz_0, bz_1, Bool.true_and, Bool.false_and, Bool.and_true, z00, z11, li_0, li_1, li_110, li_201, is_42, pI_42_3, pI_42_4, pI_42_5, ii_lt, e, nat_1]
        · rw [show k + 1 - (a + 1) = (k - (a + 1)) + 1 by omega]
          show BC u (bs (bsI g f m a (k - (a + 1)) (bsO g f m a)) (wr g f m a (a + 1 + (k - (a + 1)))) (tt2 a (a + 1 + (k - (a + 1)))))
          rw [show a + 1 + (k - (a + 1)) = k by omega]
          exact hu) (109 - a) (a + 1) v (by omega) ⟨Nat.le_refl _, hv.1, by rw [Nat.sub_self]; exact hv.2⟩
      refine ⟨u, ?_, fu', ?_⟩
      · have e' : am_W sc 254 (73, [some (am_R (some 42)), none, some (am_I (ii a)), some (am_I (ii ((a : Int) + 1)))], [], wst v) = _ := e
        rw [wq_254_63]
        simp (disch := omega) only [qB_s, qC_t, qC_f, qI_T, qI_F, qI_t, qI_f, r_I, r_L, r_R, r_V, ii_add, ii_sub, ii_mul, ii_neg, bz_0, bz_1, Bool.true_and, Bool.false_and, Bool.and_true, z00, z11, li_0, li_1, li_110, li_201, is_42, pI_42_3, pI_42_4, pI_42_5, ii_lt]
        rw [e', wq_254_73]
        simp (disch := omega) only [qB_s, qC_t, qC_f, qI_T, qI_F, qI_t, qI_f, r_I, r_L, r_R, r_V, ii_add, ii_sub, ii_mul, ii_neg, bz_0, bz_1, Bool.true_and, Bool.false_and, Bool.and_true, z00, z11, li_0, li_1, li_110, li_201, is_42, pI_42_3, pI_42_4, pI_42_5, ii_lt, nat_1]
      · rw [show 110 - (a + 1) = 109 - a by omega] at hu
        exact hu) _ ⟨f0, b0⟩
    have e' : am_W sc 254 (63, [some (am_R (some 42)), none, some (am_I (ii 0)), none], [], wst (uI (uI (uI w 42 3 201) 42 4 0) 42 5 0)) = _ := e
    refine ⟨v, ?_, fv, ?_⟩
    · simp (disch := omega) only [qB_s, qC_t, qC_f, qI_T, qI_F, qI_t, qI_f, r_I, r_L, r_R, r_V, ii_add, ii_sub, ii_mul, ii_neg, bz_0, bz_1, Bool.true_and, Bool.false_and, Bool.and_true, z00, z11, li_0, li_1, li_110, li_201, is_42, pI_42_3, pI_42_4, pI_42_5, ii_eq]
      rw [e', wq_254_63]
      simp (disch := omega) only [qB_s, qC_t, qC_f, qI_T, qI_F, qI_t, qI_f, r_I, r_L, r_R, r_V, ii_add, ii_sub, ii_mul, ii_neg, bz_0, bz_1, Bool.true_and, Bool.false_and, Bool.and_true, z00, z11, li_0, li_1, li_110, li_201, is_42, pI_42_3, pI_42_4, pI_42_5, ii_lt]
    · rw [show bsD g f m 2 = bsO g f m 110 by unfold bsD; rw [if_neg (by decide), if_neg (by decide)]]
      exact hv
theorem c255s (h : SF w g f m) (hm : m ≤ 200) {d x : Int} (hd : d = 0 ∨ d = 1 ∨ d = 2) (hx : 0 ≤ x ∧ x ≤ 200) : ∃ v, am_W sc 255 (38, [some (am_R (some 0)), none, some (am_I (ii x)), some (am_I (ii d))], [], wst w) = (if (bsD g f m d).1 ≤ x then some (some (am_I (ii d)), wst v) else am_W sc 255 (38, [some (am_R (some 0)), none, some (am_I (ii x)), some (am_I (ii (d + 1)))], [], wst v)) ∧ fr sBC w v := by
  obtain ⟨v, e, fv, hv⟩ := c254 (sc := sc) h hm hd
  have h3 := hv.2.1
  have h0 := hv.1
  refine ⟨v, ?_, fv⟩
  rw [wq_255_38]
  by_cases q : (bsD g f m d).1 ≤ x
  · rw [if_pos q]
    simp (disch := omega) only [qB_s, qC_t, qC_f, qI_T, qI_F, qI_t, qI_f, r_I, r_L, r_R, r_V, ii_add, ii_sub, ii_mul, ii_neg, bz_0, bz_1, Bool.true_and, Bool.false_and, Bool.and_true, z00, z11, li_0, li_1, li_2, li_200, gI_42_3, gR_0_0, gR_0_13, gR_0_9, is_0, is_42, ii_lt, e, h3]
  · rw [if_neg q]
    simp (disch := omega) only [qB_s, qC_t, qC_f, qI_T, qI_F, qI_t, qI_f, r_I, r_L, r_R, r_V, ii_add, ii_sub, ii_mul, ii_neg, bz_0, bz_1, Bool.true_and, Bool.false_and, Bool.and_true, z00, z11, li_0, li_1, li_2, li_200, gI_42_3, gR_0_0, gR_0_13, gR_0_9, is_0, is_42, ii_lt, e, h3]
theorem c255 (h : SF w g f m) (hm : m ≤ 200) {x : Int} (hx : 0 ≤ x ∧ x ≤ 200) : ∃ v, am_W sc 255 (38, [some (am_R (some 0)), none, some (am_I (ii x)), some (am_I (ii 0))], [], wst w) = some (some (am_I (ii (fwD g f m x))), wst v) ∧ fr sBC w v := by
  obtain ⟨v0, e0, f0⟩ := c255s (sc := sc) h hm (d := 0) (.inl rfl) hx
  have h0 := SF_fr h f0
  obtain ⟨v1, e1, f1⟩ := c255s (sc := sc) h0 hm (d := 1) (.inr (.inl rfl)) hx
  have h1 := SF_fr h0 f1
  obtain ⟨v2, e2, f2⟩ := c255s (sc := sc) h1 hm (d := 2) (.inr (.inr rfl)) hx
  unfold fwD
  by_cases q0 : (bsD g f m 0).1 ≤ x
  · rw [if_pos q0] at e0 ⊢
    exact ⟨v0, e0, f0⟩
  · rw [if_neg q0] at e0 ⊢
    rw [Int.zero_add] at e0
    by_cases q1 : (bsD g f m 1).1 ≤ x
    · rw [if_pos q1] at e1 ⊢
      exact ⟨v1, e0.trans e1, fr_t f0 f1⟩
    · rw [if_neg q1] at e1 ⊢
      by_cases q2 : (bsD g f m 2).1 ≤ x
      · rw [if_pos q2] at e2 ⊢
        exact ⟨v2, e0.trans (e1.trans e2), fr_t f0 (fr_t f1 f2)⟩
      · rw [if_neg q2] at e2 ⊢
        refine ⟨v2, e0.trans (e1.trans (e2.trans ?_)), fr_t f0 (fr_t f1 f2)⟩
        rw [wq_255_38]
        simp (disch := omega) only [qB_s, qC_t, qC_f, qI_T, qI_F, qI_t, qI_f, r_I, r_L, r_R, r_V, ii_add, ii_sub, ii_mul, ii_neg, bz_0, bz_1, Bool.true_and, Bool.false_and, Bool.and_true, z00, z11, li_0, li_1, li_2, li_200, gI_42_3, gR_0_0, gR_0_13, gR_0_9, is_0, is_42, ii_lt, Int.reduceAdd]

theorem x_255 (hC : RC ow w A) (hA : okA A) {v x : Int} (hv1 : -2147483648 ≤ v) (hv2 : v ≤ 2147483647) (hx1 : -2147483648 ≤ x) (hx2 : x ≤ 2147483647) : ∃ u, am_F sc 255 [am_R (some 0), am_I (ii v), am_I (ii x)] (wst w) = some (some (am_I (ii (if (0 ≤ x ∧ x ≤ 200) ∧ (0 ≤ v ∧ v < A.2.2.1.1) then fwD (aG A) (vF A v) (vM A v) x else -1))), wst u) ∧ fr scC w u := by
  have hn8 := hA.2.2.1.2.1
  have hn0 := hA.2.2.1.1
  by_cases q1 : 0 ≤ x ∧ x ≤ 200
  · skip
    by_cases q2 : 0 ≤ v ∧ v < A.2.2.1.1
    · skip
      rw [if_pos (by omega)]
      obtain ⟨u, e1, f1, t1, -⟩ := (c117 (sc := sc) hC hA hv1 hv2).1 q2
      have hCu := RC_c hC (fr_m f1 rfl)
      have hm := vM_le hA v
      have hg := hA.1.2.2.1
      have hst := stg hA v
      have hok : ∀ i, i < vM A v → 0 ≤ vF A v i ∧ vF A v i < A.1.1 := fun i hi => vF_ok hA v hi
      obtain ⟨u2, e2, f2, h2⟩ := c249 (sc := sc) (n := aN A) (g := aG A) hCu.1 hg t1 hm hok
      obtain ⟨u3, e3, f3⟩ := c255 (sc := sc) h2 hm (x := x) q1
      refine ⟨u3, ?_, fr_t (fr_m f1 rfl) (fr_t (fr_m f2 rfl) (fr_m f3 rfl))⟩
      rw [fq_255]
      simp (disch := omega) only [qB_s, qC_t, qC_f, qI_T, qI_F, qI_t, qI_f, r_I, r_L, r_R, r_V, ii_add, ii_sub, ii_mul, ii_neg, bz_0, bz_1, Bool.true_and, Bool.false_and, Bool.and_true, z00, z11, li_0, li_1, li_2, li_200, gI_42_3, gR_0_0, gR_0_13, gR_0_9, is_0, is_42, e1, ii_eq, ii_lt, e2]
      exact e3
    · rw [if_neg (by omega)]
      have h117 := (c117 (sc := sc) hC hA hv1 hv2).2 q2
      exact ⟨w, by
        rw [fq_255]
        simp (disch := omega) only [qB_s, qC_t, qC_f, qI_T, qI_F, qI_t, qI_f, r_I, r_L, r_R, r_V, ii_add, ii_sub, ii_mul, ii_neg, bz_0, bz_1, Bool.true_and, Bool.false_and, Bool.and_true, z00, z11, li_0, li_1, li_2, li_200, gI_42_3, gR_0_0, gR_0_13, gR_0_9, is_0, is_42, ii_lt, ii_eq, ii_jj, jj_neg, h117], fr_r _ _⟩
  · rw [if_neg (by omega)]
    exact ⟨w, by
      rw [fq_255]
      by_cases zz : x < 0
      · simp (disch := omega) only [qB_s, qC_t, qC_f, qI_T, qI_F, qI_t, qI_f, r_I, r_L, r_R, r_V, ii_add, ii_sub, ii_mul, ii_neg, bz_0, bz_1, Bool.true_and, Bool.false_and, Bool.and_true, z00, z11, li_0, li_1, li_2, li_200, gI_42_3, gR_0_0, gR_0_13, gR_0_9, is_0, is_42, ii_lt, ii_eq, ii_jj, jj_neg]
      · simp (disch := omega) only [qB_s, qC_t, qC_f, qI_T, qI_F, qI_t, qI_f, r_I, r_L, r_R, r_V, ii_add, ii_sub, ii_mul, ii_neg, bz_0, bz_1, Bool.true_and, Bool.false_and, Bool.and_true, z00, z11, li_0, li_1, li_2, li_200, gI_42_3, gR_0_0, gR_0_13, gR_0_9, is_0, is_42, ii_lt, ii_eq, ii_jj, jj_neg], fr_r _ _⟩

theorem x_261 (hC : RC ow w A) (hA : okA A) {v d o : Int} (hv1 : -2147483648 ≤ v) (hv2 : v ≤ 2147483647) (hd1 : -2147483648 ≤ d) (hd2 : d ≤ 2147483647) (ho1 : -2147483648 ≤ o) (ho2 : o ≤ 2147483647) : ∃ u, am_F sc 261 [am_R (some 0), am_I (ii v), am_I (ii d), am_I (ii o)] (wst w) = some (some (am_I (ii (if (0 ≤ d ∧ d ≤ 2) ∧ (o = 0 ∨ o = 1) ∧ (0 ≤ v ∧ v < A.2.2.1.1) then bsA (bsD (aG A) (vF A v) (vM A v) d) o else -1))), wst u) ∧ fr scC w u := by
  have hn8 := hA.2.2.1.2.1
  have hn0 := hA.2.2.1.1
  have h126 := s126 (sc := sc) (w := w) ho1 ho2
  by_cases q1 : 0 ≤ d ∧ d ≤ 2
  · skip
    by_cases q2 : o = 0 ∨ o = 1
    · skip
      by_cases q3 : 0 ≤ v ∧ v < A.2.2.1.1
      · skip
        rw [if_pos (by omega)]
        obtain ⟨u, e1, f1, t1, -⟩ := (c117 (sc := sc) hC hA hv1 hv2).1 q3
        have hCu := RC_c hC (fr_m f1 rfl)
        have hm := vM_le hA v
        have hg := hA.1.2.2.1
        have hst := stg hA v
        have hok : ∀ i, i < vM A v → 0 ≤ vF A v i ∧ vF A v i < A.1.1 := fun i hi => vF_ok hA v hi
        obtain ⟨u2, e2, f2, h2⟩ := c249 (sc := sc) (n := aN A) (g := aG A) hCu.1 hg t1 hm hok
        obtain ⟨u3, e3, f3, h3⟩ := c254 (sc := sc) h2 hm (d := d) (by omega)
        obtain ⟨h30, h31, h32, h33⟩ := h3
        refine ⟨u3, ?_, fr_t (fr_m f1 rfl) (fr_t (fr_m f2 rfl) (fr_m f3 rfl))⟩
        rw [fq_261]
        unfold bsA
        by_cases z : o = 0
        · rw [if_pos z]
          simp (disch := omega) only [qB_s, qC_t, qC_f, qI_T, qI_F, qI_t, qI_f, r_I, r_L, r_R, r_V, ii_add, ii_sub, ii_mul, ii_neg, bz_0, bz_1, Bool.true_and, Bool.false_and, Bool.and_true, z00, z11, li_0, li_1, li_2, gI_42_3, gI_42_4, gI_42_5, gR_0_0, gR_0_13, gR_0_9, is_0, is_42, h126, e1, ii_eq, ii_lt, e2, e3, h31]
        · rw [if_neg z]
          cases b5 : (bsD (aG A) (vF A v) (vM A v) d).2.2 with
          | true =>
            rw [b5, bB_t] at h33
            rw [if_pos rfl]
            simp (disch := omega) only [qB_s, qC_t, qC_f, qI_T, qI_F, qI_t, qI_f, r_I, r_L, r_R, r_V, ii_add, ii_sub, ii_mul, ii_neg, bz_0, bz_1, Bool.true_and, Bool.false_and, Bool.and_true, z00, z11, li_0, li_1, li_2, gI_42_3, gI_42_4, gI_42_5, gR_0_0, gR_0_13, gR_0_9, is_0, is_42, h126, e1, ii_eq, ii_lt, e2, e3, h33]
          | false =>
            rw [b5, bB_f] at h33
            rw [if_neg (by decide)]
            cases b4 : (bsD (aG A) (vF A v) (vM A v) d).2.1 with
            | true =>
              rw [b4, bB_t] at h32
              rw [if_pos rfl]
              simp (disch := omega) only [qB_s, qC_t, qC_f, qI_T, qI_F, qI_t, qI_f, r_I, r_L, r_R, r_V, ii_add, ii_sub, ii_mul, ii_neg, bz_0, bz_1, Bool.true_and, Bool.false_and, Bool.and_true, z00, z11, li_0, li_1, li_2, gI_42_3, gI_42_4, gI_42_5, gR_0_0, gR_0_13, gR_0_9, is_0, is_42, h126, e1, ii_eq, ii_lt, e2, e3, h32, h33]
            | false =>
              rw [b4, bB_f] at h32
              rw [if_neg (by decide)]
              simp (disch := omega) only [qB_s, qC_t, qC_f, qI_T, qI_F, qI_t, qI_f, r_I, r_L, r_R, r_V, ii_add, ii_sub, ii_mul, ii_neg, bz_0, bz_1, Bool.true_and, Bool.false_and, Bool.and_true, z00, z11, li_0, li_1, li_2, gI_42_3, gI_42_4, gI_42_5, gR_0_0, gR_0_13, gR_0_9, is_0, is_42, h126, e1, ii_eq, ii_lt, e2, e3, h32, h33]
      · rw [if_neg (by omega)]
        have h117 := (c117 (sc := sc) hC hA hv1 hv2).2 q3
        exact ⟨w, by
          rw [fq_261]
          simp (disch := omega) only [qB_s, qC_t, qC_f, qI_T, qI_F, qI_t, qI_f, r_I, r_L, r_R, r_V, ii_add, ii_sub, ii_mul, ii_neg, bz_0, bz_1, Bool.true_and, Bool.false_and, Bool.and_true, z00, z11, li_0, li_1, li_2, gI_42_3, gI_42_4, gI_42_5, gR_0_0, gR_0_13, gR_0_9, is_0, is_42, ii_lt, ii_eq, ii_jj, jj_neg, h117, h126], fr_r _ _⟩
    · rw [if_neg (by omega)]
      exact ⟨w, by
        rw [fq_261]
        simp (disch := omega) only [qB_s, qC_t, qC_f, qI_T, qI_F, qI_t, qI_f, r_I, r_L, r_R, r_V, ii_add, ii_sub, ii_mul, ii_neg, bz_0, bz_1, Bool.true_and, Bool.false_and, Bool.and_true, z00, z11, li_0, li_1, li_2, gI_42_3, gI_42_4, gI_42_5, gR_0_0, gR_0_13, gR_0_9, is_0, is_42, ii_lt, ii_eq, ii_jj, jj_neg, h126], fr_r _ _⟩
  · rw [if_neg (by omega)]
    exact ⟨w, by
      rw [fq_261]
      by_cases zz : d < 0
      · simp (disch := omega) only [qB_s, qC_t, qC_f, qI_T, qI_F, qI_t, qI_f, r_I, r_L, r_R, r_V, ii_add, ii_sub, ii_mul, ii_neg, bz_0, bz_1, Bool.true_and, Bool.false_and, Bool.and_true, z00, z11, li_0, li_1, li_2, gI_42_3, gI_42_4, gI_42_5, gR_0_0, gR_0_13, gR_0_9, is_0, is_42, ii_lt, ii_eq, ii_jj, jj_neg]
      · simp (disch := omega) only [qB_s, qC_t, qC_f, qI_T, qI_F, qI_t, qI_f, r_I, r_L, r_R, r_V, ii_add, ii_sub, ii_mul, ii_neg, bz_0, bz_1, Bool.true_and, Bool.false_and, Bool.and_true, z00, z11, li_0, li_1, li_2, gI_42_3, gI_42_4, gI_42_5, gR_0_0, gR_0_13, gR_0_9, is_0, is_42, ii_lt, ii_eq, ii_jj, jj_neg], fr_r _ _⟩

end L43
