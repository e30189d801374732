/-! BARS OF A MARK, THE CLASS -/
def innB (g : Int → Int → Int) (f : Nat → Int) (mk : Int) (i : Nat) : Bool := decide (0 ≤ g (f i) (4 + mk) ∧ 0 ≤ g (f i) 3)
def ltB (g : Int → Int → Int) (f : Nat → Int) (mk c0 c1 : Int) (i : Nat) : Bool := decide ((if g (f i) 0 = 0 then c0 else c1) ≤ g (f i) (4 + mk))
def gS (g : Int → Int → Int) (f : Nat → Int) (mk tr bar : Int) (m : Nat) : Int := sm (fun i => bz (g (f i) 0 = tr ∧ g (f i) 3 = 1 ∧ bar ≤ g (f i) (4 + mk))) m
def bS (g : Int → Int → Int) (f : Nat → Int) (mk tr bar : Int) (m : Nat) : Int := sm (fun i => bz (g (f i) 0 = tr ∧ g (f i) 3 = 0 ∧ bar ≤ g (f i) (4 + mk))) m
theorem gS_ran (g : Int → Int → Int) (f : Nat → Int) (mk tr bar : Int) (m : Nat) : 0 ≤ gS g f mk tr bar m ∧ gS g f mk tr bar m ≤ m := sm_bz m
theorem bS_ran (g : Int → Int → Int) (f : Nat → Int) (mk tr bar : Int) (m : Nat) : 0 ≤ bS g f mk tr bar m ∧ bS g f mk tr bar m ≤ m := sm_bz m
def jV (g : Int → Int → Int) (f : Nat → Int) (mk ms tr bar : Int) (m : Nat) : Int := if ms = 0 then gS g f mk tr 0 m + bS g f mk tr 0 m else if ms = 1 then gS g f mk tr 0 m else if ms = 2 then bS g f mk tr 0 m else gS g f mk tr bar m + bS g f mk tr bar m
def pV (g : Int → Int → Int) (f : Nat → Int) (mk ms tr bar : Int) (m : Nat) : Int := if ms = 0 then gS g f mk tr bar m + bS g f mk tr bar m else if ms = 2 then bS g f mk tr bar m else gS g f mk tr bar m
section L28
variable {sc : am_X} {w : wo} {A : ab} {ow : Nat → Nat} {n : Int} {g : Int → Int → Int}
theorem jV_eq (hg : gK n g) {m : Nat} {f : Nat → Int} (hf : ∀ i, i < m → 0 ≤ f i ∧ f i < n) {mk ms tr c0 c1 : Int} (hms : 0 ≤ ms ∧ ms ≤ 3) (ht : tr = 0 ∨ tr = 1) (h0 : 0 ≤ c0) (h1 : 0 ≤ c1) : jS g f (innB g f mk) (ltB g f mk c0 c1) ms tr m = jV g f mk ms tr (if tr = 0 then c0 else c1) m := by
  have hm4 : ms = 0 ∨ ms = 1 ∨ ms = 2 ∨ ms = 3 := by omega
  unfold jS jV gS bS
  rcases hm4 with y | y | y | y
  · subst y
    rw [if_pos rfl, ← sm_add]
    refine sm_c (fun i hi => ?_)
    have hr := hg (f i) (hf i hi).1 (hf i hi).2
    simp only [innB, ltB, jB, mB, decide_eq_true_eq, Int.reduceEq, false_and, and_false, or_false, false_or, true_or, true_and, and_true, if_true, if_false, reduceIte]
    generalize g (f i) 0 = a at *
    generalize g (f i) 3 = c at *
    generalize g (f i) (4 + mk) = v at *
    unfold bz
    repeat' split
    all_goals first | rfl | (exfalso; omega)
  · subst y
    rw [if_neg (by decide), if_pos rfl]
    refine sm_c (fun i hi => bz_c ?_)
    simp only [innB, ltB, jB, mB, decide_eq_true_eq, Int.reduceEq, false_and, and_false, or_false, false_or, true_or, true_and, and_true, if_true, if_false, reduceIte]
    omega
  · subst y
    rw [if_neg (by decide), if_neg (by decide), if_pos rfl]
    refine sm_c (fun i hi => bz_c ?_)
    simp only [innB, ltB, jB, mB, decide_eq_true_eq, Int.reduceEq, false_and, and_false, or_false, false_or, true_or, true_and, and_true, if_true, if_false, reduceIte]
    omega
  · subst y
    rw [if_neg (by decide), if_neg (by decide), if_neg (by decide), ← sm_add]
    refine sm_c (fun i hi => ?_)
    have hr := hg (f i) (hf i hi).1 (hf i hi).2
    simp only [innB, ltB, jB, mB, decide_eq_true_eq, Int.reduceEq, false_and, and_false, or_false, false_or, true_or, true_and, and_true, if_true, if_false, reduceIte]
    generalize g (f i) 0 = a at *
    generalize g (f i) 3 = c at *
    generalize g (f i) (4 + mk) = v at *
    have hcc : ∀ b : Int, a = tr → ((if a = 0 then c0 else c1) ≤ b ↔ (if tr = 0 then c0 else c1) ≤ b) := fun b h => by rw [h]
    have h2 : 0 ≤ (if tr = 0 then c0 else c1) := by split <;> assumption
    revert hcc h2
    generalize (if tr = 0 then c0 else c1) = d
    generalize (if a = 0 then c0 else c1) = e
    intro hcc h2
    have hcv := hcc v
    unfold bz
    repeat' split
    all_goals first | rfl | (exfalso; omega)
theorem pV_eq (hg : gK n g) {m : Nat} {f : Nat → Int} (hf : ∀ i, i < m → 0 ≤ f i ∧ f i < n) {mk ms tr c0 c1 : Int} (hms : 0 ≤ ms ∧ ms ≤ 3) (ht : tr = 0 ∨ tr = 1) (h0 : 0 ≤ c0) (h1 : 0 ≤ c1) : pS g f (innB g f mk) (ltB g f mk c0 c1) ms tr m = pV g f mk ms tr (if tr = 0 then c0 else c1) m := by
  have hm4 : ms = 0 ∨ ms = 1 ∨ ms = 2 ∨ ms = 3 := by omega
  unfold pS pV gS bS
  rcases hm4 with y | y | y | y <;> subst y
  · rw [if_pos rfl, ← sm_add]
    refine sm_c (fun i hi => ?_)
    have hr := hg (f i) (hf i hi).1 (hf i hi).2
    simp only [innB, ltB, jB, mB, decide_eq_true_eq, Int.reduceEq, false_and, and_false, or_false, false_or, true_or, true_and, and_true, if_true, if_false, reduceIte]
    generalize g (f i) 0 = a at *
    generalize g (f i) 3 = c at *
    generalize g (f i) (4 + mk) = v at *
    have hcc : ∀ b : Int, a = tr → ((if a = 0 then c0 else c1) ≤ b ↔ (if tr = 0 then c0 else c1) ≤ b) := fun b h => by rw [h]
    have h2 : 0 ≤ (if tr = 0 then c0 else c1) := by split <;> assumption
    revert hcc h2
    generalize (if tr = 0 then c0 else c1) = d
    generalize (if a = 0 then c0 else c1) = e
    intro hcc h2
    have hcv := hcc v
    unfold bz
    repeat' split
    all_goals first | rfl | (exfalso; omega)
  · rw [if_neg (by decide), if_neg (by decide)]
    refine sm_c (fun i hi => bz_c ?_)
    simp only [innB, ltB, jB, mB, decide_eq_true_eq, Int.reduceEq, false_and, and_false, or_false, false_or, true_or, true_and, and_true, if_true, if_false, reduceIte]
    generalize g (f i) 0 = a at *
    have hcc : ∀ b : Int, a = tr → ((if a = 0 then c0 else c1) ≤ b ↔ (if tr = 0 then c0 else c1) ≤ b) := fun b h => by rw [h]
    have h2 : 0 ≤ (if tr = 0 then c0 else c1) := by split <;> assumption
    have hcv := hcc (g (f i) (4 + mk))
    revert hcv h2
    generalize (if tr = 0 then c0 else c1) = d
    generalize (if a = 0 then c0 else c1) = e
    intro hcv h2
    omega
  · rw [if_neg (by decide), if_pos rfl]
    refine sm_c (fun i hi => bz_c ?_)
    simp only [innB, ltB, jB, mB, decide_eq_true_eq, Int.reduceEq, false_and, and_false, or_false, false_or, true_or, true_and, and_true, if_true, if_false, reduceIte]
    generalize g (f i) 0 = a at *
    have hcc : ∀ b : Int, a = tr → ((if a = 0 then c0 else c1) ≤ b ↔ (if tr = 0 then c0 else c1) ≤ b) := fun b h => by rw [h]
    have h2 : 0 ≤ (if tr = 0 then c0 else c1) := by split <;> assumption
    have hcv := hcc (g (f i) (4 + mk))
    revert hcv h2
    generalize (if tr = 0 then c0 else c1) = d
    generalize (if a = 0 then c0 else c1) = e
    intro hcv h2
    omega
  · rw [if_neg (by decide), if_neg (by decide)]
    refine sm_c (fun i hi => bz_c ?_)
    simp only [innB, ltB, jB, mB, decide_eq_true_eq, Int.reduceEq, false_and, and_false, or_false, false_or, true_or, true_and, and_true, if_true, if_false, reduceIte]
    generalize g (f i) 0 = a at *
    have hcc : ∀ b : Int, a = tr → ((if a = 0 then c0 else c1) ≤ b ↔ (if tr = 0 then c0 else c1) ≤ b) := fun b h => by rw [h]
    have h2 : 0 ≤ (if tr = 0 then c0 else c1) := by split <;> assumption
    have hcv := hcc (g (f i) (4 + mk))
    revert hcv h2
    generalize (if tr = 0 then c0 else c1) = d
    generalize (if a = 0 then c0 else c1) = e
    intro hcv h2
    omega
theorem c142 {a n : Nat} {x : Int} (h : shp w a = some (1, 0, n)) (hn : n ≤ 60000) : ∃ v, am_F sc 142 [am_R (some a), am_I (ii x)] (wst w) = some (none, wst v) ∧ fr [a * 100 + 99] w v ∧ ∀ j : Int, 0 ≤ j → j < n → wA v a j = x := by
  have hh : fhas [a * 100 + 99] (a * 100 + 99) = true := by simp [fhas]
  obtain ⟨v, e, hfr, hv⟩ := lp_s0 (am_W sc 142) (fun (k : Nat) (v : wo) => (5, [some (am_R (some a)), some (am_I (ii x)), some (am_I (ii k)), some (am_I (ii n))], [], wst v)) (fun k v => fr [a * 100 + 99] w v ∧ ∀ j : Int, 0 ≤ j → j < k → wA v a j = x) n (fun k v hk hi => by
    obtain ⟨hfr, hv⟩ := hi
    have e1 := tI_of (w := v) (z := (k : Int)) (x := x) (by rw [fr_shp hfr]; exact h) (by omega) (by omega) hn
    refine ⟨uA v a (fu (wA v a) k x), ?_, fr_uA hfr hh, fun j j0 j1 => ?_⟩
    · rw [wq_142_5]
      simp (disch := omega) only [qB_s, qC_t, qC_f, qI_T, qI_F, qI_t, qI_f, r_I, r_L, r_R, r_V, ii_add, ii_sub, ii_mul, ii_neg, bz_0, bz_1, Bool.true_and, Bool.false_and, Bool.and_true, z00, z11, li_0, li_1, li_nat, ii_lt, e1, nat_1]
    · rw [rA, fu_at]
      by_cases q : j = k
      · rw [if_pos q]
      · rw [if_neg q]; exact hv j j0 (by omega)) w ⟨fr_r _ _, fun j j0 j1 => absurd j1 (by omega)⟩
  refine ⟨v, ?_, hfr, hv⟩
  rw [fq_142]
  have e' : am_W sc 142 (5, [some (am_R (some a)), some (am_I (ii x)), some (am_I (ii 0)), some (am_I (ii n))], [], wst w) = _ := e
  simp (disch := omega) only [qB_s, qC_t, qC_f, qI_T, qI_F, qI_t, qI_f, r_I, r_L, r_R, r_V, ii_add, ii_sub, ii_mul, ii_neg, bz_0, bz_1, Bool.true_and, Bool.false_and, Bool.and_true, z00, z11, li_0, li_1, li_nat, len_of h, li_nat]
  rw [e', wq_142_5]
  simp (disch := omega) only [qB_s, qC_t, qC_f, qI_T, qI_F, qI_t, qI_f, r_I, r_L, r_R, r_V, ii_add, ii_sub, ii_mul, ii_neg, bz_0, bz_1, Bool.true_and, Bool.false_and, Bool.and_true, z00, z11, li_0, li_1, li_nat, ii_lt]
theorem c234i_40 {mk i c tr v : Int} (hc : c = 41 - 40) (ht : tr = 0 ∨ tr = 1) (hv : -1 ≤ v ∧ v ≤ 9) : ∃ u, am_W sc 234 (78, [some (am_R (some 39)), some (am_R (some 1)), some (am_R (some 22)), some (am_I (ii mk)), some (am_I (ii i)), none, some (am_I (ii c)), some (am_I (ii tr)), some (am_I (ii v)), some (am_I (ii 0))], [], wst w) = am_W sc 234 (19, [some (am_R (some 39)), some (am_R (some 1)), some (am_R (some 22)), some (am_I (ii mk)), some (am_I (ii (i + 1))), none, none, none, none, none], [], wst u) ∧ fr [4099] w u ∧ ∀ b, 0 ≤ b → b < 22 → wA u 40 b = wA w 40 b + bz (tr * 11 ≤ b ∧ b ≤ tr * 11 + v) := by
  obtain ⟨u, e, hfr, hu⟩ := lp_s0 (am_W sc 234) (fun (k : Nat) (u : wo) => (78, [some (am_R (some 39)), some (am_R (some 1)), some (am_R (some 22)), some (am_I (ii mk)), some (am_I (ii i)), none, some (am_I (ii c)), some (am_I (ii tr)), some (am_I (ii v)), some (am_I (ii k))], [], wst u)) (fun k u => fr [4099] w u ∧ ∀ b, 0 ≤ b → b < 22 → wA u 40 b = wA w 40 b + bz (tr * 11 ≤ b ∧ b < tr * 11 + k)) (v + 1).toNat (fun k u hk hi => by
    obtain ⟨hfr, hu⟩ := hi
    refine ⟨uA u 40 (fu (wA u 40) (tr * 11 + k) (wA u 40 (tr * 11 + k) + 1)), ?_, fr_uA hfr rfl, fun b b0 b1 => ?_⟩
    · rw [wq_234_78]
      rcases ht with y | y
      · simp (disch := omega) only [qB_s, qC_t, qC_f, qI_T, qI_F, qI_t, qI_f, r_I, r_L, r_R, r_V, ii_add, ii_sub, ii_mul, ii_neg, bz_0, bz_1, Bool.true_and, Bool.false_and, Bool.and_true, z00, z11, li_0, li_1, li_11, e_40, e_41, gI_22_3, gR_39_0, gR_39_1, is_1, is_22, t_40, t_41, ii_lt, ii_eq, nat_1]
      · simp (disch := omega) only [qB_s, qC_t, qC_f, qI_T, qI_F, qI_t, qI_f, r_I, r_L, r_R, r_V, ii_add, ii_sub, ii_mul, ii_neg, bz_0, bz_1, Bool.true_and, Bool.false_and, Bool.and_true, z00, z11, li_0, li_1, li_11, e_40, e_41, gI_22_3, gR_39_0, gR_39_1, is_1, is_22, t_40, t_41, ii_lt, ii_eq, nat_1]
    · rw [rA, fu_at]
      by_cases q : b = tr * 11 + k
      · rw [if_pos q, ← q, hu b b0 b1, bz_f (p := tr * 11 ≤ b ∧ b < tr * 11 + k) (by omega), bz_t (p := tr * 11 ≤ b ∧ b < tr * 11 + ((k + 1 : Nat) : Int)) (by omega)]
        omega
      · rw [if_neg q, hu b b0 b1, bz_c (p := tr * 11 ≤ b ∧ b < tr * 11 + k) (q := tr * 11 ≤ b ∧ b < tr * 11 + ((k + 1 : Nat) : Int)) (by omega)]) w ⟨fr_r _ _, fun b b0 b1 => by rw [bz_f (by omega), Int.add_zero]⟩
  refine ⟨u, ?_, hfr, fun b b0 b1 => ?_⟩
  · have e' : am_W sc 234 (78, [some (am_R (some 39)), some (am_R (some 1)), some (am_R (some 22)), some (am_I (ii mk)), some (am_I (ii i)), none, some (am_I (ii c)), some (am_I (ii tr)), some (am_I (ii v)), some (am_I (ii 0))], [], wst w) = _ := e
    rw [e', wq_234_78]
    simp (disch := omega) only [qB_s, qC_t, qC_f, qI_T, qI_F, qI_t, qI_f, r_I, r_L, r_R, r_V, ii_add, ii_sub, ii_mul, ii_neg, bz_0, bz_1, Bool.true_and, Bool.false_and, Bool.and_true, z00, z11, li_0, li_1, li_11, e_40, e_41, gI_22_3, gR_39_0, gR_39_1, is_1, is_22, t_40, t_41, ii_lt]
  · rw [hu b b0 b1, bz_c (p := tr * 11 ≤ b ∧ b < tr * 11 + ((v + 1).toNat : Int)) (q := tr * 11 ≤ b ∧ b ≤ tr * 11 + v) (by omega)]
theorem c234i_41 {mk i c tr v : Int} (hc : c = 41 - 41) (ht : tr = 0 ∨ tr = 1) (hv : -1 ≤ v ∧ v ≤ 9) : ∃ u, am_W sc 234 (78, [some (am_R (some 39)), some (am_R (some 1)), some (am_R (some 22)), some (am_I (ii mk)), some (am_I (ii i)), none, some (am_I (ii c)), some (am_I (ii tr)), some (am_I (ii v)), some (am_I (ii 0))], [], wst w) = am_W sc 234 (19, [some (am_R (some 39)), some (am_R (some 1)), some (am_R (some 22)), some (am_I (ii mk)), some (am_I (ii (i + 1))), none, none, none, none, none], [], wst u) ∧ fr [4199] w u ∧ ∀ b, 0 ≤ b → b < 22 → wA u 41 b = wA w 41 b + bz (tr * 11 ≤ b ∧ b ≤ tr * 11 + v) := by
  obtain ⟨u, e, hfr, hu⟩ := lp_s0 (am_W sc 234) (fun (k : Nat) (u : wo) => (78, [some (am_R (some 39)), some (am_R (some 1)), some (am_R (some 22)), some (am_I (ii mk)), some (am_I (ii i)), none, some (am_I (ii c)), some (am_I (ii tr)), some (am_I (ii v)), some (am_I (ii k))], [], wst u)) (fun k u => fr [4199] w u ∧ ∀ b, 0 ≤ b → b < 22 → wA u 41 b = wA w 41 b + bz (tr * 11 ≤ b ∧ b < tr * 11 + k)) (v + 1).toNat (fun k u hk hi => by
    obtain ⟨hfr, hu⟩ := hi
    refine ⟨uA u 41 (fu (wA u 41) (tr * 11 + k) (wA u 41 (tr * 11 + k) + 1)), ?_, fr_uA hfr rfl, fun b b0 b1 => ?_⟩
    · rw [wq_234_78]
      rcases ht with y | y
      · simp (disch := omega) only [qB_s, qC_t, qC_f, qI_T, qI_F, qI_t, qI_f, r_I, r_L, r_R, r_V, ii_add, ii_sub, ii_mul, ii_neg, bz_0, bz_1, Bool.true_and, Bool.false_and, Bool.and_true, z00, z11, li_0, li_1, li_11, e_40, e_41, gI_22_3, gR_39_0, gR_39_1, is_1, is_22, t_40, t_41, ii_lt, ii_eq, nat_1]
      · simp (disch := omega) only [qB_s, qC_t, qC_f, qI_T, qI_F, qI_t, qI_f, r_I, r_L, r_R, r_V, ii_add, ii_sub, ii_mul, ii_neg, bz_0, bz_1, Bool.true_and, Bool.false_and, Bool.and_true, z00, z11, li_0, li_1, li_11, e_40, e_41, gI_22_3, gR_39_0, gR_39_1, is_1, is_22, t_40, t_41, ii_lt, ii_eq, nat_1]
    · rw [rA, fu_at]
      by_cases q : b = tr * 11 + k
      · rw [if_pos q, ← q, hu b b0 b1, bz_f (p := tr * 11 ≤ b ∧ b < tr * 11 + k) (by omega), bz_t (p := tr * 11 ≤ b ∧ b < tr * 11 + ((k + 1 : Nat) : Int)) (by omega)]
        omega
      · rw [if_neg q, hu b b0 b1, bz_c (p := tr * 11 ≤ b ∧ b < tr * 11 + k) (q := tr * 11 ≤ b ∧ b < tr * 11 + ((k + 1 : Nat) : Int)) (by omega)]) w ⟨fr_r _ _, fun b b0 b1 => by rw [bz_f (by omega), Int.add_zero]⟩
  refine ⟨u, ?_, hfr, fun b b0 b1 => ?_⟩
  · have e' : am_W sc 234 (78, [some (am_R (some 39)), some (am_R (some 1)), some (am_R (some 22)), some (am_I (ii mk)), some (am_I (ii i)), none, some (am_I (ii c)), some (am_I (ii tr)), some (am_I (ii v)), some (am_I (ii 0))], [], wst w) = _ := e
    rw [e', wq_234_78]
    simp (disch := omega) only [qB_s, qC_t, qC_f, qI_T, qI_F, qI_t, qI_f, r_I, r_L, r_R, r_V, ii_add, ii_sub, ii_mul, ii_neg, bz_0, bz_1, Bool.true_and, Bool.false_and, Bool.and_true, z00, z11, li_0, li_1, li_11, e_40, e_41, gI_22_3, gR_39_0, gR_39_1, is_1, is_22, t_40, t_41, ii_lt]
  · rw [hu b b0 b1, bz_c (p := tr * 11 ≤ b ∧ b < tr * 11 + ((v + 1).toNat : Int)) (q := tr * 11 ≤ b ∧ b ≤ tr * 11 + v) (by omega)]
/-- the rows of bars -/
def GB (w : wo) (g : Int → Int → Int) (f : Nat → Int) (mk : Int) (m : Nat) : Prop := ∀ tr bar : Int, (tr = 0 ∨ tr = 1) → 0 ≤ bar → bar < 11 → wA w 40 (tr * 11 + bar) = gS g f mk tr bar m ∧ wA w 41 (tr * 11 + bar) = bS g f mk tr bar m
theorem c234 (hC : CS w n g) (hg : gK n g) {m : Nat} {f : Nat → Int} (hT : TK w m f) (hm : m ≤ 200) (hf : ∀ i, i < m → 0 ≤ f i ∧ f i < n) {mk : Int} (hk : 0 ≤ mk ∧ mk < 6) : ∃ v, am_F sc 234 [am_R (some 39), am_R (some 1), am_R (some 22), am_I (ii mk)] (wst w) = some (none, wst v) ∧ fr [4099, 4199] w v ∧ GB v g f mk m := by
  obtain ⟨w1, e1, f1, z1⟩ := c142 (sc := sc) (w := w) (a := 40) (n := 22) (x := 0) rfl (by decide)
  obtain ⟨w2, e2, f2, z2⟩ := c142 (sc := sc) (w := w1) (a := 41) (n := 22) (x := 0) rfl (by decide)
  have f12 : fr [4099, 4199] w w2 := fr_t (fr_m f1 rfl) (fr_m f2 rfl)
  have z1' : ∀ j : Int, 0 ≤ j → j < ((22 : Nat) : Int) → wA w2 40 j = 0 := by rw [fr_A (a := 40) f2 rfl]; exact z1
  obtain ⟨v, e, hfr, hgb⟩ := lp_s0 (am_W sc 234) (fun (k : Nat) (v : wo) => (19, [some (am_R (some 39)), some (am_R (some 1)), some (am_R (some 22)), some (am_I (ii mk)), some (am_I (ii k)), none, none, none, none, none], [], wst v)) (fun k v => fr [4099, 4199] w v ∧ GB v g f mk k) m (fun k v hk' hi => by
    obtain ⟨hfr, hgb⟩ := hi
    have hCv := CS_fr hC hfr rfl
    have hTv : TK v m f := ⟨by rw [fr_I hfr rfl]; exact hT.1, by rw [fr_A (a := 24) hfr rfl]; exact hT.2⟩
    have hs := hTv.1
    have hfk := hf k hk'
    have hr := hg (f k) hfk.1 hfk.2
    have hrm := hr.2.2.2.2 mk hk.1 hk.2
    have p1 := c118 (sc := sc) hTv hm hk'
    have p2 := c26 (sc := sc) hCv hfk.1 hfk.2
    have p5 := c29 (sc := sc) hCv hfk.1 hfk.2
    have p6 := c21 (sc := sc) hCv hfk.1 hfk.2 hk.1 hk.2
    simp only [Int.reduceSub] at p2 p5
    have gs : ∀ tr bar, gS g f mk tr bar (k + 1) = gS g f mk tr bar k + bz (g (f k) 0 = tr ∧ g (f k) 3 = 1 ∧ bar ≤ g (f k) (4 + mk)) := fun _ _ => rfl
    have bs : ∀ tr bar, bS g f mk tr bar (k + 1) = bS g f mk tr bar k + bz (g (f k) 0 = tr ∧ g (f k) 3 = 0 ∧ bar ≤ g (f k) (4 + mk)) := fun _ _ => rfl
    have ht : g (f k) 0 = 0 ∨ g (f k) 0 = 1 := by omega
    by_cases q : g (f k) 3 = -1
    · refine ⟨v, ?_, hfr, fun tr bar t1 b0 b1 => ?_⟩
      · rw [wq_234_19]
        simp (disch := omega) only [qB_s, qC_t, qC_f, qI_T, qI_F, qI_t, qI_f, r_I, r_L, r_R, r_V, ii_add, ii_sub, ii_mul, ii_neg, bz_0, bz_1, Bool.true_and, Bool.false_and, Bool.and_true, z00, z11, li_0, li_1, li_11, e_40, e_41, gI_22_3, gR_39_0, gR_39_1, is_1, is_22, t_40, t_41, hs, ii_lt, ii_eq, p1, p2, p5, p6, nat_1]
      · rw [gs, bs, bz_f (by omega), bz_f (by omega), Int.add_zero, Int.add_zero]
        exact hgb tr bar t1 b0 b1
    · by_cases q2 : g (f k) 3 = 1
      · obtain ⟨u, eu, fu', hu⟩ := c234i_40 (sc := sc) (w := v) (mk := mk) (i := k) (c := g (f k) 3) (tr := g (f k) 0) (v := g (f k) (4 + mk)) (by omega) ht hrm
        refine ⟨u, ?_, fr_t hfr (fr_m fu' rfl), fun tr bar t1 b0 b1 => ?_⟩
        · rw [wq_234_19]
          simp (disch := omega) only [qB_s, qC_t, qC_f, qI_T, qI_F, qI_t, qI_f, r_I, r_L, r_R, r_V, ii_add, ii_sub, ii_mul, ii_neg, bz_0, bz_1, Bool.true_and, Bool.false_and, Bool.and_true, z00, z11, li_0, li_1, li_11, e_40, e_41, gI_22_3, gR_39_0, gR_39_1, is_1, is_22, t_40, t_41, hs, ii_lt, ii_eq, p1, p2, p5, p6, s11, eu, nat_1]
        · have h1 := hgb tr bar t1 b0 b1
          rw [gs, bs, hu _ (by omega) (by omega), fr_A (a := 41) fu' rfl, h1.1, h1.2, bz_f (p := g (f k) 0 = tr ∧ g (f k) 3 = 0 ∧ bar ≤ g (f k) (4 + mk)) (by omega), Int.add_zero, bz_c (p := g (f k) 0 * 11 ≤ tr * 11 + bar ∧ tr * 11 + bar ≤ g (f k) 0 * 11 + g (f k) (4 + mk)) (q := g (f k) 0 = tr ∧ g (f k) 3 = 1 ∧ bar ≤ g (f k) (4 + mk)) (by omega)]
          exact ⟨rfl, rfl⟩
      · obtain ⟨u, eu, fu', hu⟩ := c234i_41 (sc := sc) (w := v) (mk := mk) (i := k) (c := g (f k) 3) (tr := g (f k) 0) (v := g (f k) (4 + mk)) (by omega) ht hrm
        refine ⟨u, ?_, fr_t hfr (fr_m fu' rfl), fun tr bar t1 b0 b1 => ?_⟩
        · rw [wq_234_19]
          simp (disch := omega) only [qB_s, qC_t, qC_f, qI_T, qI_F, qI_t, qI_f, r_I, r_L, r_R, r_V, ii_add, ii_sub, ii_mul, ii_neg, bz_0, bz_1, Bool.true_and, Bool.false_and, Bool.and_true, z00, z11, li_0, li_1, li_11, e_40, e_41, gI_22_3, gR_39_0, gR_39_1, is_1, is_22, t_40, t_41, hs, ii_lt, ii_eq, p1, p2, p5, p6, s11, eu, nat_1]
        · have h1 := hgb tr bar t1 b0 b1
          rw [gs, bs, hu _ (by omega) (by omega), fr_A (a := 40) fu' rfl, h1.1, h1.2, bz_f (p := g (f k) 0 = tr ∧ g (f k) 3 = 1 ∧ bar ≤ g (f k) (4 + mk)) (by omega), Int.add_zero, bz_c (p := g (f k) 0 * 11 ≤ tr * 11 + bar ∧ tr * 11 + bar ≤ g (f k) 0 * 11 + g (f k) (4 + mk)) (q := g (f k) 0 = tr ∧ g (f k) 3 = 0 ∧ bar ≤ g (f k) (4 + mk)) (by omega)]
          exact ⟨rfl, rfl⟩) w2 ⟨f12, fun tr bar t1 b0 b1 => by
    rw [z1' _ (by omega) (by omega), z2 _ (by omega) (by omega)]
    exact ⟨rfl, rfl⟩⟩
  have hs : wI v 22 3 = m := by rw [fr_I hfr rfl]; exact hT.1
  refine ⟨v, ?_, hfr, hgb⟩
  rw [fq_234]
  have e' : am_W sc 234 (19, [some (am_R (some 39)), some (am_R (some 1)), some (am_R (some 22)), some (am_I (ii mk)), some (am_I (ii 0)), none, none, none, none, none], [], wst w2) = _ := e
  simp (disch := omega) only [qB_s, qC_t, qC_f, qI_T, qI_F, qI_t, qI_f, r_I, r_L, r_R, r_V, ii_add, ii_sub, ii_mul, ii_neg, bz_0, bz_1, Bool.true_and, Bool.false_and, Bool.and_true, z00, z11, li_0, li_1, li_11, e_40, e_41, gI_22_3, gR_39_0, gR_39_1, is_1, is_22, t_40, t_41, e1, e2]
  rw [e', wq_234_19]
  simp (disch := omega) only [qB_s, qC_t, qC_f, qI_T, qI_F, qI_t, qI_f, r_I, r_L, r_R, r_V, ii_add, ii_sub, ii_mul, ii_neg, bz_0, bz_1, Bool.true_and, Bool.false_and, Bool.and_true, z00, z11, li_0, li_1, li_11, e_40, e_41, gI_22_3, gR_39_0, gR_39_1, is_1, is_22, t_40, t_41, hs, ii_lt]
theorem c235 {m : Nat} {f : Nat → Int} {mk : Int} (hG : GB w g f mk m) {tr bar : Int} (ht : tr = 0 ∨ tr = 1) (hb : 0 ≤ bar ∧ bar < 11) : am_F sc 235 [am_R (some 39), am_I (ii tr), am_I (ii bar)] (wst w) = some (some (am_I (ii (gS g f mk tr bar m))), wst w) := by
  have h := (hG tr bar ht hb.1 hb.2).1
  rw [fq_235]
  rcases ht with y | y
  · simp (disch := omega) only [qB_s, qC_t, qC_f, qI_T, qI_F, qI_t, qI_f, r_I, r_L, r_R, r_V, ii_add, ii_sub, ii_mul, ii_neg, bz_0, bz_1, Bool.true_and, Bool.false_and, Bool.and_true, z00, z11, li_0, li_11, e_40, gR_39_0, s11, ii_lt, ii_eq, h]
  · simp (disch := omega) only [qB_s, qC_t, qC_f, qI_T, qI_F, qI_t, qI_f, r_I, r_L, r_R, r_V, ii_add, ii_sub, ii_mul, ii_neg, bz_0, bz_1, Bool.true_and, Bool.false_and, Bool.and_true, z00, z11, li_0, li_11, e_40, gR_39_0, s11, ii_lt, ii_eq, h]
theorem c236 {m : Nat} {f : Nat → Int} {mk : Int} (hG : GB w g f mk m) {tr bar : Int} (ht : tr = 0 ∨ tr = 1) (hb : 0 ≤ bar ∧ bar < 11) : am_F sc 236 [am_R (some 39), am_I (ii tr), am_I (ii bar)] (wst w) = some (some (am_I (ii (bS g f mk tr bar m))), wst w) := by
  have h := (hG tr bar ht hb.1 hb.2).2
  rw [fq_236]
  rcases ht with y | y
  · simp (disch := omega) only [qB_s, qC_t, qC_f, qI_T, qI_F, qI_t, qI_f, r_I, r_L, r_R, r_V, ii_add, ii_sub, ii_mul, ii_neg, bz_0, bz_1, Bool.true_and, Bool.false_and, Bool.and_true, z00, z11, li_0, li_11, e_41, gR_39_1, s11, ii_lt, ii_eq, h]
  · simp (disch := omega) only [qB_s, qC_t, qC_f, qI_T, qI_F, qI_t, qI_f, r_I, r_L, r_R, r_V, ii_add, ii_sub, ii_mul, ii_neg, bz_0, bz_1, Bool.true_and, Bool.false_and, Bool.and_true, z00, z11, li_0, li_11, e_41, gR_39_1, s11, ii_lt, ii_eq, h]
theorem c237 {m : Nat} {f : Nat → Int} {mk : Int} (hG : GB w g f mk m) {ms tr bar : Int} (hms : 0 ≤ ms ∧ ms ≤ 3) (ht : tr = 0 ∨ tr = 1) (hb : 0 ≤ bar ∧ bar < 11) : am_F sc 237 [am_R (some 39), am_I (ii ms), am_I (ii tr), am_I (ii bar)] (wst w) = some (some (am_I (ii (pV g f mk ms tr bar m))), wst w) := by
  have h1 := c235 (sc := sc) hG ht hb
  have h2 := c236 (sc := sc) hG ht hb
  have hm4 : ms = 0 ∨ ms = 1 ∨ ms = 2 ∨ ms = 3 := by omega
  rw [fq_237]
  unfold pV
  rcases hm4 with y | y | y | y <;> subst y
  all_goals simp (disch := omega) only [qB_s, qC_t, qC_f, qI_T, qI_F, qI_t, qI_f, r_I, r_L, r_R, r_V, ii_add, ii_sub, ii_mul, ii_neg, bz_0, bz_1, Bool.true_and, Bool.false_and, Bool.and_true, z00, z11, li_0, li_2, is_39, ii_eq, h1, h2, Int.reduceEq, if_true, if_false]
theorem c238 {m : Nat} {f : Nat → Int} {mk : Int} (hG : GB w g f mk m) {ms tr bar : Int} (hms : 0 ≤ ms ∧ ms ≤ 3) (ht : tr = 0 ∨ tr = 1) (hb : 0 ≤ bar ∧ bar < 11) : am_F sc 238 [am_R (some 39), am_I (ii ms), am_I (ii tr), am_I (ii bar)] (wst w) = some (some (am_I (ii (jV g f mk ms tr bar m))), wst w) := by
  have h1 := c235 (sc := sc) hG ht hb
  have h2 := c236 (sc := sc) hG ht hb
  have h3 := c235 (sc := sc) hG ht (bar := 0) (by decide)
  have h4 := c236 (sc := sc) hG ht (bar := 0) (by decide)
  have hm4 : ms = 0 ∨ ms = 1 ∨ ms = 2 ∨ ms = 3 := by omega
  rw [fq_238]
  unfold jV
  rcases hm4 with y | y | y | y <;> subst y
  all_goals simp (disch := omega) only [qB_s, qC_t, qC_f, qI_T, qI_F, qI_t, qI_f, r_I, r_L, r_R, r_V, ii_add, ii_sub, ii_mul, ii_neg, bz_0, bz_1, Bool.true_and, Bool.false_and, Bool.and_true, z00, z11, li_0, li_1, li_2, is_39, ii_eq, h1, h2, h3, h4, Int.reduceEq, if_true, if_false]
/-- the split by two bars -/
def bU (g : Int → Int → Int) (f : Nat → Int) (mk ms c0 c1 : Int) (m : Nat) : Int := frU (pV g f mk ms 0 c0 m) (jV g f mk ms 0 c0 m) (pV g f mk ms 1 c1 m) (jV g f mk ms 1 c1 m)
def bD (g : Int → Int → Int) (f : Nat → Int) (mk ms c0 c1 : Int) (m : Nat) : Int := frD (pV g f mk ms 0 c0 m) (jV g f mk ms 0 c0 m) (pV g f mk ms 1 c1 m) (jV g f mk ms 1 c1 m)
def bR (g : Int → Int → Int) (f : Nat → Int) (mk c0 c1 : Int) (m : Nat) : Int := gS g f mk 0 c0 m + bS g f mk 0 0 m - bS g f mk 0 c0 m + gS g f mk 1 c1 m + bS g f mk 1 0 m - bS g f mk 1 c1 m
theorem jV_ran (g : Int → Int → Int) (f : Nat → Int) (mk ms tr bar : Int) (m : Nat) : 0 ≤ jV g f mk ms tr bar m ∧ jV g f mk ms tr bar m ≤ 2 * m := by
  have h1 := gS_ran g f mk tr bar m
  have h2 := bS_ran g f mk tr bar m
  have h3 := gS_ran g f mk tr 0 m
  have h4 := bS_ran g f mk tr 0 m
  unfold jV
  repeat' split
  all_goals omega
theorem pV_ran (g : Int → Int → Int) (f : Nat → Int) (mk ms tr bar : Int) (m : Nat) : 0 ≤ pV g f mk ms tr bar m ∧ pV g f mk ms tr bar m ≤ 2 * m := by
  have h1 := gS_ran g f mk tr bar m
  have h2 := bS_ran g f mk tr bar m
  unfold pV
  repeat' split
  all_goals omega
theorem bUD_ran (g : Int → Int → Int) (f : Nat → Int) (mk ms c0 c1 : Int) {m : Nat} (hm : m ≤ 200) : (-4000000 ≤ bU g f mk ms c0 c1 m ∧ bU g f mk ms c0 c1 m ≤ 4000000) ∧ (0 ≤ bD g f mk ms c0 c1 m ∧ bD g f mk ms c0 c1 m ≤ 4000000) := by
  have h1 := pV_ran g f mk ms 0 c0 m
  have h2 := jV_ran g f mk ms 0 c0 m
  have h3 := pV_ran g f mk ms 1 c1 m
  have h4 := jV_ran g f mk ms 1 c1 m
  exact frUD_ran (by omega) (by omega) (by omega) (by omega)
theorem c239 {m : Nat} {f : Nat → Int} {mk : Int} (hG : GB w g f mk m) (hm : m ≤ 200) {ms c0 c1 : Int} (hms : 0 ≤ ms ∧ ms ≤ 3) (h0 : 0 ≤ c0 ∧ c0 < 11) (h1 : 0 ≤ c1 ∧ c1 < 11) : ∃ v, am_F sc 239 [am_R (some 39), am_R (some 28), am_I (ii ms), am_I (ii c0), am_I (ii c1)] (wst w) = some (none, wst v) ∧ fr [2800, 2801] w v ∧ wJ v 28 0 = bU g f mk ms c0 c1 m ∧ wJ v 28 1 = bD g f mk ms c0 c1 m := by
  have e1 := c237 (sc := sc) hG hms (.inl rfl) h0
  have e2 := c238 (sc := sc) hG hms (.inl rfl) h0
  have e3 := c237 (sc := sc) hG hms (.inr rfl) h1
  have e4 := c238 (sc := sc) hG hms (.inr rfl) h1
  have r1 := pV_ran g f mk ms 0 c0 m
  have r2 := jV_ran g f mk ms 0 c0 m
  have r3 := pV_ran g f mk ms 1 c1 m
  have r4 := jV_ran g f mk ms 1 c1 m
  obtain ⟨v, e5, f5, h5⟩ := c131 (sc := sc) (w := w) (a := pV g f mk ms 0 c0 m) (b := jV g f mk ms 0 c0 m) (c := pV g f mk ms 1 c1 m) (d := jV g f mk ms 1 c1 m) (by omega) (by omega) (by omega) (by omega)
  refine ⟨v, ?_, f5, h5⟩
  rw [fq_239]
  simp (disch := omega) only [qB_s, qC_t, qC_f, qI_T, qI_F, qI_t, qI_f, r_I, r_L, r_R, r_V, ii_add, ii_sub, ii_mul, ii_neg, bz_0, bz_1, Bool.true_and, Bool.false_and, Bool.and_true, z00, z11, li_0, li_1, is_28, is_39, e1, e2, e3, e4, e5]
theorem c240 {m : Nat} {f : Nat → Int} {mk : Int} (hG : GB w g f mk m) {c0 c1 : Int} (h0 : 0 ≤ c0 ∧ c0 < 11) (h1 : 0 ≤ c1 ∧ c1 < 11) : am_F sc 240 [am_R (some 39), am_I (ii c0), am_I (ii c1)] (wst w) = some (some (am_I (ii (bR g f mk c0 c1 m))), wst w) := by
  have e1 := c235 (sc := sc) hG (tr := 0) (.inl rfl) h0
  have e2 := c236 (sc := sc) hG (tr := 0) (.inl rfl) h0
  have e3 := c235 (sc := sc) hG (tr := 1) (.inr rfl) h1
  have e4 := c236 (sc := sc) hG (tr := 1) (.inr rfl) h1
  have e5 := c236 (sc := sc) hG (tr := 0) (bar := 0) (.inl rfl) (by decide)
  have e6 := c236 (sc := sc) hG (tr := 1) (bar := 0) (.inr rfl) (by decide)
  rw [fq_240]
  simp (disch := omega) only [qB_s, qC_t, qC_f, qI_T, qI_F, qI_t, qI_f, r_I, r_L, r_R, r_V, ii_add, ii_sub, ii_mul, ii_neg, bz_0, bz_1, Bool.true_and, Bool.false_and, Bool.and_true, z00, z11, li_0, li_1, is_39, e1, e2, e3, e4, e5, e6]
  rfl
end L28
