/-! WHOM A VIEW TAKES -/
/-- the first k of those for which p is true: how many, and which -/
def tg (p : Int → Bool) : Nat → Nat × (Nat → Int)
  | 0 => (0, fun _ => 0)
  | k + 1 => bif p k then ((tg p k).1 + 1, fun j => bif Nat.beq j (tg p k).1 then (k : Int) else (tg p k).2 j) else tg p k
theorem tg_t {p : Int → Bool} {k : Nat} (h : p k = true) : tg p (k + 1) = ((tg p k).1 + 1, fun j => bif Nat.beq j (tg p k).1 then (k : Int) else (tg p k).2 j) := by
  conv => lhs; unfold tg
  rw [h]
  rfl
theorem tg_f {p : Int → Bool} {k : Nat} (h : p k = false) : tg p (k + 1) = tg p k := by
  conv => lhs; unfold tg
  rw [h]
  rfl
theorem tg_le (p : Int → Bool) : ∀ k, (tg p k).1 ≤ k
  | 0 => Nat.le_refl 0
  | k + 1 => by
    have ih := tg_le p k
    cases h : p k with
    | true => rw [tg_t h]; dsimp only; omega
    | false => rw [tg_f h]; omega
theorem tg_el (p : Int → Bool) : ∀ k i, i < (tg p k).1 → 0 ≤ (tg p k).2 i ∧ (tg p k).2 i < k ∧ p ((tg p k).2 i) = true
  | 0, i, h => absurd h (Nat.not_lt_zero i)
  | k + 1, i, h => by
    have ih := tg_el p k i
    cases hp : p k with
    | true =>
      rw [tg_t hp] at h ⊢
      dsimp only at h ⊢
      by_cases q : i = (tg p k).1
      · rw [q, Nat.beq_refl]
        exact ⟨by show (0 : Int) ≤ (k : Int); omega, by show (k : Int) < _; omega, hp⟩
      · rw [nbeq_f q]
        have := ih (by omega)
        exact ⟨this.1, by have := this.2.1; show (tg p k).2 i < _; omega, this.2.2⟩
    | false =>
      rw [tg_f hp] at h ⊢
      have := ih h
      exact ⟨this.1, by omega, this.2.2⟩
theorem tg_mo (p : Int → Bool) : ∀ k i j, i < j → j < (tg p k).1 → (tg p k).2 i < (tg p k).2 j
  | 0, i, j, _, h => absurd h (Nat.not_lt_zero j)
  | k + 1, i, j, hij, h => by
    have ih := tg_mo p k i j hij
    cases hp : p k with
    | true =>
      rw [tg_t hp] at h ⊢
      dsimp only at h ⊢
      have hi := (tg_el p k i (by omega)).2.1
      rw [nbeq_f (a := i) (b := (tg p k).1) (by omega)]
      by_cases q : j = (tg p k).1
      · rw [q, Nat.beq_refl]
        exact hi
      · rw [nbeq_f q]
        exact ih (by omega)
    | false =>
      rw [tg_f hp] at h ⊢
      exact ih h
theorem tg_in (p : Int → Bool) (k : Nat) {i j : Nat} (hi : i < (tg p k).1) (hj : j < (tg p k).1) (h : (tg p k).2 i = (tg p k).2 j) : i = j := by
  by_cases q : i < j
  · have := tg_mo p k i j q hj
    omega
  · by_cases q2 : j < i
    · have := tg_mo p k j i q2 hi
      omega
    · omega
def pam (am : Option pg) (r : Int → Int) : Bool := match am with
  | none => true
  | some P => evp r P
/-- a case is taken -/
def pT (g : Int → Int → Int) (am : Option pg) (l k : Int) : Bool := !lm g k l && pam am (rw1 g k)
def TK (w : wo) (m : Nat) (f : Nat → Int) : Prop := wI w 22 3 = m ∧ ∀ i : Nat, i < m → wA w 24 i = f i
def MK (w : wo) (m : Nat) (f : Nat → Int) : Prop := wI w 47 26 = m ∧ ∀ i : Nat, i < m → wA w 59 i = f i
section L17
variable {sc : am_X} {w : wo} {n : Int} {g : Int → Int → Int}
theorem c101_23 (hC : CS w n g) (hg : gK n g) {k : Int} (hk0 : 0 ≤ k) (hk : k < n) : ∃ v, am_F sc 101 [am_R (some 1), am_I (ii k), am_R (some 23)] (wst w) = some (none, wst v) ∧ fr [2399] w v ∧ RW v 23 (rw1 g k) := by
  obtain ⟨hn, h0, h1, h2⟩ := id hC
  have hr := hg k hk0 hk
  obtain ⟨v, e, hf, hv⟩ := lp_s0 (am_W sc 101) (fun (j : Nat) (v : wo) => (10, [some (am_R (some 1)), some (am_I (ii k)), some (am_R (some 23)), some (am_I (ii j))], [], wst v)) (fun j v => fr [2399] w v ∧ ∀ i : Int, 0 ≤ i → i < j → wA v 23 i = g k (4 + i)) 6 (fun j v hj hi => by
    have hCv := CS_fr hC hi.1 rfl
    refine ⟨uA v 23 (fu (wA v 23) j (g k (4 + j))), ?_, fr_uA hi.1 rfl, fun i i0 i1 => ?_⟩
    · rw [wq_101_10]
      simp (disch := omega) only [qB_s, qC_t, qC_f, qI_T, qI_F, qI_t, qI_f, r_I, r_L, r_R, r_V, ii_add, ii_sub, ii_mul, ii_neg, bz_0, bz_1, Bool.true_and, Bool.false_and, Bool.and_true, z00, z11, li_0, li_1, li_10, li_11, li_6, li_7, li_8, li_9, li_nat, is_1, t_23, ii_lt, c21 hCv, nat_1]
    · rw [rA, fu_at]
      by_cases q : i = j
      · rw [if_pos q, q]
      · rw [if_neg q]
        exact hi.2 i i0 (by omega)) w ⟨fr_r _ _, fun i i0 i1 => absurd i1 (by omega)⟩
  obtain ⟨c9, h9⟩ : ∃ c : Int, c = if g k 3 < 0 then 0 else g k 3 := ⟨_, rfl⟩
  obtain ⟨c10, h10⟩ : ∃ c : Int, c = if g k 3 < 0 then 0 else 1 := ⟨_, rfl⟩
  have hCv := CS_fr hC hf rfl
  have hC1 := CS_fr (v := uA v 23 (fu (wA v 23) 6 (g k 0))) hC (fr_uA hf rfl) rfl
  have hC2 := CS_fr (v := uA (uA v 23 (fu (wA v 23) 6 (g k 0))) 23 (fu (fu (wA v 23) 6 (g k 0)) 7 (g k 1))) hC (fr_uA (fr_uA hf rfl) rfl) rfl
  have hC3 := CS_fr (v := uA (uA (uA v 23 (fu (wA v 23) 6 (g k 0))) 23 (fu (fu (wA v 23) 6 (g k 0)) 7 (g k 1))) 23 (fu (fu (fu (wA v 23) 6 (g k 0)) 7 (g k 1)) 8 (g k 2))) hC (fr_uA (fr_uA (fr_uA hf rfl) rfl) rfl) rfl
  have hC4 := CS_fr (v := uA (uA (uA (uA v 23 (fu (wA v 23) 6 (g k 0))) 23 (fu (fu (wA v 23) 6 (g k 0)) 7 (g k 1))) 23 (fu (fu (fu (wA v 23) 6 (g k 0)) 7 (g k 1)) 8 (g k 2))) 23 (fu (fu (fu (fu (wA v 23) 6 (g k 0)) 7 (g k 1)) 8 (g k 2)) 9 c9)) hC (fr_uA (fr_uA (fr_uA (fr_uA hf rfl) rfl) rfl) rfl) rfl
  refine ⟨uA (uA (uA (uA (uA v 23 (fu (wA v 23) 6 (g k 0))) 23 (fu (fu (wA v 23) 6 (g k 0)) 7 (g k 1))) 23 (fu (fu (fu (wA v 23) 6 (g k 0)) 7 (g k 1)) 8 (g k 2))) 23 (fu (fu (fu (fu (wA v 23) 6 (g k 0)) 7 (g k 1)) 8 (g k 2)) 9 c9)) 23 (fu (fu (fu (fu (fu (wA v 23) 6 (g k 0)) 7 (g k 1)) 8 (g k 2)) 9 c9) 10 c10), ?_, fr_uA (fr_uA (fr_uA (fr_uA (fr_uA hf rfl) rfl) rfl) rfl) rfl, rfl, fun j j0 j1 => ?_⟩
  · rw [fq_101]
    have hmx : am_maxI (ii (g k 3)) (ii 0) = ii c9 := by
      rw [maxI_ii (by omega) (by omega) (by omega) (by omega), h9]
    have e' : am_W sc 101 (10, [some (am_R (some 1)), some (am_I (ii k)), some (am_R (some 23)), some (am_I (ii 0))], [], wst w) = _ := e
    have d0 := c26 (sc := sc) hCv hk0 hk
    have d1 := c27 (sc := sc) hC1 hk0 hk
    have d2 := c28 (sc := sc) hC2 hk0 hk
    have d3 := c29 (sc := sc) hC3 hk0 hk
    have d4 := c29 (sc := sc) hC4 hk0 hk
    simp only [Int.reduceSub] at d0 d1 d2 d3 d4
    simp (disch := omega) only [qB_s, qC_t, qC_f, qI_T, qI_F, qI_t, qI_f, r_I, r_L, r_R, r_V, ii_add, ii_sub, ii_mul, ii_neg, bz_0, bz_1, Bool.true_and, Bool.false_and, Bool.and_true, z00, z11, li_0, li_1, li_10, li_11, li_6, li_7, li_8, li_9, li_nat, is_1, len_23, li_nat, ii_lt, Int.cast_ofNat_Int, Int.reduceLT, Int.reduceNeg]
    rw [e', wq_101_10]
    simp (disch := omega) only [qB_s, qC_t, qC_f, qI_T, qI_F, qI_t, qI_f, r_I, r_L, r_R, r_V, ii_add, ii_sub, ii_mul, ii_neg, bz_0, bz_1, Bool.true_and, Bool.false_and, Bool.and_true, z00, z11, li_0, li_1, li_10, li_11, li_6, li_7, li_8, li_9, li_nat, is_1, Int.cast_ofNat_Int, ii_lt, Int.reduceLT]
    by_cases q : g k 3 < 0
    · have q3 : c10 = 0 := by rw [h10, if_pos q]
      rw [q3]
      simp (disch := omega) only [qB_s, qC_t, qC_f, qI_T, qI_F, qI_t, qI_f, r_I, r_L, r_R, r_V, ii_add, ii_sub, ii_mul, ii_neg, bz_0, bz_1, Bool.true_and, Bool.false_and, Bool.and_true, z00, z11, li_0, li_1, li_10, li_11, li_6, li_7, li_8, li_9, li_nat, is_1, t_23, d0, d1, d2, d3, d4, hmx, uA_A, if_true, ii_eq]
    · have q3 : c10 = 1 := by rw [h10, if_neg q]
      rw [q3]
      simp (disch := omega) only [qB_s, qC_t, qC_f, qI_T, qI_F, qI_t, qI_f, r_I, r_L, r_R, r_V, ii_add, ii_sub, ii_mul, ii_neg, bz_0, bz_1, Bool.true_and, Bool.false_and, Bool.and_true, z00, z11, li_0, li_1, li_10, li_11, li_6, li_7, li_8, li_9, li_nat, is_1, t_23, d0, d1, d2, d3, d4, hmx, uA_A, if_true, ii_eq]
  · rw [rA]
    simp only [fu_at]
    unfold rw1
    have a0 : j < 6 ∨ j = 6 ∨ j = 7 ∨ j = 8 ∨ j = 9 ∨ j = 10 := by omega
    rcases a0 with a | rfl | rfl | rfl | rfl | rfl
    · rw [if_pos a, if_neg (by omega), if_neg (by omega), if_neg (by omega), if_neg (by omega), if_neg (by omega)]
      exact hv j j0 a
    · rfl
    · rfl
    · rfl
    · exact h9
    · exact h10
theorem c101_46 (hC : CS w n g) (hg : gK n g) {k : Int} (hk0 : 0 ≤ k) (hk : k < n) : ∃ v, am_F sc 101 [am_R (some 1), am_I (ii k), am_R (some 46)] (wst w) = some (none, wst v) ∧ fr [4699] w v ∧ RW v 46 (rw1 g k) := by
  obtain ⟨hn, h0, h1, h2⟩ := id hC
  have hr := hg k hk0 hk
  obtain ⟨v, e, hf, hv⟩ := lp_s0 (am_W sc 101) (fun (j : Nat) (v : wo) => (10, [some (am_R (some 1)), some (am_I (ii k)), some (am_R (some 46)), some (am_I (ii j))], [], wst v)) (fun j v => fr [4699] w v ∧ ∀ i : Int, 0 ≤ i → i < j → wA v 46 i = g k (4 + i)) 6 (fun j v hj hi => by
    have hCv := CS_fr hC hi.1 rfl
    refine ⟨uA v 46 (fu (wA v 46) j (g k (4 + j))), ?_, fr_uA hi.1 rfl, fun i i0 i1 => ?_⟩
    · rw [wq_101_10]
      simp (disch := omega) only [qB_s, qC_t, qC_f, qI_T, qI_F, qI_t, qI_f, r_I, r_L, r_R, r_V, ii_add, ii_sub, ii_mul, ii_neg, bz_0, bz_1, Bool.true_and, Bool.false_and, Bool.and_true, z00, z11, li_0, li_1, li_10, li_11, li_6, li_7, li_8, li_9, li_nat, is_1, t_46, ii_lt, c21 hCv, nat_1]
    · rw [rA, fu_at]
      by_cases q : i = j
      · rw [if_pos q, q]
      · rw [if_neg q]
        exact hi.2 i i0 (by omega)) w ⟨fr_r _ _, fun i i0 i1 => absurd i1 (by omega)⟩
  obtain ⟨c9, h9⟩ : ∃ c : Int, c = if g k 3 < 0 then 0 else g k 3 := ⟨_, rfl⟩
  obtain ⟨c10, h10⟩ : ∃ c : Int, c = if g k 3 < 0 then 0 else 1 := ⟨_, rfl⟩
  have hCv := CS_fr hC hf rfl
  have hC1 := CS_fr (v := uA v 46 (fu (wA v 46) 6 (g k 0))) hC (fr_uA hf rfl) rfl
  have hC2 := CS_fr (v := uA (uA v 46 (fu (wA v 46) 6 (g k 0))) 46 (fu (fu (wA v 46) 6 (g k 0)) 7 (g k 1))) hC (fr_uA (fr_uA hf rfl) rfl) rfl
  have hC3 := CS_fr (v := uA (uA (uA v 46 (fu (wA v 46) 6 (g k 0))) 46 (fu (fu (wA v 46) 6 (g k 0)) 7 (g k 1))) 46 (fu (fu (fu (wA v 46) 6 (g k 0)) 7 (g k 1)) 8 (g k 2))) hC (fr_uA (fr_uA (fr_uA hf rfl) rfl) rfl) rfl
  have hC4 := CS_fr (v := uA (uA (uA (uA v 46 (fu (wA v 46) 6 (g k 0))) 46 (fu (fu (wA v 46) 6 (g k 0)) 7 (g k 1))) 46 (fu (fu (fu (wA v 46) 6 (g k 0)) 7 (g k 1)) 8 (g k 2))) 46 (fu (fu (fu (fu (wA v 46) 6 (g k 0)) 7 (g k 1)) 8 (g k 2)) 9 c9)) hC (fr_uA (fr_uA (fr_uA (fr_uA hf rfl) rfl) rfl) rfl) rfl
  refine ⟨uA (uA (uA (uA (uA v 46 (fu (wA v 46) 6 (g k 0))) 46 (fu (fu (wA v 46) 6 (g k 0)) 7 (g k 1))) 46 (fu (fu (fu (wA v 46) 6 (g k 0)) 7 (g k 1)) 8 (g k 2))) 46 (fu (fu (fu (fu (wA v 46) 6 (g k 0)) 7 (g k 1)) 8 (g k 2)) 9 c9)) 46 (fu (fu (fu (fu (fu (wA v 46) 6 (g k 0)) 7 (g k 1)) 8 (g k 2)) 9 c9) 10 c10), ?_, fr_uA (fr_uA (fr_uA (fr_uA (fr_uA hf rfl) rfl) rfl) rfl) rfl, rfl, fun j j0 j1 => ?_⟩
  · rw [fq_101]
    have hmx : am_maxI (ii (g k 3)) (ii 0) = ii c9 := by
      rw [maxI_ii (by omega) (by omega) (by omega) (by omega), h9]
    have e' : am_W sc 101 (10, [some (am_R (some 1)), some (am_I (ii k)), some (am_R (some 46)), some (am_I (ii 0))], [], wst w) = _ := e
    have d0 := c26 (sc := sc) hCv hk0 hk
    have d1 := c27 (sc := sc) hC1 hk0 hk
    have d2 := c28 (sc := sc) hC2 hk0 hk
    have d3 := c29 (sc := sc) hC3 hk0 hk
    have d4 := c29 (sc := sc) hC4 hk0 hk
    simp only [Int.reduceSub] at d0 d1 d2 d3 d4
    simp (disch := omega) only [qB_s, qC_t, qC_f, qI_T, qI_F, qI_t, qI_f, r_I, r_L, r_R, r_V, ii_add, ii_sub, ii_mul, ii_neg, bz_0, bz_1, Bool.true_and, Bool.false_and, Bool.and_true, z00, z11, li_0, li_1, li_10, li_11, li_6, li_7, li_8, li_9, li_nat, is_1, len_46, li_nat, ii_lt, Int.cast_ofNat_Int, Int.reduceLT, Int.reduceNeg]
    rw [e', wq_101_10]
    simp (disch := omega) only [qB_s, qC_t, qC_f, qI_T, qI_F, qI_t, qI_f, r_I, r_L, r_R, r_V, ii_add, ii_sub, ii_mul, ii_neg, bz_0, bz_1, Bool.true_and, Bool.false_and, Bool.and_true, z00, z11, li_0, li_1, li_10, li_11, li_6, li_7, li_8, li_9, li_nat, is_1, Int.cast_ofNat_Int, ii_lt, Int.reduceLT]
    by_cases q : g k 3 < 0
    · have q3 : c10 = 0 := by rw [h10, if_pos q]
      rw [q3]
      simp (disch := omega) only [qB_s, qC_t, qC_f, qI_T, qI_F, qI_t, qI_f, r_I, r_L, r_R, r_V, ii_add, ii_sub, ii_mul, ii_neg, bz_0, bz_1, Bool.true_and, Bool.false_and, Bool.and_true, z00, z11, li_0, li_1, li_10, li_11, li_6, li_7, li_8, li_9, li_nat, is_1, t_46, d0, d1, d2, d3, d4, hmx, uA_A, if_true, ii_eq]
    · have q3 : c10 = 1 := by rw [h10, if_neg q]
      rw [q3]
      simp (disch := omega) only [qB_s, qC_t, qC_f, qI_T, qI_F, qI_t, qI_f, r_I, r_L, r_R, r_V, ii_add, ii_sub, ii_mul, ii_neg, bz_0, bz_1, Bool.true_and, Bool.false_and, Bool.and_true, z00, z11, li_0, li_1, li_10, li_11, li_6, li_7, li_8, li_9, li_nat, is_1, t_46, d0, d1, d2, d3, d4, hmx, uA_A, if_true, ii_eq]
  · rw [rA]
    simp only [fu_at]
    unfold rw1
    have a0 : j < 6 ∨ j = 6 ∨ j = 7 ∨ j = 8 ∨ j = 9 ∨ j = 10 := by omega
    rcases a0 with a | rfl | rfl | rfl | rfl | rfl
    · rw [if_pos a, if_neg (by omega), if_neg (by omega), if_neg (by omega), if_neg (by omega), if_neg (by omega)]
      exact hv j j0 a
    · rfl
    · rfl
    · rfl
    · exact h9
    · exact h10
theorem c115 (hC : CS w n g) (hg : gK n g) {k : Int} (hk0 : 0 ≤ k) (hk : k < n) {am : Option pg} {r : Option Nat} (hok : ∀ P, am = some P → okP P) (ha : (am = none ∧ r = none) ∨ (∃ P t, am = some P ∧ r = some t ∧ 77 ≤ t ∧ PT w t P ∧ ∀ b, ref w t 0 = some b → 77 ≤ b)) : ∃ v, am_F sc 115 [am_R (some 22), am_R r, am_I (ii k)] (wst w) = some (some (am_I (ii (bz (pam am (rw1 g k) = true)))), wst v) ∧ fr [2399] w v := by
  rw [fq_115]
  rcases ha with ⟨rfl, rfl⟩ | ⟨P, t, rfl, rfl, ht, hT, hb⟩
  · refine ⟨w, ?_, fr_r _ _⟩
    rw [bz_t (p := pam none (rw1 g k) = true) rfl]
    simp (disch := omega) only [qB_s, qC_t, qC_f, qI_T, qI_F, qI_t, qI_f, r_I, r_L, r_R, r_V, ii_add, ii_sub, ii_mul, ii_neg, bz_0, bz_1, Bool.true_and, Bool.false_and, Bool.and_true, z00, z11, li_0, li_1, gR_22_0, gR_22_1, is_1, Option.isNone_none]
  · obtain ⟨v, e, hf, hR⟩ := c101_23 (sc := sc) hC hg hk0 hk
    have hT' : PT v t P := by
      obtain ⟨b, q1, q2, q3, q4⟩ := hT
      refine ⟨b, by rw [fr_shp hf]; exact q1, by rw [fr_ref hf]; exact q2, by rw [fr_shp hf]; exact q3, fun j hj => ?_⟩
      rw [fr_A hf (flow_of rfl (hb b q2))]
      exact q4 j hj
    have e2 := c104 (sc := sc) (rw1_ok hg hk0 hk) hR hT' (hok P rfl)
    have hi : am_is (wst v) t 9 = true := is_of hT'.choose_spec.1
    refine ⟨v, ?_, hf⟩
    rw [show pam (some P) (rw1 g k) = evp (rw1 g k) P from rfl]
    have hz : ii (bz (evp (rw1 g k) P = true)) &&& ii 1 = ii (bz (evp (rw1 g k) P = true)) := by
      cases evp (rw1 g k) P <;> decide
    simp (disch := omega) only [qB_s, qC_t, qC_f, qI_T, qI_F, qI_t, qI_f, r_I, r_L, r_R, r_V, ii_add, ii_sub, ii_mul, ii_neg, bz_0, bz_1, Bool.true_and, Bool.false_and, Bool.and_true, z00, z11, li_0, li_1, gR_22_0, gR_22_1, is_1, Option.isNone_some, e, e2, hi, hz]
theorem PT_of {ow : Nat → Nat} {w : wo} {a : Nat} {P : pg} (h : PTo ow w a P) : 77 ≤ a ∧ PT w a P ∧ ∀ b, ref w a 0 = some b → 77 ≤ b := by
  obtain ⟨⟨h1, h2, h3, h4⟩, ⟨b, h5, ⟨h6, h7, h8, h9⟩, h10⟩, h11, h12⟩ := h
  have hr : ref w a 0 = some b := by
    unfold ref
    rw [if_neg (by omega), h5]
  refine ⟨h1, ⟨b, ?_, hr, ?_, h10⟩, fun c hc => ?_⟩
  · unfold shp
    rw [if_neg (by omega), h4]
  · unfold shp
    rw [if_neg (by omega), h9]
  · rw [hr] at hc
    cases hc
    exact h6
theorem c116 {ow : Nat → Nat} (hC : CS w n g) (hg : gK n g) {a : Nat} {x : vw} (hV : CVo ow w a x) (hx : okV x) {l : Int} (hl0 : 0 ≤ l) (hl : l < 64) : ∃ v, am_F sc 116 [am_R (some 22), am_R (some a), am_I (ii l)] (wst w) = some (none, wst v) ∧ fr [2203, 2204, 2208, 2399, 2499] w v ∧ TK v (tg (pT g x.1 l) n.toNat).1 (tg (pT g x.1 l) n.toNat).2 ∧ wI v 22 4 = l ∧ wI v 22 8 = 0 := by
  obtain ⟨hn, h0, h1, h2⟩ := id hC
  obtain ⟨v, e, ⟨hf, hs, ht, h4, h8⟩⟩ := lp_s0 (am_W sc 116) (fun (k : Nat) (v : wo) => (17, [some (am_R (some 22)), some (am_R (some a)), some (am_I (ii l)), some (am_I (ii k))], [], wst v)) (fun k v => fr [2203, 2204, 2208, 2399, 2499] w v ∧ wI v 22 3 = ((tg (pT g x.1 l) k).1 : Int) ∧ (∀ i : Nat, i < (tg (pT g x.1 l) k).1 → wA v 24 i = (tg (pT g x.1 l) k).2 i) ∧ wI v 22 4 = l ∧ wI v 22 8 = 0) n.toNat (fun k v hk hi => by
    obtain ⟨hf, hs, ht, h4, h8⟩ := hi
    have hCv := CS_fr hC hf rfl
    have hVv := CVo_d hV (fr_d hf rfl _)
    have hle := tg_le (pT g x.1 l) k
    obtain ⟨⟨v1, v2, v3, v4⟩, v5, -⟩ := hVv
    have hra : ref v a 0 = wF v a 0 := by unfold ref; rw [if_neg (by omega)]
    have hga : am_gR (wst v) a 10 0 = some (wF v a 0) := by rw [← hra]; exact gR_of (by unfold shp; rw [if_neg (by omega), v4]) rfl
    have hn1 := hCv.1
    have hlm := c114 (sc := sc) hCv hg (k := (k : Int)) (l := l) (by omega) (by omega) hl0 hl
    rw [bz_c (q := lm g k l = true) ⟨fun h => h.elim (fun z => absurd ⟨by omega, by omega⟩ z) id, .inr⟩] at hlm
    obtain ⟨u, e5, f5⟩ := c115 (sc := sc) hCv hg (k := (k : Int)) (by omega) (by omega) (am := x.1) (r := wF v a 0) hx.1 (by
      rcases v5 with q | ⟨P, t, q1, q2, q3⟩
      · exact .inl q
      · exact .inr ⟨P, t, q1, q2, (PT_of q3).1, (PT_of q3).2.1, (PT_of q3).2.2⟩)
    have hs5 : wI u 22 3 = ((tg (pT g x.1 l) k).1 : Int) := by rw [fr_I f5 rfl]; exact hs
    have ht5 : wA u 24 = wA v 24 := fr_A f5 rfl
    have h45 : wI u 22 4 = l := by rw [fr_I f5 rfl]; exact h4
    have h85 : wI u 22 8 = 0 := by rw [fr_I f5 rfl]; exact h8
    have hfu := fr_t hf (fr_m f5 rfl)
    cases q1 : lm g k l with
    | true =>
      have hp : pT g x.1 l k = false := by unfold pT; rw [q1]; rfl
      rw [tg_f hp]
      refine ⟨v, ?_, hf, hs, ht, h4, h8⟩
      rw [wq_116_17]
      simp (disch := omega) only [qB_s, qC_t, qC_f, qI_T, qI_F, qI_t, qI_f, r_I, r_L, r_R, r_V, ii_add, ii_sub, ii_mul, ii_neg, bz_0, bz_1, Bool.true_and, Bool.false_and, Bool.and_true, z00, z11, li_0, li_1, li_200, gI_1_5, gI_22_3, gR_22_0, gR_22_2, is_1, is_22, pI_22_3, pI_22_4, pI_22_8, t_24, hn1, hs, ii_lt, hlm, q1, not_true_eq_false, nat_1]
    | false =>
      cases q2 : pam x.1 (rw1 g k) with
      | false =>
        have hp : pT g x.1 l k = false := by unfold pT; rw [q1, q2]; rfl
        rw [tg_f hp]
        refine ⟨u, ?_, hfu, hs5, by rw [ht5]; exact ht, h45, h85⟩
        rw [wq_116_17]
        rw [q2] at e5
        simp (disch := omega) only [qB_s, qC_t, qC_f, qI_T, qI_F, qI_t, qI_f, r_I, r_L, r_R, r_V, ii_add, ii_sub, ii_mul, ii_neg, bz_0, bz_1, Bool.true_and, Bool.false_and, Bool.and_true, z00, z11, li_0, li_1, li_200, gI_1_5, gI_22_3, gR_22_0, gR_22_2, is_1, is_22, pI_22_3, pI_22_4, pI_22_8, t_24, hn1, hs, ii_lt, hlm, q1, Bool.false_eq_true, not_false_eq_true, hga, e5, nat_1]
      | true =>
        have hp : pT g x.1 l k = true := by unfold pT; rw [q1, q2]; rfl
        rw [tg_t hp]
        refine ⟨uI (uA u 24 (fu (wA u 24) (tg (pT g x.1 l) k).1 k)) 22 3 ((tg (pT g x.1 l) k).1 + 1), ?_, fr_uI (fr_uA hfu rfl) rfl, ?_, ?_, ?_, ?_⟩
        · rw [wq_116_17]
          rw [q2] at e5
          simp (disch := omega) only [qB_s, qC_t, qC_f, qI_T, qI_F, qI_t, qI_f, r_I, r_L, r_R, r_V, ii_add, ii_sub, ii_mul, ii_neg, bz_0, bz_1, Bool.true_and, Bool.false_and, Bool.and_true, z00, z11, li_0, li_1, li_200, gI_1_5, gI_22_3, gR_22_0, gR_22_2, is_1, is_22, pI_22_3, pI_22_4, pI_22_8, t_24, hn1, hs, hs5, ii_lt, hlm, q1, Bool.false_eq_true, not_false_eq_true, not_true_eq_false, hga, e5, nat_1, uA_I]
        · rw [rI]; rfl
        · intro i hi
          dsimp only at hi ⊢
          rw [uI_A, rA, fu_at, ht5]
          by_cases q : i = (tg (pT g x.1 l) k).1
          · rw [q, if_pos rfl, Nat.beq_refl]
            rfl
          · rw [if_neg (by omega), nbeq_f q]
            exact ht i (by omega)
        · rw [rIn _ _ rfl, uA_I, h45]
        · rw [rIn _ _ rfl, uA_I, h85]) (uI (uI (uI w 22 3 0) 22 8 0) 22 4 l) ⟨fr_uI (fr_uI (fr_uI (fr_r _ _) rfl) rfl) rfl, by rw [rIn _ _ rfl, rIn _ _ rfl, rI]; rfl, fun i hi => absurd hi (Nat.not_lt_zero i), rI _ _ _ _, by rw [rIn _ _ rfl, rI]⟩
  have hle := tg_le (pT g x.1 l) n.toNat
  have hCv := CS_fr hC hf rfl
  have hn1 := hCv.1
  refine ⟨v, ?_, hf, ⟨hs, ht⟩, h4, h8⟩
  rw [fq_116]
  simp (disch := omega) only [qB_s, qC_t, qC_f, qI_T, qI_F, qI_t, qI_f, r_I, r_L, r_R, r_V, ii_add, ii_sub, ii_mul, ii_neg, bz_0, bz_1, Bool.true_and, Bool.false_and, Bool.and_true, z00, z11, li_0, li_1, li_200, gI_1_5, gI_22_3, gR_22_0, gR_22_2, is_1, is_22, pI_22_3, pI_22_4, pI_22_8, t_24]
  have e' : am_W sc 116 (17, [some (am_R (some 22)), some (am_R (some a)), some (am_I (ii l)), some (am_I (ii 0))], [], wst (uI (uI (uI w 22 3 0) 22 8 0) 22 4 l)) = _ := e
  rw [e', wq_116_17]
  simp (disch := omega) only [qB_s, qC_t, qC_f, qI_T, qI_F, qI_t, qI_f, r_I, r_L, r_R, r_V, ii_add, ii_sub, ii_mul, ii_neg, bz_0, bz_1, Bool.true_and, Bool.false_and, Bool.and_true, z00, z11, li_0, li_1, li_200, gI_1_5, gI_22_3, gR_22_0, gR_22_2, is_1, is_22, pI_22_3, pI_22_4, pI_22_8, t_24, hn1, hs, ii_lt]
end L17
