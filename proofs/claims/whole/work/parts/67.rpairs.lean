/-! PAIRS IN THE CLASS, WHOLE -/
theorem gHA_all {C : Int → Int → Int} {u v r : Int → Int} (h : gHA C u v r 10) : ∀ b, 1 ≤ b → b ≤ 10 → 1 ≤ r b ∧ r b ≤ 10 := fun b h1 h2 => by
  have e0 : (((b - 1).toNat : Nat) : Int) = b - 1 := by omega
  have e := all_1 (a := fun j : Nat => bz (r ((j : Int) + 1) ≠ 0)) (n := 10) (fun j _ => by
    show bz (r ((j : Int) + 1) ≠ 0) ≤ 1
    unfold bz
    split <;> omega) (by rw [h.2.2.2.2]; exact Int.le_refl _) (b - 1).toNat (by omega)
  have e : bz (r ((((b - 1).toNat : Nat) : Int) + 1) ≠ 0) = 1 := e
  rw [e0, show b - 1 + 1 = b by omega] at e
  have := h.2.2.1 b h1 h2
  by_cases z : r b = 0
  · rw [bz_f (fun y => y z)] at e
    omega
  · omega
/-- the square of distances -/
def pD (A : ab) (v : Int) (i j : Nat) : Int := if i < (pP A v 0).1 ∧ j < (pP A v 1).1 then pR A v 100000 i j else 100000
def pC (A : ab) (v a b : Int) : Int := pD A v (a - 1).toNat (b - 1).toNat
theorem pP_ok {A : ab} (hA : okA A) (v t : Int) {j : Nat} (hj : j < (pP A v t).1) : (0 ≤ (pP A v t).2 j ∧ (pP A v t).2 j < A.1.1) ∧ lm (aG A) ((pP A v t).2 j) (aV A v).2.1 = false :=
  ⟨pkk_ok (g := aG A) t (vM A v) (fun i hi => vF_ok hA v hi) j hj, pkk_p (g := aG A) (P := fun k => lm (aG A) k (aV A v).2.1 = false) (vM A v) (fun i hi => vF_lm v hi) j hj⟩
theorem pD_ran {A : ab} (hA : okA A) {v : Int} (q : vok A v) (i j : Nat) : 0 ≤ pD A v i j ∧ (pD A v i j ≤ 6000 ∨ pD A v i j = 100000) := by
  unfold pD
  by_cases z : i < (pP A v 0).1 ∧ j < (pP A v 1).1
  · rw [if_pos z]
    have hx := hA.2.2.1.2.2 v q.1 q.2
    have hr := dsS_ran hA.1.2.2.1 hx (pP_ok hA v 0 z.1).1 (pP_ok hA v 1 z.2).1 (m := 6) (Nat.le_refl _)
    have hr : 0 ≤ dsS (aG A) (aV A v) ((pP A v 0).2 i) ((pP A v 1).2 j) 6 ∧ dsS (aG A) (aV A v) ((pP A v 0).2 i) ((pP A v 1).2 j) 6 ≤ 6 * 990 := hr
    unfold pR
    rcases dsF_or (aG A) (aV A v) ((pP A v 0).2 i) ((pP A v 1).2 j) 100000 with ⟨e, -⟩ | ⟨e, -⟩ <;> omega
  · rw [if_neg z]
    omega
theorem pD_po {A : ab} (hA : okA A) {v : Int} (q : vok A v) : PO (pD A v) (pA A v).1 (pA A v).2 := by
  have hx := hA.2.2.1.2.2 v q.1 q.2
  have key : ∀ i j, i < (pP A v 0).1 → j < (pP A v 1).1 → (pR A v 100000 i j = pR A v 1000000 i j ∧ pR A v 100000 i j < 100000) ∨ (pR A v 100000 i j = 100000 ∧ pR A v 1000000 i j = 1000000) := fun i j hi hj => by
    have hr := dsS_ran hA.1.2.2.1 hx (pP_ok hA v 0 hi).1 (pP_ok hA v 1 hj).1 (m := 6) (Nat.le_refl _)
    have hr : 0 ≤ dsS (aG A) (aV A v) ((pP A v 0).2 i) ((pP A v 1).2 j) 6 ∧ dsS (aG A) (aV A v) ((pP A v 0).2 i) ((pP A v 1).2 j) 6 ≤ 6 * 990 := hr
    unfold pR
    rcases dsF_or (aG A) (aV A v) ((pP A v 0).2 i) ((pP A v 1).2 j) 100000 with ⟨e, h⟩ | ⟨e, h⟩ <;> rcases dsF_or (aG A) (aV A v) ((pP A v 0).2 i) ((pP A v 1).2 j) 1000000 with ⟨e2, h2⟩ | ⟨e2, h2⟩
    · omega
    · exact absurd h h2
    · exact absurd h2 h
    · omega
  refine PO_d (pkk_le _ _ _ _) (pkk_le _ _ _ _) (fun i j => dsF_nn hx) (fun i j _ _ => pD_ran hA q i j) (fun i j _ _ => ?_) (fun i j _ _ h => ?_)
  · have e : pD A v i j = if i < (pP A v 0).1 ∧ j < (pP A v 1).1 then pR A v 100000 i j else 100000 := rfl
    by_cases z : i < (pP A v 0).1 ∧ j < (pP A v 1).1
    · rw [e, if_pos z]
      have := key i j z.1 z.2
      omega
    · rw [e, if_neg z]
      constructor
      · intro y
        omega
      · intro y
        exact absurd ⟨y.1, y.2.1⟩ z
  · have e : pD A v i j = if i < (pP A v 0).1 ∧ j < (pP A v 1).1 then pR A v 100000 i j else 100000 := rfl
    by_cases z : i < (pP A v 0).1 ∧ j < (pP A v 1).1
    · rw [e, if_pos z] at h ⊢
      have := key i j z.1 z.2
      omega
    · rw [e, if_neg z] at h
      omega
/-- what the class' matching gives -/
theorem pD_h {A : ab} (hA : okA A) {v : Int} (q : vok A v) {U V r : Int → Int} (h : gHA (pC A v) U V r 10) : (pA A v).1 = sm (fun j : Nat => if pC A v (r ((j : Int) + 1)) ((j : Int) + 1) < 100000 then 1 else 0) 10 ∧ (pA A v).2 = sm (fun j : Nat => if pC A v (r ((j : Int) + 1)) ((j : Int) + 1) < 100000 then pC A v (r ((j : Int) + 1)) ((j : Int) + 1) else 0) 10 := by
  have ha := gHA_all h
  have eC : ∀ i j : Nat, pC A v ((i : Int) + 1) ((j : Int) + 1) = pD A v i j := fun i j => by
    unfold pC
    rw [show ((i : Int) + 1 - 1).toNat = i by omega, show ((j : Int) + 1 - 1).toNat = j by omega]
  have eR : ∀ j : Nat, j < 10 → pC A v (r ((j : Int) + 1)) ((j : Int) + 1) = pD A v (r ((j : Int) + 1) - 1).toNat j := fun j hj => by
    unfold pC
    rw [show ((j : Int) + 1 - 1).toNat = j by omega]
  have p := PO_h (c := pD A v) (u := fun i => U ((i : Int) + 1)) (v := fun j => V ((j : Int) + 1)) (r := fun j => (r ((j : Int) + 1) - 1).toNat) (fun i j _ _ => pD_ran hA q i j) (fun i j hi hj => by
    show U ((i : Int) + 1) + V ((j : Int) + 1) ≤ pD A v i j
    rw [← eC]
    exact h.1 _ _ (by omega) (by omega) (by omega) (by omega)) (fun j hj => by
    have := ha ((j : Int) + 1) (by omega) (by omega)
    show (r ((j : Int) + 1) - 1).toNat < 10
    omega) (fun j k hj hk e => by
    have e : (r ((j : Int) + 1) - 1).toNat = (r ((k : Int) + 1) - 1).toNat := e
    have a1 := ha ((j : Int) + 1) (by omega) (by omega)
    have a2 := ha ((k : Int) + 1) (by omega) (by omega)
    have := h.2.2.2.1 ((j : Int) + 1) ((k : Int) + 1) (by omega) (by omega) (by omega) (by omega) (by omega) (by omega)
    omega) (fun j hj => by
    have a1 := ha ((j : Int) + 1) (by omega) (by omega)
    show U ((((r ((j : Int) + 1) - 1).toNat : Nat) : Int) + 1) + V ((j : Int) + 1) = pD A v (r ((j : Int) + 1) - 1).toNat j
    rw [show (((r ((j : Int) + 1) - 1).toNat : Nat) : Int) + 1 = r ((j : Int) + 1) by omega, ← eR j hj]
    exact (h.2.2.1 ((j : Int) + 1) (by omega) (by omega)).2.2.2.2 (by omega))
  have := PO_u (pD_po hA q) p
  rw [this.1, this.2]
  exact ⟨sm_c (fun j hj => by rw [eR j hj]), sm_c (fun j hj => by rw [eR j hj])⟩
section L67
variable {sc : am_X} {w : wo} {A : ab} {ow : Nat → Nat}
theorem c168 {C : Int → Int → Int} (hO : CO w C) (hr : ∀ b, 1 ≤ b → b ≤ 10 → 1 ≤ wA w 35 b ∧ wA w 35 b ≤ 10) : ∃ u, am_F sc 168 [am_R (some 29)] (wst w) = some (none, wst u) ∧ fr [2909, 2910] w u ∧ wI u 29 9 = sm (fun j : Nat => if C (wA w 35 ((j : Int) + 1)) ((j : Int) + 1) < 100000 then 1 else 0) 10 ∧ wI u 29 10 = sm (fun j : Nat => if C (wA w 35 ((j : Int) + 1)) ((j : Int) + 1) < 100000 then C (wA w 35 ((j : Int) + 1)) ((j : Int) + 1) else 0) 10 := by
  obtain ⟨F, hF⟩ : ∃ F : Nat → Int, F = fun j : Nat => if C (wA w 35 ((j : Int) + 1)) ((j : Int) + 1) < 100000 then 1 else 0 := ⟨_, rfl⟩
  obtain ⟨G, hG⟩ : ∃ G : Nat → Int, G = fun j : Nat => if C (wA w 35 ((j : Int) + 1)) ((j : Int) + 1) < 100000 then C (wA w 35 ((j : Int) + 1)) ((j : Int) + 1) else 0 := ⟨_, rfl⟩
  rw [← hF, ← hG]
  obtain ⟨u, e, f1, h1, h2⟩ := lp_s0 (am_W sc 168) (fun (k : Nat) (u : wo) => (12, [some (am_R (some 29)), some (am_I (ii ((k : Int) + 1))), none], [], wst u)) (fun k u => fr [2909, 2910] w u ∧ wI u 29 9 = sm F k ∧ wI u 29 10 = sm G k) 10 (fun k u hk hu => by
    obtain ⟨f1, h1, h2⟩ := hu
    have a32 : wA u 32 = wA w 32 := fr_A (a := 32) f1 rfl
    have a35 : wA u 35 = wA w 35 := fr_A (a := 35) f1 rfl
    have r1 := hr ((k : Int) + 1) (by omega) (by omega)
    have c1 := hO.1 (wA w 35 ((k : Int) + 1)) ((k : Int) + 1) r1.1 r1.2 (by omega) (by omega)
    have c2 := hO.2 (wA w 35 ((k : Int) + 1)) ((k : Int) + 1) r1.1 r1.2 (by omega) (by omega)
    have p158 := c158 (sc := sc) (w := u) (col := (k : Int) + 1) (by omega) (by rw [a35]; omega)
    rw [a35] at p158
    rw [sm_s, sm_s]
    by_cases z : C (wA w 35 ((k : Int) + 1)) ((k : Int) + 1) < 100000
    · have eF : F k = 1 := by rw [hF]; exact if_pos z
      have eG : G k = C (wA w 35 ((k : Int) + 1)) ((k : Int) + 1) := by rw [hG]; exact if_pos z
      rw [eF, eG]
      refine ⟨uI (uI u 29 9 (sm F k + 1)) 29 10 (sm G k + C (wA w 35 ((k : Int) + 1)) ((k : Int) + 1)), ?_, fr_uI (fr_uI f1 rfl) rfl, ?_, ?_⟩
      · have i10 : wI (uI u 29 9 (sm F k + 1)) 29 10 = sm G k := by rw [rIn _ _ rfl, h2]
        rw [wq_168_12]
        simp (disch := omega) only [qB_s, qC_t, qC_f, qI_T, qI_F, qI_t, qI_f, r_I, r_L, r_R, r_V, ii_add, ii_sub, ii_mul, ii_neg, bz_0, bz_1, Bool.true_and, Bool.false_and, Bool.and_true, z00, z11, li_0, li_1, li_10, li_100000, li_11, e_32, gI_29_10, gI_29_9, gR_29_2, is_29, pI_29_10, pI_29_9, ii_lt, a32, a35, p158, c1, h1, i10, nat_1]
      · rw [rIn _ _ rfl, rI]
      · rw [rI]
    · have eF : F k = 0 := by rw [hF]; exact if_neg z
      have eG : G k = 0 := by rw [hG]; exact if_neg z
      rw [eF, eG, Int.add_zero, Int.add_zero]
      refine ⟨u, ?_, f1, h1, h2⟩
      rw [wq_168_12]
      simp (disch := omega) only [qB_s, qC_t, qC_f, qI_T, qI_F, qI_t, qI_f, r_I, r_L, r_R, r_V, ii_add, ii_sub, ii_mul, ii_neg, bz_0, bz_1, Bool.true_and, Bool.false_and, Bool.and_true, z00, z11, li_0, li_1, li_10, li_100000, li_11, e_32, gI_29_10, gI_29_9, gR_29_2, is_29, pI_29_10, pI_29_9, ii_lt, a32, a35, p158, c1, nat_1]) (uI (uI w 29 9 0) 29 10 0) ⟨fr_uI (fr_uI (fr_r _ _) rfl) rfl, by rw [rIn _ _ rfl, rI]; rfl, by rw [rI]; rfl⟩
  refine ⟨u, ?_, f1, h1, h2⟩
  have e' : am_W sc 168 (12, [some (am_R (some 29)), some (am_I (ii 1)), none], [], wst (uI (uI w 29 9 0) 29 10 0)) = am_W sc 168 (12, [some (am_R (some 29)), some (am_I (ii 11)), none], [], wst u) := e
  rw [fq_168]
  simp only [qB_s, qC_t, qC_f, qI_T, qI_F, qI_t, qI_f, r_I, r_L, r_R, r_V, ii_add, ii_sub, ii_mul, ii_neg, bz_0, bz_1, Bool.true_and, Bool.false_and, Bool.and_true, z00, z11, li_0, li_1, li_10, li_100000, li_11, e_32, gI_29_10, gI_29_9, gR_29_2, is_29, pI_29_10, pI_29_9]
  rw [e', wq_168_12]
  simp (disch := omega) only [qB_s, qC_t, qC_f, qI_T, qI_F, qI_t, qI_f, r_I, r_L, r_R, r_V, ii_add, ii_sub, ii_mul, ii_neg, bz_0, bz_1, Bool.true_and, Bool.false_and, Bool.and_true, z00, z11, li_0, li_1, li_10, li_100000, li_11, e_32, gI_29_10, gI_29_9, gR_29_2, is_29, pI_29_10, pI_29_9, ii_lt]
/-- the costs of a row -/
theorem c169i {C : Int → Int → Int} {va : Nat} {a : Int} (ha : 1 ≤ a ∧ a ≤ 10) (hD : ∀ u, fr [3299] w u → ∀ b, 1 ≤ b → b ≤ 10 → am_F sc 164 [am_R (some 1), am_R (some va), am_I (ii (wA w 30 (a - 1))), am_I (ii (wA w 31 (b - 1)))] (wst u) = some (some (am_I (ii (C a b))), wst u)) : ∃ u, am_W sc 169 (33, [some (am_R (some 29)), some (am_R (some 1)), some (am_R (some va)), none, some (am_I (ii a)), some (am_I (ii 1))], [], wst w) = am_W sc 169 (23, [some (am_R (some 29)), some (am_R (some 1)), some (am_R (some va)), none, some (am_I (ii (a + 1))), none], [], wst u) ∧ fr [3299] w u ∧ (∀ b, 1 ≤ b → b ≤ 10 → wA u 32 (a * 11 + b) = C a b) ∧ ∀ z, z ≤ a * 11 → wA u 32 z = wA w 32 z := by
  obtain ⟨u, e, f1, h1, h2⟩ := lp_s0 (am_W sc 169) (fun (k : Nat) (u : wo) => (33, [some (am_R (some 29)), some (am_R (some 1)), some (am_R (some va)), none, some (am_I (ii a)), some (am_I (ii ((k : Int) + 1)))], [], wst u)) (fun k u => fr [3299] w u ∧ (∀ b : Int, 1 ≤ b → b ≤ k → wA u 32 (a * 11 + b) = C a b) ∧ ∀ z, z ≤ a * 11 → wA u 32 z = wA w 32 z) 10 (fun k u hk hu => by
    obtain ⟨f1, h1, h2⟩ := hu
    have a30 : wA u 30 = wA w 30 := fr_A (a := 30) f1 rfl
    have a31 : wA u 31 = wA w 31 := fr_A (a := 31) f1 rfl
    have d1 := hD u f1 ((k : Int) + 1) (by omega) (by omega)
    refine ⟨uA u 32 (fu (wA u 32) (a * 11 + ((k : Int) + 1)) (C a ((k : Int) + 1))), ?_, fr_uA f1 rfl, fun b b0 b1 => ?_, fun z hz => ?_⟩
    · rw [wq_169_33]
      simp (disch := omega) only [qB_s, qC_t, qC_f, qI_T, qI_F, qI_t, qI_f, r_I, r_L, r_R, r_V, ii_add, ii_sub, ii_mul, ii_neg, bz_0, bz_1, Bool.true_and, Bool.false_and, Bool.and_true, z00, z11, li_0, li_1, li_10, li_11, e_30, e_31, e_32, e_33, e_34, e_35, gR_29_0, gR_29_1, gR_29_2, gR_29_3, gR_29_4, gR_29_5, is_29, t_30, t_31, t_32, t_33, t_34, t_35, ii_lt, a30, a31, d1, nat_1]
    · rw [rA, fu_at]
      by_cases z : b = (k : Int) + 1
      · rw [if_pos (by omega), z]
      · rw [if_neg (by omega)]
        exact h1 b b0 (by omega)
    · rw [rA, fu_at, if_neg (by omega)]
      exact h2 z hz) w ⟨fr_r _ _, fun b h1 h2 => by omega, fun _ _ => rfl⟩
  refine ⟨u, ?_, f1, fun b b0 b1 => h1 b b0 (by omega), h2⟩
  have e' : am_W sc 169 (33, [some (am_R (some 29)), some (am_R (some 1)), some (am_R (some va)), none, some (am_I (ii a)), some (am_I (ii 1))], [], wst w) = am_W sc 169 (33, [some (am_R (some 29)), some (am_R (some 1)), some (am_R (some va)), none, some (am_I (ii a)), some (am_I (ii 11))], [], wst u) := e
  rw [e', wq_169_33]
  simp (disch := omega) only [qB_s, qC_t, qC_f, qI_T, qI_F, qI_t, qI_f, r_I, r_L, r_R, r_V, ii_add, ii_sub, ii_mul, ii_neg, bz_0, bz_1, Bool.true_and, Bool.false_and, Bool.and_true, z00, z11, li_0, li_1, li_10, li_11, e_30, e_31, e_32, e_33, e_34, e_35, gR_29_0, gR_29_1, gR_29_2, gR_29_3, gR_29_4, gR_29_5, is_29, t_30, t_31, t_32, t_33, t_34, t_35, ii_lt]
theorem c169c {C : Int → Int → Int} {va : Nat} (hD : ∀ u, fr [3299] w u → ∀ a b, 1 ≤ a → a ≤ 10 → 1 ≤ b → b ≤ 10 → am_F sc 164 [am_R (some 1), am_R (some va), am_I (ii (wA w 30 (a - 1))), am_I (ii (wA w 31 (b - 1)))] (wst u) = some (some (am_I (ii (C a b))), wst u)) : ∃ u, am_W sc 169 (23, [some (am_R (some 29)), some (am_R (some 1)), some (am_R (some va)), none, some (am_I (ii 1)), none], [], wst w) = am_W sc 169 (23, [some (am_R (some 29)), some (am_R (some 1)), some (am_R (some va)), none, some (am_I (ii 11)), none], [], wst u) ∧ fr [3299] w u ∧ ∀ a b, 1 ≤ a → a ≤ 10 → 1 ≤ b → b ≤ 10 → wA u 32 (a * 11 + b) = C a b := by
  obtain ⟨u, e, f1, h1⟩ := lp_s0 (am_W sc 169) (fun (k : Nat) (u : wo) => (23, [some (am_R (some 29)), some (am_R (some 1)), some (am_R (some va)), none, some (am_I (ii ((k : Int) + 1))), none], [], wst u)) (fun k u => fr [3299] w u ∧ ∀ a b : Int, 1 ≤ a → a ≤ k → 1 ≤ b → b ≤ 10 → wA u 32 (a * 11 + b) = C a b) 10 (fun k u hk hu => by
    obtain ⟨f1, h1⟩ := hu
    obtain ⟨v, e, f2, k1, k2⟩ := c169i (sc := sc) (w := u) (C := C) (va := va) (a := (k : Int) + 1) ⟨by omega, by omega⟩ (fun z fz b b0 b1 => by
      rw [fr_A (a := 30) f1 rfl, fr_A (a := 31) f1 rfl]
      exact hD z (fr_t f1 fz) _ b (by omega) (by omega) b0 b1)
    refine ⟨v, ?_, fr_t f1 f2, fun a b a0 a1 b0 b1 => ?_⟩
    · rw [nat_1, ← e, wq_169_23]
      simp (disch := omega) only [qB_s, qC_t, qC_f, qI_T, qI_F, qI_t, qI_f, r_I, r_L, r_R, r_V, ii_add, ii_sub, ii_mul, ii_neg, bz_0, bz_1, Bool.true_and, Bool.false_and, Bool.and_true, z00, z11, li_0, li_1, li_10, li_11, e_30, e_31, e_32, e_33, e_34, e_35, gR_29_0, gR_29_1, gR_29_2, gR_29_3, gR_29_4, gR_29_5, is_29, t_30, t_31, t_32, t_33, t_34, t_35, ii_lt]
    · by_cases z : a = (k : Int) + 1
      · rw [z]
        exact k1 b b0 b1
      · rw [k2 _ (by omega)]
        exact h1 a b a0 (by omega) b0 b1) w ⟨fr_r _ _, fun a b a0 a1 => by omega⟩
  exact ⟨u, e, f1, fun a b a0 a1 => h1 a b a0 (by omega)⟩
theorem c169 {va : Nat} (hC : CS w A.1.1 (aG A)) (hA : okA A) {v : Int} (q : vok A v) (hV : CVo ow w va (aV A v)) (hT : TK w (vM A v) (vF A v)) : ∃ u, am_F sc 169 [am_R (some 29), am_R (some 1), am_R (some va), am_R (some 22)] (wst w) = some (none, wst u) ∧ fr [2909, 2910, 3099, 3199, 3299, 3399, 3499, 3599, 3699, 3799, 3899] w u ∧ wI u 29 9 = (pA A v).1 ∧ wI u 29 10 = (pA A v).2 := by
  have hg : gK A.1.1 (aG A) := hA.1.2.2.1
  have hx := hA.2.2.1.2.2 v q.1 q.2
  have hf : ∀ i, i < vM A v → 0 ≤ vF A v i ∧ vF A v i < A.1.1 := fun i hi => vF_ok hA v hi
  obtain ⟨u1, e1, f1, h1⟩ := c161_30 (sc := sc) hC hg hT (vM_le hA v) hf (t := 0) ⟨by decide, by decide⟩
  obtain ⟨u2, e2, f2, h2⟩ := c161_31 (sc := sc) (CS_fr hC f1 rfl) hg (TK_fr hT f1 rfl) (vM_le hA v) hf (t := 1) ⟨by decide, by decide⟩
  have f12 : fr [3099, 3199] w u2 := fr_t (fr_m f1 rfl) (fr_m f2 rfl)
  have a30 : wA u2 30 = wA u1 30 := fr_A (a := 30) f2 rfl
  have h1 : PKc u1 30 (pP A v 0) := h1
  have h2 : PKc u2 31 (pP A v 1) := h2
  obtain ⟨u3, e3, f3, h3⟩ := c169c (sc := sc) (w := u2) (C := pC A v) (va := va) (fun z fz a b a0 a1 b0 b1 => by
    have fwz : fr [3099, 3199, 3299] w z := fr_t (fr_m f12 rfl) (fr_m fz rfl)
    have hCz := CS_fr hC fwz rfl
    have hVz := CVo_d hV (fr_d fwz rfl _)
    have p1 := h1 (a - 1).toNat (by omega)
    have p2 := h2 (b - 1).toNat (by omega)
    rw [show (((a - 1).toNat : Nat) : Int) = a - 1 by omega] at p1
    rw [show (((b - 1).toNat : Nat) : Int) = b - 1 by omega] at p2
    rw [a30, p1, p2]
    have eC : pC A v a b = if (a - 1).toNat < (pP A v 0).1 ∧ (b - 1).toNat < (pP A v 1).1 then pR A v 100000 (a - 1).toNat (b - 1).toNat else 100000 := rfl
    by_cases z1 : (a - 1).toNat < (pP A v 0).1
    · have o1 := pP_ok hA v 0 z1
      by_cases z2 : (b - 1).toNat < (pP A v 1).1
      · have o2 := pP_ok hA v 1 z2
        rw [if_pos z1, if_pos z2, eC, if_pos ⟨z1, z2⟩]
        exact c164 (sc := sc) hCz hg hVz hx o1.1 o2.1 o1.2 o2.2
      · rw [eC, if_neg (show ¬ ((a - 1).toNat < (pP A v 0).1 ∧ (b - 1).toNat < (pP A v 1).1) from fun y => z2 y.2), if_pos z1, if_neg z2]
        exact c164n (sc := sc) hCz hg hVz hx ⟨by omega, by omega⟩ ⟨by omega, by have := hCz.2.1; omega⟩ (Or.inr rfl)
    · rw [eC, if_neg (show ¬ ((a - 1).toNat < (pP A v 0).1 ∧ (b - 1).toNat < (pP A v 1).1) from fun y => z1 y.1), if_neg z1]
      by_cases z2 : (b - 1).toNat < (pP A v 1).1
      · have o2 := pP_ok hA v 1 z2
        rw [if_pos z2]
        exact c164n (sc := sc) hCz hg hVz hx ⟨by omega, by have := hCz.2.1; omega⟩ ⟨by omega, by omega⟩ (Or.inl rfl)
      · rw [if_neg z2]
        exact c164n (sc := sc) hCz hg hVz hx ⟨by omega, by have := hCz.2.1; omega⟩ ⟨by omega, by have := hCz.2.1; omega⟩ (Or.inl rfl))
  have hpC : ∀ a b, 1 ≤ a → a ≤ 10 → 1 ≤ b → b ≤ 10 → 0 ≤ pC A v a b ∧ pC A v a b ≤ 100000 := fun a b _ _ _ _ => by
    have := pD_ran hA q (a - 1).toNat (b - 1).toNat
    unfold pC
    omega
  have hO3 : CO u3 (pC A v) := ⟨h3, hpC⟩
  obtain ⟨u4, e4, f4, h4⟩ := c142 (sc := sc) (w := u3) (a := 33) (n := 11) (x := 0) rfl (by decide)
  obtain ⟨u5, e5, f5, h5⟩ := c142 (sc := sc) (w := u4) (a := 34) (n := 11) (x := 0) rfl (by decide)
  obtain ⟨u6, e6, f6, h6⟩ := c142 (sc := sc) (w := u5) (a := 35) (n := 11) (x := 0) rfl (by decide)
  have f36 : fr [3399, 3499, 3599] u3 u6 := fr_t (fr_t (fr_m f4 rfl) (fr_m f5 rfl)) (fr_m f6 rfl)
  have hH : gHA (pC A v) (wA u6 33) (wA u6 34) (wA u6 35) 0 := gHA_0 hpC (fun j j0 j1 => by rw [fr_A (a := 33) f6 rfl, fr_A (a := 33) f5 rfl]; exact h4 j j0 j1) (fun j j0 j1 => by rw [fr_A (a := 34) f6 rfl]; exact h5 j j0 j1) (fun j j0 j1 => h6 j j0 j1)
  obtain ⟨u7, e7, f7, h7⟩ := lp_s0 (am_W sc 169) (fun (k : Nat) (u : wo) => (115, [some (am_R (some 29)), none, none, none, some (am_I (ii ((k : Int) + 1))), none], [], wst u)) (fun k u => fr [3399, 3499, 3599, 3699, 3799, 3899] u3 u ∧ gHA (pC A v) (wA u 33) (wA u 34) (wA u 35) k) 10 (fun k u hk hu => by
    obtain ⟨x, e, fx, hx⟩ := c167 (sc := sc) (w := u) (C := pC A v) (i := (k : Int) + 1) (by omega) (by omega) (CO_fr hO3 hu.1 rfl) (by rw [show (k : Int) + 1 - 1 = k by omega]; exact hu.2)
    refine ⟨x, ?_, fr_t hu.1 fx, by rw [nat_1]; exact hx⟩
    rw [wq_169_115]
    simp (disch := omega) only [qB_s, qC_t, qC_f, qI_T, qI_F, qI_t, qI_f, r_I, r_L, r_R, r_V, ii_add, ii_sub, ii_mul, ii_neg, bz_0, bz_1, Bool.true_and, Bool.false_and, Bool.and_true, z00, z11, li_0, li_1, li_10, li_11, e_30, e_31, e_32, e_33, e_34, e_35, gR_29_0, gR_29_1, gR_29_2, gR_29_3, gR_29_4, gR_29_5, is_29, t_30, t_31, t_32, t_33, t_34, t_35, ii_lt, e, nat_1]) u6 ⟨fr_m f36 rfl, hH⟩
  obtain ⟨u8, e8, f8, g1, g2⟩ := c168 (sc := sc) (CO_fr hO3 f7 rfl) (gHA_all h7)
  have hp := pD_h hA q h7
  refine ⟨u8, ?_, fr_t (fr_t (fr_t (fr_m f12 rfl) (fr_m f3 rfl)) (fr_m f7 rfl)) (fr_m f8 rfl), by rw [g1, hp.1], by rw [g2, hp.2]⟩
  have e7' : am_W sc 169 (115, [some (am_R (some 29)), none, none, none, some (am_I (ii 1)), none], [], wst u6) = am_W sc 169 (115, [some (am_R (some 29)), none, none, none, some (am_I (ii 11)), none], [], wst u7) := e7
  rw [fq_169]
  simp (disch := omega) only [qB_s, qC_t, qC_f, qI_T, qI_F, qI_t, qI_f, r_I, r_L, r_R, r_V, ii_add, ii_sub, ii_mul, ii_neg, bz_0, bz_1, Bool.true_and, Bool.false_and, Bool.and_true, z00, z11, li_0, li_1, li_10, li_11, e_30, e_31, e_32, e_33, e_34, e_35, gR_29_0, gR_29_1, gR_29_2, gR_29_3, gR_29_4, gR_29_5, is_29, t_30, t_31, t_32, t_33, t_34, t_35, e1, e2]
  rw [e3, wq_169_23]
  simp (disch := omega) only [qB_s, qC_t, qC_f, qI_T, qI_F, qI_t, qI_f, r_I, r_L, r_R, r_V, ii_add, ii_sub, ii_mul, ii_neg, bz_0, bz_1, Bool.true_and, Bool.false_and, Bool.and_true, z00, z11, li_0, li_1, li_10, li_11, e_30, e_31, e_32, e_33, e_34, e_35, gR_29_0, gR_29_1, gR_29_2, gR_29_3, gR_29_4, gR_29_5, is_29, t_30, t_31, t_32, t_33, t_34, t_35, ii_lt, e4, e5, e6]
  rw [e7', wq_169_115]
  simp (disch := omega) only [qB_s, qC_t, qC_f, qI_T, qI_F, qI_t, qI_f, r_I, r_L, r_R, r_V, ii_add, ii_sub, ii_mul, ii_neg, bz_0, bz_1, Bool.true_and, Bool.false_and, Bool.and_true, z00, z11, li_0, li_1, li_10, li_11, e_30, e_31, e_32, e_33, e_34, e_35, gR_29_0, gR_29_1, gR_29_2, gR_29_3, gR_29_4, gR_29_5, is_29, t_30, t_31, t_32, t_33, t_34, t_35, ii_lt, e8]
theorem x_170 (hC : RC ow w A) (hA : okA A) {v o : Int} (hv1 : -2147483648 ≤ v) (hv2 : v ≤ 2147483647) (ho1 : -2147483648 ≤ o) (ho2 : o ≤ 2147483647) : ∃ u, am_F sc 170 [am_R (some 0), am_I (ii v), am_I (ii o)] (wst w) = some (some (am_I (ii (if (0 ≤ v ∧ v < A.2.2.1.1) ∧ (0 ≤ o ∧ o ≤ 1) then (if o = 0 then (pA A v).1 else (pA A v).2) else -1))), wst u) ∧ fr scC w u := by
  by_cases q1 : 0 ≤ v ∧ v < A.2.2.1.1
  · skip
    obtain ⟨a, eV, h113⟩ := (c113 (sc := sc) hC.2.2.2.2.1 hA.2.2.1.1 hA.2.2.1.2.1 hv1 hv2).1 q1
    by_cases q2 : 0 ≤ o ∧ o ≤ 1
    · skip
      rw [if_pos (by omega)]
      have h126 := s126 (sc := sc) (w := w) ho1 ho2
      rw [bz_t (by omega)] at h126
      obtain ⟨u1, e1, f1, t1, -⟩ := (c117 (sc := sc) hC hA hv1 hv2).1 q1
      obtain ⟨u2, e2, f2, g1, g2⟩ := c169 (sc := sc) (CS_fr hC.1 f1 rfl) hA q1 (CVo_d eV (fr_d f1 rfl _)) t1
      refine ⟨u2, ?_, fr_t (fr_m f1 rfl) (fr_m f2 rfl)⟩
      rw [fq_170]
      by_cases q3 : o = 0
      · rw [if_pos q3]
        simp (disch := omega) only [qB_s, qC_t, qC_f, qI_T, qI_F, qI_t, qI_f, r_I, r_L, r_R, r_V, ii_add, ii_sub, ii_mul, ii_neg, bz_0, bz_1, Bool.true_and, Bool.false_and, Bool.and_true, z00, z11, li_0, li_1, gI_29_10, gI_29_9, gR_0_0, gR_0_11, gR_0_9, is_0, is_29, ii_eq, h113, Option.isNone_some, h126, e1, e2, g1]
      · rw [if_neg q3]
        simp (disch := omega) only [qB_s, qC_t, qC_f, qI_T, qI_F, qI_t, qI_f, r_I, r_L, r_R, r_V, ii_add, ii_sub, ii_mul, ii_neg, bz_0, bz_1, Bool.true_and, Bool.false_and, Bool.and_true, z00, z11, li_0, li_1, gI_29_10, gI_29_9, gR_0_0, gR_0_11, gR_0_9, is_0, is_29, ii_eq, h113, Option.isNone_some, h126, e1, e2, g2]
    · rw [if_neg (by omega)]
      have h126 := s126 (sc := sc) (w := w) ho1 ho2
      rw [bz_f (by omega)] at h126
      exact ⟨w, by
        rw [fq_170]
        simp (disch := omega) only [qB_s, qC_t, qC_f, qI_T, qI_F, qI_t, qI_f, r_I, r_L, r_R, r_V, ii_add, ii_sub, ii_mul, ii_neg, bz_0, bz_1, Bool.true_and, Bool.false_and, Bool.and_true, z00, z11, li_0, li_1, gI_29_10, gI_29_9, gR_0_0, gR_0_11, gR_0_9, is_0, is_29, ii_lt, ii_eq, ii_jj, jj_neg, h113, Option.isNone_some, h126], fr_r _ _⟩
  · rw [if_neg (by omega)]
    have h113 := (c113 (sc := sc) hC.2.2.2.2.1 hA.2.2.1.1 hA.2.2.1.2.1 hv1 hv2).2 q1
    exact ⟨w, by
      rw [fq_170]
      simp (disch := omega) only [qB_s, qC_t, qC_f, qI_T, qI_F, qI_t, qI_f, r_I, r_L, r_R, r_V, ii_add, ii_sub, ii_mul, ii_neg, bz_0, bz_1, Bool.true_and, Bool.false_and, Bool.and_true, z00, z11, li_0, li_1, gI_29_10, gI_29_9, gR_0_0, gR_0_11, gR_0_9, is_0, is_29, ii_lt, ii_eq, ii_jj, jj_neg, h113, Option.isNone_none], fr_r _ _⟩
end L67
