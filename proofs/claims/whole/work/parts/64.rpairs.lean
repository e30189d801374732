/-! THE LEAST SUMS IN THE OTHER -/
theorem dsF_or (g : Int → Int → Int) (x : vw) (a b F : Int) : (dsF g x a b F = dsS g x a b 6 ∧ al g a b x.2.1 = true ∧ nrB g x a b 6 = true ∧ dsS g x a b 6 ≤ (if x.2.2.2 < 0 then 999 else x.2.2.2)) ∨ (dsF g x a b F = F ∧ ¬ (al g a b x.2.1 = true ∧ nrB g x a b 6 = true ∧ dsS g x a b 6 ≤ (if x.2.2.2 < 0 then 999 else x.2.2.2))) := by
  unfold dsF
  by_cases q : al g a b x.2.1 = true
  · rw [if_pos q]
    unfold dsL
    by_cases z : nrB g x a b 6 = true ∧ dsS g x a b 6 ≤ (if x.2.2.2 < 0 then 999 else x.2.2.2)
    · exact .inl ⟨if_pos z, q, z.1, z.2⟩
    · exact .inr ⟨if_neg z, fun y => z y.2⟩
  · exact .inr ⟨if_neg q, fun y => q y.1⟩
theorem dsS_nn {g : Int → Int → Int} {x : vw} (hx : okV x) {a b : Int} : 0 ≤ dsS g x a b 6 := sm_nn (fun m hm => Int.mul_nonneg (hx.2.2.1 m (by omega) (by omega)).1 (by unfold na; split <;> omega))
theorem dsF_nn {g : Int → Int → Int} {x : vw} (hx : okV x) {a b : Int} : 0 ≤ dsF g x a b 1000000 := by
  have h := dsS_nn (g := g) hx (a := a) (b := b)
  rcases dsF_or g x a b 1000000 with ⟨e, -⟩ | ⟨e, -⟩ <;> omega
theorem dsF_ran {g : Int → Int → Int} {n : Int} (hg : gK n g) {x : vw} (hx : okV x) {a b : Int} (ha : 0 ≤ a ∧ a < n) (hb : 0 ≤ b ∧ b < n) : 0 ≤ dsF g x a b 1000000 ∧ dsF g x a b 1000000 ≤ 1000000 := by
  have h := dsS_ran hg hx ha hb (m := 6) (Nat.le_refl _)
  rcases dsF_or g x a b 1000000 with ⟨e, -⟩ | ⟨e, -⟩ <;> omega
theorem dpJ_nn {F ci : Nat → Int} (h : ∀ t, 0 ≤ F t) (hc : ∀ j, 0 ≤ ci j) (s : Nat) : ∀ n, 0 ≤ dpJ F ci s n
  | 0 => h s
  | n + 1 => by
    have ih := dpJ_nn h hc s n
    have h1 := h (s ^^^ 2 ^ n)
    have h2 := hc n
    unfold dpJ
    split
    · split
      · omega
      · exact ih
    · exact ih
theorem p2_sh {n : Nat} (h : n ≤ 10) : ii 1 <<< (ii n &&& ii 31) = ii ((2 ^ n : Nat) : Int) := by
  have := all_lt (p := fun n => decide (ii 1 <<< (ii (n : Int) &&& ii 31) = ii ((2 ^ n : Nat) : Int))) (n := 11) (by decide +kernel) (r := n) (by omega)
  exact of_decide_eq_true this
theorem p2_tb {s j : Nat} (hs : s < 1024) (hj : j < 10) : (ii s >>> (ii j &&& ii 31)) &&& ii 1 = ii (bz (s.testBit j = true)) := by
  have := all_lt (p := fun j => (List.range 1024).all fun s => decide ((ii (s : Int) >>> (ii (j : Int) &&& ii 31)) &&& ii 1 = ii (bz (s.testBit j = true)))) (n := 10) (by decide +kernel) (r := j) hj
  exact of_decide_eq_true (all_lt (p := fun s => decide ((ii (s : Int) >>> (ii (j : Int) &&& ii 31)) &&& ii 1 = ii (bz (s.testBit j = true)))) this hs)
theorem p2_x {s j : Nat} (hs : s < 1024) (hj : j < 10) (h : s.testBit j = true) : ii s &&& ((ii 1 <<< (ii j &&& ii 31)) ^^^ ii (-1)) = ii ((s ^^^ 2 ^ j : Nat) : Int) ∧ s ^^^ 2 ^ j < s := by
  have := all_lt (p := fun j => (List.range 1024).all fun s => decide (s.testBit j = true → ii (s : Int) &&& ((ii 1 <<< (ii (j : Int) &&& ii 31)) ^^^ ii (-1)) = ii ((s ^^^ 2 ^ j : Nat) : Int) ∧ s ^^^ 2 ^ j < s)) (n := 10) (by decide +kernel) (r := j) hj
  exact of_decide_eq_true (all_lt (p := fun s => decide (s.testBit j = true → ii (s : Int) &&& ((ii 1 <<< (ii (j : Int) &&& ii 31)) ^^^ ii (-1)) = ii ((s ^^^ 2 ^ j : Nat) : Int) ∧ s ^^^ 2 ^ j < s)) this hs) h
theorem p2_le {n : Nat} (h : n ≤ 10) : 0 < (2 : Nat) ^ n ∧ (2 : Nat) ^ n ≤ 1024 := ⟨Nat.two_pow_pos n, Nat.pow_le_pow_right (by decide) h⟩
theorem dpJ_0 (prev ci : Nat → Int) : ∀ n, dpJ prev ci 0 n = prev 0
  | 0 => rfl
  | n + 1 => by
    unfold dpJ
    rw [Nat.zero_testBit, if_neg (by decide), dpJ_0 prev ci n]
theorem dp_00 {c : Nat → Nat → Int} {n : Nat} (hr : ∀ i j, 0 ≤ c i j) (h2 : n ≤ 10) : ∀ i, dp c n i 0 = 0
  | 0 => rfl
  | i + 1 => (dpJ_0 (dp c n i) (c i) n).trans (dp_00 hr h2 i)
theorem dp_up {c : Nat → Nat → Int} {n : Nat} : ∀ (i s : Nat), dp c n i s ≤ 1000000
  | 0, s => by
    show (if s = 0 then (0 : Int) else 1000000) ≤ 1000000
    split <;> omega
  | i + 1, s => Int.le_trans (dpJ_le (dp c n i) (c i) s n).1 (dp_up i s)
theorem dpB_ran {f b : Nat → Int} (hf : ∀ s, 0 ≤ f s ∧ f s ≤ 1000000) (hb : ∀ s, 0 ≤ b s ∧ b s ≤ 10) : ∀ n, (0 ≤ (dpB f b n).1 ∧ (dpB f b n).1 ≤ 10) ∧ 0 ≤ (dpB f b n).2 ∧ (dpB f b n).2 ≤ 1000000
  | 0 => ⟨⟨Int.le_refl _, (by decide : (0 : Int) ≤ 10)⟩, Int.le_refl _, (by decide : (0 : Int) ≤ 1000000)⟩
  | n + 1 => by
    have ih := dpB_ran hf hb n
    unfold dpB
    by_cases q : f n < 1000000 ∧ ¬ b n < (dpB f b n).1 ∧ (b n = (dpB f b n).1 → f n < (dpB f b n).2)
    · rw [if_pos q]
      exact ⟨hb n, hf n⟩
    · rw [if_neg q]
      exact ih
/-- the sums -/
def SU (w : wo) (n2 : Nat) (F : Nat → Int) : Prop := ∀ t : Nat, t < 2 ^ n2 → wA w 67 t = F t
/-- what pairs stands on -/
def PB (w : wo) (n1 n2 : Nat) (f1 f2 : Nat → Int) : Prop := (wI w 47 39 = n1 ∧ ∀ j : Nat, j < n1 → wA w 65 j = f1 j) ∧ (wI w 47 40 = n2 ∧ ∀ j : Nat, j < n2 → wA w 66 j = f2 j)
theorem PB_fr {w u : wo} {n1 n2 : Nat} {f1 f2 : Nat → Int} (h : PB w n1 n2 f1 f2) (f : fr [6799] w u) : PB u n1 n2 f1 f2 := by
  unfold PB at h ⊢
  rw [fr_I f rfl, fr_I f rfl, fr_A f rfl, fr_A f rfl]
  exact h
section L64
variable {sc : am_X} {w : wo} {n : Int} {g : Int → Int → Int} {n1 n2 : Nat} {f1 f2 : Nat → Int}
theorem d173b (hP : PB w n1 n2 f1 f2) (h2 : n2 ≤ 10) (c : Nat → Nat → Int) {v o : Int} : ∃ u, am_W sc 173 (152, [some (am_R (some 47)), some (am_I (ii v)), some (am_I (ii o)), some (am_I (ii 0)), none, none, none], [], wst w) = am_W sc 173 (187, [some (am_R (some 47)), some (am_I (ii v)), some (am_I (ii o)), some (am_I (ii 0)), none, none, none], [], wst u) ∧ fr [6799] w u ∧ SU u n2 (dp c n2 0) := by
  have hl := p2_le h2
  have hsh := p2_sh h2
  obtain ⟨u, e, fu', hu⟩ := lp_s0 (am_W sc 173) (fun (i : Nat) (u : wo) => (152, [some (am_R (some 47)), some (am_I (ii v)), some (am_I (ii o)), some (am_I (ii i)), none, none, none], [], wst u)) (fun i u => fr [6799] w u ∧ ∀ t : Nat, t < i → wA u 67 t = dp c n2 0 t) (2 ^ n2) (fun i u hi hu => by
    obtain ⟨fu', h⟩ := hu
    have h40 := (PB_fr hP fu').2.1
    rw [wq_173_152]
    by_cases q : i = 0
    · subst q
      refine ⟨uA u 67 (fu (wA u 67) 0 0), ?_, fr_uA fu' rfl, fun t ht => ?_⟩
      · simp (disch := omega) only [qB_s, qC_t, qC_f, qI_T, qI_F, qI_t, qI_f, r_I, r_L, r_R, r_V, ii_add, ii_sub, ii_mul, ii_neg, bz_0, bz_1, Bool.true_and, Bool.false_and, Bool.and_true, z00, z11, li_0, li_1, li_10, li_1000000, li_31, lj_0, lj_1, e_59, e_65, e_66, e_67, gI_47_26, gI_47_39, gI_47_40, gR_47_27, gR_47_37, gR_47_38, gR_47_41, is_47, pI_47_39, pI_47_40, t_59, t_65, t_66, t_67, ii_lt, ii_eq, h40, hsh, nat_1, Int.cast_ofNat_Int]
      · rw [show t = 0 by omega, rA, fu_at]
        exact if_pos rfl
    · refine ⟨uA u 67 (fu (wA u 67) i 1000000), ?_, fr_uA fu' rfl, fun t ht => ?_⟩
      · simp (disch := omega) only [qB_s, qC_t, qC_f, qI_T, qI_F, qI_t, qI_f, r_I, r_L, r_R, r_V, ii_add, ii_sub, ii_mul, ii_neg, bz_0, bz_1, Bool.true_and, Bool.false_and, Bool.and_true, z00, z11, li_0, li_1, li_10, li_1000000, li_31, lj_0, lj_1, e_59, e_65, e_66, e_67, gI_47_26, gI_47_39, gI_47_40, gR_47_27, gR_47_37, gR_47_38, gR_47_41, is_47, pI_47_39, pI_47_40, t_59, t_65, t_66, t_67, ii_lt, ii_eq, h40, hsh, nat_1]
      · rw [rA, fu_at]
        by_cases z : t = i
        · rw [if_pos (by omega), z]
          exact (if_neg q).symm
        · rw [if_neg (by omega)]
          exact h t (by omega)) w ⟨fr_r _ _, fun t ht => absurd ht (Nat.not_lt_zero t)⟩
  have h40 := (PB_fr hP fu').2.1
  refine ⟨u, ?_, fu', hu⟩
  have e' : am_W sc 173 (152, [some (am_R (some 47)), some (am_I (ii v)), some (am_I (ii o)), some (am_I (ii 0)), none, none, none], [], wst w) = _ := e
  rw [e', wq_173_152]
  simp (disch := omega) only [qB_s, qC_t, qC_f, qI_T, qI_F, qI_t, qI_f, r_I, r_L, r_R, r_V, ii_add, ii_sub, ii_mul, ii_neg, bz_0, bz_1, Bool.true_and, Bool.false_and, Bool.and_true, z00, z11, li_0, li_1, li_10, li_1000000, li_31, lj_0, lj_1, e_59, e_65, e_66, e_67, gI_47_26, gI_47_39, gI_47_40, gR_47_27, gR_47_37, gR_47_38, gR_47_41, is_47, pI_47_39, pI_47_40, t_59, t_65, t_66, t_67, h40, hsh, ii_lt]
/-- one set -/
theorem d173c (hM : MS w n g) (hg : gK n g) {v : Int} {x : vw} (hV : MVo w v x) (hx : okV x) (hv : 0 ≤ v ∧ v < 8) (hL : wI w 47 25 = x.2.1) (hP : PB w n1 n2 f1 f2) (h1 : n1 ≤ 10) (h2 : n2 ≤ 10) (o1 : ∀ j, j < n1 → 0 ≤ f1 j ∧ f1 j < n) (o2 : ∀ j, j < n2 → 0 ≤ f2 j ∧ f2 j < n) {i : Nat} (hi : i < n1) {F : Nat → Int} (hF : ∀ t, 0 ≤ F t ∧ F t ≤ 1000000) {s : Nat} (hs : s < 2 ^ n2) (hS : ∀ t : Nat, t ≤ s → wA w 67 t = F t) {o : Int} : ∃ u, am_W sc 173 (213, [some (am_R (some 47)), some (am_I (ii v)), some (am_I (ii o)), some (am_I (ii i)), some (am_I (ii s)), some (am_I (ii 0)), none], [], wst w) = am_W sc 173 (205, [some (am_R (some 47)), some (am_I (ii v)), some (am_I (ii o)), some (am_I (ii i)), some (am_I (ii ((s : Int) - 1))), none, none], [], wst u) ∧ fr [6799] w u ∧ ∀ t : Nat, wA u 67 t = if t = s then dpJ F (fun j => dsF g x (f1 i) (f2 j) 1000000) s n2 else wA w 67 t := by
  have hl := p2_le h2
  obtain ⟨ci, hci⟩ : ∃ ci : Nat → Int, ci = fun j => dsF g x (f1 i) (f2 j) 1000000 := ⟨_, rfl⟩
  rw [← hci]
  obtain ⟨u, e, fu', hu⟩ := lp_s0 (am_W sc 173) (fun (j : Nat) (u : wo) => (213, [some (am_R (some 47)), some (am_I (ii v)), some (am_I (ii o)), some (am_I (ii i)), some (am_I (ii s)), some (am_I (ii j)), none], [], wst u)) (fun j u => fr [6799] w u ∧ ∀ t : Nat, wA u 67 t = if t = s then dpJ F ci s j else wA w 67 t) n2 (fun j u hj hu => by
    obtain ⟨fu', h⟩ := hu
    have hPu := PB_fr hP fu'
    have h40 := hPu.2.1
    have h65 := hPu.1.2 i hi
    have h66 := hPu.2.2 j hj
    have htb := p2_tb (s := s) (j := j) (by omega) (by omega)
    have a1 := o1 i hi
    have a2 := o2 j hj
    have hd := d171 (sc := sc) (MS_fr hM fu' rfl) hg (MVo_fr hV fu' rfl) hx hv (by rw [fr_I fu' rfl]; exact hL) a1 a2
    have hdr := dsF_ran hg hx a1 a2
    have hcj : ci j = dsF g x (f1 i) (f2 j) 1000000 := by rw [hci]
    rw [← hcj] at hd hdr
    have hss := h s
    rw [if_pos rfl] at hss
    have hr1 := (dpJ_le F ci s j).1
    have hF1 := hF s
    have hn := dpJ_nn (F := F) (ci := ci) (fun t => (hF t).1) (fun j => by rw [hci]; exact dsF_nn hx) s j
    rw [wq_173_213]
    cases q : s.testBit j with
    | false =>
      have e1 : dpJ F ci s (j + 1) = dpJ F ci s j := by
        show (if s.testBit j = true then _ else _) = _
        rw [q]
        rfl
      rw [q, show bz (false = true) = 0 from rfl] at htb
      refine ⟨u, ?_, fu', fun t => by rw [e1]; exact h t⟩
      simp (disch := omega) only [qB_s, qC_t, qC_f, qI_T, qI_F, qI_t, qI_f, r_I, r_L, r_R, r_V, ii_add, ii_sub, ii_mul, ii_neg, bz_0, bz_1, Bool.true_and, Bool.false_and, Bool.and_true, z00, z11, li_0, li_1, li_10, li_1000000, li_31, lj_0, lj_1, e_59, e_65, e_66, e_67, gI_47_26, gI_47_39, gI_47_40, gR_47_27, gR_47_37, gR_47_38, gR_47_41, is_47, pI_47_39, pI_47_40, t_59, t_65, t_66, t_67, ii_lt, ii_eq, h40, htb, nat_1]
    | true =>
      have hx2 := p2_x (s := s) (j := j) (by omega) (by omega) q
      have hpr := h (s ^^^ 2 ^ j)
      rw [if_neg (by omega), hS _ (by omega)] at hpr
      have hF2 := hF (s ^^^ 2 ^ j)
      have e1 : dpJ F ci s (j + 1) = if F (s ^^^ 2 ^ j) + ci j < dpJ F ci s j then F (s ^^^ 2 ^ j) + ci j else dpJ F ci s j := by
        show (if s.testBit j = true then _ else _) = _
        rw [if_pos q]
      rw [q, bz_t rfl] at htb
      have hx1 := hx2.1
      generalize s ^^^ 2 ^ j = y at *
      by_cases z : F y + ci j < dpJ F ci s j
      · refine ⟨uA u 67 (fu (wA u 67) s (F y + ci j)), ?_, fr_uA fu' rfl, fun t => ?_⟩
        · simp (disch := omega) only [qB_s, qC_t, qC_f, qI_T, qI_F, qI_t, qI_f, r_I, r_L, r_R, r_V, ii_add, ii_sub, ii_mul, ii_neg, bz_0, bz_1, Bool.true_and, Bool.false_and, Bool.and_true, z00, z11, li_0, li_1, li_10, li_1000000, li_31, lj_0, lj_1, e_59, e_65, e_66, e_67, gI_47_26, gI_47_39, gI_47_40, gR_47_27, gR_47_37, gR_47_38, gR_47_41, is_47, pI_47_39, pI_47_40, t_59, t_65, t_66, t_67, ii_lt, ii_eq, h40, h65, h66, htb, hx1, hd, hpr, hss, nat_1]
        · rw [e1, if_pos z, rA, fu_at]
          by_cases k : t = s
          · rw [if_pos (by omega), if_pos k]
          · rw [if_neg (by omega), if_neg k, h t, if_neg k]
      · refine ⟨uA u 67 (fu (wA u 67) s (dpJ F ci s j)), ?_, fr_uA fu' rfl, fun t => ?_⟩
        · simp (disch := omega) only [qB_s, qC_t, qC_f, qI_T, qI_F, qI_t, qI_f, r_I, r_L, r_R, r_V, ii_add, ii_sub, ii_mul, ii_neg, bz_0, bz_1, Bool.true_and, Bool.false_and, Bool.and_true, z00, z11, li_0, li_1, li_10, li_1000000, li_31, lj_0, lj_1, e_59, e_65, e_66, e_67, gI_47_26, gI_47_39, gI_47_40, gR_47_27, gR_47_37, gR_47_38, gR_47_41, is_47, pI_47_39, pI_47_40, t_59, t_65, t_66, t_67, ii_lt, ii_eq, h40, h65, h66, htb, hx1, hd, hpr, hss, nat_1]
        · rw [e1, if_neg z, rA, fu_at]
          by_cases k : t = s
          · rw [if_pos (by omega), if_pos k]
          · rw [if_neg (by omega), if_neg k, h t, if_neg k]) w ⟨fr_r _ _, fun t => by
      by_cases k : t = s
      · rw [if_pos k, k]
        exact hS s (Nat.le_refl _)
      · rw [if_neg k]⟩
  have h40 := (PB_fr hP fu').2.1
  refine ⟨u, ?_, fu', hu⟩
  have e' : am_W sc 173 (213, [some (am_R (some 47)), some (am_I (ii v)), some (am_I (ii o)), some (am_I (ii i)), some (am_I (ii s)), some (am_I (ii 0)), none], [], wst w) = _ := e
  rw [e', wq_173_213]
  simp (disch := omega) only [qB_s, qC_t, qC_f, qI_T, qI_F, qI_t, qI_f, r_I, r_L, r_R, r_V, ii_add, ii_sub, ii_mul, ii_neg, bz_0, bz_1, Bool.true_and, Bool.false_and, Bool.and_true, z00, z11, li_0, li_1, li_10, li_1000000, li_31, lj_0, lj_1, e_59, e_65, e_66, e_67, gI_47_26, gI_47_39, gI_47_40, gR_47_27, gR_47_37, gR_47_38, gR_47_41, is_47, pI_47_39, pI_47_40, t_59, t_65, t_66, t_67, h40, ii_lt]
  rfl
/-- all sets, from the largest down -/
theorem d173d (hM : MS w n g) (hg : gK n g) {v : Int} {x : vw} (hV : MVo w v x) (hx : okV x) (hv : 0 ≤ v ∧ v < 8) (hL : wI w 47 25 = x.2.1) (hP : PB w n1 n2 f1 f2) (h1 : n1 ≤ 10) (h2 : n2 ≤ 10) (o1 : ∀ j, j < n1 → 0 ≤ f1 j ∧ f1 j < n) (o2 : ∀ j, j < n2 → 0 ≤ f2 j ∧ f2 j < n) {i : Nat} (hi : i < n1) {F : Nat → Int} (hF : ∀ t, 0 ≤ F t ∧ F t ≤ 1000000) {o : Int} : ∀ (s : Nat) (w0 : wo), s < 2 ^ n2 → fr [6799] w w0 → (∀ t : Nat, t < 2 ^ n2 → wA w0 67 t = if s < t then dpJ F (fun j => dsF g x (f1 i) (f2 j) 1000000) t n2 else F t) → ∃ u, am_W sc 173 (205, [some (am_R (some 47)), some (am_I (ii v)), some (am_I (ii o)), some (am_I (ii i)), some (am_I (ii s)), none, none], [], wst w0) = am_W sc 173 (187, [some (am_R (some 47)), some (am_I (ii v)), some (am_I (ii o)), some (am_I (ii ((i : Int) + 1))), none, none, none], [], wst u) ∧ fr [6799] w u ∧ SU u n2 (fun t => dpJ F (fun j => dsF g x (f1 i) (f2 j) 1000000) t n2)
  | 0, w0, hs, hf, hS => by
    refine ⟨w0, ?_, hf, fun t ht => ?_⟩
    · rw [wq_173_205]
      simp (disch := omega) only [qB_s, qC_t, qC_f, qI_T, qI_F, qI_t, qI_f, r_I, r_L, r_R, r_V, ii_add, ii_sub, ii_mul, ii_neg, bz_0, bz_1, Bool.true_and, Bool.false_and, Bool.and_true, z00, z11, li_0, li_1, li_10, li_1000000, li_31, lj_0, lj_1, e_59, e_65, e_66, e_67, gI_47_26, gI_47_39, gI_47_40, gR_47_27, gR_47_37, gR_47_38, gR_47_41, is_47, pI_47_39, pI_47_40, t_59, t_65, t_66, t_67, ii_lt, Int.cast_ofNat_Int]
    · rw [hS t ht]
      by_cases z : t = 0
      · rw [if_neg (by omega), z]
        exact (dpJ_0 F _ n2).symm
      · rw [if_pos (by omega)]
  | s + 1, w0, hs, hf, hS => by
    have hl := p2_le h2
    obtain ⟨u, e, fu', hu⟩ := d173c (sc := sc) (w := w0) (MS_fr hM hf rfl) hg (MVo_fr hV hf rfl) hx hv (by rw [fr_I hf rfl]; exact hL) (PB_fr hP hf) h1 h2 o1 o2 hi hF hs (fun t ht => by rw [hS t (by omega), if_neg (by omega)]) (o := o)
    rw [show (((s + 1 : Nat) : Int) - 1) = (s : Int) by omega] at e
    obtain ⟨u2, e2, f2', h2'⟩ := d173d hM hg hV hx hv hL hP h1 h2 o1 o2 hi hF (o := o) s u (by omega) (fr_t hf fu') (fun t ht => by
      rw [hu t]
      by_cases z : t = s + 1
      · rw [if_pos z, if_pos (by omega), z]
      · rw [if_neg z, hS t ht]
        by_cases y : s + 1 < t
        · rw [if_pos y, if_pos (by omega)]
        · rw [if_neg y, if_neg (by omega)])
    refine ⟨u2, ?_, f2', h2'⟩
    rw [← e2, ← e, wq_173_205]
    simp (disch := omega) only [qB_s, qC_t, qC_f, qI_T, qI_F, qI_t, qI_f, r_I, r_L, r_R, r_V, ii_add, ii_sub, ii_mul, ii_neg, bz_0, bz_1, Bool.true_and, Bool.false_and, Bool.and_true, z00, z11, li_0, li_1, li_10, li_1000000, li_31, lj_0, lj_1, e_59, e_65, e_66, e_67, gI_47_26, gI_47_39, gI_47_40, gR_47_27, gR_47_37, gR_47_38, gR_47_41, is_47, pI_47_39, pI_47_40, t_59, t_65, t_66, t_67, ii_lt]
/-- all rows -/
theorem d173e (hM : MS w n g) (hg : gK n g) {v : Int} {x : vw} (hV : MVo w v x) (hx : okV x) (hv : 0 ≤ v ∧ v < 8) (hL : wI w 47 25 = x.2.1) (hP : PB w n1 n2 f1 f2) (h1 : n1 ≤ 10) (h2 : n2 ≤ 10) (o1 : ∀ j, j < n1 → 0 ≤ f1 j ∧ f1 j < n) (o2 : ∀ j, j < n2 → 0 ≤ f2 j ∧ f2 j < n) {o : Int} (hS : SU w n2 (dp (fun i j => dsF g x (f1 i) (f2 j) 1000000) n2 0)) : ∃ u, am_W sc 173 (187, [some (am_R (some 47)), some (am_I (ii v)), some (am_I (ii o)), some (am_I (ii 0)), none, none, none], [], wst w) = am_W sc 173 (327, [some (am_R (some 47)), none, some (am_I (ii o)), some (am_I (ii 0)), some (am_I (ii 0)), some (am_I (ii 1)), none], [], wst u) ∧ fr [6799] w u ∧ SU u n2 (dp (fun i j => dsF g x (f1 i) (f2 j) 1000000) n2 n1) := by
  have hl := p2_le h2
  have hsh := p2_sh h2
  obtain ⟨c, hc⟩ : ∃ c : Nat → Nat → Int, c = fun i j => dsF g x (f1 i) (f2 j) 1000000 := ⟨_, rfl⟩
  rw [← hc] at hS ⊢
  obtain ⟨u, e, fu', hu⟩ := lp_s0 (am_W sc 173) (fun (i : Nat) (u : wo) => (187, [some (am_R (some 47)), some (am_I (ii v)), some (am_I (ii o)), some (am_I (ii i)), none, none, none], [], wst u)) (fun i u => fr [6799] w u ∧ SU u n2 (dp c n2 i)) n1 (fun i u hi hu => by
    obtain ⟨fu', h⟩ := hu
    have hPu := PB_fr hP fu'
    have h39 := hPu.1.1
    have h40 := hPu.2.1
    obtain ⟨u2, e2, f2', h2'⟩ := d173d (sc := sc) hM hg hV hx hv hL hP h1 h2 o1 o2 hi (F := dp c n2 i) (fun t => ⟨dp_nn (fun i j => by rw [hc]; exact dsF_nn hx) i t, dp_up i t⟩) (o := o) (2 ^ n2 - 1) u (by omega) fu' (fun t ht => by rw [h t ht, if_neg (by omega)])
    refine ⟨u2, ?_, f2', ?_⟩
    · rw [nat_1, ← e2, wq_173_187]
      rw [show ((2 ^ n2 - 1 : Nat) : Int) = ((2 ^ n2 : Nat) : Int) + -1 by omega]
      simp (disch := omega) only [qB_s, qC_t, qC_f, qI_T, qI_F, qI_t, qI_f, r_I, r_L, r_R, r_V, ii_add, ii_sub, ii_mul, ii_neg, bz_0, bz_1, Bool.true_and, Bool.false_and, Bool.and_true, z00, z11, li_0, li_1, li_10, li_1000000, li_31, lj_0, lj_1, e_59, e_65, e_66, e_67, gI_47_26, gI_47_39, gI_47_40, gR_47_27, gR_47_37, gR_47_38, gR_47_41, is_47, pI_47_39, pI_47_40, t_59, t_65, t_66, t_67, ii_lt, h39, h40, hsh]
      rfl
    · have : dp c n2 (i + 1) = fun t => dpJ (dp c n2 i) (c i) t n2 := rfl
      rw [this, hc]
      rw [hc] at h2'
      exact h2') w ⟨fr_r _ _, hS⟩
  have h39 := (PB_fr hP fu').1.1
  refine ⟨u, ?_, fu', hu⟩
  have e' : am_W sc 173 (187, [some (am_R (some 47)), some (am_I (ii v)), some (am_I (ii o)), some (am_I (ii 0)), none, none, none], [], wst w) = _ := e
  rw [e', wq_173_187]
  simp (disch := omega) only [qB_s, qC_t, qC_f, qI_T, qI_F, qI_t, qI_f, r_I, r_L, r_R, r_V, ii_add, ii_sub, ii_mul, ii_neg, bz_0, bz_1, Bool.true_and, Bool.false_and, Bool.and_true, z00, z11, li_0, li_1, li_10, li_1000000, li_31, lj_0, lj_1, e_59, e_65, e_66, e_67, gI_47_26, gI_47_39, gI_47_40, gR_47_27, gR_47_37, gR_47_38, gR_47_41, is_47, pI_47_39, pI_47_40, t_59, t_65, t_66, t_67, h39, ii_lt]
/-- the best of all -/
theorem d173f (hP : PB w n1 n2 f1 f2) (h2 : n2 ≤ 10) {F : Nat → Int} (hF : ∀ t, 0 ≤ F t ∧ F t ≤ 1000000) (h0 : F 0 = 0) (hS : SU w n2 F) {o : Int} (ho : 0 ≤ o ∧ o ≤ 1) : am_W sc 173 (327, [some (am_R (some 47)), none, some (am_I (ii o)), some (am_I (ii 0)), some (am_I (ii 0)), some (am_I (ii 1)), none], [], wst w) = some (some (am_I (ii (if o = 0 then (dpB F pcS (2 ^ n2)).1 else (dpB F pcS (2 ^ n2)).2))), wst w) := by
  have hl := p2_le h2
  have hsh := p2_sh h2
  have h40 := hP.2.1
  have e1 : dpB F pcS 1 = (0, 0) := if_neg (by
    rintro ⟨-, -, z⟩
    have z : pcS 0 = 0 → F 0 < 0 := z
    have z := z (by decide +kernel)
    omega)
  have st := lp_0 (am_W sc 173) (fun (k : Nat) => (327, [some (am_R (some 47)), none, some (am_I (ii o)), some (am_I (ii (dpB F pcS (k + 1)).1)), some (am_I (ii (dpB F pcS (k + 1)).2)), some (am_I (ii ((k : Int) + 1))), none], [], wst w)) (2 ^ n2 - 1) (fun k hk => by
    have hr := dpB_ran hF pcS_ran (k + 1)
    have hp := pcS_ran (k + 1)
    have hd := d172 (sc := sc) (w := w) (s := k + 1) (by omega)
    have hA := hS (k + 1) (by omega)
    rw [nat_1] at hd hA
    have hFk := hF (k + 1)
    have es : dpB F pcS (k + 1 + 1) = if F (k + 1) < 1000000 ∧ ¬ pcS (k + 1) < (dpB F pcS (k + 1)).1 ∧ (pcS (k + 1) = (dpB F pcS (k + 1)).1 → F (k + 1) < (dpB F pcS (k + 1)).2) then (pcS (k + 1), F (k + 1)) else dpB F pcS (k + 1) := rfl
    rw [wq_173_327]
    generalize hB : dpB F pcS (k + 1) = B at *
    generalize F (k + 1) = fk at *
    generalize pcS (k + 1) = pk' at *
    by_cases a : fk < 1000000
    · by_cases b : pk' < B.1
      · rw [es, if_neg (fun z => z.2.1 b)]
        simp (disch := omega) only [qB_s, qC_t, qC_f, qI_T, qI_F, qI_t, qI_f, r_I, r_L, r_R, r_V, ii_add, ii_sub, ii_mul, ii_neg, bz_0, bz_1, Bool.true_and, Bool.false_and, Bool.and_true, z00, z11, li_0, li_1, li_10, li_1000000, li_31, lj_0, lj_1, e_59, e_65, e_66, e_67, gI_47_26, gI_47_39, gI_47_40, gR_47_27, gR_47_37, gR_47_38, gR_47_41, is_47, pI_47_39, pI_47_40, t_59, t_65, t_66, t_67, ii_lt, ii_eq, h40, hsh, hA, hd, nat_1]
      · by_cases d : pk' = B.1
        · by_cases e : fk < B.2
          · rw [es, if_pos ⟨a, b, fun _ => e⟩]
            simp (disch := omega) only [qB_s, qC_t, qC_f, qI_T, qI_F, qI_t, qI_f, r_I, r_L, r_R, r_V, ii_add, ii_sub, ii_mul, ii_neg, bz_0, bz_1, Bool.true_and, Bool.false_and, Bool.and_true, z00, z11, li_0, li_1, li_10, li_1000000, li_31, lj_0, lj_1, e_59, e_65, e_66, e_67, gI_47_26, gI_47_39, gI_47_40, gR_47_27, gR_47_37, gR_47_38, gR_47_41, is_47, pI_47_39, pI_47_40, t_59, t_65, t_66, t_67, ii_lt, ii_eq, h40, hsh, hA, hd, nat_1]
          · rw [es, if_neg (fun z => e (z.2.2 d))]
            simp (disch := omega) only [qB_s, qC_t, qC_f, qI_T, qI_F, qI_t, qI_f, r_I, r_L, r_R, r_V, ii_add, ii_sub, ii_mul, ii_neg, bz_0, bz_1, Bool.true_and, Bool.false_and, Bool.and_true, z00, z11, li_0, li_1, li_10, li_1000000, li_31, lj_0, lj_1, e_59, e_65, e_66, e_67, gI_47_26, gI_47_39, gI_47_40, gR_47_27, gR_47_37, gR_47_38, gR_47_41, is_47, pI_47_39, pI_47_40, t_59, t_65, t_66, t_67, ii_lt, ii_eq, h40, hsh, hA, hd, nat_1]
        · rw [es, if_pos ⟨a, b, fun z => absurd z d⟩]
          simp (disch := omega) only [qB_s, qC_t, qC_f, qI_T, qI_F, qI_t, qI_f, r_I, r_L, r_R, r_V, ii_add, ii_sub, ii_mul, ii_neg, bz_0, bz_1, Bool.true_and, Bool.false_and, Bool.and_true, z00, z11, li_0, li_1, li_10, li_1000000, li_31, lj_0, lj_1, e_59, e_65, e_66, e_67, gI_47_26, gI_47_39, gI_47_40, gR_47_27, gR_47_37, gR_47_38, gR_47_41, is_47, pI_47_39, pI_47_40, t_59, t_65, t_66, t_67, ii_lt, ii_eq, h40, hsh, hA, hd, nat_1]
    · rw [es, if_neg (fun z => a z.1)]
      simp (disch := omega) only [qB_s, qC_t, qC_f, qI_T, qI_F, qI_t, qI_f, r_I, r_L, r_R, r_V, ii_add, ii_sub, ii_mul, ii_neg, bz_0, bz_1, Bool.true_and, Bool.false_and, Bool.and_true, z00, z11, li_0, li_1, li_10, li_1000000, li_31, lj_0, lj_1, e_59, e_65, e_66, e_67, gI_47_26, gI_47_39, gI_47_40, gR_47_27, gR_47_37, gR_47_38, gR_47_41, is_47, pI_47_39, pI_47_40, t_59, t_65, t_66, t_67, ii_lt, ii_eq, h40, hsh, hA, nat_1])
  have st' : am_W sc 173 (327, [some (am_R (some 47)), none, some (am_I (ii o)), some (am_I (ii (dpB F pcS 1).1)), some (am_I (ii (dpB F pcS 1).2)), some (am_I (ii 1)), none], [], wst w) = _ := st
  rw [e1] at st'
  have st2 : am_W sc 173 (327, [some (am_R (some 47)), none, some (am_I (ii o)), some (am_I (ii 0)), some (am_I (ii 0)), some (am_I (ii 1)), none], [], wst w) = _ := st'
  rw [st2, show 2 ^ n2 - 1 + 1 = 2 ^ n2 by omega, wq_173_327, show ((2 ^ n2 - 1 : Nat) : Int) + 1 = ((2 ^ n2 : Nat) : Int) by omega]
  by_cases z : o = 0
  · rw [if_pos z]
    simp (disch := omega) only [qB_s, qC_t, qC_f, qI_T, qI_F, qI_t, qI_f, r_I, r_L, r_R, r_V, ii_add, ii_sub, ii_mul, ii_neg, bz_0, bz_1, Bool.true_and, Bool.false_and, Bool.and_true, z00, z11, li_0, li_1, li_10, li_1000000, li_31, lj_0, lj_1, e_59, e_65, e_66, e_67, gI_47_26, gI_47_39, gI_47_40, gR_47_27, gR_47_37, gR_47_38, gR_47_41, is_47, pI_47_39, pI_47_40, t_59, t_65, t_66, t_67, ii_lt, ii_eq, h40, hsh]
  · rw [if_neg z]
    simp (disch := omega) only [qB_s, qC_t, qC_f, qI_T, qI_F, qI_t, qI_f, r_I, r_L, r_R, r_V, ii_add, ii_sub, ii_mul, ii_neg, bz_0, bz_1, Bool.true_and, Bool.false_and, Bool.and_true, z00, z11, li_0, li_1, li_10, li_1000000, li_31, lj_0, lj_1, e_59, e_65, e_66, e_67, gI_47_26, gI_47_39, gI_47_40, gR_47_27, gR_47_37, gR_47_38, gR_47_41, is_47, pI_47_39, pI_47_40, t_59, t_65, t_66, t_67, ii_lt, ii_eq, h40, hsh]
end L64
/-- the ones, the twos, what they cost, and the best -/
def pP (A : ab) (v t : Int) : Nat × (Nat → Int) := pk (aG A) (vF A v) t (vM A v)
def pR (A : ab) (v F : Int) (i j : Nat) : Int := dsF (aG A) (aV A v) ((pP A v 0).2 i) ((pP A v 1).2 j) F
def pA (A : ab) (v : Int) : Int × Int := dpB (dp (pR A v 1000000) (pP A v 1).1 (pP A v 0).1) pcS (2 ^ (pP A v 1).1)
section L64b
variable {sc : am_X} {w : wo} {A : ab}
theorem y_173 (hM : RM w A) (hA : okA A) {v o : Int} (hv1 : -2147483648 ≤ v) (hv2 : v ≤ 2147483647) (ho1 : -2147483648 ≤ o) (ho2 : o ≤ 2147483647) : ∃ u, am_F sc 173 [am_R (some 47), am_I (ii v), am_I (ii o)] (wst w) = some (some (am_I (ii (if (0 ≤ v ∧ v < A.2.2.1.1) ∧ (0 ≤ o ∧ o ≤ 1) then (if o = 0 then (pA A v).1 else (pA A v).2) else -1))), wst u) ∧ fr scM w u := by
  have hn8 := hA.2.2.1.2.1
  have hn0 := hA.2.2.1.1
  have h120 := d120 (sc := sc) hM hn8 hn0 (v := v) hv1 hv2
  by_cases q1 : 0 ≤ v ∧ v < A.2.2.1.1
  · skip
    by_cases q2 : 0 ≤ o ∧ o ≤ 1
    · skip
      rw [if_pos (by omega)]
      have hg := hA.1.2.2.1
      have hx := hA.2.2.1.2.2 v q1.1 q1.2
      have hv8 : 0 ≤ v ∧ v < 8 := by omega
      have hVv := hM.2.2.2.1.2 v q1.1 q1.2
      obtain ⟨u1, e1, f1, t1, hL, -⟩ := d124v (sc := sc) hM hA q1
      have f2 : fr [4725, 4726, 5999, 6099, 6199, 4723, 4724, 5899, 4739, 4740] w (uI (uI u1 47 39 0) 47 40 0) := fr_uI (fr_uI (fr_m f1 rfl) rfl) rfl
      have f2' : fr [4739, 4740] u1 (uI (uI u1 47 39 0) 47 40 0) := fr_uI (fr_uI (fr_r _ _) rfl) rfl
      have e2 := d173a (sc := sc) (w := uI (uI u1 47 39 0) 47 40 0) (MS_fr hM.1 f2 rfl) hg (MK_fr t1 f2' rfl) (vM_le hA v) (fun i hi => vF_ok hA v hi) (v := v) (o := o) rfl rfl
      obtain ⟨u3, e3, f3, p3⟩ := e2
      have f13 : fr scM w u3 := fr_t (fr_m f2 rfl) (fr_m f3 rfl)
      have hP : PB u3 (pP A v 0).1 (pP A v 1).1 (pP A v 0).2 (pP A v 1).2 := p3
      have n1 : (pP A v 0).1 ≤ 10 := pkk_le _ _ _ _
      have n2 : (pP A v 1).1 ≤ 10 := pkk_le _ _ _ _
      have o1 := pkk_ok (g := aG A) 0 (vM A v) (fun i hi => vF_ok hA v hi)
      have o2 := pkk_ok (g := aG A) 1 (vM A v) (fun i hi => vF_ok hA v hi)
      have hL3 : wI u3 47 25 = (aV A v).2.1 := by
        rw [fr_I f3 rfl, fr_I f2' rfl]
        exact hL
      obtain ⟨u4, e4, f4, s4⟩ := d173b (sc := sc) (v := v) (o := o) hP n2 (pR A v 1000000)
      obtain ⟨u5, e5, f5, s5⟩ := d173e (sc := sc) (w := u4) (v := v) (o := o) (MS_fr (MS_fr hM.1 f13 rfl) f4 rfl) hg (MVo_fr (MVo_fr hVv f13 rfl) f4 rfl) hx hv8 (by rw [fr_I f4 rfl]; exact hL3) (PB_fr hP f4) n1 n2 o1 o2 s4
      have hnn : ∀ i j, 0 ≤ pR A v 1000000 i j := fun i j => dsF_nn hx
      have h00 : dp (pR A v 1000000) (pP A v 1).1 (pP A v 0).1 0 = 0 := dp_00 hnn n2 _
      have e6 := d173f (sc := sc) (w := u5) (PB_fr (PB_fr hP f4) f5) n2 (F := dp (pR A v 1000000) (pP A v 1).1 (pP A v 0).1) (fun t => ⟨dp_nn hnn _ _, dp_up _ _⟩) h00 s5 (o := o) q2
      refine ⟨u5, ?_, fr_t (fr_t f13 (fr_m f4 rfl)) (fr_m f5 rfl)⟩
      rw [show (if o = 0 then (pA A v).1 else (pA A v).2) = _ from rfl]
      refine Eq.trans ?_ e6
      rw [← e5, ← e4, ← e3, fq_173]
      simp (disch := omega) only [qB_s, qC_t, qC_f, qI_T, qI_F, qI_t, qI_f, r_I, r_L, r_R, r_V, ii_add, ii_sub, ii_mul, ii_neg, bz_0, bz_1, Bool.true_and, Bool.false_and, Bool.and_true, z00, z11, li_0, li_1, li_10, li_1000000, li_31, lj_0, lj_1, e_59, e_65, e_66, e_67, gI_47_26, gI_47_39, gI_47_40, gR_47_27, gR_47_37, gR_47_38, gR_47_41, is_47, pI_47_39, pI_47_40, t_59, t_65, t_66, t_67, h120, d17, ii_lt, ii_eq, ii_jj, e1]
    · rw [if_neg (by omega)]
      exact ⟨w, by
        rw [fq_173]
        simp (disch := omega) only [qB_s, qC_t, qC_f, qI_T, qI_F, qI_t, qI_f, r_I, r_L, r_R, r_V, ii_add, ii_sub, ii_mul, ii_neg, bz_0, bz_1, Bool.true_and, Bool.false_and, Bool.and_true, z00, z11, li_0, li_1, li_10, li_1000000, li_31, lj_0, lj_1, e_59, e_65, e_66, e_67, gI_47_26, gI_47_39, gI_47_40, gR_47_27, gR_47_37, gR_47_38, gR_47_41, is_47, pI_47_39, pI_47_40, t_59, t_65, t_66, t_67, ii_lt, ii_eq, ii_jj, jj_neg, h120, d17], fr_r _ _⟩
  · rw [if_neg (by omega)]
    exact ⟨w, by
      rw [fq_173]
      simp (disch := omega) only [qB_s, qC_t, qC_f, qI_T, qI_F, qI_t, qI_f, r_I, r_L, r_R, r_V, ii_add, ii_sub, ii_mul, ii_neg, bz_0, bz_1, Bool.true_and, Bool.false_and, Bool.and_true, z00, z11, li_0, li_1, li_10, li_1000000, li_31, lj_0, lj_1, e_59, e_65, e_66, e_67, gI_47_26, gI_47_39, gI_47_40, gR_47_27, gR_47_37, gR_47_38, gR_47_41, is_47, pI_47_39, pI_47_40, t_59, t_65, t_66, t_67, ii_lt, ii_eq, ii_jj, jj_neg, h120], fr_r _ _⟩

end L64b
