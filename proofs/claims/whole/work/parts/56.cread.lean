/-! THE CLASS READS -/
def orB (l m : Int) : Int := if bt l m = 1 then l else l + 2 ^ m.toNat
theorem orB_ii {l m : Int} (h1 : 0 ≤ l) (h2 : l < 64) (h3 : 0 ≤ m) (h4 : m < 6) : ii l ||| (ii 1 <<< (ii m &&& ii 31)) = ii (orB l m) ∧ 0 ≤ orB l m ∧ orB l m < 64 ∧ ∀ k : Int, 0 ≤ k → k < 6 → (bt (orB l m) k = 1 ↔ bt l k = 1 ∨ k = m) := by
  have h := fin64 (P := fun l m => ii l ||| (ii 1 <<< (ii m &&& ii 31)) = ii (orB l m) ∧ 0 ≤ orB l m ∧ orB l m < 64 ∧ ∀ k : Fin 6, (bt (orB l m) (k.val : Int) = 1 ↔ bt l (k.val : Int) = 1 ∨ (k.val : Int) = m)) (by decide +kernel) h1 h2 h3 h4
  refine ⟨h.1, h.2.1, h.2.2.1, fun k k1 k2 => ?_⟩
  have := h.2.2.2 ⟨k.toNat, by omega⟩
  simpa only [Int.toNat_of_nonneg k1] using this
theorem or_0 (l : Int) : ii l ||| ii 0 = ii l := by
  show ii l ||| 0 = ii l
  exact Int32.or_zero
def lR : List Nat := [1306, 1308, 1309, 1310, 1312, 1313, 1899, 1999]
theorem CK_R {w u : wo} {b : Nat → Int} {L T : Nat} (h : CK w b L T) (f : fr lR w u) : CK u b L T := by
  obtain ⟨h1, h2, h3, h4⟩ := h
  refine ⟨CT_fr h1 f rfl, by rw [fr_I f rfl]; exact h2, ?_, h4⟩
  unfold TKS
  rw [fr_A (a := 15) f rfl, fr_A (a := 16) f rfl, fr_A (a := 17) f rfl]
  exact h3
/-- the marks that are named -/
def MSk (m : Int) (P : pg) : Prop := (0 ≤ m ∧ m < 64) ∧ ∀ (k : Nat) (x : Int), k < P.1 → P.2.1 k ≤ 2 → 0 ≤ x → x < 6 → P.2.2 k = 10000 + x → bt m x = 1
theorem MSk_0 {m : Int} {P : pg} {kd on : Int} (h : MSk m P) (hk : kd ≤ 2 → on < 10000 ∨ 10006 ≤ on) : MSk m (pu P kd on) := by
  refine ⟨h.1, fun k x h1 h2 h3 h4 h5 => ?_⟩
  have h1 : k < P.1 + 1 := h1
  by_cases z : k = P.1
  · rw [z] at h2 h5
    have e := pu_e (P := P) (kd := kd) (on := on)
    rw [e.1] at h2
    rw [e.2] at h5
    have := hk h2
    omega
  · have e := pu_k (P := P) (kd := kd) (on := on) (k := k) (by omega)
    rw [e.1] at h2
    rw [e.2] at h5
    exact h.2 k x (by omega) h2 h3 h4 h5
theorem MSk_1 {m y : Int} {P : pg} {kd : Int} (h : MSk m P) (h0 : 0 ≤ y) (h6 : y < 6) : MSk (orB m y) (pu P kd (10000 + y)) := by
  obtain ⟨o1, o2, o3, o4⟩ := orB_ii h.1.1 h.1.2 h0 h6
  refine ⟨⟨o2, o3⟩, fun k x h1 h2 h3 h4 h5 => ?_⟩
  have h1 : k < P.1 + 1 := h1
  rw [o4 x h3 h4]
  by_cases z : k = P.1
  · rw [z, (pu_e (P := P) (kd := kd) (on := 10000 + y)).2] at h5
    right
    omega
  · have e := pu_k (P := P) (kd := kd) (on := 10000 + y) (k := k) (by omega)
    rw [e.1] at h2
    rw [e.2] at h5
    exact Or.inl (h.2 k x (by omega) h2 h3 h4 h5)
theorem skr_sm : ∀ {l : List Int} {f : Int → Int}, skr l f → sm (fun i => bz (f i = 6 ∨ f i = 3)) l.length = dpt l
  | [], _, _ => rfl
  | x :: q, f, h => by
    show sm _ (q.length + 1) = dpt q + bz (x = 6 ∨ x = 3)
    rw [sm_s, skr_sm h.2, h.1]
/-- the steps -/
def SPk (w : wo) (P : pg) : Prop := wI w 13 8 = P.1 ∧ ∀ k : Nat, k < P.1 → wA w 18 k = P.2.1 k * 65536 + P.2.2 k
/-- the class reads, no fault so far -/
def CW (w : wo) (b : Nat → Int) (L T : Nat) (s : st) : Prop := CK w b L T ∧ wI w 13 6 = s.1 ∧ wI w 13 13 = 0 ∧ wI w 13 10 = s.2.1 ∧ (wI w 13 12 = s.2.2.1.length ∧ skr s.2.2.1 (wA w 19)) ∧ SPk w s.2.2.2 ∧ MSk (wI w 13 9) s.2.2.2
/-- a fault -/
def CX (w : wo) (b : Nat → Int) (L T : Nat) (c : Int) (N : Nat) : Prop := CK w b L T ∧ wI w 13 13 = c ∧ (1 ≤ c ∧ c ≤ 10000) ∧ (∃ j : Nat, wI w 13 6 = j ∧ j ≤ N) ∧ (0 ≤ wI w 13 12 ∧ wI w 13 12 ≤ 400) ∧ (0 ≤ wI w 13 9 ∧ wI w 13 9 < 64) ∧ (0 ≤ wI w 13 10 ∧ wI w 13 10 ≤ N)
theorem CX_m {w : wo} {b : Nat → Int} {L T : Nat} {c : Int} {N M : Nat} (h : CX w b L T c N) (hm : N ≤ M) : CX w b L T c M := by
  obtain ⟨h1, h2, h3, ⟨j, h4, h5⟩, h6, h7, h8⟩ := h
  exact ⟨h1, h2, h3, ⟨j, h4, by omega⟩, h6, h7, by omega⟩
def CR (w : wo) (b : Nat → Int) (L T N : Nat) (r : Sum Int st) : Prop := match r with
  | .inl c => CX w b L T c N
  | .inr s => CW w b L T s
theorem fl_r {b : Nat → Int} {L T : Nat} (hT : TT b L T) (j : Nat) {c : Int} (h0 : 0 ≤ c) (h1 : c ≤ 7) : 1 ≤ fl b j c ∧ fl b j c ≤ 10000 := by
  have := (tS_r hT.1 j).1
  have := hT.1.1
  unfold fl
  omega
section L56
variable {sc : am_X} {w : wo} {b : Nat → Int} {L T : Nat}
theorem TT_of (hb : TP b L) (h : CK w b L T) : TT b L T := ⟨hb, h.2.2.2.1, h.2.2.2.2.1, h.2.2.2.2.2⟩
theorem c54a {t j : Int} (h5 : wI w 13 5 = t) (h4 : t ≤ 401) (hj : wI w 13 6 = j) (hn : 0 ≤ j) (z : j < t) : am_F sc 54 [am_R (some 13)] (wst w) = some (some (am_I (ii (wA w 15 j))), wst w) := by
  rw [fq_54, gI_13_6, qB_s, hj, li_0, qI_f (by rw [ii_lt] <;> omega), qB_s, gI_13_5, qB_s, h5, qI_t (by rw [ii_lt] <;> omega), qB_s, li_400, qI_f (by rw [ii_lt] <;> omega), gR_13_2, qB_s, qB_s, qB_s, e_15 w (by omega) (by omega), qB_s]
theorem c54b {t j : Int} (h5 : wI w 13 5 = t) (h4 : t ≤ 401) (h0 : 0 ≤ t) (hj : wI w 13 6 = j) (hn : j ≤ 10000) (z : t ≤ j) : am_F sc 54 [am_R (some 13)] (wst w) = some (some (am_I (ii 204)), wst w) := by
  rw [fq_54, gI_13_6, qB_s, hj, li_0, qI_f (by rw [ii_lt] <;> omega), qB_s, gI_13_5, qB_s, h5, qI_f (by rw [ii_lt] <;> omega)]
  rfl
theorem c58a {t j : Int} (h5 : wI w 13 5 = t) (h4 : t ≤ 401) (hj : wI w 13 6 = j) (hn : 0 ≤ j) (z : j < t) : am_F sc 58 [am_R (some 13)] (wst w) = some (some (am_I (ii (wA w 16 j))), wst w) := by
  rw [fq_58, gI_13_6, qB_s, hj, li_0, qI_f (by rw [ii_lt] <;> omega), qB_s, gI_13_5, qB_s, h5, qI_t (by rw [ii_lt] <;> omega), qB_s, li_400, qI_f (by rw [ii_lt] <;> omega), gR_13_3, qB_s, qB_s, qB_s, e_16 w (by omega) (by omega), qB_s]
theorem c58b {t j : Int} (h5 : wI w 13 5 = t) (h4 : t ≤ 401) (h0 : 0 ≤ t) (hj : wI w 13 6 = j) (hn : j ≤ 10000) (z : t ≤ j) : am_F sc 58 [am_R (some 13)] (wst w) = some (some (am_I (ii (-1))), wst w) := by
  rw [fq_58, gI_13_6, qB_s, hj, li_0, qI_f (by rw [ii_lt] <;> omega), qB_s, gI_13_5, qB_s, h5, qI_f (by rw [ii_lt] <;> omega)]
  rfl
theorem c55a {t j c : Int} (h13 : wI w 13 13 = 0) (h5 : wI w 13 5 = t) (h4 : t ≤ 401) (hj : wI w 13 6 = j) (hn : 0 ≤ j) (z : j < t) : am_F sc 55 [am_R (some 13), am_I (ii c)] (wst w) = some (none, wst (uI w 13 13 (1 + 8 * wA w 17 j + c))) := by
  rw [fq_55, gI_13_13, qB_s, h13, li_0, qI_t rfl, gI_13_6, qB_s, hj, qI_f (by rw [ii_lt] <;> omega), qB_s, gI_13_5, qB_s, h5, qI_t (by rw [ii_lt] <;> omega), qB_s, li_400, qI_f (by rw [ii_lt] <;> omega), gR_13_4, qB_s, qB_s, qB_s, e_17 w (by omega) (by omega), qB_s, li_1, li_8, ii_mul, ii_add, ii_add, pI_13_13, qB_s]
theorem c55b {t j l c : Int} (h13 : wI w 13 13 = 0) (h1 : wI w 13 1 = l) (h5 : wI w 13 5 = t) (h4 : t ≤ 401) (h0 : 0 ≤ t) (hj : wI w 13 6 = j) (hn : j ≤ 10000) (z : t ≤ j) : am_F sc 55 [am_R (some 13), am_I (ii c)] (wst w) = some (none, wst (uI w 13 13 (1 + 8 * l + c))) := by
  rw [fq_55, gI_13_13, qB_s, h13, li_0, qI_t rfl, gI_13_6, qB_s, hj, qI_f (by rw [ii_lt] <;> omega), qB_s, gI_13_5, qB_s, h5, qI_f (by rw [ii_lt] <;> omega), gI_13_1, qB_s, h1, li_1, li_8, ii_mul, ii_add, ii_add, pI_13_13, qB_s]
theorem tK_out (hT : TT b L T) {j : Nat} (z : ¬ j ≤ T) : tS b j = L ∧ tK b j = 204 := by
  have e : tS b j = L := by
    have := tS_stay hT.1 hT.2.2.1 (j - T)
    rw [show T + (j - T) = j by omega] at this
    exact this
  exact ⟨e, (tK_end hT.1).mpr e⟩
theorem c54 (hT : TT b L T) (h : CK w b L T) {j : Nat} (hj : wI w 13 6 = j) (hn : j ≤ 10000) : am_F sc 54 [am_R (some 13)] (wst w) = some (some (am_I (ii (tK b j))), wst w) := by
  have h5 := h.2.1
  have h4 := hT.2.1
  by_cases z : j ≤ T
  · rw [c54a h5 (by omega) hj (by omega) (by omega), (h.2.2.1 j (by omega)).1]
  · rw [(tK_out hT z).2]
    exact c54b h5 (by omega) (by omega) hj (by omega) (by omega)
theorem c58 (hT : TT b L T) (h : CK w b L T) {j : Nat} (hj : wI w 13 6 = j) (hn : j ≤ 10000) : ∃ v : Int, am_F sc 58 [am_R (some 13)] (wst w) = some (some (am_I (ii v)), wst w) ∧ (tK b j = 200 → v = tVl b j) := by
  have h5 := h.2.1
  have h4 := hT.2.1
  by_cases z : j ≤ T
  · exact ⟨wA w 16 j, c58a h5 (by omega) hj (by omega) (by omega), (h.2.2.1 j (by omega)).2.1⟩
  · exact ⟨-1, c58b h5 (by omega) (by omega) hj (by omega) (by omega), fun y => by have := (tK_out hT z).2; omega⟩
theorem c55 (hT : TT b L T) (h : CK w b L T) {j : Nat} (hj : wI w 13 6 = j) (hn : j ≤ 10000) (h13 : wI w 13 13 = 0) {c : Int} : am_F sc 55 [am_R (some 13), am_I (ii c)] (wst w) = some (none, wst (uI w 13 13 (fl b j c))) := by
  have h5 := h.2.1
  have h1 := h.1.1
  have h4 := hT.2.1
  unfold fl
  by_cases z : j ≤ T
  · rw [c55a h13 h5 (by omega) hj (by omega) (by omega), (h.2.2.1 j (by omega)).2.2]
  · rw [(tK_out hT z).1]
    exact c55b h13 h1 h5 (by omega) (by omega) hj (by omega) (by omega)
theorem c55x {c : Int} (h13 : wI w 13 13 = c) (hc : 1 ≤ c ∧ c ≤ 10000) {x : Int32} : am_F sc 55 [am_R (some 13), am_I x] (wst w) = some (none, wst w) := by
  rw [fq_55]
  simp (disch := omega) only [qB_s, qC_t, qC_f, qI_T, qI_F, qI_t, qI_f, r_I, r_L, r_R, r_V, ii_add, ii_sub, ii_mul, ii_neg, bz_0, bz_1, Bool.true_and, Bool.false_and, Bool.and_true, z00, z11, li_0, li_1, li_400, li_8, e_17, gI_13_1, gI_13_13, gI_13_5, gI_13_6, gR_13_4, pI_13_13, ii_eq, h13]
theorem c59 {n : Nat} (h8 : wI w 13 8 = n) (hn : n < 400) (h13 : wI w 13 13 = 0) {kd on : Int} : am_F sc 59 [am_R (some 13), am_I (ii kd), am_I (ii on)] (wst w) = some (none, wst (uI (uA w 18 (fu (wA w 18) n (kd * 65536 + on))) 13 8 (n + 1))) := by
  rw [fq_59]
  simp (disch := omega) only [qB_s, qC_t, qC_f, qI_T, qI_F, qI_t, qI_f, r_I, r_L, r_R, r_V, ii_add, ii_sub, ii_mul, ii_neg, bz_0, bz_1, Bool.true_and, Bool.false_and, Bool.and_true, z00, z11, li_0, li_1, li_400, li_65536, gI_13_13, gI_13_8, gR_13_7, pI_13_8, t_18, ii_lt, ii_eq, h8, h13, uA_I]
theorem c59x {c : Int} (h13 : wI w 13 13 = c) (hc : 1 ≤ c ∧ c ≤ 10000) {x y : Int32} : am_F sc 59 [am_R (some 13), am_I x, am_I y] (wst w) = some (none, wst w) := by
  rw [fq_59]
  simp (disch := omega) only [qB_s, qC_t, qC_f, qI_T, qI_F, qI_t, qI_f, r_I, r_L, r_R, r_V, ii_add, ii_sub, ii_mul, ii_neg, bz_0, bz_1, Bool.true_and, Bool.false_and, Bool.and_true, z00, z11, li_0, li_1, li_400, li_65536, gI_13_13, gI_13_8, gR_13_7, pI_13_8, t_18, ii_eq, h13]
/-- the steps of a push -/
theorem SPk_pu {u : wo} {P : pg} {kd on : Int} (h : SPk w P) (h8 : wI u 13 8 = (P.1 : Int) + 1) (h18 : wA u 18 = fu (wA w 18) P.1 (kd * 65536 + on)) : SPk u (pu P kd on) := by
  refine ⟨by rw [h8]; show _ = ((P.1 + 1 : Nat) : Int); omega, fun k hk => ?_⟩
  have hk : k < P.1 + 1 := hk
  rw [h18, fu_at]
  by_cases z : k = P.1
  · rw [if_pos (by omega), z, (pu_e (P := P) (kd := kd) (on := on)).1, (pu_e (P := P) (kd := kd) (on := on)).2]
  · rw [if_neg (by omega), (pu_k (P := P) (kd := kd) (on := on) (k := k) (by omega)).1, (pu_k (P := P) (kd := kd) (on := on) (k := k) (by omega)).2]
    exact h.2 k (by omega)
theorem c60t (hT : TT b L T) {s : st} (hW : CW w b L T s) (hP : (s.2.2.2.1 : Int) ≤ 240) (hs : s.1 ≤ 400) {kd : Int} : (tK b s.1 = 200 → ∃ u, am_W sc 60 (73, [some (am_R (some 13)), some (am_I (ii kd)), some (am_I (ii (tK b s.1)))], [], wst w) = some (none, wst u) ∧ fr lR w u ∧ CW u b L T (s.1 + 1, s.2.1, s.2.2.1, pu s.2.2.2 kd (tVl b s.1))) ∧ (tK b s.1 < 11 → ∃ u, am_W sc 60 (73, [some (am_R (some 13)), some (am_I (ii kd)), some (am_I (ii (tK b s.1)))], [], wst w) = some (none, wst u) ∧ fr lR w u ∧ CW u b L T (s.1 + 1, s.2.1, s.2.2.1, pu s.2.2.2 kd (10000 + tK b s.1))) := by
  obtain ⟨w1, w2, w3, w4, ⟨w5, w6⟩, w7, w8⟩ := hW
  have hv := tVl_r hT.1 s.1
  have hk := tK_r hT.1 s.1
  constructor
  · intro hK
    obtain ⟨v, e1, e2⟩ := c58 (sc := sc) hT w1 w2 (by omega)
    have e2 := e2 hK
    subst e2
    have e59 := c59 (sc := sc) (w := w) w7.1 (by omega) w3 (kd := kd) (on := tVl b s.1)
    have f1 : fr lR w (uI (uI (uA w 18 (fu (wA w 18) s.2.2.2.1 (kd * 65536 + tVl b s.1))) 13 8 (s.2.2.2.1 + 1)) 13 6 (s.1 + 1)) := fr_uI (fr_uI (fr_uA (fr_r _ _) rfl) rfl) rfl
    have f2 : fr lR w (uI (uI (uI (uA w 18 (fu (wA w 18) s.2.2.2.1 (kd * 65536 + tVl b s.1))) 13 8 (s.2.2.2.1 + 1)) 13 9 (wI w 13 9)) 13 6 (s.1 + 1)) := fr_uI (fr_uI (fr_uI (fr_uA (fr_r _ _) rfl) rfl) rfl) rfl
    refine ⟨uI (uI (uI (uA w 18 (fu (wA w 18) s.2.2.2.1 (kd * 65536 + tVl b s.1))) 13 8 (s.2.2.2.1 + 1)) 13 9 (wI w 13 9)) 13 6 (s.1 + 1), ?_, f2, CK_R w1 f2, ?_, ?_, ?_, ⟨?_, ?_⟩, SPk_pu w7 ?_ ?_, ?_⟩
    · rw [wq_60_73, hK]
      have h20 : ∀ u, am_F sc 20 [am_I (ii 200)] (wst u) = some (some (am_I (ii 0)), wst u) := fun u => by rw [s20 (by decide) (by decide), bz_f (by decide)]
      simp (disch := omega) only [qB_s, qC_t, qC_f, qI_T, qI_F, qI_t, qI_f, r_I, r_L, r_R, r_V, ii_add, ii_sub, ii_mul, ii_neg, bz_0, bz_1, Bool.true_and, Bool.false_and, Bool.and_true, z00, z11, li_0, li_1, li_10000, li_11, li_200, li_3, li_31, li_40, gI_13_10, gI_13_6, gI_13_9, is_13, pI_13_10, pI_13_6, pI_13_9, ii_lt, ii_eq, e1, e59, h20, or_0, uI_I, uA_I, uI_A, uA_A, Nat.reduceEqDiff, and_self, and_false, and_true, if_true, if_false, w2]
    · simp only [uI_I, uA_I, uI_A, uA_A, Nat.reduceEqDiff, and_self, and_false, and_true, if_true, if_false]
      show _ = ((s.1 + 1 : Nat) : Int)
      omega
    · simp only [uI_I, uA_I, uI_A, uA_A, Nat.reduceEqDiff, and_self, and_false, and_true, if_true, if_false]
      exact w3
    · simp only [uI_I, uA_I, uI_A, uA_A, Nat.reduceEqDiff, and_self, and_false, and_true, if_true, if_false]
      exact w4
    · simp only [uI_I, uA_I, uI_A, uA_A, Nat.reduceEqDiff, and_self, and_false, and_true, if_true, if_false]
      exact w5
    · simp only [uI_I, uA_I, uI_A, uA_A, Nat.reduceEqDiff, and_self, and_false, and_true, if_true, if_false]
      exact w6
    · simp only [uI_I, uA_I, uI_A, uA_A, Nat.reduceEqDiff, and_self, and_false, and_true, if_true, if_false]
    · simp only [uI_I, uA_I, uI_A, uA_A, Nat.reduceEqDiff, and_self, and_false, and_true, if_true, if_false]
    · simp only [uI_I, uA_I, uI_A, uA_A, Nat.reduceEqDiff, and_self, and_false, and_true, if_true, if_false]
      exact MSk_0 w8 (fun _ => by omega)
  · intro hK
    have e59 := c59 (sc := sc) (w := w) w7.1 (by omega) w3 (kd := kd) (on := 10000 + tK b s.1)
    have h20 := fun u => s20 (sc := sc) (w := u) (x := tK b s.1) (by omega) (by omega)
    by_cases z : tK b s.1 < 6
    · obtain ⟨o1, o2, o3, o4⟩ := orB_ii w8.1.1 w8.1.2 hk.1 z
      have f2 : fr lR w (uI (uI (uI (uA w 18 (fu (wA w 18) s.2.2.2.1 (kd * 65536 + (10000 + tK b s.1)))) 13 8 (s.2.2.2.1 + 1)) 13 9 (orB (wI w 13 9) (tK b s.1))) 13 6 (s.1 + 1)) := fr_uI (fr_uI (fr_uI (fr_uA (fr_r _ _) rfl) rfl) rfl) rfl
      refine ⟨uI (uI (uI (uA w 18 (fu (wA w 18) s.2.2.2.1 (kd * 65536 + (10000 + tK b s.1)))) 13 8 (s.2.2.2.1 + 1)) 13 9 (orB (wI w 13 9) (tK b s.1))) 13 6 (s.1 + 1), ?_, f2, CK_R w1 f2, ?_, ?_, ?_, ⟨?_, ?_⟩, SPk_pu w7 ?_ ?_, ?_⟩
      · rw [wq_60_73]
        simp (disch := omega) only [qB_s, qC_t, qC_f, qI_T, qI_F, qI_t, qI_f, r_I, r_L, r_R, r_V, ii_add, ii_sub, ii_mul, ii_neg, bz_0, bz_1, Bool.true_and, Bool.false_and, Bool.and_true, z00, z11, li_0, li_1, li_10000, li_11, li_200, li_3, li_31, li_40, gI_13_10, gI_13_6, gI_13_9, is_13, pI_13_10, pI_13_6, pI_13_9, ii_lt, ii_eq, e59, h20, bz_t, o1, uI_I, uA_I, uI_A, uA_A, Nat.reduceEqDiff, and_self, and_false, and_true, if_true, if_false, w2]
      · simp only [uI_I, uA_I, uI_A, uA_A, Nat.reduceEqDiff, and_self, and_false, and_true, if_true, if_false]
        show _ = ((s.1 + 1 : Nat) : Int)
        omega
      · simp only [uI_I, uA_I, uI_A, uA_A, Nat.reduceEqDiff, and_self, and_false, and_true, if_true, if_false]
        exact w3
      · simp only [uI_I, uA_I, uI_A, uA_A, Nat.reduceEqDiff, and_self, and_false, and_true, if_true, if_false]
        exact w4
      · simp only [uI_I, uA_I, uI_A, uA_A, Nat.reduceEqDiff, and_self, and_false, and_true, if_true, if_false]
        exact w5
      · simp only [uI_I, uA_I, uI_A, uA_A, Nat.reduceEqDiff, and_self, and_false, and_true, if_true, if_false]
        exact w6
      · simp only [uI_I, uA_I, uI_A, uA_A, Nat.reduceEqDiff, and_self, and_false, and_true, if_true, if_false]
      · simp only [uI_I, uA_I, uI_A, uA_A, Nat.reduceEqDiff, and_self, and_false, and_true, if_true, if_false]
      · simp only [uI_I, uA_I, uI_A, uA_A, Nat.reduceEqDiff, and_self, and_false, and_true, if_true, if_false]
        exact MSk_1 w8 hk.1 z
    · have f2 : fr lR w (uI (uI (uI (uA w 18 (fu (wA w 18) s.2.2.2.1 (kd * 65536 + (10000 + tK b s.1)))) 13 8 (s.2.2.2.1 + 1)) 13 9 (wI w 13 9)) 13 6 (s.1 + 1)) := fr_uI (fr_uI (fr_uI (fr_uA (fr_r _ _) rfl) rfl) rfl) rfl
      refine ⟨uI (uI (uI (uA w 18 (fu (wA w 18) s.2.2.2.1 (kd * 65536 + (10000 + tK b s.1)))) 13 8 (s.2.2.2.1 + 1)) 13 9 (wI w 13 9)) 13 6 (s.1 + 1), ?_, f2, CK_R w1 f2, ?_, ?_, ?_, ⟨?_, ?_⟩, SPk_pu w7 ?_ ?_, ?_⟩
      · rw [wq_60_73]
        simp (disch := omega) only [qB_s, qC_t, qC_f, qI_T, qI_F, qI_t, qI_f, r_I, r_L, r_R, r_V, ii_add, ii_sub, ii_mul, ii_neg, bz_0, bz_1, Bool.true_and, Bool.false_and, Bool.and_true, z00, z11, li_0, li_1, li_10000, li_11, li_200, li_3, li_31, li_40, gI_13_10, gI_13_6, gI_13_9, is_13, pI_13_10, pI_13_6, pI_13_9, ii_lt, ii_eq, e59, h20, bz_f, or_0, uI_I, uA_I, uI_A, uA_A, Nat.reduceEqDiff, and_self, and_false, and_true, if_true, if_false, w2]
      · simp only [uI_I, uA_I, uI_A, uA_A, Nat.reduceEqDiff, and_self, and_false, and_true, if_true, if_false]
        show _ = ((s.1 + 1 : Nat) : Int)
        omega
      · simp only [uI_I, uA_I, uI_A, uA_A, Nat.reduceEqDiff, and_self, and_false, and_true, if_true, if_false]
        exact w3
      · simp only [uI_I, uA_I, uI_A, uA_A, Nat.reduceEqDiff, and_self, and_false, and_true, if_true, if_false]
        exact w4
      · simp only [uI_I, uA_I, uI_A, uA_A, Nat.reduceEqDiff, and_self, and_false, and_true, if_true, if_false]
        exact w5
      · simp only [uI_I, uA_I, uI_A, uA_A, Nat.reduceEqDiff, and_self, and_false, and_true, if_true, if_false]
        exact w6
      · simp only [uI_I, uA_I, uI_A, uA_A, Nat.reduceEqDiff, and_self, and_false, and_true, if_true, if_false]
      · simp only [uI_I, uA_I, uI_A, uA_A, Nat.reduceEqDiff, and_self, and_false, and_true, if_true, if_false]
      · simp only [uI_I, uA_I, uI_A, uA_A, Nat.reduceEqDiff, and_self, and_false, and_true, if_true, if_false]
        exact MSk_0 w8 (fun _ => by omega)
/-- after a fault nothing counts -/
theorem CX_n {c : Int} {N : Nat} (h : CX w b L T c N) {u : wo} (f : fr lR w u) (h13 : wI u 13 13 = wI w 13 13) (h6 : wI u 13 6 = wI w 13 6 + 1) (h12 : wI u 13 12 = wI w 13 12) (h9 : 0 ≤ wI u 13 9 ∧ wI u 13 9 < 64) (h10 : wI u 13 10 = wI w 13 10 ∨ wI u 13 10 = wI w 13 10 + 1) : CX u b L T c (N + 1) := by
  obtain ⟨h1, h2, h3, ⟨j, h4, h5⟩, h7, h8, h11⟩ := h
  exact ⟨CK_R h1 f, by rw [h13, h2], h3, ⟨j + 1, by rw [h6, h4, nat_1], by omega⟩, by rw [h12]; exact h7, h9, by omega⟩
theorem c60f (hT : TT b L T) {c : Int} {N : Nat} (h : CX w b L T c N) (hN : N ≤ 9000) {kd x : Int} (hx : 0 ≤ x ∧ x ≤ 204) : ∃ u, am_W sc 60 (73, [some (am_R (some 13)), some (am_I (ii kd)), some (am_I (ii x))], [], wst w) = some (none, wst u) ∧ fr lR w u ∧ CX u b L T c (N + 1) := by
  obtain ⟨h1, h2, h3, ⟨j, h4, h5⟩, h7, h8, h11⟩ := id h
  have e59 := fun x y => c59x (sc := sc) h2 h3 (x := x) (y := y)
  by_cases z : x = 200
  · subst z
    obtain ⟨v, e1, -⟩ := c58 (sc := sc) hT h1 h4 (by omega)
    have h20 : ∀ u, am_F sc 20 [am_I (ii 200)] (wst u) = some (some (am_I (ii 0)), wst u) := fun u => by rw [s20 (by decide) (by decide), bz_f (by decide)]
    have f2 : fr lR w (uI (uI w 13 9 (wI w 13 9)) 13 6 (j + 1)) := fr_uI (fr_uI (fr_r _ _) rfl) rfl
    refine ⟨uI (uI w 13 9 (wI w 13 9)) 13 6 (j + 1), ?_, f2, CX_n h f2 ?_ ?_ ?_ ?_ (Or.inl ?_)⟩
    · rw [wq_60_73]
      simp (disch := omega) only [qB_s, qC_t, qC_f, qI_T, qI_F, qI_t, qI_f, r_I, r_L, r_R, r_V, ii_add, ii_sub, ii_mul, ii_neg, bz_0, bz_1, Bool.true_and, Bool.false_and, Bool.and_true, z00, z11, li_0, li_1, li_10000, li_11, li_200, li_3, li_31, li_40, gI_13_10, gI_13_6, gI_13_9, is_13, pI_13_10, pI_13_6, pI_13_9, ii_lt, ii_eq, e1, e59, h20, or_0, uI_I, uA_I, uI_A, uA_A, Nat.reduceEqDiff, and_self, and_false, and_true, if_true, if_false, h4]
    · simp only [uI_I, uA_I, uI_A, uA_A, Nat.reduceEqDiff, and_self, and_false, and_true, if_true, if_false]
    · simp only [uI_I, uA_I, uI_A, uA_A, Nat.reduceEqDiff, and_self, and_false, and_true, if_true, if_false]
      rw [h4]
    · simp only [uI_I, uA_I, uI_A, uA_A, Nat.reduceEqDiff, and_self, and_false, and_true, if_true, if_false]
    · simp only [uI_I, uA_I, uI_A, uA_A, Nat.reduceEqDiff, and_self, and_false, and_true, if_true, if_false]
      exact h8
    · simp only [uI_I, uA_I, uI_A, uA_A, Nat.reduceEqDiff, and_self, and_false, and_true, if_true, if_false]
  · have h20 := fun u => s20 (sc := sc) (w := u) (x := x) (by omega) (by omega)
    by_cases z2 : x < 6
    · obtain ⟨o1, o2, o3, o4⟩ := orB_ii h8.1 h8.2 hx.1 z2
      have f2 : fr lR w (uI (uI w 13 9 (orB (wI w 13 9) x)) 13 6 (j + 1)) := fr_uI (fr_uI (fr_r _ _) rfl) rfl
      refine ⟨uI (uI w 13 9 (orB (wI w 13 9) x)) 13 6 (j + 1), ?_, f2, CX_n h f2 ?_ ?_ ?_ ?_ (Or.inl ?_)⟩
      · rw [wq_60_73]
        simp (disch := omega) only [qB_s, qC_t, qC_f, qI_T, qI_F, qI_t, qI_f, r_I, r_L, r_R, r_V, ii_add, ii_sub, ii_mul, ii_neg, bz_0, bz_1, Bool.true_and, Bool.false_and, Bool.and_true, z00, z11, li_0, li_1, li_10000, li_11, li_200, li_3, li_31, li_40, gI_13_10, gI_13_6, gI_13_9, is_13, pI_13_10, pI_13_6, pI_13_9, ii_lt, ii_eq, e59, h20, bz_t, o1, uI_I, uA_I, uI_A, uA_A, Nat.reduceEqDiff, and_self, and_false, and_true, if_true, if_false, h4]
      · simp only [uI_I, uA_I, uI_A, uA_A, Nat.reduceEqDiff, and_self, and_false, and_true, if_true, if_false]
      · simp only [uI_I, uA_I, uI_A, uA_A, Nat.reduceEqDiff, and_self, and_false, and_true, if_true, if_false]
        rw [h4]
      · simp only [uI_I, uA_I, uI_A, uA_A, Nat.reduceEqDiff, and_self, and_false, and_true, if_true, if_false]
      · simp only [uI_I, uA_I, uI_A, uA_A, Nat.reduceEqDiff, and_self, and_false, and_true, if_true, if_false]
        exact ⟨o2, o3⟩
      · simp only [uI_I, uA_I, uI_A, uA_A, Nat.reduceEqDiff, and_self, and_false, and_true, if_true, if_false]
    · have f2 : fr lR w (uI (uI w 13 9 (wI w 13 9)) 13 6 (j + 1)) := fr_uI (fr_uI (fr_r _ _) rfl) rfl
      refine ⟨uI (uI w 13 9 (wI w 13 9)) 13 6 (j + 1), ?_, f2, CX_n h f2 ?_ ?_ ?_ ?_ (Or.inl ?_)⟩
      · rw [wq_60_73]
        simp (disch := omega) only [qB_s, qC_t, qC_f, qI_T, qI_F, qI_t, qI_f, r_I, r_L, r_R, r_V, ii_add, ii_sub, ii_mul, ii_neg, bz_0, bz_1, Bool.true_and, Bool.false_and, Bool.and_true, z00, z11, li_0, li_1, li_10000, li_11, li_200, li_3, li_31, li_40, gI_13_10, gI_13_6, gI_13_9, is_13, pI_13_10, pI_13_6, pI_13_9, ii_lt, ii_eq, e59, h20, bz_f, or_0, uI_I, uA_I, uI_A, uA_A, Nat.reduceEqDiff, and_self, and_false, and_true, if_true, if_false, h4]
      · simp only [uI_I, uA_I, uI_A, uA_A, Nat.reduceEqDiff, and_self, and_false, and_true, if_true, if_false]
      · simp only [uI_I, uA_I, uI_A, uA_A, Nat.reduceEqDiff, and_self, and_false, and_true, if_true, if_false]
        rw [h4]
      · simp only [uI_I, uA_I, uI_A, uA_A, Nat.reduceEqDiff, and_self, and_false, and_true, if_true, if_false]
      · simp only [uI_I, uA_I, uI_A, uA_A, Nat.reduceEqDiff, and_self, and_false, and_true, if_true, if_false]
        exact h8
      · simp only [uI_I, uA_I, uI_A, uA_A, Nat.reduceEqDiff, and_self, and_false, and_true, if_true, if_false]
/-- from no fault to a fault -/
theorem CX_of (hT : TT b L T) {s : st} {u : wo} (hW : CW w b L T s) (hs : s.1 ≤ 400) (hl : s.2.2.1.length ≤ 400) {m : Int} (hm : 0 ≤ m ∧ m ≤ 100) {c : Int} (hc : 0 ≤ c ∧ c ≤ 7) (hu : u = uI (uI w 13 10 m) 13 13 (fl b s.1 c)) : fr lR w u ∧ CX u b L T (fl b s.1 c) 400 := by
  obtain ⟨w1, w2, w3, w4, ⟨w5, w6⟩, w7, w8⟩ := hW
  subst hu
  have f2 : fr lR w (uI (uI w 13 10 m) 13 13 (fl b s.1 c)) := fr_uI (fr_uI (fr_r _ _) rfl) rfl
  refine ⟨f2, CK_R w1 f2, ?_, fl_r hT s.1 hc.1 hc.2, ⟨s.1, ?_, hs⟩, ?_, ?_, ?_⟩
  · simp only [uI_I, uA_I, uI_A, uA_A, Nat.reduceEqDiff, and_self, and_false, and_true, if_true, if_false]
  · simp only [uI_I, uA_I, uI_A, uA_A, Nat.reduceEqDiff, and_self, and_false, and_true, if_true, if_false]
    exact w2
  · simp only [uI_I, uA_I, uI_A, uA_A, Nat.reduceEqDiff, and_self, and_false, and_true, if_true, if_false]
    omega
  · simp only [uI_I, uA_I, uI_A, uA_A, Nat.reduceEqDiff, and_self, and_false, and_true, if_true, if_false]
    exact w8.1
  · simp only [uI_I, uA_I, uI_A, uA_A, Nat.reduceEqDiff, and_self, and_false, and_true, if_true, if_false]
    omega
theorem c60 (hT : TT b L T) {s : st} (hW : CW w b L T s) {z ph e : Int} (hI : aI b T z ph e s) (hz : 0 ≤ z) {kd : Int} : ∃ u, am_F sc 60 [am_R (some 13), am_I (ii kd)] (wst w) = some (none, wst u) ∧ fr lR w u ∧ CR u b L T 500 (aVal b kd s) := by
  have hn := aI_n hT hI hz
  have hp := hI.2.1
  have hW0 := hW
  obtain ⟨w1, w2, w3, w4, ⟨w5, w6⟩, w7, w8⟩ := hW
  have hv := tVl_r hT.1 s.1
  have hk := tK_r hT.1 s.1
  have h54 := c54 (sc := sc) hT w1 w2 (by omega)
  have f1 : fr lR w (uI w 13 10 (s.2.1 + 1)) := fr_uI (fr_r _ _) rfl
  have n6 : wI (uI w 13 10 (s.2.1 + 1)) 13 6 = s.1 := w2
  have n13 : wI (uI w 13 10 (s.2.1 + 1)) 13 13 = 0 := w3
  have n10 : wI (uI w 13 10 (s.2.1 + 1)) 13 10 = s.2.1 + 1 := rI _ _ _ _
  have hW1 : CW (uI w 13 10 (s.2.1 + 1)) b L T (s.1, s.2.1 + 1, s.2.2) := ⟨CK_R w1 f1, n6, n13, n10, ⟨w5, w6⟩, w7, w8⟩
  have b55 := fun c => c55 (sc := sc) hT (CK_R w1 f1) n6 (by omega) n13 (c := c)
  have bad : ∀ c : Int, 0 ≤ c ∧ c ≤ 7 → am_F sc 60 [am_R (some 13), am_I (ii kd)] (wst w) = am_W sc 60 (73, [some (am_R (some 13)), some (am_I (ii kd)), some (am_I (ii (tK b s.1)))], [], wst (uI (uI w 13 10 (s.2.1 + 1)) 13 13 (fl b s.1 c))) → ∃ u, am_F sc 60 [am_R (some 13), am_I (ii kd)] (wst w) = some (none, wst u) ∧ fr lR w u ∧ CX u b L T (fl b s.1 c) 500 := fun c hc hh => by
    obtain ⟨fx, hx⟩ := CX_of hT hW0 hn.2.2.1 (by omega) (m := s.2.1 + 1) (by omega) hc rfl
    obtain ⟨u, k1, k2, k3⟩ := c60f (sc := sc) hT hx (by omega) (kd := kd) (x := tK b s.1) ⟨hk.1, hk.2.1⟩
    exact ⟨u, hh.trans k1, fr_t fx k2, CX_m k3 (by omega)⟩
  unfold aVal
  by_cases y1 : tK b s.1 = 200
  · rw [if_pos y1]
    obtain ⟨v, e1, e2⟩ := c58 (sc := sc) hT (CK_R w1 f1) n6 (by omega)
    have e2 := e2 y1
    subst e2
    by_cases y2 : tVl b s.1 = -1
    · rw [if_pos y2]
      refine bad 1 ⟨by decide, by decide⟩ ?_
      rw [fq_60, y1]
      rw [y1] at h54
      simp (disch := omega) only [qB_s, qC_t, qC_f, qI_T, qI_F, qI_t, qI_f, r_I, r_L, r_R, r_V, ii_add, ii_sub, ii_mul, ii_neg, bz_0, bz_1, Bool.true_and, Bool.false_and, Bool.and_true, z00, z11, li_0, li_1, li_10000, li_11, li_200, li_3, li_31, li_40, gI_13_10, gI_13_6, gI_13_9, is_13, pI_13_10, pI_13_6, pI_13_9, ii_lt, ii_eq, h54, w4, e1, b55]
    · rw [if_neg y2]
      by_cases y3 : 40 ≤ s.2.1
      · rw [if_pos y3]
        refine bad 3 ⟨by decide, by decide⟩ ?_
        rw [fq_60, y1]
        rw [y1] at h54
        simp (disch := omega) only [qB_s, qC_t, qC_f, qI_T, qI_F, qI_t, qI_f, r_I, r_L, r_R, r_V, ii_add, ii_sub, ii_mul, ii_neg, bz_0, bz_1, Bool.true_and, Bool.false_and, Bool.and_true, z00, z11, li_0, li_1, li_10000, li_11, li_200, li_3, li_31, li_40, gI_13_10, gI_13_6, gI_13_9, is_13, pI_13_10, pI_13_6, pI_13_9, ii_lt, ii_eq, h54, w4, e1, b55, n10]
      · rw [if_neg y3]
        obtain ⟨u, k1, k2, k3⟩ := (c60t (sc := sc) hT hW1 hn.1 hn.2.2.1 (kd := kd)).1 y1
        refine ⟨u, ?_, fr_t f1 k2, k3⟩
        rw [fq_60]
        have k1 : am_W sc 60 (73, [some (am_R (some 13)), some (am_I (ii kd)), some (am_I (ii (tK b s.1)))], [], wst (uI w 13 10 (s.2.1 + 1))) = some (none, wst u) := k1
        rw [y1] at h54 k1
        simp (disch := omega) only [qB_s, qC_t, qC_f, qI_T, qI_F, qI_t, qI_f, r_I, r_L, r_R, r_V, ii_add, ii_sub, ii_mul, ii_neg, bz_0, bz_1, Bool.true_and, Bool.false_and, Bool.and_true, z00, z11, li_0, li_1, li_10000, li_11, li_200, li_3, li_31, li_40, gI_13_10, gI_13_6, gI_13_9, is_13, pI_13_10, pI_13_6, pI_13_9, ii_lt, ii_eq, h54, w4, e1, b55, n10, k1]
  · rw [if_neg y1]
    by_cases y2 : tK b s.1 < 11
    · rw [if_pos y2]
      by_cases y3 : 40 ≤ s.2.1
      · rw [if_pos y3]
        refine bad 3 ⟨by decide, by decide⟩ ?_
        rw [fq_60]
        simp (disch := omega) only [qB_s, qC_t, qC_f, qI_T, qI_F, qI_t, qI_f, r_I, r_L, r_R, r_V, ii_add, ii_sub, ii_mul, ii_neg, bz_0, bz_1, Bool.true_and, Bool.false_and, Bool.and_true, z00, z11, li_0, li_1, li_10000, li_11, li_200, li_3, li_31, li_40, gI_13_10, gI_13_6, gI_13_9, is_13, pI_13_10, pI_13_6, pI_13_9, ii_lt, ii_eq, h54, w4, b55, n10]
      · rw [if_neg y3]
        obtain ⟨u, k1, k2, k3⟩ := (c60t (sc := sc) hT hW1 hn.1 hn.2.2.1 (kd := kd)).2 y2
        refine ⟨u, ?_, fr_t f1 k2, k3⟩
        rw [fq_60]
        have k1 : am_W sc 60 (73, [some (am_R (some 13)), some (am_I (ii kd)), some (am_I (ii (tK b s.1)))], [], wst (uI w 13 10 (s.2.1 + 1))) = some (none, wst u) := k1
        simp (disch := omega) only [qB_s, qC_t, qC_f, qI_T, qI_F, qI_t, qI_f, r_I, r_L, r_R, r_V, ii_add, ii_sub, ii_mul, ii_neg, bz_0, bz_1, Bool.true_and, Bool.false_and, Bool.and_true, z00, z11, li_0, li_1, li_10000, li_11, li_200, li_3, li_31, li_40, gI_13_10, gI_13_6, gI_13_9, is_13, pI_13_10, pI_13_6, pI_13_9, ii_lt, ii_eq, h54, w4, b55, n10, k1]
    · rw [if_neg y2]
      refine bad 0 ⟨by decide, by decide⟩ ?_
      rw [fq_60]
      simp (disch := omega) only [qB_s, qC_t, qC_f, qI_T, qI_F, qI_t, qI_f, r_I, r_L, r_R, r_V, ii_add, ii_sub, ii_mul, ii_neg, bz_0, bz_1, Bool.true_and, Bool.false_and, Bool.and_true, z00, z11, li_0, li_1, li_10000, li_11, li_200, li_3, li_31, li_40, gI_13_10, gI_13_6, gI_13_9, is_13, pI_13_10, pI_13_6, pI_13_9, ii_lt, ii_eq, h54, w4, b55, n10]
theorem c60x (hT : TT b L T) {c : Int} {N : Nat} (h : CX w b L T c N) (hN : N ≤ 8000) {kd : Int} : ∃ u, am_F sc 60 [am_R (some 13), am_I (ii kd)] (wst w) = some (none, wst u) ∧ fr lR w u ∧ CX u b L T c (N + 2) := by
  obtain ⟨h1, h2, h3, ⟨j, h4, h5⟩, h7, h8, h11⟩ := id h
  have hk := tK_r hT.1 j
  have h54 := c54 (sc := sc) hT h1 h4 (by omega)
  have f1 : fr lR w (uI w 13 10 (wI w 13 10 + 1)) := fr_uI (fr_r _ _) rfl
  have n6 : wI (uI w 13 10 (wI w 13 10 + 1)) 13 6 = j := h4
  have n13 : wI (uI w 13 10 (wI w 13 10 + 1)) 13 13 = c := h2
  have n10 : wI (uI w 13 10 (wI w 13 10 + 1)) 13 10 = wI w 13 10 + 1 := rI _ _ _ _
  have hX1 : CX (uI w 13 10 (wI w 13 10 + 1)) b L T c (N + 1) := ⟨CK_R h1 f1, n13, h3, ⟨j, n6, by omega⟩, h7, h8, by rw [n10]; omega⟩
  have b55 := fun x => c55x (sc := sc) n13 h3 (x := x)
  obtain ⟨u, k1, k2, k3⟩ := c60f (sc := sc) hT hX1 (by omega) (kd := kd) (x := tK b j) ⟨hk.1, hk.2.1⟩
  refine ⟨u, ?_, fr_t f1 k2, k3⟩
  by_cases y1 : tK b j = 200
  · obtain ⟨v, e1, e2⟩ := c58 (sc := sc) hT (CK_R h1 f1) n6 (by omega)
    have e2 := e2 y1
    subst e2
    have hv := tVl_r hT.1 j
    rw [y1] at h54 k1
    rw [fq_60]
    by_cases y2 : tVl b j = -1
    · simp (disch := omega) only [qB_s, qC_t, qC_f, qI_T, qI_F, qI_t, qI_f, r_I, r_L, r_R, r_V, ii_add, ii_sub, ii_mul, ii_neg, bz_0, bz_1, Bool.true_and, Bool.false_and, Bool.and_true, z00, z11, li_0, li_1, li_10000, li_11, li_200, li_3, li_31, li_40, gI_13_10, gI_13_6, gI_13_9, is_13, pI_13_10, pI_13_6, pI_13_9, ii_lt, ii_eq, h54, e1, b55, k1]
    · by_cases y3 : 40 < wI w 13 10 + 1
      · simp (disch := omega) only [qB_s, qC_t, qC_f, qI_T, qI_F, qI_t, qI_f, r_I, r_L, r_R, r_V, ii_add, ii_sub, ii_mul, ii_neg, bz_0, bz_1, Bool.true_and, Bool.false_and, Bool.and_true, z00, z11, li_0, li_1, li_10000, li_11, li_200, li_3, li_31, li_40, gI_13_10, gI_13_6, gI_13_9, is_13, pI_13_10, pI_13_6, pI_13_9, ii_lt, ii_eq, h54, e1, b55, n10, k1]
      · simp (disch := omega) only [qB_s, qC_t, qC_f, qI_T, qI_F, qI_t, qI_f, r_I, r_L, r_R, r_V, ii_add, ii_sub, ii_mul, ii_neg, bz_0, bz_1, Bool.true_and, Bool.false_and, Bool.and_true, z00, z11, li_0, li_1, li_10000, li_11, li_200, li_3, li_31, li_40, gI_13_10, gI_13_6, gI_13_9, is_13, pI_13_10, pI_13_6, pI_13_9, ii_lt, ii_eq, h54, e1, b55, n10, k1]
  · rw [fq_60]
    by_cases y2 : tK b j < 11
    · by_cases y3 : 40 < wI w 13 10 + 1
      · simp (disch := omega) only [qB_s, qC_t, qC_f, qI_T, qI_F, qI_t, qI_f, r_I, r_L, r_R, r_V, ii_add, ii_sub, ii_mul, ii_neg, bz_0, bz_1, Bool.true_and, Bool.false_and, Bool.and_true, z00, z11, li_0, li_1, li_10000, li_11, li_200, li_3, li_31, li_40, gI_13_10, gI_13_6, gI_13_9, is_13, pI_13_10, pI_13_6, pI_13_9, ii_lt, ii_eq, h54, b55, n10, k1]
      · simp (disch := omega) only [qB_s, qC_t, qC_f, qI_T, qI_F, qI_t, qI_f, r_I, r_L, r_R, r_V, ii_add, ii_sub, ii_mul, ii_neg, bz_0, bz_1, Bool.true_and, Bool.false_and, Bool.and_true, z00, z11, li_0, li_1, li_10000, li_11, li_200, li_3, li_31, li_40, gI_13_10, gI_13_6, gI_13_9, is_13, pI_13_10, pI_13_6, pI_13_9, ii_lt, ii_eq, h54, b55, n10, k1]
    · simp (disch := omega) only [qB_s, qC_t, qC_f, qI_T, qI_F, qI_t, qI_f, r_I, r_L, r_R, r_V, ii_add, ii_sub, ii_mul, ii_neg, bz_0, bz_1, Bool.true_and, Bool.false_and, Bool.and_true, z00, z11, li_0, li_1, li_10000, li_11, li_200, li_3, li_31, li_40, gI_13_10, gI_13_6, gI_13_9, is_13, pI_13_10, pI_13_6, pI_13_9, ii_lt, ii_eq, h54, b55, k1]
theorem c61e {c : Int} {N : Nat} (h : CX w b L T c N) {i : Nat} (hi : i ≤ 400) : am_W sc 61 (7, [some (am_R (some 13)), some (am_I (ii i)), none], [], wst w) = some (none, wst w) := by
  obtain ⟨h1, h2, h3, -⟩ := h
  rw [wq_61_7]
  by_cases z : i < 400
  · simp (disch := omega) only [qB_s, qC_t, qC_f, qI_T, qI_F, qI_t, qI_f, r_I, r_L, r_R, r_V, ii_add, ii_sub, ii_mul, ii_neg, bz_0, bz_1, Bool.true_and, Bool.false_and, Bool.and_true, z00, z11, li_0, li_1, li_2, li_400, li_43, li_45, gI_13_13, gI_13_6, is_13, pI_13_6, ii_lt, ii_eq, h2]
  · simp (disch := omega) only [qB_s, qC_t, qC_f, qI_T, qI_F, qI_t, qI_f, r_I, r_L, r_R, r_V, ii_add, ii_sub, ii_mul, ii_neg, bz_0, bz_1, Bool.true_and, Bool.false_and, Bool.and_true, z00, z11, li_0, li_1, li_2, li_400, li_43, li_45, gI_13_13, gI_13_6, is_13, pI_13_6, ii_lt]
theorem c61l (hT : TT b L T) {z ph e : Int} (hz : 0 ≤ z) (hp : 1 ≤ ph) : ∀ (d i : Nat) (w : wo) (s : st), i + d = 400 → CW w b L T s → aI b T z ph e s → ∃ u, am_W sc 61 (7, [some (am_R (some 13)), some (am_I (ii i)), none], [], wst w) = some (none, wst u) ∧ fr lR w u ∧ CR u b L T 500 (aSmL b d s)
  | 0, i, w, s, hd, hW, hI => by
    refine ⟨w, ?_, fr_r _ _, hW⟩
    rw [wq_61_7]
    simp (disch := omega) only [qB_s, qC_t, qC_f, qI_T, qI_F, qI_t, qI_f, r_I, r_L, r_R, r_V, ii_add, ii_sub, ii_mul, ii_neg, bz_0, bz_1, Bool.true_and, Bool.false_and, Bool.and_true, z00, z11, li_0, li_1, li_2, li_400, li_43, li_45, gI_13_13, gI_13_6, is_13, pI_13_6, ii_lt]
  | d + 1, i, w, s, hd, hW, hI => by
    have hn := aI_n hT hI hz
    have hW0 := hW
    obtain ⟨w1, w2, w3, w4, ⟨w5, w6⟩, w7, w8⟩ := hW
    have hk := tK_r hT.1 s.1
    have h54 := c54 (sc := sc) hT w1 w2 (by omega)
    have f1 : fr lR w (uI w 13 6 (s.1 + 1)) := fr_uI (fr_r _ _) rfl
    have hW1 : CW (uI w 13 6 (s.1 + 1)) b L T (s.1 + 1, s.2) := ⟨CK_R w1 f1, by rw [rI]; show _ = ((s.1 + 1 : Nat) : Int); omega, w3, w4, ⟨w5, w6⟩, w7, w8⟩
    have go : ∀ kd : Int, tK b s.1 ≠ 204 → (kd = 1 ∨ kd = 2) → aSmL b (d + 1) s = bd (aVal b kd (s.1 + 1, s.2)) (aSmL b d) → (∀ (u1 : wo), am_F sc 60 [am_R (some 13), am_I (ii kd)] (wst (uI w 13 6 (s.1 + 1))) = some (none, wst u1) → am_W sc 61 (7, [some (am_R (some 13)), some (am_I (ii i)), none], [], wst w) = am_W sc 61 (7, [some (am_R (some 13)), some (am_I (ii (i + 1))), none], [], wst u1)) → ∃ u, am_W sc 61 (7, [some (am_R (some 13)), some (am_I (ii i)), none], [], wst w) = some (none, wst u) ∧ fr lR w u ∧ CR u b L T 500 (aSmL b (d + 1) s) := fun kd hne hkd hu hs => by
      have hI1 := aI_1 hT hI hne
      obtain ⟨u1, k1, k2, k3⟩ := c60 (sc := sc) hT hW1 hI1 hz (kd := kd)
      rw [hs u1 k1, hu]
      revert k3
      cases hr : aVal b kd (s.1 + 1, s.2) with
      | inl c =>
        intro k3
        have k3 : CX u1 b L T c 500 := k3
        have := c61e (sc := sc) k3 (i := i + 1) (by omega)
        rw [nat_1] at this
        exact ⟨u1, this, fr_t f1 k2, k3⟩
      | inr s1 =>
        intro k3
        have k3 : CW u1 b L T s1 := k3
        obtain ⟨a1, a2, a3⟩ := aVal_I hT hI1 (.inr ⟨hkd, hp⟩) hr
        rw [if_neg (by omega)] at a1
        obtain ⟨u, m1, m2, m3⟩ := c61l hT hz hp d (i + 1) u1 s1 (by omega) k3 a1
        rw [nat_1] at m1
        exact ⟨u, m1, fr_t (fr_t f1 k2) m2, m3⟩
    by_cases y1 : tK b s.1 = 43
    · refine go 1 (by omega) (.inl rfl) (if_pos y1) (fun u1 k1 => ?_)
      rw [wq_61_7]
      simp (disch := omega) only [qB_s, qC_t, qC_f, qI_T, qI_F, qI_t, qI_f, r_I, r_L, r_R, r_V, ii_add, ii_sub, ii_mul, ii_neg, bz_0, bz_1, Bool.true_and, Bool.false_and, Bool.and_true, z00, z11, li_0, li_1, li_2, li_400, li_43, li_45, gI_13_13, gI_13_6, is_13, pI_13_6, ii_lt, ii_eq, w3, h54, w2, k1]
    · by_cases y2 : tK b s.1 = 45
      · refine go 2 (by omega) (.inr rfl) (by
          show (if tK b s.1 = 43 then _ else _) = _
          rw [if_neg y1, if_pos y2]) (fun u1 k1 => ?_)
        rw [wq_61_7]
        simp (disch := omega) only [qB_s, qC_t, qC_f, qI_T, qI_F, qI_t, qI_f, r_I, r_L, r_R, r_V, ii_add, ii_sub, ii_mul, ii_neg, bz_0, bz_1, Bool.true_and, Bool.false_and, Bool.and_true, z00, z11, li_0, li_1, li_2, li_400, li_43, li_45, gI_13_13, gI_13_6, is_13, pI_13_6, ii_lt, ii_eq, w3, h54, w2, k1]
      · rw [show aSmL b (d + 1) s = .inr s by
          show (if tK b s.1 = 43 then _ else _) = _
          rw [if_neg y1, if_neg y2]]
        refine ⟨w, ?_, fr_r _ _, hW0⟩
        rw [wq_61_7]
        simp (disch := omega) only [qB_s, qC_t, qC_f, qI_T, qI_F, qI_t, qI_f, r_I, r_L, r_R, r_V, ii_add, ii_sub, ii_mul, ii_neg, bz_0, bz_1, Bool.true_and, Bool.false_and, Bool.and_true, z00, z11, li_0, li_1, li_2, li_400, li_43, li_45, gI_13_13, gI_13_6, is_13, pI_13_6, ii_lt, ii_eq, w3, h54]
theorem c61 (hT : TT b L T) {s : st} (hW : CW w b L T s) {z ph e : Int} (hI : aI b T z ph e s) (hz : 0 ≤ z) (hp : 0 ≤ ph ∧ ph ≤ 1) : ∃ u, am_F sc 61 [am_R (some 13)] (wst w) = some (none, wst u) ∧ fr lR w u ∧ CR u b L T 500 (aSum b s) := by
  obtain ⟨u1, k1, k2, k3⟩ := c60 (sc := sc) hT hW hI hz (kd := 0)
  unfold aSum
  revert k3
  cases hr : aVal b 0 s with
  | inl c =>
    intro k3
    have k3 : CX u1 b L T c 500 := k3
    have e := c61e (sc := sc) k3 (i := 0) (by omega)
    have e : am_W sc 61 (7, [some (am_R (some 13)), some (am_I (ii 0)), none], [], wst u1) = some (none, wst u1) := e
    refine ⟨u1, ?_, k2, k3⟩
    rw [fq_61]
    simp (disch := omega) only [qB_s, qC_t, qC_f, qI_T, qI_F, qI_t, qI_f, r_I, r_L, r_R, r_V, ii_add, ii_sub, ii_mul, ii_neg, bz_0, bz_1, Bool.true_and, Bool.false_and, Bool.and_true, z00, z11, li_0, li_1, li_2, li_400, li_43, li_45, gI_13_13, gI_13_6, is_13, pI_13_6, k1, e]
  | inr s1 =>
    intro k3
    have k3 : CW u1 b L T s1 := k3
    obtain ⟨a1, a2, a3⟩ := aVal_I hT hI (.inl ⟨rfl, hp.2⟩) hr
    rw [if_pos rfl] at a1
    obtain ⟨u, m1, m2, m3⟩ := c61l (sc := sc) hT hz (by omega) 400 0 u1 s1 rfl k3 a1
    have m1 : am_W sc 61 (7, [some (am_R (some 13)), some (am_I (ii 0)), none], [], wst u1) = some (none, wst u) := m1
    refine ⟨u, ?_, fr_t k2 m2, m3⟩
    rw [fq_61]
    simp (disch := omega) only [qB_s, qC_t, qC_f, qI_T, qI_F, qI_t, qI_f, r_I, r_L, r_R, r_V, ii_add, ii_sub, ii_mul, ii_neg, bz_0, bz_1, Bool.true_and, Bool.false_and, Bool.and_true, z00, z11, li_0, li_1, li_2, li_400, li_43, li_45, gI_13_13, gI_13_6, is_13, pI_13_6, k1, m1]
theorem c61x (hT : TT b L T) {c : Int} {N : Nat} (h : CX w b L T c N) (hN : N ≤ 8000) : ∃ u, am_F sc 61 [am_R (some 13)] (wst w) = some (none, wst u) ∧ fr lR w u ∧ CX u b L T c (N + 2) := by
  obtain ⟨u1, k1, k2, k3⟩ := c60x (sc := sc) hT h hN (kd := 0)
  have e := c61e (sc := sc) k3 (i := 0) (by omega)
  have e : am_W sc 61 (7, [some (am_R (some 13)), some (am_I (ii 0)), none], [], wst u1) = some (none, wst u1) := e
  refine ⟨u1, ?_, k2, k3⟩
  rw [fq_61]
  simp (disch := omega) only [qB_s, qC_t, qC_f, qI_T, qI_F, qI_t, qI_f, r_I, r_L, r_R, r_V, ii_add, ii_sub, ii_mul, ii_neg, bz_0, bz_1, Bool.true_and, Bool.false_and, Bool.and_true, z00, z11, li_0, li_1, li_2, li_400, li_43, li_45, gI_13_13, gI_13_6, is_13, pI_13_6, k1, e]
theorem c62 (hT : TT b L T) {s : st} (hW : CW w b L T s) {z ph e : Int} (hI : aI b T z ph e s) (hz : 0 ≤ z) : ∃ u, am_F sc 62 [am_R (some 13)] (wst w) = some (some (am_I (ii (tK b s.1))), wst u) ∧ fr lR w u ∧ CR u b L T 500 (aSig b s) := by
  have hn := aI_n hT hI hz
  have hp := hI.2.1
  have hW0 := hW
  obtain ⟨w1, w2, w3, w4, ⟨w5, w6⟩, w7, w8⟩ := hW
  have hk := tK_r hT.1 s.1
  have h54 := c54 (sc := sc) hT w1 w2 (by omega)
  have f1 : fr lR w (uI w 13 10 (s.2.1 + 1)) := fr_uI (fr_r _ _) rfl
  have n6 : wI (uI w 13 10 (s.2.1 + 1)) 13 6 = s.1 := w2
  have n13 : wI (uI w 13 10 (s.2.1 + 1)) 13 13 = 0 := w3
  have n10 : wI (uI w 13 10 (s.2.1 + 1)) 13 10 = s.2.1 + 1 := rI _ _ _ _
  have b55 := fun c => c55 (sc := sc) hT (CK_R w1 f1) n6 (by omega) n13 (c := c)
  have n62 : ∀ c : Int, wI (uI (uI w 13 10 (s.2.1 + 1)) 13 13 c) 13 6 = s.1 := fun c => w2
  have bad : ∀ c : Int, 0 ≤ c ∧ c ≤ 7 → fr lR w (uI (uI (uI w 13 10 (s.2.1 + 1)) 13 13 (fl b s.1 c)) 13 6 (s.1 + 1)) ∧ CX (uI (uI (uI w 13 10 (s.2.1 + 1)) 13 13 (fl b s.1 c)) 13 6 (s.1 + 1)) b L T (fl b s.1 c) 500 := fun c hc => by
    obtain ⟨fx, hx⟩ := CX_of hT hW0 hn.2.2.1 (by omega) (m := s.2.1 + 1) (by omega) hc rfl
    have f2 : fr lR (uI (uI w 13 10 (s.2.1 + 1)) 13 13 (fl b s.1 c)) (uI (uI (uI w 13 10 (s.2.1 + 1)) 13 13 (fl b s.1 c)) 13 6 (s.1 + 1)) := fr_uI (fr_r _ _) rfl
    refine ⟨fr_t fx f2, CX_m (CX_n hx f2 rfl ?_ rfl ?_ (.inl rfl)) (by omega)⟩
    · rw [rI, n62]
    · exact hx.2.2.2.2.2.1
  unfold aSig
  by_cases y1 : tK b s.1 = 60 ∨ tK b s.1 = 201 ∨ tK b s.1 = 61 ∨ tK b s.1 = 202 ∨ tK b s.1 = 62
  · rw [if_pos y1]
    by_cases y3 : 40 ≤ s.2.1
    · rw [if_pos y3]
      obtain ⟨fb, hb⟩ := bad 3 ⟨by decide, by decide⟩
      refine ⟨_, ?_, fb, hb⟩
      rw [fq_62]
      rcases y1 with y | y | y | y | y
      all_goals simp (disch := omega) only [qB_s, qC_t, qC_f, qI_T, qI_F, qI_t, qI_f, r_I, r_L, r_R, r_V, ii_add, ii_sub, ii_mul, ii_neg, bz_0, bz_1, Bool.true_and, Bool.false_and, Bool.and_true, z00, z11, li_0, li_1, li_201, li_202, li_3, li_40, li_60, li_61, li_62, gI_13_10, gI_13_6, is_13, pI_13_10, pI_13_6, ii_lt, ii_eq, h54, w4, b55, n10, n62]
    · rw [if_neg y3]
      have f2 : fr lR w (uI (uI w 13 10 (s.2.1 + 1)) 13 6 (s.1 + 1)) := fr_uI (fr_uI (fr_r _ _) rfl) rfl
      refine ⟨uI (uI w 13 10 (s.2.1 + 1)) 13 6 (s.1 + 1), ?_, f2, CK_R w1 f2, ?_, w3, ?_, ⟨w5, w6⟩, w7, w8⟩
      · rw [fq_62]
        rcases y1 with y | y | y | y | y
        all_goals simp (disch := omega) only [qB_s, qC_t, qC_f, qI_T, qI_F, qI_t, qI_f, r_I, r_L, r_R, r_V, ii_add, ii_sub, ii_mul, ii_neg, bz_0, bz_1, Bool.true_and, Bool.false_and, Bool.and_true, z00, z11, li_0, li_1, li_201, li_202, li_3, li_40, li_60, li_61, li_62, gI_13_10, gI_13_6, is_13, pI_13_10, pI_13_6, ii_lt, ii_eq, h54, w4, b55, n10, n6]
      · rw [rI]
        show _ = ((s.1 + 1 : Nat) : Int)
        omega
      · exact n10
  · rw [if_neg y1]
    obtain ⟨fb, hb⟩ := bad 0 ⟨by decide, by decide⟩
    refine ⟨_, ?_, fb, hb⟩
    rw [fq_62]
    simp (disch := omega) only [qB_s, qC_t, qC_f, qI_T, qI_F, qI_t, qI_f, r_I, r_L, r_R, r_V, ii_add, ii_sub, ii_mul, ii_neg, bz_0, bz_1, Bool.true_and, Bool.false_and, Bool.and_true, z00, z11, li_0, li_1, li_201, li_202, li_3, li_40, li_60, li_61, li_62, gI_13_10, gI_13_6, is_13, pI_13_10, pI_13_6, ii_lt, ii_eq, h54, w4, b55, n10, n62]
theorem c62x (hT : TT b L T) {c : Int} {N : Nat} (h : CX w b L T c N) (hN : N ≤ 8000) : ∃ (u : wo) (x : Int), am_F sc 62 [am_R (some 13)] (wst w) = some (some (am_I (ii x)), wst u) ∧ fr lR w u ∧ CX u b L T c (N + 1) := by
  obtain ⟨h1, h2, h3, ⟨j, h4, h5⟩, h7, h8, h11⟩ := id h
  have hk := tK_r hT.1 j
  have h54 := c54 (sc := sc) hT h1 h4 (by omega)
  have n6 : wI (uI w 13 10 (wI w 13 10 + 1)) 13 6 = j := h4
  have n13 : wI (uI w 13 10 (wI w 13 10 + 1)) 13 13 = c := h2
  have n10 : wI (uI w 13 10 (wI w 13 10 + 1)) 13 10 = wI w 13 10 + 1 := rI _ _ _ _
  have b55 := fun x => c55x (sc := sc) n13 h3 (x := x)
  have f2 : fr lR w (uI (uI w 13 10 (wI w 13 10 + 1)) 13 6 (j + 1)) := fr_uI (fr_uI (fr_r _ _) rfl) rfl
  refine ⟨uI (uI w 13 10 (wI w 13 10 + 1)) 13 6 (j + 1), tK b j, ?_, f2, CX_n h f2 rfl (by rw [rI, h4]) rfl h8 (.inr n10)⟩
  rw [fq_62]
  by_cases y1 : tK b j = 60 ∨ tK b j = 201 ∨ tK b j = 61 ∨ tK b j = 202 ∨ tK b j = 62
  · by_cases y3 : 40 < wI w 13 10 + 1
    · rcases y1 with y | y | y | y | y
      all_goals simp (disch := omega) only [qB_s, qC_t, qC_f, qI_T, qI_F, qI_t, qI_f, r_I, r_L, r_R, r_V, ii_add, ii_sub, ii_mul, ii_neg, bz_0, bz_1, Bool.true_and, Bool.false_and, Bool.and_true, z00, z11, li_0, li_1, li_201, li_202, li_3, li_40, li_60, li_61, li_62, gI_13_10, gI_13_6, is_13, pI_13_10, pI_13_6, ii_lt, ii_eq, h54, b55, n10, n6]
    · rcases y1 with y | y | y | y | y
      all_goals simp (disch := omega) only [qB_s, qC_t, qC_f, qI_T, qI_F, qI_t, qI_f, r_I, r_L, r_R, r_V, ii_add, ii_sub, ii_mul, ii_neg, bz_0, bz_1, Bool.true_and, Bool.false_and, Bool.and_true, z00, z11, li_0, li_1, li_201, li_202, li_3, li_40, li_60, li_61, li_62, gI_13_10, gI_13_6, is_13, pI_13_10, pI_13_6, ii_lt, ii_eq, h54, b55, n10, n6]
  · simp (disch := omega) only [qB_s, qC_t, qC_f, qI_T, qI_F, qI_t, qI_f, r_I, r_L, r_R, r_V, ii_add, ii_sub, ii_mul, ii_neg, bz_0, bz_1, Bool.true_and, Bool.false_and, Bool.and_true, z00, z11, li_0, li_1, li_201, li_202, li_3, li_40, li_60, li_61, li_62, gI_13_10, gI_13_6, is_13, pI_13_10, pI_13_6, ii_lt, ii_eq, h54, b55, n10, n6]
theorem c63x (hT : TT b L T) {c : Int} {N : Nat} (h : CX w b L T c N) (hN : N ≤ 7000) : ∃ u, am_F sc 63 [am_R (some 13)] (wst w) = some (none, wst u) ∧ fr lR w u ∧ CX u b L T c (N + 5) := by
  obtain ⟨u1, k1, k2, k3⟩ := c61x (sc := sc) hT h (by omega)
  obtain ⟨u2, x, m1, m2, m3⟩ := c62x (sc := sc) hT k3 (by omega)
  obtain ⟨u3, n1, n2, n3⟩ := c61x (sc := sc) hT m3 (by omega)
  have e := c59x (sc := sc) n3.2.1 n3.2.2.1 (x := 3) (y := ii x)
  refine ⟨u3, ?_, fr_t (fr_t k2 m2) n2, n3⟩
  rw [fq_63]
  simp (disch := omega) only [qB_s, qC_t, r_I, r_V, is_13, k1, m1, n1, e]
theorem c63 (hT : TT b L T) {s : st} (hW : CW w b L T s) {z e : Int} (hI : aI b T z 0 e s) (hz : 0 ≤ z) : ∃ u, am_F sc 63 [am_R (some 13)] (wst w) = some (none, wst u) ∧ fr lR w u ∧ CR u b L T 510 (aCmp b s) := by
  obtain ⟨u1, k1, k2, k3⟩ := c61 (sc := sc) hT hW hI hz ⟨by decide, by decide⟩
  unfold aCmp
  revert k3
  cases hr1 : aSum b s with
  | inl c =>
    intro k3
    obtain ⟨u2, x, m1, m2, m3⟩ := c62x (sc := sc) hT (show CX u1 b L T c 500 from k3) (by omega)
    obtain ⟨u3, n1, n2, n3⟩ := c61x (sc := sc) hT m3 (by omega)
    have e := c59x (sc := sc) n3.2.1 n3.2.2.1 (x := 3) (y := ii x)
    refine ⟨u3, ?_, fr_t (fr_t k2 m2) n2, CX_m n3 (by omega)⟩
    rw [fq_63]
    simp (disch := omega) only [qB_s, qC_t, r_I, r_V, is_13, k1, m1, n1, e]
  | inr s1 =>
    intro k3
    have k3 : CW u1 b L T s1 := k3
    obtain ⟨a1, a2, a3⟩ := aSum_I hT hI ⟨by decide, by decide⟩ hr1
    obtain ⟨u2, m1, m2, m3⟩ := c62 (sc := sc) hT k3 a1 hz
    show ∃ u, _ ∧ _ ∧ CR u b L T 510 (bd (aSig b s1) fun s2 => bd (aSum b s2) fun s3 => .inr (s3.1, s3.2.1, s3.2.2.1, pu s3.2.2.2 3 (tK b s1.1)))
    revert m3
    cases hr2 : aSig b s1 with
    | inl c =>
      intro m3
      obtain ⟨u3, n1, n2, n3⟩ := c61x (sc := sc) hT (show CX u2 b L T c 500 from m3) (by omega)
      have e := c59x (sc := sc) n3.2.1 n3.2.2.1 (x := 3) (y := ii (tK b s1.1))
      refine ⟨u3, ?_, fr_t (fr_t k2 m2) n2, CX_m n3 (by omega)⟩
      rw [fq_63]
      simp (disch := omega) only [qB_s, qC_t, r_I, r_V, is_13, k1, m1, n1, e]
    | inr s2 =>
      intro m3
      have m3 : CW u2 b L T s2 := m3
      obtain ⟨b1, b2, b3, b4⟩ := aSig_I hT a1 hr2
      obtain ⟨u3, n1, n2, n3⟩ := c61 (sc := sc) hT m3 b1 (by omega) ⟨by decide, by decide⟩
      show ∃ u, _ ∧ _ ∧ CR u b L T 510 (bd (aSum b s2) fun s3 => .inr (s3.1, s3.2.1, s3.2.2.1, pu s3.2.2.2 3 (tK b s1.1)))
      revert n3
      cases hr3 : aSum b s2 with
      | inl c =>
        intro n3
        have n3 : CX u3 b L T c 500 := n3
        have e := c59x (sc := sc) n3.2.1 n3.2.2.1 (x := 3) (y := ii (tK b s1.1))
        refine ⟨u3, ?_, fr_t (fr_t k2 m2) n2, CX_m n3 (by omega)⟩
        rw [fq_63]
        simp (disch := omega) only [qB_s, qC_t, r_I, r_V, is_13, k1, m1, n1, e]
      | inr s3 =>
        intro n3
        have n3 : CW u3 b L T s3 := n3
        obtain ⟨c1, c2, c3⟩ := aSum_I hT b1 ⟨by decide, by decide⟩ hr3
        have hn := aI_n hT c1 (by omega)
        obtain ⟨w1, w2, w3, w4, ⟨w5, w6⟩, w7, w8⟩ := n3
        have e59 := c59 (sc := sc) (w := u3) w7.1 (by omega) w3 (kd := 3) (on := tK b s1.1)
        have f4 : fr lR u3 (uI (uA u3 18 (fu (wA u3 18) s3.2.2.2.1 (3 * 65536 + tK b s1.1))) 13 8 (s3.2.2.2.1 + 1)) := fr_uI (fr_uA (fr_r _ _) rfl) rfl
        refine ⟨_, ?_, fr_t (fr_t (fr_t k2 m2) n2) f4, CK_R w1 f4, w2, w3, w4, ⟨w5, ?_⟩, SPk_pu w7 (rI _ _ _ _) ?_, ?_⟩
        · rw [fq_63]
          have e59 : am_F sc 59 [am_R (some 13), am_I 3, am_I (ii (tK b s1.1))] (wst u3) = some (none, wst (uI (uA u3 18 (fu (wA u3 18) s3.2.2.2.1 (3 * 65536 + tK b s1.1))) 13 8 (s3.2.2.2.1 + 1))) := e59
          simp (disch := omega) only [qB_s, qC_t, r_I, r_V, is_13, k1, m1, n1, e59]
        · simp only [uI_I, uA_I, uI_A, uA_A, Nat.reduceEqDiff, and_self, and_false, and_true, if_true, if_false]
          exact w6
        · simp only [uI_I, uA_I, uI_A, uA_A, Nat.reduceEqDiff, and_self, and_false, and_true, if_true, if_false]
        · simp only [uI_I, uA_I, uI_A, uA_A, Nat.reduceEqDiff, and_self, and_false, and_true, if_true, if_false]
          exact MSk_0 w8 (fun y => absurd y (by decide))
end L56
