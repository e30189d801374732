/-! CHANGE -/
/-- the least change: steps (1000: none), first mark, its value, second, its value -/
abbrev cst := Int × Int × Int × Int × Int
def fld (F : Nat → cst → cst) (s : cst) : Nat → cst
  | 0 => s
  | k + 1 => F k (fld F s k)
theorem fld_s (F : Nat → cst → cst) (s : cst) (k : Nat) : fld F s (k + 1) = F k (fld F s k) := rfl
theorem fld_I {F : Nat → cst → cst} {I : cst → Prop} {s : cst} : ∀ {n : Nat}, (∀ k, k < n → ∀ s, I s → I (F k s)) → I s → I (fld F s n)
  | 0, _, hs => hs
  | n + 1, h, hs => h n (by omega) _ (fld_I (n := n) (fun k hk => h k (by omega)) hs)
theorem fld_c {F H : Nat → cst → cst} {I : cst → Prop} {s : cst} : ∀ {n : Nat}, (∀ k, k < n → ∀ s, I s → F k s = H k s ∧ I (F k s)) → I s → fld F s n = fld H s n
  | 0, _, _ => rfl
  | n + 1, h, hs => by
    rw [fld_s, fld_s, ← fld_c (n := n) (fun k hk => h k (by omega)) hs]
    exact (h n (by omega) _ (fld_I (n := n) (fun k hk s q => (h k (by omega) s q).2) hs)).1
theorem fld_id {F : Nat → cst → cst} {s : cst} : ∀ {n : Nat}, (∀ k, k < n → F k s = s) → fld F s n = s
  | 0, _ => rfl
  | n + 1, h => by rw [fld_s, fld_id (n := n) (fun k hk => h k (by omega)), h n (by omega)]
def dst (a v : Int) : Int := if a = -1 then 10 else na (a - v)
def rS (r : Int → Int) (m : Nat) (v : Nat) : Int → Int := fu r m v
def cg1 (T : (Int → Int) → Bool) (r : Int → Int) (m v : Nat) (s : cst) : cst := if 0 < dst (r m) v ∧ dst (r m) v < s.1 ∧ T (rS r m v) = true then (dst (r m) v, (m : Int), (v : Int), -1, -1) else s
def cg2 (T : (Int → Int) → Bool) (r : Int → Int) (m v m2 v2 : Nat) (s : cst) : cst := if 0 < dst (r m) v ∧ 0 < dst (r m2) v2 ∧ dst (r m) v + dst (r m2) v2 < s.1 ∧ T (rS (rS r m v) m2 v2) = true then (dst (r m) v + dst (r m2) v2, (m : Int), (v : Int), (m2 : Int), (v2 : Int)) else s
def ph1 (T : (Int → Int) → Bool) (N : Nat → Bool) (r : Int → Int) (m : Nat) (s : cst) : cst := if N m = true then fld (fun v s => cg1 T r m v s) s 10 else s
def ph3 (T : (Int → Int) → Bool) (N : Nat → Bool) (r : Int → Int) (m v m2 : Nat) (s : cst) : cst := if m < m2 ∧ N m2 = true then fld (fun v2 s => cg2 T r m v m2 v2 s) s 10 else s
def ph2 (T : (Int → Int) → Bool) (N : Nat → Bool) (r : Int → Int) (m : Nat) (s : cst) : cst := if N m = true then fld (fun v s => fld (fun m2 s => ph3 T N r m v m2 s) s 6) s 10 else s
def chg (T : (Int → Int) → Bool) (N : Nat → Bool) (r : Int → Int) : cst := if T r = true then (0, -1, -1, -1, -1) else fld (fun m s => ph2 T N r m s) (fld (fun m s => ph1 T N r m s) (1000, -1, -1, -1, -1) 6) 6
def cgA (s : cst) (x : Int) : Int := if s.1 = 1000 then -2 else if x = 0 then s.1 else if x = 1 then (if s.2.1 = -1 then 0 else if s.2.2.2.1 = -1 then 1 else 2) else if x = 2 then s.2.1 else if x = 3 then s.2.2.1 else if x = 4 then s.2.2.2.1 else s.2.2.2.2
theorem rS_c (r : Int → Int) {m m2 : Nat} (h : m ≠ m2) (v v2 : Nat) : rS (rS r m v) m2 v2 = rS (rS r m2 v2) m v := by
  funext j
  unfold rS fu
  by_cases q : j = (m : Int)
  · rw [if_neg (by omega), if_pos q, if_pos q]
  · rw [if_neg q, if_neg q]
/-- no single change of the row is nearer -/
def cI (T : (Int → Int) → Bool) (r : Int → Int) (s : cst) : Prop := ∀ m v : Nat, m < 6 → v < 10 → 0 < dst (r m) v → T (rS r m v) = true → s.1 ≤ dst (r m) v
theorem cI_le {T : (Int → Int) → Bool} {r : Int → Int} {s t : cst} (h : cI T r s) (q : t.1 ≤ s.1) : cI T r t := fun m v a b c d => Int.le_trans q (h m v a b c d)
theorem cg1_le (T : (Int → Int) → Bool) (r : Int → Int) (m v : Nat) (s : cst) : (cg1 T r m v s).1 ≤ s.1 := by
  unfold cg1
  split
  · rename_i h
    show dst (r m) v ≤ s.1
    omega
  · exact Int.le_refl _
theorem cg2_le (T : (Int → Int) → Bool) (r : Int → Int) (m v m2 v2 : Nat) (s : cst) : (cg2 T r m v m2 v2 s).1 ≤ s.1 := by
  unfold cg2
  split
  · rename_i h
    show dst (r m) v + dst (r m2) v2 ≤ s.1
    omega
  · exact Int.le_refl _
theorem fld_le {F : Nat → cst → cst} (h : ∀ k s, (F k s).1 ≤ s.1) (s : cst) : ∀ n, (fld F s n).1 ≤ s.1
  | 0 => Int.le_refl _
  | n + 1 => Int.le_trans (h n _) (fld_le h s n)
theorem ph1_le (T : (Int → Int) → Bool) (N : Nat → Bool) (r : Int → Int) (m : Nat) (s : cst) : (ph1 T N r m s).1 ≤ s.1 := by
  unfold ph1
  split
  · exact fld_le (fun v s => cg1_le T r m v s) s 10
  · exact Int.le_refl _
theorem ph3_le (T : (Int → Int) → Bool) (N : Nat → Bool) (r : Int → Int) (m v m2 : Nat) (s : cst) : (ph3 T N r m v m2 s).1 ≤ s.1 := by
  unfold ph3
  split
  · exact fld_le (fun v2 s => cg2_le T r m v m2 v2 s) s 10
  · exact Int.le_refl _
theorem ph2_le (T : (Int → Int) → Bool) (N : Nat → Bool) (r : Int → Int) (m : Nat) (s : cst) : (ph2 T N r m s).1 ≤ s.1 := by
  unfold ph2
  split
  · exact fld_le (fun v s => fld_le (fun m2 s => ph3_le T N r m v m2 s) s 6) s 10
  · exact Int.le_refl _
theorem fld_at {F : Nat → cst → cst} (h : ∀ k s, (F k s).1 ≤ s.1) (s : cst) {k : Nat} {d : Int} (q : ∀ s, (F k s).1 ≤ d) : ∀ {n : Nat}, k < n → (fld F s n).1 ≤ d
  | 0, hk => absurd hk (Nat.not_lt_zero k)
  | n + 1, hk => by
    by_cases z : k = n
    · rw [z] at q
      exact q _
    · exact Int.le_trans (h n _) (fld_at h s q (n := n) (by omega))
/-- every mark is tried -/
theorem ph1_I (T : (Int → Int) → Bool) (r : Int → Int) (s : cst) : cI T r (fld (fun m s => ph1 T (fun _ => true) r m s) s 6) := fun m v hm hv h1 h2 => by
  refine fld_at (fun m s => ph1_le T _ r m s) s (k := m) (fun s => ?_) hm
  show (ph1 T (fun _ => true) r m s).1 ≤ _
  unfold ph1
  rw [if_pos rfl]
  refine fld_at (fun v s => cg1_le T r m v s) s (k := v) (fun s => ?_) hv
  show (cg1 T r m v s).1 ≤ _
  unfold cg1
  by_cases q : dst (r m) v < s.1
  · rw [if_pos ⟨h1, q, h2⟩]
    exact Int.le_refl _
  · rw [if_neg (fun z => q z.2.1)]
    omega
theorem ph1_N {T : (Int → Int) → Bool} {N : Nat → Bool} {r : Int → Int} (hN : ∀ m, m < 6 → N m = false → ∀ (r : Int → Int) (v : Nat), T (rS r m v) = T r) (hr : ¬ T r = true) {m : Nat} (hm : m < 6) (s : cst) : ph1 T N r m s = ph1 T (fun _ => true) r m s := by
  unfold ph1
  rw [if_pos (show (fun _ : Nat => true) m = true from rfl)]
  cases h : N m with
  | true => rw [if_pos rfl]
  | false =>
    rw [if_neg (by decide), fld_id]
    intro v hv
    unfold cg1
    rw [if_neg]
    rintro ⟨-, -, z⟩
    rw [hN m hm h] at z
    exact hr z
theorem ph3_N {T : (Int → Int) → Bool} {N : Nat → Bool} {r : Int → Int} (hN : ∀ m, m < 6 → N m = false → ∀ (r : Int → Int) (v : Nat), T (rS r m v) = T r) {m v m2 : Nat} (hm : m < 6) (hv : v < 10) (hm2 : m2 < 6) {s : cst} (hs : cI T r s) : ph3 T N r m v m2 s = ph3 T (fun _ => true) r m v m2 s := by
  unfold ph3
  by_cases q : m < m2
  · rw [if_pos (show m < m2 ∧ (fun _ : Nat => true) m2 = true from ⟨q, rfl⟩)]
    cases h : N m2 with
    | true => rw [if_pos ⟨q, rfl⟩]
    | false =>
      rw [if_neg (fun z => by simp at z), fld_id]
      intro v2 hv2
      unfold cg2
      rw [if_neg]
      rintro ⟨z1, z2, z3, z⟩
      rw [hN m2 hm2 h] at z
      have := hs m v hm hv z1 z
      omega
  · rw [if_neg (fun z => q z.1), if_neg (fun z => q z.1)]
theorem ph2_N {T : (Int → Int) → Bool} {N : Nat → Bool} {r : Int → Int} (hN : ∀ m, m < 6 → N m = false → ∀ (r : Int → Int) (v : Nat), T (rS r m v) = T r) {m : Nat} (hm : m < 6) {s : cst} (hs : cI T r s) : ph2 T N r m s = ph2 T (fun _ => true) r m s := by
  have hle : ∀ (N : Nat → Bool) (v : Nat) (s : cst), (fld (fun m2 s => ph3 T N r m v m2 s) s 6).1 ≤ s.1 := fun N v s => fld_le (fun m2 s => ph3_le T N r m v m2 s) s 6
  unfold ph2
  rw [if_pos (show (fun _ : Nat => true) m = true from rfl)]
  cases h : N m with
  | true =>
    rw [if_pos rfl]
    refine fld_c (I := cI T r) (fun v hv s hs => ⟨?_, cI_le hs (hle N v s)⟩) hs
    exact fld_c (I := cI T r) (fun m2 hm2 s hs => ⟨ph3_N hN hm hv hm2 hs, cI_le hs (ph3_le T N r m v m2 s)⟩) hs
  | false =>
    rw [if_neg (by decide), fld_id]
    intro v hv
    refine fld_id (fun m2 hm2 => ?_)
    unfold ph3
    split
    · rename_i q
      refine fld_id (fun v2 hv2 => ?_)
      unfold cg2
      rw [if_neg]
      rintro ⟨z1, z2, z3, z⟩
      rw [rS_c r (by omega), hN m hm h] at z
      have := hs m2 v2 hm2 hv2 z2 z
      omega
    · rfl
/-- a mark that the rule doesn't name can't help -/
theorem chg_N {T : (Int → Int) → Bool} {N : Nat → Bool} {r : Int → Int} (hN : ∀ m, m < 6 → N m = false → ∀ (r : Int → Int) (v : Nat), T (rS r m v) = T r) : chg T N r = chg T (fun _ => true) r := by
  unfold chg
  by_cases hr : T r = true
  · rw [if_pos hr, if_pos hr]
  · rw [if_neg hr, if_neg hr]
    rw [fld_c (I := fun _ => True) (H := fun m s => ph1 T (fun _ => true) r m s) (fun m hm s _ => ⟨ph1_N hN hr hm s, trivial⟩) trivial]
    exact fld_c (I := cI T r) (fun m hm s hs => ⟨ph2_N hN hm hs, cI_le hs (ph2_le T N r m s)⟩) (ph1_I T r _)
theorem dst_ran {a : Int} (h : -1 ≤ a ∧ a ≤ 9) {v : Nat} (hv : v < 10) : 0 ≤ dst a v ∧ dst a v ≤ 10 := by
  unfold dst na
  split
  · omega
  · split <;> omega
theorem er_c {r q : Int → Int} {P : pg} (h : ∀ k, k < P.1 → P.2.1 k ≤ 2 → pv r (P.2.2 k) = pv q (P.2.2 k)) : ∀ k, k ≤ P.1 → er r P k = er q P k
  | 0, _ => rfl
  | k + 1, hk => by
    have ih := er_c h k (by omega)
    show e1 r (P.2.1 k) (P.2.2 k) (er r P k) = e1 q (P.2.1 k) (P.2.2 k) (er q P k)
    rw [ih]
    unfold e1 pms
    by_cases z : P.2.1 k ≤ 2
    · rw [h k (by omega) z]
    · rw [if_neg (by omega), if_neg (by omega), if_neg (by omega)]
      simp only [show ¬ P.2.1 k = 0 by omega, show ¬ P.2.1 k = 1 by omega, show ¬ P.2.1 k = 2 by omega, if_false]
def evP (P : pg) (r : Int → Int) : Bool := evp r P
theorem evp_i {r : Int → Int} {P : pg} {m : Nat} {v : Nat} (h : ∀ k, k < P.1 → P.2.1 k ≤ 2 → P.2.2 k ≠ 10000 + m) : evp (rS r m v) P = evp r P := by
  unfold evp
  rw [er_c (fun k hk hk2 => ?_) P.1 (Nat.le_refl _)]
  unfold pv rS
  split
  · rfl
  · rw [fu_at, if_neg (by have := h k hk hk2; omega)]
theorem dst_0 {a : Int} (h : -1 ≤ a) {v : Nat} : 0 < dst a v ↔ a ≠ v := by
  unfold dst na
  split
  · omega
  · split <;> omega
theorem okr_S {r : Int → Int} (h : okr r) (m : Nat) {v : Nat} (hv : v < 10) : okr (rS r m v) := fun j j0 j1 => by
  unfold rS
  rw [fu_at]
  split
  · omega
  · exact h j j0 j1
/-- what the class keeps of the least change -/
def KC (w : wo) (s : cst) : Prop := (0 ≤ s.1 ∧ s.1 ≤ 1000) ∧ wI w 45 0 = s.1 ∧ wI w 45 1 = s.2.1 ∧ wI w 45 2 = s.2.2.1 ∧ wI w 45 3 = s.2.2.2.1 ∧ wI w 45 4 = s.2.2.2.2
def sKC : List Nat := [4500, 4501, 4502, 4503, 4504]
def sCG : List Nat := [4500, 4501, 4502, 4503, 4504, 4699]
def RO (w : wo) (r : Int → Int) : Prop := ∀ j : Int, 0 ≤ j → j < 11 → wA w 46 j = r j
/-- the row but for one mark -/
def ROx (w : wo) (r : Int → Int) (m : Nat) : Prop := ∀ j : Int, 0 ≤ j → j < 11 → j ≠ (m : Int) → wA w 46 j = r j
theorem KC_fr {w v : wo} {s : cst} {l : List Nat} (h : KC w s) (q : fr l w v) (z : fno sKC l = true) : KC v s := by
  unfold KC
  rw [fr_I q (fno_of z (c := 4500) rfl), fr_I q (fno_of z (c := 4501) rfl), fr_I q (fno_of z (c := 4502) rfl), fr_I q (fno_of z (c := 4503) rfl), fr_I q (fno_of z (c := 4504) rfl)]
  exact h
theorem RO_fr {w v : wo} {r : Int → Int} {l : List Nat} (h : RO w r) (q : fr l w v) (z : fhas l 4699 = false) : RO v r := by
  unfold RO
  rw [fr_A (a := 46) q z]
  exact h
section L45
variable {sc : am_X} {w w0 : wo} {A : ab} {ow : Nat → Nat} {a : Nat} {P : pg} {r : Int → Int}
theorem c265 {a b c d e : Int} (ha : 0 ≤ a ∧ a ≤ 1000) : ∃ v, am_F sc 265 [am_R (some 45), am_I (ii a), am_I (ii b), am_I (ii c), am_I (ii d), am_I (ii e)] (wst w) = some (none, wst v) ∧ fr sKC w v ∧ KC v (a, b, c, d, e) := by
  refine ⟨uI (uI (uI (uI (uI w 45 0 a) 45 1 b) 45 2 c) 45 3 d) 45 4 e, ?_, fr_uI (fr_uI (fr_uI (fr_uI (fr_uI (fr_r _ _) rfl) rfl) rfl) rfl) rfl, ha, rfl, rfl, rfl, rfl, rfl⟩
  rw [fq_265]
  simp (disch := omega) only [qB_s, qC_t, qC_f, qI_T, qI_F, qI_t, qI_f, r_I, r_L, r_R, r_V, ii_add, ii_sub, ii_mul, ii_neg, bz_0, bz_1, Bool.true_and, Bool.false_and, Bool.and_true, z00, z11, li_0, pI_45_0, pI_45_1, pI_45_2, pI_45_3, pI_45_4]
theorem c266 (hP : PTo ow w a P) {m : Nat} (hm : m < 6) : am_F sc 266 [am_R (some a), am_I (ii m)] (wst w) = some (some (am_I (ii (bz (bt (wI w a 1) m = 1)))), wst w) := by
  obtain ⟨⟨h1, h2, h3, h4⟩, h5, h6, h7⟩ := hP
  have hg : am_gI (wst w) a 9 1 = some (ii (wI w a 1)) := gI_of (by unfold shp; rw [if_neg (by omega), h4]) rfl
  have hb := bt_ran (wI w a 1) m
  have hbi := bt_ii h6.1 h6.2 (m := m) (by omega) (by omega)
  rw [fq_266]
  by_cases q : bt (wI w a 1) m = 1
  · rw [bz_t q]
    simp (disch := omega) only [qB_s, qC_t, qC_f, qI_T, qI_F, qI_t, qI_f, r_I, r_L, r_R, r_V, ii_add, ii_sub, ii_mul, ii_neg, bz_0, bz_1, Bool.true_and, Bool.false_and, Bool.and_true, z00, z11, li_0, li_1, li_31, hg, hbi, ii_eq]
  · rw [bz_f q]
    simp (disch := omega) only [qB_s, qC_t, qC_f, qI_T, qI_F, qI_t, qI_f, r_I, r_L, r_R, r_V, ii_add, ii_sub, ii_mul, ii_neg, bz_0, bz_1, Bool.true_and, Bool.false_and, Bool.and_true, z00, z11, li_0, li_1, li_31, hg, hbi, ii_eq]
theorem s267 {b : Int} (hb : -1 ≤ b ∧ b ≤ 9) {v : Nat} (hv : v < 10) : am_F sc 267 [am_I (ii b), am_I (ii v)] (wst w) = some (some (am_I (ii (dst b v))), wst w) := by
  have h : am_absI (ii (b - v)) = ii (na (b - v)) := absI_ii (by omega) (by omega)
  rw [fq_267]
  unfold dst
  by_cases q : b = -1
  · rw [if_pos q]
    simp (disch := omega) only [qB_s, qC_t, qC_f, qI_T, qI_F, qI_t, qI_f, r_I, r_L, r_R, r_V, ii_add, ii_sub, ii_mul, ii_neg, bz_0, bz_1, Bool.true_and, Bool.false_and, Bool.and_true, z00, z11, li_0, li_1, li_10, ii_eq]
  · rw [if_neg q]
    simp (disch := omega) only [qB_s, qC_t, qC_f, qI_T, qI_F, qI_t, qI_f, r_I, r_L, r_R, r_V, ii_add, ii_sub, ii_mul, ii_neg, bz_0, bz_1, Bool.true_and, Bool.false_and, Bool.and_true, z00, z11, li_0, li_1, li_10, ii_eq, h]
/-- the marks that the rule names -/
def NB (w : wo) (a : Nat) (m : Nat) : Bool := decide (bt (wI w a 1) m = 1)
theorem PTo_0 (hP : PTo ow w0 a P) (f : fr sCG w0 w) : PTo ow w a P := PTo_d hP (fr_d f rfl _)
theorem NB_0 (hP : PTo ow w0 a P) (f : fr sCG w0 w) (m : Nat) : NB w a m = NB w0 a m := by
  unfold NB
  rw [fr_I f (flow_of (l := sCG) rfl hP.1.1)]
theorem c266b (hP : PTo ow w0 a P) (f : fr sCG w0 w) {m : Nat} (hm : m < 6) : am_F sc 266 [am_R (some a), am_I (ii m)] (wst w) = some (some (am_I (ii (bB (NB w0 a m)))), wst w) := by
  rw [c266 (PTo_0 hP f) hm, ← NB_0 hP f m]
  unfold NB
  by_cases q : bt (wI w a 1) m = 1
  · rw [bz_t q, decide_eq_true q]
    rfl
  · rw [bz_f q, decide_eq_false q]
    rfl
theorem c104b (hP : PTo ow w0 a P) (hok : okP P) (hr : okr r) (f : fr sCG w0 w) (hR : RO w r) : am_is (wst w) a 9 = true ∧ am_F sc 104 [am_R (some a), am_R (some 46)] (wst w) = some (some (am_I (ii (bB (evP P r)))), wst w) := by
  have hT := (PT_of (PTo_0 hP f)).2.1
  refine ⟨is_of hT.choose_spec.1, ?_⟩
  rw [c104 (sc := sc) hr ⟨rfl, hR⟩ hT hok]
  show some (some (am_I (ii (bz (evP P r = true)))), wst w) = _
  cases evP P r <;> rfl
theorem c268 (hP : PTo ow w0 a P) (hok : okP P) (hr : okr r) {m : Nat} (hm : m < 6) {s : cst} (f : fr sCG w0 w) (hR : RO w r) (hK : KC w s) : ∃ v, am_F sc 268 [am_R (some 45), am_R (some a), am_R (some 46), am_I (ii m)] (wst w) = some (none, wst v) ∧ fr sCG w0 v ∧ RO v r ∧ KC v (ph1 (evP P) (NB w0 a) r m s) := by
  have p0 := c266b (sc := sc) hP f hm
  rw [fq_268]
  unfold ph1
  cases hN : NB w0 a m with
  | false =>
    rw [hN, bB_f] at p0
    refine ⟨w, ?_, f, hR, ?_⟩
    · simp (disch := omega) only [qB_s, qC_t, qC_f, qI_T, qI_F, qI_t, qI_f, r_I, r_L, r_R, r_V, ii_add, ii_sub, ii_mul, ii_neg, bz_0, bz_1, Bool.true_and, Bool.false_and, Bool.and_true, z00, z11, li_0, li_1, li_9, li_nat, gI_45_0, is_45, len_46, e_46, t_46, ii_eq, p0]
    · rw [if_neg (by decide)]
      exact hK
  | true =>
    rw [hN, bB_t] at p0
    rw [if_pos rfl]
    have hm' : wA w 46 m = r m := hR m (by omega) (by omega)
    have hrm := hr m (by omega) (by omega)
    obtain ⟨v, e, fv, hv, kv⟩ := lp_s0 (am_W sc 268) (fun (i : Nat) (v : wo) => (23, [some (am_R (some 45)), some (am_R (some a)), some (am_R (some 46)), some (am_I (ii m)), some (am_I (ii (r m))), some (am_I (ii i)), none], [], wst v)) (fun i v => fr sCG w0 v ∧ ROx v r m ∧ KC v (fld (fun v s => cg1 (evP P) r m v s) s i)) 10 (fun i v hi hv => by
      obtain ⟨fv, hv, kv⟩ := hv
      rw [fld_s]
      generalize fld (fun v s => cg1 (evP P) r m v s) s i = t at *
      have p1 := s267 (sc := sc) (w := v) hrm hi
      have d0 := dst_ran hrm hi
      have k0 := kv.1
      have k1 := kv.2.1
      rw [wq_268_23]
      by_cases q1 : 0 < dst (r m) i
      · by_cases q2 : dst (r m) i < t.1
        · have f1 : fr sCG w0 (uA v 46 (fu (wA v 46) m i)) := fr_uA fv rfl
          have hR1 : RO (uA v 46 (fu (wA v 46) m i)) (rS r m i) := fun j j0 j1 => by
            unfold rS
            rw [rA, fu_at, fu_at]
            by_cases z : j = m
            · rw [if_pos z, if_pos z]
            · rw [if_neg z, if_neg z]
              exact hv j j0 j1 z
          have kv1 : KC (uA v 46 (fu (wA v 46) m i)) t := kv
          obtain ⟨p2, p3⟩ := c104b (sc := sc) hP hok (okr_S hr m hi) f1 hR1
          have hx : ROx (uA v 46 (fu (wA v 46) m i)) r m := fun j j0 j1 j2 => by
            rw [rA, fu_at, if_neg j2]
            exact hv j j0 j1 j2
          cases hT : evP P (rS r m i) with
          | false =>
            rw [hT, bB_f] at p3
            refine ⟨_, ?_, f1, hx, ?_⟩
            · simp (disch := omega) only [qB_s, qC_t, qC_f, qI_T, qI_F, qI_t, qI_f, r_I, r_L, r_R, r_V, ii_add, ii_sub, ii_mul, ii_neg, bz_0, bz_1, Bool.true_and, Bool.false_and, Bool.and_true, z00, z11, li_0, li_1, li_9, li_nat, gI_45_0, is_45, len_46, e_46, t_46, ii_lt, ii_eq, p1, k1, p2, p3, nat_1]
            · rw [show cg1 (evP P) r m i t = t from if_neg (fun z => by rw [hT] at z; exact absurd z.2.2 (by decide))]
              exact kv1
          | true =>
            rw [hT, bB_t] at p3
            obtain ⟨u, p4, fu4, ku⟩ := c265 (sc := sc) (w := uA v 46 (fu (wA v 46) m i)) (a := dst (r m) i) (b := m) (c := i) (d := -1) (e := -1) (by omega)
            refine ⟨u, ?_, fr_t f1 (fr_m fu4 rfl), ?_, ?_⟩
            · simp (disch := omega) only [qB_s, qC_t, qC_f, qI_T, qI_F, qI_t, qI_f, r_I, r_L, r_R, r_V, ii_add, ii_sub, ii_mul, ii_neg, bz_0, bz_1, Bool.true_and, Bool.false_and, Bool.and_true, z00, z11, li_0, li_1, li_9, li_nat, gI_45_0, is_45, len_46, e_46, t_46, ii_lt, ii_eq, p1, k1, p2, p3, p4, nat_1]
            · unfold ROx
              rw [fr_A (a := 46) fu4 rfl]
              exact hx
            · rw [show cg1 (evP P) r m i t = (dst (r m) i, (m : Int), (i : Int), -1, -1) from if_pos ⟨q1, q2, hT⟩]
              exact ku
        · refine ⟨v, ?_, fv, hv, ?_⟩
          · simp (disch := omega) only [qB_s, qC_t, qC_f, qI_T, qI_F, qI_t, qI_f, r_I, r_L, r_R, r_V, ii_add, ii_sub, ii_mul, ii_neg, bz_0, bz_1, Bool.true_and, Bool.false_and, Bool.and_true, z00, z11, li_0, li_1, li_9, li_nat, gI_45_0, is_45, len_46, e_46, t_46, ii_lt, ii_eq, p1, k1, nat_1]
          · rw [show cg1 (evP P) r m i t = t from if_neg (fun z => q2 z.2.1)]
            exact kv
      · refine ⟨v, ?_, fv, hv, ?_⟩
        · simp (disch := omega) only [qB_s, qC_t, qC_f, qI_T, qI_F, qI_t, qI_f, r_I, r_L, r_R, r_V, ii_add, ii_sub, ii_mul, ii_neg, bz_0, bz_1, Bool.true_and, Bool.false_and, Bool.and_true, z00, z11, li_0, li_1, li_9, li_nat, gI_45_0, is_45, len_46, e_46, t_46, ii_lt, ii_eq, p1, nat_1]
        · rw [show cg1 (evP P) r m i t = t from if_neg (fun z => q1 z.1)]
          exact kv) w ⟨f, fun j j0 j1 _ => hR j j0 j1, hK⟩
    have e' : am_W sc 268 (23, [some (am_R (some 45)), some (am_R (some a)), some (am_R (some 46)), some (am_I (ii m)), some (am_I (ii (r m))), some (am_I (ii 0)), none], [], wst w) = _ := e
    refine ⟨uA v 46 (fu (wA v 46) m (r m)), ?_, fr_uA fv rfl, fun j j0 j1 => ?_, kv⟩
    · simp (disch := omega) only [qB_s, qC_t, qC_f, qI_T, qI_F, qI_t, qI_f, r_I, r_L, r_R, r_V, ii_add, ii_sub, ii_mul, ii_neg, bz_0, bz_1, Bool.true_and, Bool.false_and, Bool.and_true, z00, z11, li_0, li_1, li_9, li_nat, gI_45_0, is_45, len_46, e_46, t_46, li_nat, ii_eq, ii_lt, p0, hm']
      rw [e', wq_268_23]
      simp (disch := omega) only [qB_s, qC_t, qC_f, qI_T, qI_F, qI_t, qI_f, r_I, r_L, r_R, r_V, ii_add, ii_sub, ii_mul, ii_neg, bz_0, bz_1, Bool.true_and, Bool.false_and, Bool.and_true, z00, z11, li_0, li_1, li_9, li_nat, gI_45_0, is_45, len_46, e_46, t_46, ii_lt]
    · rw [rA, fu_at]
      split
      · rename_i z
        rw [z]
      · rename_i z
        exact hv j j0 j1 z
theorem ph3_s {T : (Int → Int) → Bool} {N : Nat → Bool} {m v m2 : Nat} {s : cst} (h : ¬ (m < m2 ∧ N m2 = true)) : ph3 T N r m v m2 s = s := if_neg h
theorem ph3_0 {T : (Int → Int) → Bool} {N : Nat → Bool} {m v : Nat} {s : cst} (h : ¬ (0 < dst (r m) v ∧ dst (r m) v < s.1)) : fld (fun m2 s => ph3 T N r m v m2 s) s 6 = s := fld_id (fun m2 _ => by
  unfold ph3
  split
  · refine fld_id (fun v2 _ => ?_)
    unfold cg2
    rw [if_neg]
    rintro ⟨z1, z2, z3, z⟩
    exact h ⟨z1, by omega⟩
  · rfl)
theorem c269 (hP : PTo ow w0 a P) (hok : okP P) (hr : okr r) {m v : Nat} (hm : m < 6) (hv : v < 10) (hd : 0 < dst (r m) v) {s : cst} (f : fr sCG w0 w) (hR : RO w (rS r m v)) (hK : KC w s) : ∃ u, am_F sc 269 [am_R (some 45), am_R (some a), am_R (some 46), am_I (ii m), am_I (ii (dst (r m) v))] (wst w) = some (none, wst u) ∧ fr sCG w0 u ∧ RO u (rS r m v) ∧ KC u (fld (fun m2 s => ph3 (evP P) (NB w0 a) r m v m2 s) s 6) := by
  have hd2 := dst_ran (hr m (by omega) (by omega)) hv
  have hst : fld (fun m2 s => ph3 (evP P) (NB w0 a) r m v m2 s) s (m + 1) = s := fld_id (fun k hk => ph3_s (by omega))
  obtain ⟨u, e, -, fu', hu, ku⟩ := lp_s (am_W sc 269) (fun (i : Nat) (u : wo) => (5, [some (am_R (some 45)), some (am_R (some a)), some (am_R (some 46)), some (am_I (ii m)), some (am_I (ii (dst (r m) v))), some (am_I (ii i)), none, none, none], [], wst u)) (fun i u => m + 1 ≤ i ∧ fr sCG w0 u ∧ RO u (rS r m v) ∧ KC u (fld (fun m2 s => ph3 (evP P) (NB w0 a) r m v m2 s) s i)) 6 (fun i u hi hu => by
    obtain ⟨hmi, fu', hu, ku⟩ := hu
    rw [fld_s]
    generalize fld (fun m2 s => ph3 (evP P) (NB w0 a) r m v m2 s) s i = t at *
    have p0 := c266b (sc := sc) hP fu' hi
    cases hN : NB w0 a i with
    | false =>
      rw [hN, bB_f] at p0
      refine ⟨u, ?_, by omega, fu', hu, ?_⟩
      · rw [wq_269_5]
        simp (disch := omega) only [qB_s, qC_t, qC_f, qI_T, qI_F, qI_t, qI_f, r_I, r_L, r_R, r_V, ii_add, ii_sub, ii_mul, ii_neg, bz_0, bz_1, Bool.true_and, Bool.false_and, Bool.and_true, z00, z11, li_0, li_1, li_6, li_9, li_nat, gI_45_0, is_45, len_46, e_46, t_46, li_nat, ii_lt, ii_eq, p0, nat_1]
      · rw [ph3_s (fun z => by rw [hN] at z; exact absurd z.2 (by decide))]
        exact ku
    | true =>
      rw [hN, bB_t] at p0
      have hri : rS r m v i = r i := by
        unfold rS
        rw [fu_at, if_neg (by omega)]
      have hi' : wA u 46 i = r i := by rw [hu i (by omega) (by omega), hri]
      have hrm := hr i (by omega) (by omega)
      obtain ⟨x, ex, fx, hx, kx⟩ := lp_s0 (am_W sc 269) (fun (j : Nat) (x : wo) => (37, [some (am_R (some 45)), some (am_R (some a)), some (am_R (some 46)), some (am_I (ii m)), some (am_I (ii (dst (r m) v))), some (am_I (ii i)), some (am_I (ii (r i))), some (am_I (ii j)), none], [], wst x)) (fun j x => fr sCG w0 x ∧ ROx x (rS r m v) i ∧ KC x (fld (fun v2 s => cg2 (evP P) r m v i v2 s) t j)) 10 (fun j x hj hx => by
        obtain ⟨fx, hx, kx⟩ := hx
        rw [fld_s]
        generalize fld (fun v2 s => cg2 (evP P) r m v i v2 s) t j = y at *
        have p1 := s267 (sc := sc) (w := x) hrm hj
        have d0 := dst_ran hrm hj
        have k0 := kx.1
        have k1 := kx.2.1
        rw [wq_269_37]
        by_cases q1 : 0 < dst (r i) j
        · by_cases q2 : dst (r m) v + dst (r i) j < y.1
          · have f1 : fr sCG w0 (uA x 46 (fu (wA x 46) i j)) := fr_uA fx rfl
            have hR1 : RO (uA x 46 (fu (wA x 46) i j)) (rS (rS r m v) i j) := fun z j0 j1 => by
              show _ = fu (rS r m v) i j z
              rw [rA, fu_at, fu_at]
              by_cases z2 : z = i
              · rw [if_pos z2, if_pos z2]
              · rw [if_neg z2, if_neg z2]
                exact hx z j0 j1 z2
            have kx1 : KC (uA x 46 (fu (wA x 46) i j)) y := kx
            obtain ⟨p2, p3⟩ := c104b (sc := sc) hP hok (okr_S (okr_S hr m hv) i hj) f1 hR1
            have hx2 : ROx (uA x 46 (fu (wA x 46) i j)) (rS r m v) i := fun z j0 j1 j2 => by
              rw [rA, fu_at, if_neg j2]
              exact hx z j0 j1 j2
            have hmv : fu (wA x 46) i j m = v := by
              rw [fu_at, if_neg (by omega), hx m (by omega) (by omega) (by omega)]
              unfold rS
              rw [fu_at, if_pos rfl]
            cases hT : evP P (rS (rS r m v) i j) with
            | false =>
              rw [hT, bB_f] at p3
              refine ⟨_, ?_, f1, hx2, ?_⟩
              · simp (disch := omega) only [qB_s, qC_t, qC_f, qI_T, qI_F, qI_t, qI_f, r_I, r_L, r_R, r_V, ii_add, ii_sub, ii_mul, ii_neg, bz_0, bz_1, Bool.true_and, Bool.false_and, Bool.and_true, z00, z11, li_0, li_1, li_6, li_9, li_nat, gI_45_0, is_45, len_46, e_46, t_46, ii_lt, ii_eq, p1, k1, p2, p3, nat_1]
              · rw [show cg2 (evP P) r m v i j y = y from if_neg (fun z => by rw [hT] at z; exact absurd z.2.2.2 (by decide))]
                exact kx1
            | true =>
              rw [hT, bB_t] at p3
              obtain ⟨u2, p4, fu4, ku2⟩ := c265 (sc := sc) (w := uA x 46 (fu (wA x 46) i j)) (a := dst (r m) v + dst (r i) j) (b := m) (c := v) (d := i) (e := j) (by omega)
              refine ⟨u2, ?_, fr_t f1 (fr_m fu4 rfl), ?_, ?_⟩
              · simp (disch := omega) only [qB_s, qC_t, qC_f, qI_T, qI_F, qI_t, qI_f, r_I, r_L, r_R, r_V, ii_add, ii_sub, ii_mul, ii_neg, bz_0, bz_1, Bool.true_and, Bool.false_and, Bool.and_true, z00, z11, li_0, li_1, li_6, li_9, li_nat, gI_45_0, is_45, len_46, e_46, t_46, ii_lt, ii_eq, p1, k1, p2, p3, rA, hmv, p4, nat_1]
              · unfold ROx
                rw [fr_A (a := 46) fu4 rfl]
                exact hx2
              · rw [show cg2 (evP P) r m v i j y = (dst (r m) v + dst (r i) j, (m : Int), (v : Int), (i : Int), (j : Int)) from if_pos ⟨hd, q1, q2, hT⟩]
                exact ku2
          · refine ⟨x, ?_, fx, hx, ?_⟩
            · simp (disch := omega) only [qB_s, qC_t, qC_f, qI_T, qI_F, qI_t, qI_f, r_I, r_L, r_R, r_V, ii_add, ii_sub, ii_mul, ii_neg, bz_0, bz_1, Bool.true_and, Bool.false_and, Bool.and_true, z00, z11, li_0, li_1, li_6, li_9, li_nat, gI_45_0, is_45, len_46, e_46, t_46, ii_lt, ii_eq, p1, k1, nat_1]
            · rw [show cg2 (evP P) r m v i j y = y from if_neg (fun z => q2 z.2.2.1)]
              exact kx
        · refine ⟨x, ?_, fx, hx, ?_⟩
          · simp (disch := omega) only [qB_s, qC_t, qC_f, qI_T, qI_F, qI_t, qI_f, r_I, r_L, r_R, r_V, ii_add, ii_sub, ii_mul, ii_neg, bz_0, bz_1, Bool.true_and, Bool.false_and, Bool.and_true, z00, z11, li_0, li_1, li_6, li_9, li_nat, gI_45_0, is_45, len_46, e_46, t_46, ii_lt, ii_eq, p1, nat_1]
          · rw [show cg2 (evP P) r m v i j y = y from if_neg (fun z => q1 z.2.1)]
            exact kx) u ⟨fu', fun j j0 j1 _ => hu j j0 j1, ku⟩
      have ex' : am_W sc 269 (37, [some (am_R (some 45)), some (am_R (some a)), some (am_R (some 46)), some (am_I (ii m)), some (am_I (ii (dst (r m) v))), some (am_I (ii i)), some (am_I (ii (r i))), some (am_I (ii 0)), none], [], wst u) = _ := ex
      refine ⟨uA x 46 (fu (wA x 46) i (r i)), ?_, by omega, fr_uA fx rfl, fun j j0 j1 => ?_, ?_⟩
      · rw [wq_269_5]
        simp (disch := omega) only [qB_s, qC_t, qC_f, qI_T, qI_F, qI_t, qI_f, r_I, r_L, r_R, r_V, ii_add, ii_sub, ii_mul, ii_neg, bz_0, bz_1, Bool.true_and, Bool.false_and, Bool.and_true, z00, z11, li_0, li_1, li_6, li_9, li_nat, gI_45_0, is_45, len_46, e_46, t_46, li_nat, ii_lt, ii_eq, p0, hi']
        rw [ex', wq_269_37]
        simp (disch := omega) only [qB_s, qC_t, qC_f, qI_T, qI_F, qI_t, qI_f, r_I, r_L, r_R, r_V, ii_add, ii_sub, ii_mul, ii_neg, bz_0, bz_1, Bool.true_and, Bool.false_and, Bool.and_true, z00, z11, li_0, li_1, li_6, li_9, li_nat, gI_45_0, is_45, len_46, e_46, t_46, ii_lt, nat_1]
      · rw [rA, fu_at]
        split
        · rename_i z
          rw [z, hri]
        · rename_i z
          exact hx j j0 j1 z
      · rw [show ph3 (evP P) (NB w0 a) r m v i t = fld (fun v2 s => cg2 (evP P) r m v i v2 s) t 10 from if_pos ⟨by omega, hN⟩]
        exact kx) (5 - m) (m + 1) w (by omega) ⟨Nat.le_refl _, f, hR, by rw [hst]; exact hK⟩
  have e' : am_W sc 269 (5, [some (am_R (some 45)), some (am_R (some a)), some (am_R (some 46)), some (am_I (ii m)), some (am_I (ii (dst (r m) v))), some (am_I (ii ((m : Int) + 1))), none, none, none], [], wst w) = _ := e
  refine ⟨u, ?_, fu', hu, ku⟩
  rw [fq_269]
  simp (disch := omega) only [qB_s, qC_t, qC_f, qI_T, qI_F, qI_t, qI_f, r_I, r_L, r_R, r_V, ii_add, ii_sub, ii_mul, ii_neg, bz_0, bz_1, Bool.true_and, Bool.false_and, Bool.and_true, z00, z11, li_0, li_1, li_6, li_9, li_nat, gI_45_0, is_45]
  rw [e', wq_269_5]
  simp (disch := omega) only [qB_s, qC_t, qC_f, qI_T, qI_F, qI_t, qI_f, r_I, r_L, r_R, r_V, ii_add, ii_sub, ii_mul, ii_neg, bz_0, bz_1, Bool.true_and, Bool.false_and, Bool.and_true, z00, z11, li_0, li_1, li_6, li_9, li_nat, gI_45_0, is_45, len_46, e_46, t_46, ii_lt]
theorem c270 (hP : PTo ow w0 a P) (hok : okP P) (hr : okr r) {m : Nat} (hm : m < 6) {s : cst} (f : fr sCG w0 w) (hR : RO w r) (hK : KC w s) : ∃ v, am_F sc 270 [am_R (some 45), am_R (some a), am_R (some 46), am_I (ii m)] (wst w) = some (none, wst v) ∧ fr sCG w0 v ∧ RO v r ∧ KC v (ph2 (evP P) (NB w0 a) r m s) := by
  have p0 := c266b (sc := sc) hP f hm
  rw [fq_270]
  unfold ph2
  cases hN : NB w0 a m with
  | false =>
    rw [hN, bB_f] at p0
    refine ⟨w, ?_, f, hR, ?_⟩
    · simp (disch := omega) only [qB_s, qC_t, qC_f, qI_T, qI_F, qI_t, qI_f, r_I, r_L, r_R, r_V, ii_add, ii_sub, ii_mul, ii_neg, bz_0, bz_1, Bool.true_and, Bool.false_and, Bool.and_true, z00, z11, li_0, li_1, li_9, li_nat, gI_45_0, is_45, len_46, e_46, t_46, ii_eq, p0]
    · rw [if_neg (by decide)]
      exact hK
  | true =>
    rw [hN, bB_t] at p0
    rw [if_pos rfl]
    have hm' : wA w 46 m = r m := hR m (by omega) (by omega)
    have hrm := hr m (by omega) (by omega)
    obtain ⟨v, e, fv, hv, kv⟩ := lp_s0 (am_W sc 270) (fun (i : Nat) (v : wo) => (23, [some (am_R (some 45)), some (am_R (some a)), some (am_R (some 46)), some (am_I (ii m)), some (am_I (ii (r m))), some (am_I (ii i)), none], [], wst v)) (fun i v => fr sCG w0 v ∧ ROx v r m ∧ KC v (fld (fun v s => fld (fun m2 s => ph3 (evP P) (NB w0 a) r m v m2 s) s 6) s i)) 10 (fun i v hi hv => by
      obtain ⟨fv, hv, kv⟩ := hv
      rw [fld_s]
      generalize fld (fun v s => fld (fun m2 s => ph3 (evP P) (NB w0 a) r m v m2 s) s 6) s i = t at *
      have p1 := s267 (sc := sc) (w := v) hrm hi
      have d0 := dst_ran hrm hi
      have k0 := kv.1
      have k1 := kv.2.1
      rw [wq_270_23]
      by_cases q1 : 0 < dst (r m) i
      · by_cases q2 : dst (r m) i < t.1
        · have f1 : fr sCG w0 (uA v 46 (fu (wA v 46) m i)) := fr_uA fv rfl
          have hR1 : RO (uA v 46 (fu (wA v 46) m i)) (rS r m i) := fun j j0 j1 => by
            unfold rS
            rw [rA, fu_at, fu_at]
            by_cases z : j = m
            · rw [if_pos z, if_pos z]
            · rw [if_neg z, if_neg z]
              exact hv j j0 j1 z
          have kv1 : KC (uA v 46 (fu (wA v 46) m i)) t := kv
          obtain ⟨u, p2, fu2, hu, ku⟩ := c269 (sc := sc) hP hok hr hm hi q1 f1 hR1 kv1
          refine ⟨u, ?_, fu2, fun j j0 j1 j2 => ?_, ku⟩
          · simp (disch := omega) only [qB_s, qC_t, qC_f, qI_T, qI_F, qI_t, qI_f, r_I, r_L, r_R, r_V, ii_add, ii_sub, ii_mul, ii_neg, bz_0, bz_1, Bool.true_and, Bool.false_and, Bool.and_true, z00, z11, li_0, li_1, li_9, li_nat, gI_45_0, is_45, len_46, e_46, t_46, ii_lt, ii_eq, p1, k1, p2, nat_1]
          · rw [hu j j0 j1]
            unfold rS
            rw [fu_at, if_neg j2]
        · refine ⟨v, ?_, fv, hv, ?_⟩
          · simp (disch := omega) only [qB_s, qC_t, qC_f, qI_T, qI_F, qI_t, qI_f, r_I, r_L, r_R, r_V, ii_add, ii_sub, ii_mul, ii_neg, bz_0, bz_1, Bool.true_and, Bool.false_and, Bool.and_true, z00, z11, li_0, li_1, li_9, li_nat, gI_45_0, is_45, len_46, e_46, t_46, ii_lt, ii_eq, p1, k1, nat_1]
          · rw [ph3_0 (fun z => q2 z.2)]
            exact kv
      · refine ⟨v, ?_, fv, hv, ?_⟩
        · simp (disch := omega) only [qB_s, qC_t, qC_f, qI_T, qI_F, qI_t, qI_f, r_I, r_L, r_R, r_V, ii_add, ii_sub, ii_mul, ii_neg, bz_0, bz_1, Bool.true_and, Bool.false_and, Bool.and_true, z00, z11, li_0, li_1, li_9, li_nat, gI_45_0, is_45, len_46, e_46, t_46, ii_lt, ii_eq, p1, nat_1]
        · rw [ph3_0 (fun z => q1 z.1)]
          exact kv) w ⟨f, fun j j0 j1 _ => hR j j0 j1, hK⟩
    have e' : am_W sc 270 (23, [some (am_R (some 45)), some (am_R (some a)), some (am_R (some 46)), some (am_I (ii m)), some (am_I (ii (r m))), some (am_I (ii 0)), none], [], wst w) = _ := e
    refine ⟨uA v 46 (fu (wA v 46) m (r m)), ?_, fr_uA fv rfl, fun j j0 j1 => ?_, kv⟩
    · simp (disch := omega) only [qB_s, qC_t, qC_f, qI_T, qI_F, qI_t, qI_f, r_I, r_L, r_R, r_V, ii_add, ii_sub, ii_mul, ii_neg, bz_0, bz_1, Bool.true_and, Bool.false_and, Bool.and_true, z00, z11, li_0, li_1, li_9, li_nat, gI_45_0, is_45, len_46, e_46, t_46, li_nat, ii_eq, ii_lt, p0, hm']
      rw [e', wq_270_23]
      simp (disch := omega) only [qB_s, qC_t, qC_f, qI_T, qI_F, qI_t, qI_f, r_I, r_L, r_R, r_V, ii_add, ii_sub, ii_mul, ii_neg, bz_0, bz_1, Bool.true_and, Bool.false_and, Bool.and_true, z00, z11, li_0, li_1, li_9, li_nat, gI_45_0, is_45, len_46, e_46, t_46, ii_lt]
    · rw [rA, fu_at]
      split
      · rename_i z
        rw [z]
      · rename_i z
        exact hv j j0 j1 z
theorem c271 (hP : PTo ow w0 a P) (hok : okP P) (hr : okr r) (f : fr sCG w0 w) (hR : RO w r) : ∃ v, am_F sc 271 [am_R (some 45), am_R (some a), am_R (some 46)] (wst w) = some (none, wst v) ∧ fr sCG w0 v ∧ KC v (chg (evP P) (NB w0 a) r) := by
  obtain ⟨u, p1, f1, k1⟩ := c265 (sc := sc) (w := w) (a := 1000) (b := -1) (c := -1) (d := -1) (e := -1) (by decide)
  have f1' : fr sCG w0 u := fr_t f (fr_m f1 rfl)
  have hR1 := RO_fr hR f1 rfl
  obtain ⟨p2, p3⟩ := c104b (sc := sc) hP hok hr f1' hR1
  rw [fq_271]
  unfold chg
  cases hT : evP P r with
  | true =>
    rw [hT, bB_t] at p3
    obtain ⟨v, p4, f2, k2⟩ := c265 (sc := sc) (w := u) (a := 0) (b := -1) (c := -1) (d := -1) (e := -1) (by decide)
    refine ⟨v, ?_, fr_t f1' (fr_m f2 rfl), ?_⟩
    · simp (disch := omega) only [qB_s, qC_t, qC_f, qI_T, qI_F, qI_t, qI_f, r_I, r_L, r_R, r_V, ii_add, ii_sub, ii_mul, ii_neg, bz_0, bz_1, Bool.true_and, Bool.false_and, Bool.and_true, z00, z11, li_0, li_1, li_1000, li_11, li_6, li_nat, is_45, len_46, li_nat, ii_lt, ii_eq, p1, p2, p3, p4]
    · rw [if_pos rfl]
      exact k2
  | false =>
    rw [hT, bB_f] at p3
    rw [if_neg (by decide)]
    obtain ⟨v, e, fv, hv, kv⟩ := lp_s0 (am_W sc 271) (fun (i : Nat) (v : wo) => (39, [some (am_R (some 45)), some (am_R (some a)), some (am_R (some 46)), some (am_I (ii i))], [], wst v)) (fun i v => fr sCG w0 v ∧ RO v r ∧ KC v (fld (fun m s => ph1 (evP P) (NB w0 a) r m s) (1000, -1, -1, -1, -1) i)) 6 (fun i v hi hv => by
      obtain ⟨x, e, h⟩ := c268 (sc := sc) hP hok hr hi hv.1 hv.2.1 hv.2.2
      refine ⟨x, ?_, h⟩
      rw [wq_271_39]
      simp (disch := omega) only [qB_s, qC_t, qC_f, qI_T, qI_F, qI_t, qI_f, r_I, r_L, r_R, r_V, ii_add, ii_sub, ii_mul, ii_neg, bz_0, bz_1, Bool.true_and, Bool.false_and, Bool.and_true, z00, z11, li_0, li_1, li_1000, li_11, li_6, li_nat, is_45, ii_lt, e, nat_1]) u ⟨f1', hR1, k1⟩
    obtain ⟨x, e2, fx, hx, kx⟩ := lp_s0 (am_W sc 271) (fun (i : Nat) (v : wo) => (60, [some (am_R (some 45)), some (am_R (some a)), some (am_R (some 46)), some (am_I (ii i))], [], wst v)) (fun i v => fr sCG w0 v ∧ RO v r ∧ KC v (fld (fun m s => ph2 (evP P) (NB w0 a) r m s) (fld (fun m s => ph1 (evP P) (NB w0 a) r m s) (1000, -1, -1, -1, -1) 6) i)) 6 (fun i v hi hv => by
      obtain ⟨x, e, h⟩ := c270 (sc := sc) hP hok hr hi hv.1 hv.2.1 hv.2.2
      refine ⟨x, ?_, h⟩
      rw [wq_271_60]
      simp (disch := omega) only [qB_s, qC_t, qC_f, qI_T, qI_F, qI_t, qI_f, r_I, r_L, r_R, r_V, ii_add, ii_sub, ii_mul, ii_neg, bz_0, bz_1, Bool.true_and, Bool.false_and, Bool.and_true, z00, z11, li_0, li_1, li_1000, li_11, li_6, li_nat, is_45, ii_lt, e, nat_1]) v ⟨fv, hv, kv⟩
    have e' : am_W sc 271 (39, [some (am_R (some 45)), some (am_R (some a)), some (am_R (some 46)), some (am_I (ii 0))], [], wst u) = _ := e
    have e2' : am_W sc 271 (60, [some (am_R (some 45)), some (am_R (some a)), some (am_R (some 46)), some (am_I (ii 0))], [], wst v) = _ := e2
    refine ⟨x, ?_, fx, kx⟩
    simp (disch := omega) only [qB_s, qC_t, qC_f, qI_T, qI_F, qI_t, qI_f, r_I, r_L, r_R, r_V, ii_add, ii_sub, ii_mul, ii_neg, bz_0, bz_1, Bool.true_and, Bool.false_and, Bool.and_true, z00, z11, li_0, li_1, li_1000, li_11, li_6, li_nat, is_45, len_46, li_nat, ii_lt, ii_eq, p1, p2, p3]
    rw [e', wq_271_39]
    simp (disch := omega) only [qB_s, qC_t, qC_f, qI_T, qI_F, qI_t, qI_f, r_I, r_L, r_R, r_V, ii_add, ii_sub, ii_mul, ii_neg, bz_0, bz_1, Bool.true_and, Bool.false_and, Bool.and_true, z00, z11, li_0, li_1, li_1000, li_11, li_6, li_nat, is_45, ii_lt]
    rw [e2', wq_271_60]
    simp (disch := omega) only [qB_s, qC_t, qC_f, qI_T, qI_F, qI_t, qI_f, r_I, r_L, r_R, r_V, ii_add, ii_sub, ii_mul, ii_neg, bz_0, bz_1, Bool.true_and, Bool.false_and, Bool.and_true, z00, z11, li_0, li_1, li_1000, li_11, li_6, li_nat, is_45, ii_lt]
theorem chg_hN (hP : PTo ow w a P) : ∀ m, m < 6 → NB w a m = false → ∀ (r : Int → Int) (v : Nat), (evP P) (rS r m v) = (evP P) r := fun m hm h r v => by
  unfold NB at h
  rw [decide_eq_false_iff_not] at h
  exact evp_i (fun k hk hk2 e => h (hP.2.2.2 k m hk hk2 (by omega) (by omega) e))
/-- values that a change may hold -/
def cgR (s : cst) : Prop := (0 ≤ s.1 ∧ s.1 ≤ 1000) ∧ (-1 ≤ s.2.1 ∧ s.2.1 < 6) ∧ (-1 ≤ s.2.2.2.1 ∧ s.2.2.2.1 < 6)
theorem chg_ran (hr : okr r) (T : (Int → Int) → Bool) (N : Nat → Bool) : cgR (chg T N r) := by
  unfold chg
  split
  · exact ⟨⟨by decide, by decide⟩, ⟨by decide, by decide⟩, ⟨by decide, by decide⟩⟩
  · refine fld_I (I := cgR) (fun m hm s hs => ?_) (fld_I (I := cgR) (fun m hm s hs => ?_) ⟨⟨by decide, by decide⟩, ⟨by decide, by decide⟩, ⟨by decide, by decide⟩⟩)
    · unfold ph2
      split
      · refine fld_I (I := cgR) (fun v hv s hs => fld_I (I := cgR) (fun m2 hm2 s hs => ?_) hs) hs
        unfold ph3
        split
        · refine fld_I (I := cgR) (fun v2 hv2 s hs => ?_) hs
          have d1 := dst_ran (hr m (by omega) (by omega)) hv
          have d2 := dst_ran (hr m2 (by omega) (by omega)) hv2
          unfold cg2
          split
          · exact ⟨⟨by show 0 ≤ dst (r m) v + dst (r m2) v2; omega, by show dst (r m) v + dst (r m2) v2 ≤ 1000; omega⟩, ⟨by show -1 ≤ (m : Int); omega, by show (m : Int) < 6; omega⟩, ⟨by show -1 ≤ (m2 : Int); omega, by show (m2 : Int) < 6; omega⟩⟩
          · exact hs
        · exact hs
      · exact hs
    · unfold ph1
      split
      · refine fld_I (I := cgR) (fun v hv s hs => ?_) hs
        have d1 := dst_ran (hr m (by omega) (by omega)) hv
        unfold cg1
        split
        · exact ⟨⟨by show 0 ≤ dst (r m) v; omega, by show dst (r m) v ≤ 1000; omega⟩, ⟨by show -1 ≤ (m : Int); omega, by show (m : Int) < 6; omega⟩, ⟨by show (-1 : Int) ≤ -1; decide, by show (-1 : Int) < 6; decide⟩⟩
        · exact hs
      · exact hs
theorem c272 {s : cst} (hK : KC w s) (hs : cgR s) {x : Int} (hx : 0 ≤ x ∧ x ≤ 5) : am_F sc 272 [am_R (some 45), am_I (ii x)] (wst w) = some (some (am_I (ii (cgA s x))), wst w) := by
  obtain ⟨k0, k1, k2, k3, k4, k5⟩ := hK
  obtain ⟨s1, s2, s3⟩ := hs
  rw [fq_272]
  unfold cgA
  by_cases q : s.1 = 1000
  · rw [if_pos q]
    simp (disch := omega) only [qB_s, qC_t, qC_f, qI_T, qI_F, qI_t, qI_f, r_I, r_L, r_R, r_V, ii_add, ii_sub, ii_mul, ii_neg, bz_0, bz_1, Bool.true_and, Bool.false_and, Bool.and_true, z00, z11, li_0, li_1, li_1000, li_2, li_3, li_4, gI_45_0, gI_45_1, gI_45_2, gI_45_3, gI_45_4, ii_eq, k1]
  · rw [if_neg q]
    by_cases q0 : x = 0
    · rw [if_pos q0]
      simp (disch := omega) only [qB_s, qC_t, qC_f, qI_T, qI_F, qI_t, qI_f, r_I, r_L, r_R, r_V, ii_add, ii_sub, ii_mul, ii_neg, bz_0, bz_1, Bool.true_and, Bool.false_and, Bool.and_true, z00, z11, li_0, li_1, li_1000, li_2, li_3, li_4, gI_45_0, gI_45_1, gI_45_2, gI_45_3, gI_45_4, ii_eq, k1]
    · rw [if_neg q0]
      by_cases q1 : x = 1
      · rw [if_pos q1]
        by_cases z1 : s.2.1 = -1
        · rw [if_pos z1]
          simp (disch := omega) only [qB_s, qC_t, qC_f, qI_T, qI_F, qI_t, qI_f, r_I, r_L, r_R, r_V, ii_add, ii_sub, ii_mul, ii_neg, bz_0, bz_1, Bool.true_and, Bool.false_and, Bool.and_true, z00, z11, li_0, li_1, li_1000, li_2, li_3, li_4, gI_45_0, gI_45_1, gI_45_2, gI_45_3, gI_45_4, ii_eq, k1, k2]
        · rw [if_neg z1]
          by_cases z2 : s.2.2.2.1 = -1
          · rw [if_pos z2]
            simp (disch := omega) only [qB_s, qC_t, qC_f, qI_T, qI_F, qI_t, qI_f, r_I, r_L, r_R, r_V, ii_add, ii_sub, ii_mul, ii_neg, bz_0, bz_1, Bool.true_and, Bool.false_and, Bool.and_true, z00, z11, li_0, li_1, li_1000, li_2, li_3, li_4, gI_45_0, gI_45_1, gI_45_2, gI_45_3, gI_45_4, ii_eq, k1, k2, k4]
          · rw [if_neg z2]
            simp (disch := omega) only [qB_s, qC_t, qC_f, qI_T, qI_F, qI_t, qI_f, r_I, r_L, r_R, r_V, ii_add, ii_sub, ii_mul, ii_neg, bz_0, bz_1, Bool.true_and, Bool.false_and, Bool.and_true, z00, z11, li_0, li_1, li_1000, li_2, li_3, li_4, gI_45_0, gI_45_1, gI_45_2, gI_45_3, gI_45_4, ii_eq, k1, k2, k4]
      · rw [if_neg q1]
        by_cases q2 : x = 2
        · rw [if_pos q2]
          simp (disch := omega) only [qB_s, qC_t, qC_f, qI_T, qI_F, qI_t, qI_f, r_I, r_L, r_R, r_V, ii_add, ii_sub, ii_mul, ii_neg, bz_0, bz_1, Bool.true_and, Bool.false_and, Bool.and_true, z00, z11, li_0, li_1, li_1000, li_2, li_3, li_4, gI_45_0, gI_45_1, gI_45_2, gI_45_3, gI_45_4, ii_eq, k1, k2]
        · rw [if_neg q2]
          by_cases q3 : x = 3
          · rw [if_pos q3]
            simp (disch := omega) only [qB_s, qC_t, qC_f, qI_T, qI_F, qI_t, qI_f, r_I, r_L, r_R, r_V, ii_add, ii_sub, ii_mul, ii_neg, bz_0, bz_1, Bool.true_and, Bool.false_and, Bool.and_true, z00, z11, li_0, li_1, li_1000, li_2, li_3, li_4, gI_45_0, gI_45_1, gI_45_2, gI_45_3, gI_45_4, ii_eq, k1, k3]
          · rw [if_neg q3]
            by_cases q4 : x = 4
            · rw [if_pos q4]
              simp (disch := omega) only [qB_s, qC_t, qC_f, qI_T, qI_F, qI_t, qI_f, r_I, r_L, r_R, r_V, ii_add, ii_sub, ii_mul, ii_neg, bz_0, bz_1, Bool.true_and, Bool.false_and, Bool.and_true, z00, z11, li_0, li_1, li_1000, li_2, li_3, li_4, gI_45_0, gI_45_1, gI_45_2, gI_45_3, gI_45_4, ii_eq, k1, k4]
            · rw [if_neg q4]
              simp (disch := omega) only [qB_s, qC_t, qC_f, qI_T, qI_F, qI_t, qI_f, r_I, r_L, r_R, r_V, ii_add, ii_sub, ii_mul, ii_neg, bz_0, bz_1, Bool.true_and, Bool.false_and, Bool.and_true, z00, z11, li_0, li_1, li_1000, li_2, li_3, li_4, gI_45_0, gI_45_1, gI_45_2, gI_45_3, gI_45_4, ii_eq, k1, k5]
/-- the least change of a case under a rule -/
def cgF (A : ab) (r k : Int) : cst := chg (evP (A.2.2.2.1.2 r)) (fun _ => true) (rw1 (aG A) k)
theorem x_273 (hC : RC ow w A) (hA : okA A) {k r x : Int} (hk1 : -2147483648 ≤ k) (hk2 : k ≤ 2147483647) (hr1 : -2147483648 ≤ r) (hr2 : r ≤ 2147483647) (hx1 : -2147483648 ≤ x) (hx2 : x ≤ 2147483647) : ∃ u, am_F sc 273 [am_R (some 0), am_I (ii k), am_I (ii r), am_I (ii x)] (wst w) = some (some (am_I (ii (if (0 ≤ r ∧ r < A.2.2.2.1.1) ∧ (0 ≤ k ∧ k < A.1.1) ∧ (0 ≤ x ∧ x ≤ 5) then cgA (cgF A r k) x else -1))), wst u) ∧ fr scC w u := by
  have hn8 := hA.2.2.1.2.1
  have hn0 := hA.2.2.1.1
  by_cases q1 : 0 ≤ r ∧ r < A.2.2.2.1.1
  · skip
    by_cases q2 : 0 ≤ k ∧ k < A.1.1
    · skip
      by_cases q3 : 0 ≤ x ∧ x ≤ 5
      · skip
        rw [if_pos (by omega)]
        obtain ⟨a, eP, h100⟩ := (c100 (sc := sc) hC.2.2.2.2.2.1 hA.2.2.2.1.1 hA.2.2.2.1.2.1 hr1 hr2).1 q1
        have h19 := c19 (sc := sc) hC.1 (k := k) hk1 hk2
        obtain ⟨u, e1, f1, hR⟩ := c101_46 (sc := sc) hC.1 hA.1.2.2.1 q2.1 q2.2
        have hr' := rw1_ok hA.1.2.2.1 q2.1 q2.2
        have hPu := PTo_d eP (fr_d f1 rfl _)
        obtain ⟨u2, e2, f2, k2⟩ := c271 (sc := sc) (w := u) hPu (hA.2.2.2.1.2.2 r q1.1 q1.2) hr' (fr_r _ _) hR.2
        rw [chg_N (chg_hN hPu)] at k2
        have e3 := c272 (sc := sc) (x := x) k2 (chg_ran hr' _ _) q3
        refine ⟨u2, ?_, fr_t (fr_m f1 rfl) (fr_m f2 rfl)⟩
        rw [fq_273]
        unfold cgF aG
        simp (disch := omega) only [qB_s, qC_t, qC_f, qI_T, qI_F, qI_t, qI_f, r_I, r_L, r_R, r_V, ii_add, ii_sub, ii_mul, ii_neg, bz_0, bz_1, Bool.true_and, Bool.false_and, Bool.and_true, z00, z11, li_0, li_1, li_5, gR_0_0, gR_0_14, gR_0_15, is_0, is_1, is_45, h100, Option.isNone_some, h19, ii_eq, ii_lt, e1, e2, e3]
      · rw [if_neg (by omega)]
        obtain ⟨a, eP, h100⟩ := (c100 (sc := sc) hC.2.2.2.2.2.1 hA.2.2.2.1.1 hA.2.2.2.1.2.1 hr1 hr2).1 q1
        have h19 := c19 (sc := sc) hC.1 (k := k) hk1 hk2
        exact ⟨w, by
          rw [fq_273]
          by_cases zz : x < 0
          · simp (disch := omega) only [qB_s, qC_t, qC_f, qI_T, qI_F, qI_t, qI_f, r_I, r_L, r_R, r_V, ii_add, ii_sub, ii_mul, ii_neg, bz_0, bz_1, Bool.true_and, Bool.false_and, Bool.and_true, z00, z11, li_0, li_1, li_5, gR_0_0, gR_0_14, gR_0_15, is_0, is_1, is_45, ii_lt, ii_eq, ii_jj, jj_neg, h100, Option.isNone_some, h19]
          · simp (disch := omega) only [qB_s, qC_t, qC_f, qI_T, qI_F, qI_t, qI_f, r_I, r_L, r_R, r_V, ii_add, ii_sub, ii_mul, ii_neg, bz_0, bz_1, Bool.true_and, Bool.false_and, Bool.and_true, z00, z11, li_0, li_1, li_5, gR_0_0, gR_0_14, gR_0_15, is_0, is_1, is_45, ii_lt, ii_eq, ii_jj, jj_neg, h100, Option.isNone_some, h19], fr_r _ _⟩
    · rw [if_neg (by omega)]
      obtain ⟨a, eP, h100⟩ := (c100 (sc := sc) hC.2.2.2.2.2.1 hA.2.2.2.1.1 hA.2.2.2.1.2.1 hr1 hr2).1 q1
      have h19 := c19 (sc := sc) hC.1 (k := k) hk1 hk2
      exact ⟨w, by
        rw [fq_273]
        simp (disch := omega) only [qB_s, qC_t, qC_f, qI_T, qI_F, qI_t, qI_f, r_I, r_L, r_R, r_V, ii_add, ii_sub, ii_mul, ii_neg, bz_0, bz_1, Bool.true_and, Bool.false_and, Bool.and_true, z00, z11, li_0, li_1, li_5, gR_0_0, gR_0_14, gR_0_15, is_0, is_1, is_45, ii_lt, ii_eq, ii_jj, jj_neg, h100, Option.isNone_some, h19], fr_r _ _⟩
  · rw [if_neg (by omega)]
    have h100 := (c100 (sc := sc) hC.2.2.2.2.2.1 hA.2.2.2.1.1 hA.2.2.2.1.2.1 hr1 hr2).2 q1
    exact ⟨w, by
      rw [fq_273]
      simp (disch := omega) only [qB_s, qC_t, qC_f, qI_T, qI_F, qI_t, qI_f, r_I, r_L, r_R, r_V, ii_add, ii_sub, ii_mul, ii_neg, bz_0, bz_1, Bool.true_and, Bool.false_and, Bool.and_true, z00, z11, li_0, li_1, li_5, gR_0_0, gR_0_14, gR_0_15, is_0, is_1, is_45, ii_lt, ii_eq, ii_jj, jj_neg, h100, Option.isNone_none], fr_r _ _⟩

end L45
