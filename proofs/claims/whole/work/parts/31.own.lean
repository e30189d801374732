/-! ALIKE; SAYS; ONE'S OWN -/
/-- the last i marks of a set are the same -/
def alF (g : Int → Int → Int) (a b l : Int) : Nat → Bool
  | 0 => true
  | i + 1 => decide (bt l (5 - i) = 1 → g a (4 + (5 - i)) = g b (4 + (5 - i))) && alF g a b l i
def al (g : Int → Int → Int) (a b l : Int) : Bool := alF g a b l 6
theorem lmF_no {g : Int → Int → Int} {k l : Int} : ∀ {i : Nat}, i ≤ 6 → lmF g k l i = false → ∀ m : Int, 6 - i ≤ m → m < 6 → bt l m = 1 → g k (4 + m) ≠ -1
  | 0, _, _, m, h1, h2, _ => by omega
  | i + 1, hi, h, m, h1, h2, hb => by
    simp only [lmF, Bool.or_eq_false_iff, Bool.and_eq_false_iff, decide_eq_false_iff_not] at h
    by_cases q : m = 5 - i
    · rw [q] at hb ⊢
      rcases h.1 with h | h
      · exact absurd hb h
      · exact h
    · exact lmF_no (i := i) (by omega) h.2 m (by omega) h2 hb
theorem kyF_eq {g : Int → Int → Int} {n x y l : Int} (hg : gK n g) (hx0 : 0 ≤ x) (hx : x < n) (hy0 : 0 ≤ y) (hy : y < n) (hlx : lm g x l = false) (hly : lm g y l = false) : ∀ (i : Nat) (a b : Int), i ≤ 6 → (kyF g x l i a = kyF g y l i b ↔ a = b ∧ alF g x y l i = true)
  | 0, a, b, _ => by simp [kyF, alF]
  | i + 1, a, b, hi => by
    have ih := fun a b => kyF_eq hg hx0 hx hy0 hy hlx hly i a b (by omega)
    have hrx := gK_m hg hx0 hx (m := 5 - i) (by omega) (by omega)
    have hry := gK_m hg hy0 hy (m := 5 - i) (by omega) (by omega)
    have hbt := bt_ran l (5 - i)
    unfold kyF alF
    rw [ih]
    by_cases q : bt l (5 - i) = 1
    · have h1 := lmF_no (i := 6) (by omega) hlx (5 - i) (by omega) (by omega) q
      have h2 := lmF_no (i := 6) (by omega) hly (5 - i) (by omega) (by omega) q
      rw [if_pos q, if_pos q]
      simp only [q, true_implies, Bool.and_eq_true, decide_eq_true_eq]
      constructor
      · rintro ⟨h3, h4⟩
        exact ⟨by omega, by omega, h4⟩
      · rintro ⟨h3, h4, h5⟩
        exact ⟨by omega, h5⟩
    · rw [if_neg q, if_neg q]
      simp [q]
theorem ky_eq {g : Int → Int → Int} {n x y l : Int} (hg : gK n g) (hx0 : 0 ≤ x) (hx : x < n) (hy0 : 0 ≤ y) (hy : y < n) (hlx : lm g x l = false) (hly : lm g y l = false) : (ky g x l = ky g y l) = (al g x y l = true) := by
  have := kyF_eq hg hx0 hx hy0 hy hlx hly 6 0 0 (by omega)
  unfold ky al
  rw [this]
  simp
theorem kyF_ran {g : Int → Int → Int} {n x l : Int} (hg : gK n g) (hx0 : 0 ≤ x) (hx : x < n) (hlx : lm g x l = false) : ∀ (i : Nat) (a M : Int), i ≤ 6 → 0 ≤ a → a < M → 0 ≤ kyF g x l i a ∧ kyF g x l i a < M * 10 ^ i
  | 0, a, M, _, h0, h1 => by simp [kyF]; exact ⟨h0, h1⟩
  | i + 1, a, M, hi, h0, h1 => by
    have hrx := gK_m hg hx0 hx (m := 5 - i) (by omega) (by omega)
    unfold kyF
    have h10 : M * 10 ^ (i + 1) = (M * 10) * 10 ^ i := by rw [Int.pow_succ, Int.mul_assoc, Int.mul_comm (10 ^ i) 10]
    rw [h10]
    by_cases q : bt l (5 - i) = 1
    · have h2 := lmF_no (i := 6) (by omega) hlx (5 - i) (by omega) (by omega) q
      rw [if_pos q]
      exact kyF_ran hg hx0 hx hlx i _ (M * 10) (by omega) (by omega) (by omega)
    · rw [if_neg q]
      exact kyF_ran hg hx0 hx hlx i _ (M * 10) (by omega) h0 (by omega)
theorem ky_ran {g : Int → Int → Int} {n x l : Int} (hg : gK n g) (hx0 : 0 ≤ x) (hx : x < n) (hlx : lm g x l = false) : 0 ≤ ky g x l ∧ ky g x l < 1000000 := kyF_ran hg hx0 hx hlx 6 0 1 (by omega) (by decide) (by decide)
section L31
variable {sc : am_X} {w : wo} {A : ab} {ow : Nat → Nat} {n : Int} {g : Int → Int → Int}
theorem d151l (hM : MS w n g) (hg : gK n g) {a b l : Int} (hL : wI w 47 25 = l) (ha0 : 0 ≤ a) (ha : a < n) (hb0 : 0 ≤ b) (hb : b < n) (hl0 : 0 ≤ l) (hl : l < 64) : ∀ (i : Nat), i ≤ 6 → am_W sc 151 (2, [some (am_R (some 47)), some (am_I (ii a)), some (am_I (ii b)), some (am_I (ii (6 - i)))], [], wst w) = some (some (am_I (ii (bz (alF g a b l i = true)))), wst w)
  | 0, _ => by
    rw [wq_151_2, bz_t (p := alF g a b l 0 = true) rfl]
    simp (disch := omega) only [qB_s, qC_t, qC_f, qI_T, qI_F, qI_t, qI_f, r_I, r_L, r_R, r_V, ii_add, ii_sub, ii_mul, ii_neg, bz_0, bz_1, Bool.true_and, Bool.false_and, Bool.and_true, z00, z11, li_0, li_1, li_31, li_6, gI_47_25, is_47, ii_lt, hL, Int.cast_ofNat_Int, Int.reduceSub, Int.reduceLT]
  | i + 1, hi => by
    have ih := d151l hM hg hL ha0 ha hb0 hb hl0 hl i (by omega)
    have hra := gK_m hg ha0 ha (m := 5 - i) (by omega) (by omega)
    have hrb := gK_m hg hb0 hb (m := 5 - i) (by omega) (by omega)
    have hbt := bt_ran l (5 - i)
    have p1 := d107 (sc := sc) hM ha0 ha (m := 5 - i) (by omega) (by omega)
    have p2 := d107 (sc := sc) hM hb0 hb (m := 5 - i) (by omega) (by omega)
    rw [wq_151_2]
    rw [show (6 - ((i + 1 : Nat) : Int)) = 5 - (i : Int) from by omega]
    have e6 : 5 - (i : Int) + 1 = 6 - i := by omega
    unfold alF
    by_cases q1 : bt l (5 - i) = 1
    · by_cases q2 : g a (4 + (5 - i)) = g b (4 + (5 - i))
      · rw [show (decide (bt l (5 - i) = 1 → g a (4 + (5 - i)) = g b (4 + (5 - i)))) = true from by simp [q2], Bool.true_and]
        simp (disch := omega) only [qB_s, qC_t, qC_f, qI_T, qI_F, qI_t, qI_f, r_I, r_L, r_R, r_V, ii_add, ii_sub, ii_mul, ii_neg, bz_0, bz_1, Bool.true_and, Bool.false_and, Bool.and_true, z00, z11, li_0, li_1, li_31, li_6, gI_47_25, is_47, ii_lt, ii_eq, hL, bt_ii, p1, p2, e6, ih]
      · rw [show (decide (bt l (5 - i) = 1 → g a (4 + (5 - i)) = g b (4 + (5 - i)))) = false from by simp [q1, q2], Bool.false_and, bz_f (by simp)]
        simp (disch := omega) only [qB_s, qC_t, qC_f, qI_T, qI_F, qI_t, qI_f, r_I, r_L, r_R, r_V, ii_add, ii_sub, ii_mul, ii_neg, bz_0, bz_1, Bool.true_and, Bool.false_and, Bool.and_true, z00, z11, li_0, li_1, li_31, li_6, gI_47_25, is_47, ii_lt, ii_eq, hL, bt_ii, p1, p2]
    · rw [show (decide (bt l (5 - i) = 1 → g a (4 + (5 - i)) = g b (4 + (5 - i)))) = true from by simp [q1], Bool.true_and]
      simp (disch := omega) only [qB_s, qC_t, qC_f, qI_T, qI_F, qI_t, qI_f, r_I, r_L, r_R, r_V, ii_add, ii_sub, ii_mul, ii_neg, bz_0, bz_1, Bool.true_and, Bool.false_and, Bool.and_true, z00, z11, li_0, li_1, li_31, li_6, gI_47_25, is_47, ii_lt, ii_eq, hL, bt_ii, e6, ih]
theorem d151 (hM : MS w n g) (hg : gK n g) {a b l : Int} (hL : wI w 47 25 = l) (ha0 : 0 ≤ a) (ha : a < n) (hb0 : 0 ≤ b) (hb : b < n) (hl0 : 0 ≤ l) (hl : l < 64) : am_F sc 151 [am_R (some 47), am_I (ii a), am_I (ii b)] (wst w) = some (some (am_I (ii (bz (al g a b l = true)))), wst w) := by
  rw [fq_151, li_0]
  exact d151l hM hg hL ha0 ha hb0 hb hl0 hl 6 (by omega)
theorem x_105 (hC : RC ow w A) (hA : okA A) {r k : Int} (hr1 : -2147483648 ≤ r) (hr2 : r ≤ 2147483647) (hk1 : -2147483648 ≤ k) (hk2 : k ≤ 2147483647) : ∃ u, am_F sc 105 [am_R (some 0), am_I (ii r), am_I (ii k)] (wst w) = some (some (am_I (ii (if (0 ≤ r ∧ r < A.2.2.2.1.1) ∧ (0 ≤ k ∧ k < A.1.1) then bz (evp (rw1 (aG A) k) (A.2.2.2.1.2 r) = true) else -1))), wst u) ∧ fr scC w u := by
  have hn8 := hA.2.2.1.2.1
  have hn0 := hA.2.2.1.1
  by_cases q1 : 0 ≤ r ∧ r < A.2.2.2.1.1
  · skip
    by_cases q2 : 0 ≤ k ∧ k < A.1.1
    · skip
      rw [if_pos (by omega)]
      obtain ⟨a, eP, h100⟩ := (c100 (sc := sc) hC.2.2.2.2.2.1 hA.2.2.2.1.1 hA.2.2.2.1.2.1 hr1 hr2).1 q1
      have h19 := c19 (sc := sc) hC.1 (k := k) hk1 hk2
      obtain ⟨u, e1, f1, hR⟩ := c101_46 (sc := sc) hC.1 hA.1.2.2.1 q2.1 q2.2
      have hT := PT_of (PTo_d eP (fr_d f1 rfl _))
      have hi : am_is (wst u) a 9 = true := is_of hT.2.1.choose_spec.1
      have e2 := c104 (sc := sc) (rw1_ok hA.1.2.2.1 q2.1 q2.2) hR hT.2.1 (hA.2.2.2.1.2.2 r q1.1 q1.2)
      refine ⟨u, ?_, fr_m f1 rfl⟩
      rw [fq_105]
      unfold aG
      cases q : evp (rw1 A.1.2.1 k) (A.2.2.2.1.2 r)
      all_goals rw [q] at e2
      all_goals simp (disch := omega) only [qB_s, qC_t, qC_f, qI_T, qI_F, qI_t, qI_f, r_I, r_L, r_R, r_V, ii_add, ii_sub, ii_mul, ii_neg, bz_0, bz_1, Bool.true_and, Bool.false_and, Bool.and_true, z00, z11, li_0, li_1, gR_0_0, gR_0_15, is_0, is_1, h100, Option.isNone_some, h19, e1, hi, e2, Bool.false_eq_true, not_false_eq_true, not_true_eq_false]
      all_goals rfl
    · rw [if_neg (by omega)]
      obtain ⟨a, eP, h100⟩ := (c100 (sc := sc) hC.2.2.2.2.2.1 hA.2.2.2.1.1 hA.2.2.2.1.2.1 hr1 hr2).1 q1
      have h19 := c19 (sc := sc) hC.1 (k := k) hk1 hk2
      exact ⟨w, by
        rw [fq_105]
        simp (disch := omega) only [qB_s, qC_t, qC_f, qI_T, qI_F, qI_t, qI_f, r_I, r_L, r_R, r_V, ii_add, ii_sub, ii_mul, ii_neg, bz_0, bz_1, Bool.true_and, Bool.false_and, Bool.and_true, z00, z11, li_0, li_1, gR_0_0, gR_0_15, is_0, is_1, ii_lt, ii_eq, ii_jj, jj_neg, h100, Option.isNone_some, h19], fr_r _ _⟩
  · rw [if_neg (by omega)]
    have h100 := (c100 (sc := sc) hC.2.2.2.2.2.1 hA.2.2.2.1.1 hA.2.2.2.1.2.1 hr1 hr2).2 q1
    exact ⟨w, by
      rw [fq_105]
      simp (disch := omega) only [qB_s, qC_t, qC_f, qI_T, qI_F, qI_t, qI_f, r_I, r_L, r_R, r_V, ii_add, ii_sub, ii_mul, ii_neg, bz_0, bz_1, Bool.true_and, Bool.false_and, Bool.and_true, z00, z11, li_0, li_1, gR_0_0, gR_0_15, is_0, is_1, ii_lt, ii_eq, ii_jj, jj_neg, h100, Option.isNone_none], fr_r _ _⟩

theorem y_112 (hM : RM w A) (hA : okA A) {r k : Int} (hr1 : -2147483648 ≤ r) (hr2 : r ≤ 2147483647) (hk1 : -2147483648 ≤ k) (hk2 : k ≤ 2147483647) : ∃ u, am_F sc 112 [am_R (some 47), am_I (ii r), am_I (ii k)] (wst w) = some (some (am_I (ii (if (0 ≤ r ∧ r < A.2.2.2.1.1) ∧ (0 ≤ k ∧ k < A.1.1) then bz (evp (rw1 (aG A) k) (A.2.2.2.1.2 r) = true) else -1))), wst u) ∧ fr scM w u := by
  have hn8 := hA.2.2.1.2.1
  have hn0 := hA.2.2.1.1
  by_cases q1 : 0 ≤ r ∧ r < A.2.2.2.1.1
  · skip
    by_cases q2 : 0 ≤ k ∧ k < A.1.1
    · skip
      rw [if_pos (by omega)]
      have hr := hM.2.2.2.2.1.1
      have h9 := hA.2.2.2.1.2.1
      have h24 := d24 (sc := sc) hM.1 (k := k) hk1 hk2
      obtain ⟨u, e1, f1⟩ := d111 (sc := sc) hM.1 hA.1.2.2.1 (hA.2.2.2.1.2.2 r q1.1 q1.2) (hM.2.2.2.2.1.2 r q1.1 q1.2) q2.1 q2.2 (by omega) (by omega)
      refine ⟨u, ?_, fr_m f1 rfl⟩
      rw [fq_112]
      unfold aG
      cases q : evp (rw1 A.1.2.1 k) (A.2.2.2.1.2 r)
      all_goals rw [q] at e1
      all_goals simp (disch := omega) only [qB_s, qC_t, qC_f, qI_T, qI_F, qI_t, qI_f, r_I, r_L, r_R, r_V, ii_add, ii_sub, ii_mul, ii_neg, bz_0, bz_1, Bool.true_and, Bool.false_and, Bool.and_true, z00, z11, li_0, li_1, li_8, lj_0, gI_47_9, is_47, hr, ii_jj, d17, h24, e1, Bool.false_eq_true, not_false_eq_true, not_true_eq_false]
      all_goals rfl
    · rw [if_neg (by omega)]
      have hr := hM.2.2.2.2.1.1
      have h9 := hA.2.2.2.1.2.1
      have h90 := hA.2.2.2.1.1
      have h24 := d24 (sc := sc) hM.1 (k := k) hk1 hk2
      exact ⟨w, by
        rw [fq_112]
        simp (disch := omega) only [qB_s, qC_t, qC_f, qI_T, qI_F, qI_t, qI_f, r_I, r_L, r_R, r_V, ii_add, ii_sub, ii_mul, ii_neg, bz_0, bz_1, Bool.true_and, Bool.false_and, Bool.and_true, z00, z11, li_0, li_1, li_8, lj_0, gI_47_9, is_47, ii_lt, ii_eq, ii_jj, jj_neg, hr, d17, h24], fr_r _ _⟩
  · rw [if_neg (by omega)]
    have hr := hM.2.2.2.2.1.1
    have h9 := hA.2.2.2.1.2.1
    have h90 := hA.2.2.2.1.1
    have h24 := d24 (sc := sc) hM.1 (k := k) hk1 hk2
    exact ⟨w, by
      rw [fq_112]
      simp (disch := omega) only [qB_s, qC_t, qC_f, qI_T, qI_F, qI_t, qI_f, r_I, r_L, r_R, r_V, ii_add, ii_sub, ii_mul, ii_neg, bz_0, bz_1, Bool.true_and, Bool.false_and, Bool.and_true, z00, z11, li_0, li_1, li_8, lj_0, gI_47_9, is_47, ii_lt, ii_eq, ii_jj, jj_neg, hr, d17], fr_r _ _⟩

/-- others that are alike; of these let -/
def oS (g : Int → Int → Int) (f : Nat → Int) (k l o : Int) (m : Nat) : Int := sm (fun i => bz (f i ≠ k ∧ al g (f i) k l = true ∧ (o = 0 ∨ g (f i) 2 = 2))) m
theorem oS_ran (g : Int → Int → Int) (f : Nat → Int) (k l o : Int) (m : Nat) : 0 ≤ oS g f k l o m ∧ oS g f k l o m ≤ m := sm_bz m
theorem oS_s (g : Int → Int → Int) (f : Nat → Int) (k l o : Int) (i : Nat) : oS g f k l o (i + 1) = oS g f k l o i + bz (f i ≠ k ∧ al g (f i) k l = true ∧ (o = 0 ∨ g (f i) 2 = 2)) := rfl
theorem vF_lm {A : ab} (v : Int) {i : Nat} (hi : i < vM A v) : lm (aG A) (vF A v i) (aV A v).2.1 = false := by
  have := (tg_el (pT (aG A) (aV A v).1 (aV A v).2.1) (aN A).toNat i hi).2.2
  unfold pT at this
  simp only [Bool.and_eq_true, Bool.not_eq_true'] at this
  exact this.1
theorem c263 (hC : CS w n g) (hg : gK n g) {m : Nat} {f : Nat → Int} (hT : TK w m f) (hm : m ≤ 200) (hf : ∀ i, i < m → 0 ≤ f i ∧ f i < n) {k l o : Int} {a : Nat} (hla : am_gI (wst w) a 10 1 = some (ii l)) (hl0 : 0 ≤ l) (hl : l < 64) (hk0 : 0 ≤ k) (hk : k < n) (hlk : lm g k l = false) (hlf : ∀ i, i < m → lm g (f i) l = false) (ho : o = 0 ∨ o = 1) : am_W sc 263 (66, [some (am_R (some 0)), none, some (am_I (ii k)), some (am_I (ii o)), some (am_R (some a)), some (am_I (ii (ky g k l))), some (am_I (ii 0)), some (am_I (ii 0)), none], [], wst w) = some (some (am_I (ii (oS g f k l o m))), wst w) := by
  have hs := hT.1
  have hn200 := hC.2.2.1
  have e := lp_0 (am_W sc 263) (fun i : Nat => (66, [some (am_R (some 0)), none, some (am_I (ii k)), some (am_I (ii o)), some (am_R (some a)), some (am_I (ii (ky g k l))), some (am_I (ii (oS g f k l o i))), some (am_I (ii i)), none], [], wst w)) m (fun i hi => by
    have hfk := hf i hi
    have hr := hg (f i) hfk.1 hfk.2
    have p1 := c118 (sc := sc) hT hm hi
    have p3 := c143 (sc := sc) hC hfk.1 hfk.2 hl0 hl
    have p4 := c28 (sc := sc) hC hfk.1 hfk.2
    simp only [Int.reduceSub] at p4
    have r1 := ky_ran hg hk0 hk hlk
    have r2 := ky_ran hg hfk.1 hfk.2 (hlf i hi)
    have hke := ky_eq hg hfk.1 hfk.2 hk0 hk (hlf i hi) hlk
    have hki : (ii (ky g (f i) l) = ii (ky g k l)) = (al g (f i) k l = true) := by rw [ii_eq (by omega) (by omega) (by omega) (by omega), hke]
    rw [wq_263_66, oS_s]
    by_cases q1 : f i = k
    · rw [bz_f (fun z => z.1 q1)]
      simp (disch := omega) only [qB_s, qC_t, qC_f, qI_T, qI_F, qI_t, qI_f, r_I, r_L, r_R, r_V, ii_add, ii_sub, ii_mul, ii_neg, bz_0, bz_1, Bool.true_and, Bool.false_and, Bool.and_true, z00, z11, li_0, li_1, li_2, gI_22_3, gR_0_0, gR_0_9, is_0, is_1, is_22, hs, ii_lt, ii_eq, p1, nat_1, Int.add_zero]
    · cases q2 : al g (f i) k l with
      | false =>
        rw [q2] at hki
        rw [bz_f (by simp)]
        simp (disch := omega) only [qB_s, qC_t, qC_f, qI_T, qI_F, qI_t, qI_f, r_I, r_L, r_R, r_V, ii_add, ii_sub, ii_mul, ii_neg, bz_0, bz_1, Bool.true_and, Bool.false_and, Bool.and_true, z00, z11, li_0, li_1, li_2, gI_22_3, gR_0_0, gR_0_9, is_0, is_1, is_22, hs, ii_lt, ii_eq, p1, hla, p3, hki, nat_1, Bool.false_eq_true, Int.add_zero]
      | true =>
        rw [q2] at hki
        rcases ho with q3 | q3
        · rw [bz_t ⟨q1, rfl, .inl q3⟩]
          simp (disch := omega) only [qB_s, qC_t, qC_f, qI_T, qI_F, qI_t, qI_f, r_I, r_L, r_R, r_V, ii_add, ii_sub, ii_mul, ii_neg, bz_0, bz_1, Bool.true_and, Bool.false_and, Bool.and_true, z00, z11, li_0, li_1, li_2, gI_22_3, gR_0_0, gR_0_9, is_0, is_1, is_22, hs, ii_lt, ii_eq, p1, hla, p3, hki, nat_1]
        · by_cases q4 : g (f i) 2 = 2
          · rw [bz_t ⟨q1, rfl, .inr q4⟩]
            simp (disch := omega) only [qB_s, qC_t, qC_f, qI_T, qI_F, qI_t, qI_f, r_I, r_L, r_R, r_V, ii_add, ii_sub, ii_mul, ii_neg, bz_0, bz_1, Bool.true_and, Bool.false_and, Bool.and_true, z00, z11, li_0, li_1, li_2, gI_22_3, gR_0_0, gR_0_9, is_0, is_1, is_22, hs, ii_lt, ii_eq, p1, hla, p3, hki, p4, nat_1]
          · rw [bz_f (by omega)]
            simp (disch := omega) only [qB_s, qC_t, qC_f, qI_T, qI_F, qI_t, qI_f, r_I, r_L, r_R, r_V, ii_add, ii_sub, ii_mul, ii_neg, bz_0, bz_1, Bool.true_and, Bool.false_and, Bool.and_true, z00, z11, li_0, li_1, li_2, gI_22_3, gR_0_0, gR_0_9, is_0, is_1, is_22, hs, ii_lt, ii_eq, p1, hla, p3, hki, p4, nat_1, Int.add_zero])
  have e' : am_W sc 263 (66, [some (am_R (some 0)), none, some (am_I (ii k)), some (am_I (ii o)), some (am_R (some a)), some (am_I (ii (ky g k l))), some (am_I (ii 0)), some (am_I (ii 0)), none], [], wst w) = _ := e
  rw [e', wq_263_66]
  simp (disch := omega) only [qB_s, qC_t, qC_f, qI_T, qI_F, qI_t, qI_f, r_I, r_L, r_R, r_V, ii_add, ii_sub, ii_mul, ii_neg, bz_0, bz_1, Bool.true_and, Bool.false_and, Bool.and_true, z00, z11, li_0, li_1, li_2, gI_22_3, gR_0_0, gR_0_9, is_0, is_1, is_22, hs, ii_lt]
theorem d264 (hM : MS w n g) (hg : gK n g) {m : Nat} {f : Nat → Int} (hT : MK w m f) (hm : m ≤ 200) (hf : ∀ i, i < m → 0 ≤ f i ∧ f i < n) {k l o : Int} (hL : wI w 47 25 = l) (hl0 : 0 ≤ l) (hl : l < 64) (hk0 : 0 ≤ k) (hk : k < n) (ho : o = 0 ∨ o = 1) : am_W sc 264 (53, [some (am_R (some 47)), none, some (am_I (ii k)), some (am_I (ii o)), some (am_I (ii 0)), some (am_I (ii 0)), some (am_I (ii 0))], [], wst w) = some (some (am_I (ii (oS g f k l o m))), wst w) := by
  have hs := hT.1
  have hn200 := hM.2.2.1
  have e := lp_0 (am_W sc 264) (fun i : Nat => (53, [some (am_R (some 47)), none, some (am_I (ii k)), some (am_I (ii o)), some (am_I (ii (oS g f k l 0 i))), some (am_I (ii (oS g f k l 1 i))), some (am_I (ii i))], [], wst w)) m (fun i hi => by
    have hfk := hf i hi
    have hr := hg (f i) hfk.1 hfk.2
    have hl9 := hT.2 i hi
    have p3 := d151 (sc := sc) hM hg hL hfk.1 hfk.2 hk0 hk hl0 hl
    have p4 := d123 (sc := sc) hM hg hfk.1 hfk.2
    rw [wq_264_53, oS_s, oS_s]
    by_cases q1 : f i = k
    · rw [bz_f (fun z => z.1 q1), bz_f (fun z => z.1 q1)]
      simp (disch := omega) only [qB_s, qC_t, qC_f, qI_T, qI_F, qI_t, qI_f, r_I, r_L, r_R, r_V, ii_add, ii_sub, ii_mul, ii_neg, bz_0, bz_1, Bool.true_and, Bool.false_and, Bool.and_true, z00, z11, li_0, li_1, lj_0, lj_1, e_59, gI_47_26, gR_47_27, is_47, hs, ii_lt, ii_eq, hl9, nat_1, Int.add_zero]
    · cases q2 : al g (f i) k l with
      | false =>
        rw [q2] at p3
        rw [bz_f (by simp), bz_f (by simp)]
        simp (disch := omega) only [qB_s, qC_t, qC_f, qI_T, qI_F, qI_t, qI_f, r_I, r_L, r_R, r_V, ii_add, ii_sub, ii_mul, ii_neg, bz_0, bz_1, Bool.true_and, Bool.false_and, Bool.and_true, z00, z11, li_0, li_1, lj_0, lj_1, e_59, gI_47_26, gR_47_27, is_47, hs, ii_lt, ii_eq, hl9, p3, nat_1, Bool.false_eq_true, not_false_eq_true, Int.add_zero]
      | true =>
        rw [q2] at p3
        rw [bz_t ⟨q1, rfl, .inl rfl⟩]
        by_cases q4 : g (f i) 2 = 2
        · rw [bz_t ⟨q1, rfl, .inr q4⟩]
          simp (disch := omega) only [qB_s, qC_t, qC_f, qI_T, qI_F, qI_t, qI_f, r_I, r_L, r_R, r_V, ii_add, ii_sub, ii_mul, ii_neg, bz_0, bz_1, Bool.true_and, Bool.false_and, Bool.and_true, z00, z11, li_0, li_1, lj_0, lj_1, e_59, gI_47_26, gR_47_27, is_47, hs, ii_lt, ii_eq, hl9, p3, p4, nat_1, not_true_eq_false]
        · rw [bz_f (by omega)]
          simp (disch := omega) only [qB_s, qC_t, qC_f, qI_T, qI_F, qI_t, qI_f, r_I, r_L, r_R, r_V, ii_add, ii_sub, ii_mul, ii_neg, bz_0, bz_1, Bool.true_and, Bool.false_and, Bool.and_true, z00, z11, li_0, li_1, lj_0, lj_1, e_59, gI_47_26, gR_47_27, is_47, hs, ii_lt, ii_eq, hl9, p3, p4, nat_1, not_true_eq_false, not_false_eq_true])
  have e' : am_W sc 264 (53, [some (am_R (some 47)), none, some (am_I (ii k)), some (am_I (ii o)), some (am_I (ii 0)), some (am_I (ii 0)), some (am_I (ii 0))], [], wst w) = _ := e
  rw [e', wq_264_53]
  rcases ho with y | y
  · rw [y]
    simp (disch := omega) only [qB_s, qC_t, qC_f, qI_T, qI_F, qI_t, qI_f, r_I, r_L, r_R, r_V, ii_add, ii_sub, ii_mul, ii_neg, bz_0, bz_1, Bool.true_and, Bool.false_and, Bool.and_true, z00, z11, li_0, li_1, lj_0, lj_1, e_59, gI_47_26, gR_47_27, is_47, hs, ii_lt, ii_eq]
  · rw [y]
    simp (disch := omega) only [qB_s, qC_t, qC_f, qI_T, qI_F, qI_t, qI_f, r_I, r_L, r_R, r_V, ii_add, ii_sub, ii_mul, ii_neg, bz_0, bz_1, Bool.true_and, Bool.false_and, Bool.and_true, z00, z11, li_0, li_1, lj_0, lj_1, e_59, gI_47_26, gR_47_27, is_47, hs, ii_lt, ii_eq]
theorem x_263 (hC : RC ow w A) (hA : okA A) {v k o : Int} (hv1 : -2147483648 ≤ v) (hv2 : v ≤ 2147483647) (hk1 : -2147483648 ≤ k) (hk2 : k ≤ 2147483647) (ho1 : -2147483648 ≤ o) (ho2 : o ≤ 2147483647) : ∃ u, am_F sc 263 [am_R (some 0), am_I (ii v), am_I (ii k), am_I (ii o)] (wst w) = some (some (am_I (ii (if (0 ≤ v ∧ v < A.2.2.1.1) ∧ (o = 0 ∨ o = 1) ∧ (0 ≤ k ∧ k < A.1.1) then if lm (aG A) k (aV A v).2.1 = true then -1 else oS (aG A) (vF A v) k (aV A v).2.1 o (vM A v) else -1))), wst u) ∧ fr scC w u := by
  have hn8 := hA.2.2.1.2.1
  have hn0 := hA.2.2.1.1
  by_cases q1 : 0 ≤ v ∧ v < A.2.2.1.1
  · skip
    by_cases q2 : o = 0 ∨ o = 1
    · skip
      by_cases q3 : 0 ≤ k ∧ k < A.1.1
      · skip
        rw [if_pos (by omega)]
        obtain ⟨a, eV, h113⟩ := (c113 (sc := sc) hC.2.2.2.2.1 hA.2.2.1.1 hA.2.2.1.2.1 hv1 hv2).1 q1
        have hx := hA.2.2.1.2.2 v q1.1 q1.2
        have hga : ∀ {u : wo}, fr [2203, 2204, 2208, 2399, 2499] w u → am_gI (wst u) a 10 1 = some (ii (aV A v).2.1) := fun {u} f1 => by
          obtain ⟨⟨v1, v2, v3, v4⟩, v5, v6, -⟩ := CVo_d eV (fr_d f1 rfl _)
          rw [gI_of (by unfold shp; rw [if_neg (by omega), v4]) rfl, v6]
        have hg0 := hga (fr_r _ w)
        have h114 := c114 (sc := sc) hC.1 hA.1.2.2.1 (k := k) (l := (aV A v).2.1) hk1 hk2 hx.2.1.1 hx.2.1.2
        obtain ⟨u, e1, f1, t1, -⟩ := (c117 (sc := sc) hC hA hv1 hv2).1 q1
        have hCu := RC_c hC (fr_m f1 rfl)
        have hm := vM_le hA v
        have hok : ∀ i, i < vM A v → 0 ≤ vF A v i ∧ vF A v i < A.1.1 := fun i hi => vF_ok hA v hi
        cases q : lm (aG A) k (aV A v).2.1 with
        | true =>
          rw [if_pos rfl]
          rw [bz_t (.inr q)] at h114
          exact ⟨w, by
            rw [fq_263]
            simp (disch := omega) only [qB_s, qC_t, qC_f, qI_T, qI_F, qI_t, qI_f, r_I, r_L, r_R, r_V, ii_add, ii_sub, ii_mul, ii_neg, bz_0, bz_1, Bool.true_and, Bool.false_and, Bool.and_true, z00, z11, li_0, li_1, li_2, gI_22_3, gR_0_0, gR_0_9, is_0, is_1, is_22, h113, Option.isNone_some, s126, hg0, h114, ii_eq], fr_r _ _⟩
        | false =>
          rw [if_neg (by decide)]
          rw [bz_f (fun z => z.elim (fun y => y q3) (fun y => by rw [show lm A.1.2.1 k (aV A v).2.1 = false from q] at y; cases y))] at h114
          have e2 := c263 (sc := sc) hCu.1 hA.1.2.2.1 t1 hm hok (hga f1) hx.2.1.1 hx.2.1.2 q3.1 q3.2 q (fun i hi => vF_lm v hi) q2
          have e3 := c143 (sc := sc) (l := (aV A v).2.1) hCu.1 q3.1 q3.2 hx.2.1.1 hx.2.1.2
          have hgu := hga f1
          refine ⟨u, ?_, fr_m f1 rfl⟩
          rw [fq_263]
          simp (disch := omega) only [qB_s, qC_t, qC_f, qI_T, qI_F, qI_t, qI_f, r_I, r_L, r_R, r_V, ii_add, ii_sub, ii_mul, ii_neg, bz_0, bz_1, Bool.true_and, Bool.false_and, Bool.and_true, z00, z11, li_0, li_1, li_2, gI_22_3, gR_0_0, gR_0_9, is_0, is_1, is_22, h113, Option.isNone_some, s126, hg0, h114, e1, hgu, e3, e2, ii_eq]
          rfl
      · rw [if_neg (by omega)]
        obtain ⟨a, eV, h113⟩ := (c113 (sc := sc) hC.2.2.2.2.1 hA.2.2.1.1 hA.2.2.1.2.1 hv1 hv2).1 q1
        have hx := hA.2.2.1.2.2 v q1.1 q1.2
        have hga : am_gI (wst w) a 10 1 = some (ii (aV A v).2.1) := by (obtain ⟨⟨v1, v2, v3, v4⟩, v5, v6, -⟩ := id eV; rw [gI_of (by unfold shp; rw [if_neg (by omega), v4]) rfl, v6])
        have h114 := c114 (sc := sc) hC.1 hA.1.2.2.1 (k := k) (l := (aV A v).2.1) hk1 hk2 hx.2.1.1 hx.2.1.2
        rw [bz_t (.inl q3)] at h114
        exact ⟨w, by
          rw [fq_263]
          simp (disch := omega) only [qB_s, qC_t, qC_f, qI_T, qI_F, qI_t, qI_f, r_I, r_L, r_R, r_V, ii_add, ii_sub, ii_mul, ii_neg, bz_0, bz_1, Bool.true_and, Bool.false_and, Bool.and_true, z00, z11, li_0, li_1, li_2, gI_22_3, gR_0_0, gR_0_9, is_0, is_1, is_22, ii_lt, ii_eq, ii_jj, jj_neg, h113, Option.isNone_some, s126, hga, h114], fr_r _ _⟩
    · rw [if_neg (by omega)]
      obtain ⟨a, eV, h113⟩ := (c113 (sc := sc) hC.2.2.2.2.1 hA.2.2.1.1 hA.2.2.1.2.1 hv1 hv2).1 q1
      exact ⟨w, by
        rw [fq_263]
        simp (disch := omega) only [qB_s, qC_t, qC_f, qI_T, qI_F, qI_t, qI_f, r_I, r_L, r_R, r_V, ii_add, ii_sub, ii_mul, ii_neg, bz_0, bz_1, Bool.true_and, Bool.false_and, Bool.and_true, z00, z11, li_0, li_1, li_2, gI_22_3, gR_0_0, gR_0_9, is_0, is_1, is_22, ii_lt, ii_eq, ii_jj, jj_neg, h113, Option.isNone_some, s126], fr_r _ _⟩
  · rw [if_neg (by omega)]
    have h113 := (c113 (sc := sc) hC.2.2.2.2.1 hA.2.2.1.1 hA.2.2.1.2.1 hv1 hv2).2 q1
    exact ⟨w, by
      rw [fq_263]
      simp (disch := omega) only [qB_s, qC_t, qC_f, qI_T, qI_F, qI_t, qI_f, r_I, r_L, r_R, r_V, ii_add, ii_sub, ii_mul, ii_neg, bz_0, bz_1, Bool.true_and, Bool.false_and, Bool.and_true, z00, z11, li_0, li_1, li_2, gI_22_3, gR_0_0, gR_0_9, is_0, is_1, is_22, ii_lt, ii_eq, ii_jj, jj_neg, h113, Option.isNone_none], fr_r _ _⟩

theorem y_264 (hM : RM w A) (hA : okA A) {v k o : Int} (hv1 : -2147483648 ≤ v) (hv2 : v ≤ 2147483647) (hk1 : -2147483648 ≤ k) (hk2 : k ≤ 2147483647) (ho1 : -2147483648 ≤ o) (ho2 : o ≤ 2147483647) : ∃ u, am_F sc 264 [am_R (some 47), am_I (ii v), am_I (ii k), am_I (ii o)] (wst w) = some (some (am_I (ii (if (0 ≤ v ∧ v < A.2.2.1.1) ∧ (0 ≤ k ∧ k < A.1.1) ∧ (o = 0 ∨ o = 1) then if lm (aG A) k (aV A v).2.1 = true then -1 else oS (aG A) (vF A v) k (aV A v).2.1 o (vM A v) else -1))), wst u) ∧ fr scM w u := by
  have hn8 := hA.2.2.1.2.1
  have hn0 := hA.2.2.1.1
  have h120 := d120 (sc := sc) hM hn8 hn0 (v := v) hv1 hv2
  by_cases q1 : 0 ≤ v ∧ v < A.2.2.1.1
  · skip
    by_cases q2 : 0 ≤ k ∧ k < A.1.1
    · skip
      by_cases q3 : o = 0 ∨ o = 1
      · skip
        rw [if_pos (by omega)]
        obtain ⟨u, e1, f1, t1, hL, -⟩ := d124v (sc := sc) hM hA q1
        have hMu := RM_m hM (fr_m f1 rfl)
        have hm := vM_le hA v
        have hok : ∀ i, i < vM A v → 0 ≤ vF A v i ∧ vF A v i < A.1.1 := fun i hi => vF_ok hA v hi
        have hx := hA.2.2.1.2.2 v q1.1 q1.2
        have h24 := d24 (sc := sc) hM.1 (k := k) hk1 hk2
        have e2 := d264 (sc := sc) hMu.1 hA.1.2.2.1 t1 hm hok hL hx.2.1.1 hx.2.1.2 q2.1 q2.2 q3
        have e3 := d121 (sc := sc) hMu.1 hA.1.2.2.1 hL q2.1 q2.2 hx.2.1.1 hx.2.1.2
        refine ⟨u, ?_, fr_m f1 rfl⟩
        rw [fq_264]
        unfold aG
        cases q : lm A.1.2.1 k (aV A v).2.1
        all_goals rw [q] at e3
        all_goals simp (disch := omega) only [qB_s, qC_t, qC_f, qI_T, qI_F, qI_t, qI_f, r_I, r_L, r_R, r_V, ii_add, ii_sub, ii_mul, ii_neg, bz_0, bz_1, Bool.true_and, Bool.false_and, Bool.and_true, z00, z11, li_0, li_1, lj_0, lj_1, e_59, gI_47_26, gR_47_27, is_47, h120, h24, ii_jj, d17, e1, e3, e2, ii_eq, Bool.false_eq_true, if_false, if_true, not_false_eq_true, not_true_eq_false]
        all_goals rfl
      · rw [if_neg (by omega)]
        have h24 := d24 (sc := sc) hM.1 (k := k) hk1 hk2
        exact ⟨w, by
          rw [fq_264]
          simp (disch := omega) only [qB_s, qC_t, qC_f, qI_T, qI_F, qI_t, qI_f, r_I, r_L, r_R, r_V, ii_add, ii_sub, ii_mul, ii_neg, bz_0, bz_1, Bool.true_and, Bool.false_and, Bool.and_true, z00, z11, li_0, li_1, lj_0, lj_1, e_59, gI_47_26, gR_47_27, is_47, ii_lt, ii_eq, ii_jj, jj_neg, h120, h24, d17], fr_r _ _⟩
    · rw [if_neg (by omega)]
      have h24 := d24 (sc := sc) hM.1 (k := k) hk1 hk2
      exact ⟨w, by
        rw [fq_264]
        simp (disch := omega) only [qB_s, qC_t, qC_f, qI_T, qI_F, qI_t, qI_f, r_I, r_L, r_R, r_V, ii_add, ii_sub, ii_mul, ii_neg, bz_0, bz_1, Bool.true_and, Bool.false_and, Bool.and_true, z00, z11, li_0, li_1, lj_0, lj_1, e_59, gI_47_26, gR_47_27, is_47, ii_lt, ii_eq, ii_jj, jj_neg, h120, h24], fr_r _ _⟩
  · rw [if_neg (by omega)]
    exact ⟨w, by
      rw [fq_264]
      simp (disch := omega) only [qB_s, qC_t, qC_f, qI_T, qI_F, qI_t, qI_f, r_I, r_L, r_R, r_V, ii_add, ii_sub, ii_mul, ii_neg, bz_0, bz_1, Bool.true_and, Bool.false_and, Bool.and_true, z00, z11, li_0, li_1, lj_0, lj_1, e_59, gI_47_26, gR_47_27, is_47, ii_lt, ii_eq, ii_jj, jj_neg, h120], fr_r _ _⟩

end L31
