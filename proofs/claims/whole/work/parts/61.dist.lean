/-! DISTANCE -/
/-- what is near is told of both -/
def nrB (g : Int → Int → Int) (x : vw) (a b : Int) : Nat → Bool
  | 0 => true
  | m + 1 => nrB g x a b m && (decide (x.2.2.1 m = 0) || (decide (g a (4 + m) ≠ -1) && decide (g b (4 + m) ≠ -1)))
def dsS (g : Int → Int → Int) (x : vw) (a b : Int) (m : Nat) : Int := sm (fun m => x.2.2.1 m * na (g a (4 + m) - g b (4 + m))) m
theorem nrB_f {g : Int → Int → Int} {x : vw} {a b : Int} {m : Nat} (h : nrB g x a b m = false) : ∀ {n : Nat}, m ≤ n → nrB g x a b n = false
  | 0, q => by rw [← h, show m = 0 by omega]
  | n + 1, q => by
    by_cases z : m = n + 1
    · rw [← z]; exact h
    · unfold nrB
      rw [nrB_f h (n := n) (by omega), Bool.false_and]
/-- the distance, or that there is none -/
def dsL (g : Int → Int → Int) (x : vw) (a b F : Int) : Int := if nrB g x a b 6 = true ∧ dsS g x a b 6 ≤ (if x.2.2.2 < 0 then 999 else x.2.2.2) then dsS g x a b 6 else F
def dsF (g : Int → Int → Int) (x : vw) (a b F : Int) : Int := if al g a b x.2.1 = true then dsL g x a b F else F
theorem na_ran {a b : Int} (ha : -1 ≤ a ∧ a ≤ 9) (hb : -1 ≤ b ∧ b ≤ 9) : 0 ≤ na (a - b) ∧ na (a - b) ≤ 10 := by
  unfold na
  split <;> omega
theorem dsS_ran {g : Int → Int → Int} {n : Int} (hg : gK n g) {x : vw} (hx : okV x) {a b : Int} (ha : 0 ≤ a ∧ a < n) (hb : 0 ≤ b ∧ b < n) : ∀ {m : Nat}, m ≤ 6 → 0 ≤ dsS g x a b m ∧ dsS g x a b m ≤ m * 990 := fun {m} hm => by
  have := sm_ran (f := fun m : Nat => x.2.2.1 m * na (g a (4 + m) - g b (4 + m))) (a := 0) (b := 990) (n := m) (fun i hi => by
    have w := hx.2.2.1 i (by omega) (by omega)
    have d := na_ran (gK_m hg ha.1 ha.2 (m := i) (by omega) (by omega)) (gK_m hg hb.1 hb.2 (m := i) (by omega) (by omega))
    refine ⟨Int.mul_nonneg w.1 d.1, ?_⟩
    have := Int.mul_le_mul w.2 d.2 d.1 (by decide : (0 : Int) ≤ 99)
    omega)
  unfold dsS
  omega
section L61
variable {sc : am_X} {w : wo} {n : Int} {g : Int → Int → Int}
theorem d171l (hM : MS w n g) (hg : gK n g) {v : Int} {x : vw} (hV : MVo w v x) (hx : okV x) (hv : 0 ≤ v ∧ v < 8) {a b : Int} (ha : 0 ≤ a ∧ a < n) (hb : 0 ≤ b ∧ b < n) : ∀ (d m : Nat), m + d = 6 → nrB g x a b m = true → am_W sc 171 (19, [some (am_R (some 47)), some (am_I (ii v)), some (am_I (ii a)), some (am_I (ii b)), some (am_I (ii (dsS g x a b m))), some (am_I (ii m)), none, none, none], [], wst w) = some (some (am_I (ii (dsL g x a b 1000000))), wst w)
  | 0, m, hm, hn => by
    have hm6 : m = 6 := by omega
    subst hm6
    have hr := dsS_ran hg hx ha hb (m := 6) (Nat.le_refl _)
    have h56 := hV.2.2.2
    have hw := hx.2.2.2
    rw [wq_171_19]
    unfold dsL
    by_cases q : x.2.2.2 < 0
    · rw [if_pos q]
      by_cases z : 999 < dsS g x a b 6
      · rw [if_neg (fun y => by have := y.2; omega)]
        simp (disch := omega) only [qB_s, qC_t, qC_f, qI_T, qI_F, qI_t, qI_f, r_I, r_L, r_R, r_V, ii_add, ii_sub, ii_mul, ii_neg, bz_0, bz_1, Bool.true_and, Bool.false_and, Bool.and_true, z00, z11, li_0, li_1, li_1000000, li_6, li_999, e_55, e_56, gR_47_12, gR_47_13, is_47, ii_lt, h56]
      · rw [if_pos ⟨hn, by omega⟩]
        simp (disch := omega) only [qB_s, qC_t, qC_f, qI_T, qI_F, qI_t, qI_f, r_I, r_L, r_R, r_V, ii_add, ii_sub, ii_mul, ii_neg, bz_0, bz_1, Bool.true_and, Bool.false_and, Bool.and_true, z00, z11, li_0, li_1, li_1000000, li_6, li_999, e_55, e_56, gR_47_12, gR_47_13, is_47, ii_lt, h56]
    · rw [if_neg q]
      by_cases z : x.2.2.2 < dsS g x a b 6
      · rw [if_neg (fun y => by have := y.2; omega)]
        simp (disch := omega) only [qB_s, qC_t, qC_f, qI_T, qI_F, qI_t, qI_f, r_I, r_L, r_R, r_V, ii_add, ii_sub, ii_mul, ii_neg, bz_0, bz_1, Bool.true_and, Bool.false_and, Bool.and_true, z00, z11, li_0, li_1, li_1000000, li_6, li_999, e_55, e_56, gR_47_12, gR_47_13, is_47, ii_lt, h56]
      · rw [if_pos ⟨hn, by omega⟩]
        simp (disch := omega) only [qB_s, qC_t, qC_f, qI_T, qI_F, qI_t, qI_f, r_I, r_L, r_R, r_V, ii_add, ii_sub, ii_mul, ii_neg, bz_0, bz_1, Bool.true_and, Bool.false_and, Bool.and_true, z00, z11, li_0, li_1, li_1000000, li_6, li_999, e_55, e_56, gR_47_12, gR_47_13, is_47, ii_lt, h56]
  | d + 1, m, hm, hn => by
    have hn200 := hM.2.2.1
    have hr := dsS_ran hg hx ha hb (m := m) (by omega)
    have h55 := hV.2.2.1 m (by omega) (by omega)
    have hw := hx.2.2.1 m (by omega) (by omega)
    have p1 := d107 (sc := sc) hM ha.1 ha.2 (m := m) (by omega) (by omega)
    have p2 := d107 (sc := sc) hM hb.1 hb.2 (m := m) (by omega) (by omega)
    have r1 := gK_m hg ha.1 ha.2 (m := m) (by omega) (by omega)
    have r2 := gK_m hg hb.1 hb.2 (m := m) (by omega) (by omega)
    have es : dsS g x a b (m + 1) = dsS g x a b m + x.2.2.1 m * na (g a (4 + m) - g b (4 + m)) := rfl
    have en : nrB g x a b (m + 1) = (nrB g x a b m && (decide (x.2.2.1 m = 0) || (decide (g a (4 + m) ≠ -1) && decide (g b (4 + m) ≠ -1)))) := rfl
    rw [wq_171_19]
    by_cases q : x.2.2.1 m = 0
    · have ih := d171l hM hg hV hx hv ha hb d (m + 1) (by omega) (by rw [en, hn, decide_eq_true q]; rfl)
      rw [es, q, Int.zero_mul, Int.add_zero, nat_1] at ih
      simp (disch := omega) only [qB_s, qC_t, qC_f, qI_T, qI_F, qI_t, qI_f, r_I, r_L, r_R, r_V, ii_add, ii_sub, ii_mul, ii_neg, bz_0, bz_1, Bool.true_and, Bool.false_and, Bool.and_true, z00, z11, li_0, li_1, li_1000000, li_6, li_999, e_55, e_56, gR_47_12, gR_47_13, is_47, ii_lt, ii_eq, h55, ih]
    · by_cases q1 : g a (4 + m) < 0
      · have hf := nrB_f (g := g) (x := x) (a := a) (b := b) (m := m + 1) (n := 6) (by rw [en, decide_eq_false q, decide_eq_false (show ¬ g a (4 + m) ≠ -1 by omega)]; simp) (by omega)
        rw [show dsL g x a b 1000000 = 1000000 from if_neg (fun y => by rw [hf] at y; exact absurd y.1 (by decide))]
        simp (disch := omega) only [qB_s, qC_t, qC_f, qI_T, qI_F, qI_t, qI_f, r_I, r_L, r_R, r_V, ii_add, ii_sub, ii_mul, ii_neg, bz_0, bz_1, Bool.true_and, Bool.false_and, Bool.and_true, z00, z11, li_0, li_1, li_1000000, li_6, li_999, e_55, e_56, gR_47_12, gR_47_13, is_47, ii_lt, ii_eq, h55, p1, p2]
      · by_cases q2 : g b (4 + m) < 0
        · have hf := nrB_f (g := g) (x := x) (a := a) (b := b) (m := m + 1) (n := 6) (by rw [en, decide_eq_false q, decide_eq_false (show ¬ g b (4 + m) ≠ -1 by omega)]; simp) (by omega)
          rw [show dsL g x a b 1000000 = 1000000 from if_neg (fun y => by rw [hf] at y; exact absurd y.1 (by decide))]
          simp (disch := omega) only [qB_s, qC_t, qC_f, qI_T, qI_F, qI_t, qI_f, r_I, r_L, r_R, r_V, ii_add, ii_sub, ii_mul, ii_neg, bz_0, bz_1, Bool.true_and, Bool.false_and, Bool.and_true, z00, z11, li_0, li_1, li_1000000, li_6, li_999, e_55, e_56, gR_47_12, gR_47_13, is_47, ii_lt, ii_eq, h55, p1, p2]
        · have ih := d171l hM hg hV hx hv ha hb d (m + 1) (by omega) (by rw [en, hn, decide_eq_true (show g a (4 + m) ≠ -1 by omega), decide_eq_true (show g b (4 + m) ≠ -1 by omega)]; simp)
          rw [es, nat_1] at ih
          by_cases q3 : g a (4 + m) < g b (4 + m)
          · rw [show na (g a (4 + m) - g b (4 + m)) = g b (4 + m) - g a (4 + m) by unfold na; rw [if_neg (by omega)]; omega] at ih
            simp (disch := omega) only [qB_s, qC_t, qC_f, qI_T, qI_F, qI_t, qI_f, r_I, r_L, r_R, r_V, ii_add, ii_sub, ii_mul, ii_neg, bz_0, bz_1, Bool.true_and, Bool.false_and, Bool.and_true, z00, z11, li_0, li_1, li_1000000, li_6, li_999, e_55, e_56, gR_47_12, gR_47_13, is_47, ii_lt, ii_eq, h55, p1, p2, ih]
          · rw [show na (g a (4 + m) - g b (4 + m)) = g a (4 + m) - g b (4 + m) by unfold na; rw [if_pos (by omega)]] at ih
            simp (disch := omega) only [qB_s, qC_t, qC_f, qI_T, qI_F, qI_t, qI_f, r_I, r_L, r_R, r_V, ii_add, ii_sub, ii_mul, ii_neg, bz_0, bz_1, Bool.true_and, Bool.false_and, Bool.and_true, z00, z11, li_0, li_1, li_1000000, li_6, li_999, e_55, e_56, gR_47_12, gR_47_13, is_47, ii_lt, ii_eq, h55, p1, p2, ih]
theorem d171 (hM : MS w n g) (hg : gK n g) {v : Int} {x : vw} (hV : MVo w v x) (hx : okV x) (hv : 0 ≤ v ∧ v < 8) (hL : wI w 47 25 = x.2.1) {a b : Int} (ha : 0 ≤ a ∧ a < n) (hb : 0 ≤ b ∧ b < n) : am_F sc 171 [am_R (some 47), am_I (ii v), am_I (ii a), am_I (ii b)] (wst w) = some (some (am_I (ii (dsF g x a b 1000000))), wst w) := by
  have p0 := d151 (sc := sc) hM hg hL ha.1 ha.2 hb.1 hb.2 hx.2.1.1 hx.2.1.2
  rw [fq_171]
  unfold dsF
  by_cases q : al g a b x.2.1 = true
  · rw [bz_t q] at p0
    rw [if_pos q]
    have e := d171l (sc := sc) hM hg hV hx hv ha hb 6 0 rfl rfl
    have e' : am_W sc 171 (19, [some (am_R (some 47)), some (am_I (ii v)), some (am_I (ii a)), some (am_I (ii b)), some (am_I (ii 0)), some (am_I (ii 0)), none, none, none], [], wst w) = _ := e
    simp (disch := omega) only [qB_s, qC_t, qC_f, qI_T, qI_F, qI_t, qI_f, r_I, r_L, r_R, r_V, ii_add, ii_sub, ii_mul, ii_neg, bz_0, bz_1, Bool.true_and, Bool.false_and, Bool.and_true, z00, z11, li_0, li_1, li_1000000, li_6, li_999, e_55, e_56, gR_47_12, gR_47_13, is_47, ii_eq, p0]
    exact e'
  · rw [bz_f q] at p0
    rw [if_neg q]
    simp (disch := omega) only [qB_s, qC_t, qC_f, qI_T, qI_F, qI_t, qI_f, r_I, r_L, r_R, r_V, ii_add, ii_sub, ii_mul, ii_neg, bz_0, bz_1, Bool.true_and, Bool.false_and, Bool.and_true, z00, z11, li_0, li_1, li_1000000, li_6, li_999, e_55, e_56, gR_47_12, gR_47_13, is_47, ii_eq, p0]
end L61
