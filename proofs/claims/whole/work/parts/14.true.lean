/-! WHAT A TEST SAYS, IN THE CLASS -/
theorem jj_aa1 {x y : Int} (h0 : 0 ≤ x) (h1 : 0 ≤ y) : (jj x &&& jj y) &&& jj 1 = jj ((x % 2) * (y % 2)) := by
  obtain ⟨m, rfl⟩ := Int.eq_ofNat_of_zero_le h0
  obtain ⟨n, rfl⟩ := Int.eq_ofNat_of_zero_le h1
  rw [jj_and, jj_and1 (by omega)]
  have h := Nat.and_mod_two_pow (a := m) (b := n) (n := 1)
  have hm : m % 2 = 0 ∨ m % 2 = 1 := by omega
  have hn : n % 2 = 0 ∨ n % 2 = 1 := by omega
  rw [show ((m &&& n : Nat) : Int) % 2 = ((m &&& n) % 2 ^ 1 : Nat) from by omega, h, show (m : Int) % 2 = ((m % 2 : Nat) : Int) from by omega, show (n : Int) % 2 = ((n % 2 : Nat) : Int) from by omega, show (2 : Nat) ^ 1 = 2 from rfl]
  rcases hm with e | e <;> rcases hn with e' | e' <;> rw [e, e'] <;> rfl
theorem jj_oa1 {x y : Int} (h0 : 0 ≤ x) (h1 : 0 ≤ y) : (jj x ||| jj y) &&& jj 1 = jj (bz (x % 2 = 1 ∨ y % 2 = 1)) := by
  obtain ⟨m, rfl⟩ := Int.eq_ofNat_of_zero_le h0
  obtain ⟨n, rfl⟩ := Int.eq_ofNat_of_zero_le h1
  rw [jj_or, jj_and1 (by omega)]
  have h := Nat.or_mod_two_pow (a := m) (b := n) (n := 1)
  have hm : m % 2 = 0 ∨ m % 2 = 1 := by omega
  have hn : n % 2 = 0 ∨ n % 2 = 1 := by omega
  rw [show ((m ||| n : Nat) : Int) % 2 = ((m ||| n) % 2 ^ 1 : Nat) from by omega, h, show (m : Int) % 2 = ((m % 2 : Nat) : Int) from by omega, show (n : Int) % 2 = ((n % 2 : Nat) : Int) from by omega, show (2 : Nat) ^ 1 = 2 from rfl]
  rcases hm with e | e <;> rcases hn with e' | e' <;> rw [e, e'] <;> rfl
theorem j63 : jj 1 &&& jj 63 = jj 1 := by decide
theorem lm_2 : -jj 2 = jj (-2) := by decide
section L14
variable {sc : am_X} {w : wo}
theorem uI_same (w : wo) (a k : Nat) : uI w a k (wI w a k) = w := by
  show (_, _) = w
  obtain ⟨f, w2⟩ := w
  congr 1
  funext b j
  show (if b = a ∧ j = k then f a k else f b j) = f b j
  split
  · rename_i h
    rw [h.1, h.2]
  · rfl
theorem c102 {r : Int → Int} {rr : Nat} (hrr : shp w rr = some (1, 0, 11)) (hv : ∀ j, 0 ≤ j → j < 11 → wA w rr j = r j) {o : Int} (h1 : 0 ≤ o) (h2 : o ≤ 10010) : am_F sc 102 [am_I (ii o), am_R (some rr)] (wst w) = some (some (am_I (ii (pv r o))), wst w) := by
  rw [ft_102]
  have hl := len_of hrr
  unfold pv
  by_cases q : o < 10000
  · have q' : o - 10000 < 0 := by omega
    simp (disch := omega) only [li_0, li_10000, li_nat, Option.bind_some, Option.bind_none, r_I, r_L, r_R, r_V, cond_true, cond_false, ii_add, ii_sub, ii_mul, ii_neg, bz_0, bz_1, Bool.true_and, Bool.false_and, Bool.and_true, z00, z11, ii_lt, q, q', if_true]
  · have q' : ¬ (o - 10000 < 0) := by omega
    have he := eI_of (tt := 0) (z := o - 10000) hrr rfl rfl (by omega) (by omega) (by decide)
    have q3 : o - 10000 < ((11 : Nat) : Int) := by omega
    simp (disch := omega) only [li_0, li_10000, li_nat, Option.bind_some, Option.bind_none, r_I, r_L, r_R, r_V, cond_true, cond_false, ii_add, ii_sub, ii_mul, ii_neg, bz_0, bz_1, Bool.true_and, Bool.false_and, Bool.and_true, z00, z11, ii_lt, q, q', q3, if_false, if_true, hl, he, hv]
theorem c103 {x y s : Int} (hx1 : -2147483648 ≤ x) (hx2 : x ≤ 2147483647) (hy1 : -2147483648 ≤ y) (hy2 : y ≤ 2147483647) (hs : s = 60 ∨ s = 61 ∨ s = 62 ∨ s = 201 ∨ s = 202) : am_F sc 103 [am_I (ii x), am_I (ii s), am_I (ii y)] (wst w) = some (some (am_I (ii (bz (pcm x s y = true)))), wst w) := by
  rw [ft_103]
  rcases hs with rfl | rfl | rfl | rfl | rfl <;> simp (disch := omega) only [li_0, li_1, li_201, li_202, li_60, li_61, ii_lt, ii_eq] <;> unfold pcm bz <;> simp <;> split <;> first | rfl | (exfalso; omega) | (rw [if_pos (by omega)]) | (rw [if_neg (by omega)])
/-- a test object and what it holds -/
def PT (w : wo) (a : Nat) (P : pg) : Prop := ∃ b, shp w a = some (0, 9, 0) ∧ ref w a 0 = some b ∧ shp w b = some (1, 0, P.1) ∧ ∀ k : Nat, k < P.1 → wA w b k = P.2.1 k * 65536 + P.2.2 k
/-- a row of words -/
def RW (w : wo) (rr : Nat) (r : Int → Int) : Prop := shp w rr = some (1, 0, 11) ∧ ∀ j, 0 ≤ j → j < 11 → wA w rr j = r j
theorem c104 {r : Int → Int} {rr a : Nat} {P : pg} (hr : okr r) (hR : RW w rr r) (hT : PT w a P) (hP : okP P) : am_F sc 104 [am_R (some a), am_R (some rr)] (wst w) = some (some (am_I (ii (bz (evp r P = true)))), wst w) := by
  obtain ⟨b, ha, hb, hs, hw⟩ := hT
  have hg : am_gR (wst w) a 9 0 = some (some b) := by rw [gR_of ha rfl, hb]
  have hl := len_of hs
  have hn := hP.1
  have lp := lp_0 (am_W sc 104) (fun k : Nat => (14, [some (am_R (some a)), some (am_R (some rr)), some (am_L (jj (xv (er r P k).1))), none, some (am_I (ii (er r P k).2.1)), some (am_I (ii (er r P k).2.2.1)), some (am_I (ii (er r P k).2.2.2)), some (am_I (ii k)), none, none, none, none, none, none], [], wst w)) P.1 (fun k hk => by
    obtain ⟨a1, a2, a3, a4, a5, a6, a7, a8⟩ := er_ok hr hP k (by omega)
    have a5b : pvn P k ≤ 40 := by
      have : ∀ d, pvn P k ≤ pvn P (k + d) := fun d => by
        induction d with
        | zero => exact Int.le_refl _
        | succ d ih =>
          have e : pvn P (k + (d + 1)) = pvn P (k + d) + bz (P.2.1 (k + d) = 0 ∨ P.2.1 (k + d) = 1 ∨ P.2.1 (k + d) = 2) := rfl
          have := bz_ran (p := P.2.1 (k + d) = 0 ∨ P.2.1 (k + d) = 1 ∨ P.2.1 (k + d) = 2)
          omega
      have h := this (P.1 - k)
      rw [show k + (P.1 - k) = P.1 from by omega] at h
      exact Int.le_trans h hP.2.2.2
    have hx := xv_ran a1
    have hx2 : (2 : Int) ^ (er r P k).1.length ≤ 2 ^ 40 := by
      have : (2 : Nat) ^ (er r P k).1.length ≤ 2 ^ 40 := Nat.pow_le_pow_right (by decide) (by omega)
      exact_mod_cast this
    have hx3 : xv (er r P k).1 < 1099511627776 := by omega
    have hk1 := hP.2.1 k hk
    have hon : 0 ≤ P.2.2 k ∧ P.2.2 k ≤ 10010 := by unfold pok at hk1; omega
    have hkd : 0 ≤ P.2.1 k ∧ P.2.1 k ≤ 6 := by unfold pok at hk1; omega
    have he := eI_of (tt := 0) (z := (k : Int)) hs rfl rfl (by omega) (by omega) (by omega)
    rw [hw k hk] at he
    have hdv : ii (P.2.1 k * 65536 + P.2.2 k) / ii 65536 = ii (P.2.1 k) := by
      rw [ii_div (by omega) (by omega) (by omega) (by omega)]
      congr 1
      omega
    have hmd : ii (P.2.1 k * 65536 + P.2.2 k) - ii (P.2.1 k) * ii 65536 = ii (P.2.2 k) := by
      rw [ii_mul, ii_sub]
      congr 1
      omega
    have hkn : (k : Int) < (P.1 : Int) := by omega
    have hc2 := c102 (sc := sc) hR.1 hR.2 hon.1 hon.2
    have hpv := pv_ran hr hon.1 hon.2
    have hc3 := s20 (sc := sc) (w := w) (x := P.2.2 k - 10000) (by omega) (by omega)
    have hee : er r P (k + 1) = e1 r (P.2.1 k) (P.2.2 k) (er r P k) := rfl
    rw [hee]
    clear hee hx2 hx
    revert a1 a2 a3 a4 a5 a6 a7 a8 hx3
    generalize er r P k = st
    obtain ⟨bs, l, su, ms⟩ := st
    dsimp only
    intro a1 a2 a3 a4 a5 a6 a7 a8 hx3
    have hxn := (xv_ran a1).1
    have hc4 := c103 (sc := sc) (w := w) (x := l) (y := su) (s := P.2.2 k) (by omega) (by omega) (by omega) (by omega)
    rw [wt_104_14]
    rw [nat_1]
    have z65 : ¬ ((65536 : Int32) = 0) := by decide
    simp only [z65, if_false, hg, Option.bind_some, hl, he, li_nat, li_65536, li_0, li_1, li_2, li_3, li_5, li_6, hdv, hmd]
    rw [if_pos (by rw [ii_lt (by omega) (by omega) (by omega) (by omega)]; exact hkn)]
    rcases hk1 with ⟨e, h1, h2, h3⟩ | ⟨e, h1, h2, h3⟩ | ⟨e, h1, h2⟩ | ⟨e, h1, h2, h3⟩ | ⟨e, h1, h2, h3⟩
    · rw [e1_0 e, e]
      dsimp only
      by_cases m0 : ms = 1
      · have hp : pms r (P.2.2 k) ms = 1 := bz_t (.inl m0)
        rw [hp]
        simp (disch := omega) only [li_0, li_1, li_10000, li_2, li_3, li_5, li_6, li_65536, li_nat, lj_0, lj_1, lj_2, lj_63, Option.bind_some, Option.bind_none, r_I, r_L, r_R, r_V, cond_true, cond_false, ii_add, ii_sub, ii_mul, ii_neg, bz_0, bz_1, Bool.true_and, Bool.false_and, Bool.and_true, z00, z11, ii_lt, ii_eq, ii_jj, j63, lm_2, hc2, m0, wt_104_85, Int.reduceLT, Int.reduceEq, if_true, if_false]
      · have m1 : ms = 0 := by omega
        by_cases qa : 0 ≤ P.2.2 k - 10000 ∧ P.2.2 k - 10000 < 6
        · by_cases qb : pv r (P.2.2 k) = -1
          · have hp : pms r (P.2.2 k) ms = 1 := bz_t (.inr ⟨by omega, by omega, qb⟩)
            rw [hp]
            simp (disch := omega) only [li_0, li_1, li_10000, li_2, li_3, li_5, li_6, li_65536, li_nat, lj_0, lj_1, lj_2, lj_63, Option.bind_some, Option.bind_none, r_I, r_L, r_R, r_V, cond_true, cond_false, ii_add, ii_sub, ii_mul, ii_neg, bz_0, bz_1, Bool.true_and, Bool.false_and, Bool.and_true, z00, z11, ii_lt, ii_eq, ii_jj, j63, lm_2, hc2, hc3, m1, qa, qb, wt_104_85, Int.reduceLT, Int.reduceEq, if_true, if_false, not_true_eq_false, and_self]
          · have hp : pms r (P.2.2 k) ms = 0 := bz_f (by omega)
            rw [hp]
            simp (disch := omega) only [li_0, li_1, li_10000, li_2, li_3, li_5, li_6, li_65536, li_nat, lj_0, lj_1, lj_2, lj_63, Option.bind_some, Option.bind_none, r_I, r_L, r_R, r_V, cond_true, cond_false, ii_add, ii_sub, ii_mul, ii_neg, bz_0, bz_1, Bool.true_and, Bool.false_and, Bool.and_true, z00, z11, ii_lt, ii_eq, ii_jj, j63, lm_2, hc2, hc3, m1, qa, qb, wt_104_89, Int.reduceLT, Int.reduceEq, if_true, if_false, not_true_eq_false, and_self]
        · have hp : pms r (P.2.2 k) ms = 0 := bz_f (by omega)
          rw [hp]
          simp (disch := omega) only [li_0, li_1, li_10000, li_2, li_3, li_5, li_6, li_65536, li_nat, lj_0, lj_1, lj_2, lj_63, Option.bind_some, Option.bind_none, r_I, r_L, r_R, r_V, cond_true, cond_false, ii_add, ii_sub, ii_mul, ii_neg, bz_0, bz_1, Bool.true_and, Bool.false_and, Bool.and_true, z00, z11, ii_lt, ii_eq, ii_jj, j63, lm_2, hc2, hc3, m1, qa, wt_104_89, Int.reduceLT, Int.reduceEq, if_true, if_false, not_false_eq_true, Bool.false_eq_true]
    · rcases e with e | e
      · rw [e1_1 e, e]
        dsimp only
        by_cases m0 : ms = 1
        · have hp : pms r (P.2.2 k) ms = 1 := bz_t (.inl m0)
          rw [hp]
          simp (disch := omega) only [li_0, li_1, li_10000, li_2, li_3, li_5, li_6, li_65536, li_nat, lj_0, lj_1, lj_2, lj_63, Option.bind_some, Option.bind_none, r_I, r_L, r_R, r_V, cond_true, cond_false, ii_add, ii_sub, ii_mul, ii_neg, bz_0, bz_1, Bool.true_and, Bool.false_and, Bool.and_true, z00, z11, ii_lt, ii_eq, ii_jj, j63, lm_2, hc2, m0, wt_104_85, Int.reduceLT, Int.reduceEq, if_true, if_false]
        · have m1 : ms = 0 := by omega
          by_cases qa : 0 ≤ P.2.2 k - 10000 ∧ P.2.2 k - 10000 < 6
          · by_cases qb : pv r (P.2.2 k) = -1
            · have hp : pms r (P.2.2 k) ms = 1 := bz_t (.inr ⟨by omega, by omega, qb⟩)
              rw [hp]
              simp (disch := omega) only [li_0, li_1, li_10000, li_2, li_3, li_5, li_6, li_65536, li_nat, lj_0, lj_1, lj_2, lj_63, Option.bind_some, Option.bind_none, r_I, r_L, r_R, r_V, cond_true, cond_false, ii_add, ii_sub, ii_mul, ii_neg, bz_0, bz_1, Bool.true_and, Bool.false_and, Bool.and_true, z00, z11, ii_lt, ii_eq, ii_jj, j63, lm_2, hc2, hc3, m1, qa, qb, wt_104_85, Int.reduceLT, Int.reduceEq, if_true, if_false, not_true_eq_false, and_self]
            · have hp : pms r (P.2.2 k) ms = 0 := bz_f (by omega)
              rw [hp]
              simp (disch := omega) only [li_0, li_1, li_10000, li_2, li_3, li_5, li_6, li_65536, li_nat, lj_0, lj_1, lj_2, lj_63, Option.bind_some, Option.bind_none, r_I, r_L, r_R, r_V, cond_true, cond_false, ii_add, ii_sub, ii_mul, ii_neg, bz_0, bz_1, Bool.true_and, Bool.false_and, Bool.and_true, z00, z11, ii_lt, ii_eq, ii_jj, j63, lm_2, hc2, hc3, m1, qa, qb, wt_104_89, Int.reduceLT, Int.reduceEq, if_true, if_false, not_true_eq_false, and_self]
          · have hp : pms r (P.2.2 k) ms = 0 := bz_f (by omega)
            rw [hp]
            simp (disch := omega) only [li_0, li_1, li_10000, li_2, li_3, li_5, li_6, li_65536, li_nat, lj_0, lj_1, lj_2, lj_63, Option.bind_some, Option.bind_none, r_I, r_L, r_R, r_V, cond_true, cond_false, ii_add, ii_sub, ii_mul, ii_neg, bz_0, bz_1, Bool.true_and, Bool.false_and, Bool.and_true, z00, z11, ii_lt, ii_eq, ii_jj, j63, lm_2, hc2, hc3, m1, qa, wt_104_89, Int.reduceLT, Int.reduceEq, if_true, if_false, not_false_eq_true, Bool.false_eq_true]
      · rw [e1_2 e, e]
        dsimp only
        by_cases m0 : ms = 1
        · have hp : pms r (P.2.2 k) ms = 1 := bz_t (.inl m0)
          rw [hp]
          simp (disch := omega) only [li_0, li_1, li_10000, li_2, li_3, li_5, li_6, li_65536, li_nat, lj_0, lj_1, lj_2, lj_63, Option.bind_some, Option.bind_none, r_I, r_L, r_R, r_V, cond_true, cond_false, ii_add, ii_sub, ii_mul, ii_neg, bz_0, bz_1, Bool.true_and, Bool.false_and, Bool.and_true, z00, z11, ii_lt, ii_eq, ii_jj, j63, lm_2, hc2, m0, wt_104_85, Int.reduceLT, Int.reduceEq, if_true, if_false]
        · have m1 : ms = 0 := by omega
          by_cases qa : 0 ≤ P.2.2 k - 10000 ∧ P.2.2 k - 10000 < 6
          · by_cases qb : pv r (P.2.2 k) = -1
            · have hp : pms r (P.2.2 k) ms = 1 := bz_t (.inr ⟨by omega, by omega, qb⟩)
              rw [hp]
              simp (disch := omega) only [li_0, li_1, li_10000, li_2, li_3, li_5, li_6, li_65536, li_nat, lj_0, lj_1, lj_2, lj_63, Option.bind_some, Option.bind_none, r_I, r_L, r_R, r_V, cond_true, cond_false, ii_add, ii_sub, ii_mul, ii_neg, bz_0, bz_1, Bool.true_and, Bool.false_and, Bool.and_true, z00, z11, ii_lt, ii_eq, ii_jj, j63, lm_2, hc2, hc3, m1, qa, qb, wt_104_85, Int.reduceLT, Int.reduceEq, if_true, if_false, not_true_eq_false, and_self]
            · have hp : pms r (P.2.2 k) ms = 0 := bz_f (by omega)
              rw [hp]
              simp (disch := omega) only [li_0, li_1, li_10000, li_2, li_3, li_5, li_6, li_65536, li_nat, lj_0, lj_1, lj_2, lj_63, Option.bind_some, Option.bind_none, r_I, r_L, r_R, r_V, cond_true, cond_false, ii_add, ii_sub, ii_mul, ii_neg, bz_0, bz_1, Bool.true_and, Bool.false_and, Bool.and_true, z00, z11, ii_lt, ii_eq, ii_jj, j63, lm_2, hc2, hc3, m1, qa, qb, wt_104_89, Int.reduceLT, Int.reduceEq, if_true, if_false, not_true_eq_false, and_self]
          · have hp : pms r (P.2.2 k) ms = 0 := bz_f (by omega)
            rw [hp]
            simp (disch := omega) only [li_0, li_1, li_10000, li_2, li_3, li_5, li_6, li_65536, li_nat, lj_0, lj_1, lj_2, lj_63, Option.bind_some, Option.bind_none, r_I, r_L, r_R, r_V, cond_true, cond_false, ii_add, ii_sub, ii_mul, ii_neg, bz_0, bz_1, Bool.true_and, Bool.false_and, Bool.and_true, z00, z11, ii_lt, ii_eq, ii_jj, j63, lm_2, hc2, hc3, m1, qa, wt_104_89, Int.reduceLT, Int.reduceEq, if_true, if_false, not_false_eq_true, Bool.false_eq_true]
    · rw [e1_3 e, e]
      dsimp only
      have hc4' := hc4 h2
      by_cases m0 : ms = 1
      · have hp : bz (ms = 0 ∧ pcm l (P.2.2 k) su = true) = 0 := bz_f (by omega)
        rw [hp]
        simp (disch := omega) only [xv, li_0, li_1, li_10000, li_2, li_3, li_5, li_6, li_65536, li_nat, lj_0, lj_1, lj_2, lj_63, Option.bind_some, Option.bind_none, r_I, r_L, r_R, r_V, cond_true, cond_false, ii_add, ii_sub, ii_mul, ii_neg, bz_0, bz_1, Bool.true_and, Bool.false_and, Bool.and_true, z00, z11, ii_lt, ii_eq, ii_jj, j63, lm_2, m0, jj_shl1, jj_or1, Int.reduceLT, Int.reduceEq, if_true, if_false]
      · have m1 : ms = 0 := by omega
        by_cases q : pcm l (P.2.2 k) su = true
        · have hp : bz (ms = 0 ∧ pcm l (P.2.2 k) su = true) = 1 := bz_t ⟨m1, q⟩
          rw [hp]
          simp (disch := omega) only [xv, li_0, li_1, li_10000, li_2, li_3, li_5, li_6, li_65536, li_nat, lj_0, lj_1, lj_2, lj_63, Option.bind_some, Option.bind_none, r_I, r_L, r_R, r_V, cond_true, cond_false, ii_add, ii_sub, ii_mul, ii_neg, bz_0, bz_1, Bool.true_and, Bool.false_and, Bool.and_true, z00, z11, ii_lt, ii_eq, ii_jj, j63, lm_2, hc4', m1, q, jj_shl1, jj_or1, Int.reduceLT, Int.reduceEq, if_true, if_false, not_true_eq_false]
        · have hp : bz (ms = 0 ∧ pcm l (P.2.2 k) su = true) = 0 := bz_f (fun z => q z.2)
          rw [hp]
          simp (disch := omega) only [xv, li_0, li_1, li_10000, li_2, li_3, li_5, li_6, li_65536, li_nat, lj_0, lj_1, lj_2, lj_63, Option.bind_some, Option.bind_none, r_I, r_L, r_R, r_V, cond_true, cond_false, ii_add, ii_sub, ii_mul, ii_neg, bz_0, bz_1, Bool.true_and, Bool.false_and, Bool.and_true, z00, z11, ii_lt, ii_eq, ii_jj, j63, lm_2, hc4', m1, q, jj_shl1, jj_or1, Int.reduceLT, Int.reduceEq, if_true, if_false, not_false_eq_true, Bool.false_eq_true]
    · rw [e1_6 e, e]
      dsimp only
      match bs, a1, a2, hxn with
      | [], _, a2, _ => simp at a2; omega
      | b :: q, a1, a2, hxn =>
        have hq := (xv_ran a1.2).1
        have hb : 0 ≤ b ∧ b ≤ 1 := by have := a1.1; omega
        simp (disch := omega) only [bnot, xv, li_0, li_1, li_10000, li_2, li_3, li_5, li_6, li_65536, li_nat, lj_0, lj_1, lj_2, lj_63, Option.bind_some, Option.bind_none, r_I, r_L, r_R, r_V, cond_true, cond_false, ii_add, ii_sub, ii_mul, ii_neg, bz_0, bz_1, Bool.true_and, Bool.false_and, Bool.and_true, z00, z11, ii_lt, ii_eq, ii_jj, j63, lm_2, jj_xor1, Int.reduceLT, Int.reduceEq, if_true, if_false]
    · rcases e with e | e
      · rw [e1_4 e, e]
        dsimp only
        match bs, a1, a2, hxn with
        | [], _, a2, _ => simp at a2; omega
        | [b], _, a2, _ => simp at a2; omega
        | a' :: b :: q, a1, a2, hxn =>
          have hq := (xv_ran a1.2.2).1
          have ha : 0 ≤ a' ∧ a' ≤ 1 := by have := a1.1; omega
          have hb : 0 ≤ b ∧ b ≤ 1 := by have := a1.2.1; omega
          have hX : xv (a' :: b :: q) < 1099511627776 := hx3
          simp only [xv] at hX
          have t1 : (2 * (2 * xv q + b) + a') / 2 = 2 * xv q + b := by omega
          have t2 : (2 * xv q + b) / 2 = xv q := by omega
          have t3 : (2 * (2 * xv q + b) + a') % 2 = a' := by omega
          have t4 : (2 * xv q + b) % 2 = b := by omega
          have t5 : 0 ≤ a' * b ∧ a' * b ≤ 1 := by rcases a1.1 with h | h <;> rcases a1.2.1 with h' | h' <;> rw [h, h'] <;> decide
          have t6 := bz_ran (p := a' = 1 ∨ b = 1)
          simp (disch := omega) only [bor, xv, li_0, li_1, li_10000, li_2, li_3, li_5, li_6, li_65536, li_nat, lj_0, lj_1, lj_2, lj_63, Option.bind_some, Option.bind_none, r_I, r_L, r_R, r_V, cond_true, cond_false, ii_add, ii_sub, ii_mul, ii_neg, bz_0, bz_1, Bool.true_and, Bool.false_and, Bool.and_true, z00, z11, ii_lt, ii_eq, ii_jj, j63, lm_2, jj_shr1, jj_andm2, jj_aa1, jj_oa1, jj_or1, t1, t2, t3, t4, Int.reduceLT, Int.reduceEq, if_true, if_false]
      · rw [e1_5 e, e]
        dsimp only
        match bs, a1, a2, hxn with
        | [], _, a2, _ => simp at a2; omega
        | [b], _, a2, _ => simp at a2; omega
        | a' :: b :: q, a1, a2, hxn =>
          have hq := (xv_ran a1.2.2).1
          have ha : 0 ≤ a' ∧ a' ≤ 1 := by have := a1.1; omega
          have hb : 0 ≤ b ∧ b ≤ 1 := by have := a1.2.1; omega
          have hX : xv (a' :: b :: q) < 1099511627776 := hx3
          simp only [xv] at hX
          have t1 : (2 * (2 * xv q + b) + a') / 2 = 2 * xv q + b := by omega
          have t2 : (2 * xv q + b) / 2 = xv q := by omega
          have t3 : (2 * (2 * xv q + b) + a') % 2 = a' := by omega
          have t4 : (2 * xv q + b) % 2 = b := by omega
          have t5 : 0 ≤ a' * b ∧ a' * b ≤ 1 := by rcases a1.1 with h | h <;> rcases a1.2.1 with h' | h' <;> rw [h, h'] <;> decide
          have t6 := bz_ran (p := a' = 1 ∨ b = 1)
          simp (disch := omega) only [band, xv, li_0, li_1, li_10000, li_2, li_3, li_5, li_6, li_65536, li_nat, lj_0, lj_1, lj_2, lj_63, Option.bind_some, Option.bind_none, r_I, r_L, r_R, r_V, cond_true, cond_false, ii_add, ii_sub, ii_mul, ii_neg, bz_0, bz_1, Bool.true_and, Bool.false_and, Bool.and_true, z00, z11, ii_lt, ii_eq, ii_jj, j63, lm_2, jj_shr1, jj_andm2, jj_aa1, jj_oa1, jj_or1, t1, t2, t3, t4, Int.reduceLT, Int.reduceEq, if_true, if_false])
  rw [ft_104]
  have h0 : er r P 0 = ([], 0, 0, 0) := rfl
  rw [h0] at lp
  obtain ⟨a1, a2, a3, a4, a5, a6, a7, a8⟩ := er_ok hr hP P.1 (Nat.le_refl _)
  rw [hP.2.2.1] at a2
  unfold evp
  revert lp a1 a2
  generalize er r P P.1 = st
  obtain ⟨bs, l, su, ms⟩ := st
  dsimp only
  intro lp a1 a2
  rw [show (some (am_L 0) : Option am_V) = some (am_L (jj (xv []))) from rfl, show (some (am_I 0) : Option am_V) = some (am_I (ii ((0 : Nat) : Int))) from rfl]
  have e0 : (some (am_I (ii (0 : Int))) : Option am_V) = some (am_I (ii ((0 : Nat) : Int))) := rfl
  rw [e0] at lp
  rw [lp, wt_104_14]
  match bs, a1, a2 with
  | [], _, a2 => simp at a2
  | b :: c :: q, _, a2 => simp at a2; omega
  | [b], a1, _ =>
    simp only [hg, Option.bind_some, hl, li_nat]
    rw [if_neg (by rw [ii_lt (by omega) (by omega) (by omega) (by omega)]; omega)]
    rcases a1.1 with h | h
    · rw [h, if_pos (by decide)]
      rfl
    · rw [h, if_neg (by decide)]
      rfl
end L14
