/-! NEAREST, CLASH -/
theorem sm_sub (f g : Nat → Int) : ∀ n, sm (fun i => f i - g i) n = sm f n - sm g n
  | 0 => rfl
  | n + 1 => by
    unfold sm
    rw [sm_sub f g n]
    omega
theorem bS_mo (g : Int → Int → Int) (f : Nat → Int) (mk tr : Int) {b c : Int} (h : b ≤ c) (m : Nat) : bS g f mk tr c m ≤ bS g f mk tr b m := sm_le fun i _ => by
  unfold bz
  repeat' split
  all_goals omega
theorem bR_ran (g : Int → Int → Int) (f : Nat → Int) (mk : Int) {c0 c1 : Int} (h0 : 0 ≤ c0) (h1 : 0 ≤ c1) (m : Nat) : 0 ≤ bR g f mk c0 c1 m ∧ bR g f mk c0 c1 m ≤ 4 * m := by
  have a1 := gS_ran g f mk 0 c0 m
  have a2 := bS_ran g f mk 0 c0 m
  have a3 := gS_ran g f mk 1 c1 m
  have a4 := bS_ran g f mk 1 c1 m
  have a5 := bS_ran g f mk 0 0 m
  have a6 := bS_ran g f mk 1 0 m
  have a7 := bS_mo g f mk 0 h0 m
  have a8 := bS_mo g f mk 1 h1 m
  unfold bR
  omega
/-- the first of the best -/
def nr (W : Nat → Bool) (R : Nat → Int) : Nat → Int × Int
  | 0 => (-2, -2)
  | k + 1 => if W k = true ∧ (nr W R k).2 < R k then ((k : Int), R k) else nr W R k
theorem nr_ok {W : Nat → Bool} {R : Nat → Int} {M : Int} (hR : ∀ k, 0 ≤ R k ∧ R k ≤ M) : ∀ k, nr W R k = (-2, -2) ∨ (0 ≤ (nr W R k).1 ∧ (nr W R k).1 < k ∧ 0 ≤ (nr W R k).2 ∧ (nr W R k).2 ≤ M)
  | 0 => .inl rfl
  | k + 1 => by
    have ih := nr_ok (W := W) hR k
    have := hR k
    unfold nr
    split
    · exact .inr ⟨by show (0 : Int) ≤ (k : Int); omega, by show (k : Int) < ((k + 1 : Nat) : Int); omega, this.1, this.2⟩
    · rcases ih with ih | ih
      · exact .inl ih
      · exact .inr ⟨ih.1, by omega, ih.2.2.1, ih.2.2.2⟩
theorem nr_t {W : Nat → Bool} {R : Nat → Int} {k : Nat} (h : W k = true ∧ (nr W R k).2 < R k) : nr W R (k + 1) = ((k : Int), R k) := if_pos h
theorem nr_f {W : Nat → Bool} {R : Nat → Int} {k : Nat} (h : ¬ (W k = true ∧ (nr W R k).2 < R k)) : nr W R (k + 1) = nr W R k := if_neg h
section L29
variable {sc : am_X} {w : wo} {A : ab} {ow : Nat → Nat} {n : Int} {g : Int → Int → Int}
def nW (g : Int → Int → Int) (f : Nat → Int) (mk ms t : Int) (m k : Nat) : Bool := wiB (bU g f mk ms ((k : Int) / 11) ((k : Int) % 11) m) (bD g f mk ms ((k : Int) / 11) ((k : Int) % 11) m) t
def nR (g : Int → Int → Int) (f : Nat → Int) (mk : Int) (m k : Nat) : Int := bR g f mk ((k : Int) / 11) ((k : Int) % 11) m
theorem GB_fr {m : Nat} {f : Nat → Int} {mk : Int} {v : wo} {l : List Nat} (h : GB w g f mk m) (q : fr l w v) (z : (fhas l 4099 || fhas l 4199) = false) : GB v g f mk m := by
  rw [Bool.or_eq_false_iff] at z
  unfold GB
  rw [fr_A (a := 40) q z.1, fr_A (a := 41) q z.2]
  exact h
/-- the class, at one pair of bars -/
theorem c239k {m : Nat} {f : Nat → Int} {mk ms t : Int} (hG : GB w g f mk m) (hm : m ≤ 200) (hms : 0 ≤ ms ∧ ms ≤ 3) (ht : 0 ≤ t ∧ t ≤ 1000) {k : Nat} (hk : k < 121) : ∃ v, am_F sc 239 [am_R (some 39), am_R (some 28), am_I (ii ms), am_I (ii ((k : Int) / 11)), am_I (ii ((k : Int) % 11))] (wst w) = some (none, wst v) ∧ fr [2800, 2801] w v ∧ am_F sc 240 [am_R (some 39), am_I (ii ((k : Int) / 11)), am_I (ii ((k : Int) % 11))] (wst v) = some (some (am_I (ii (nR g f mk m k))), wst v) ∧ am_F sc 230 [am_R (some 28), am_I (ii t)] (wst v) = some (some (am_I (ii (bz (nW g f mk ms t m k = true)))), wst v) := by
  obtain ⟨v, e, h, j0, j1⟩ := c239 (sc := sc) hG hm (c0 := (k : Int) / 11) (c1 := (k : Int) % 11) hms (by omega) (by omega)
  obtain ⟨hU, hD⟩ := bUD_ran g f mk ms ((k : Int) / 11) ((k : Int) % 11) hm
  exact ⟨v, e, h, c240 (sc := sc) (GB_fr hG h rfl) (by omega) (by omega), c230 (sc := sc) ht j0 j1 hU hD⟩
theorem x_241 (hC : RC ow w A) (hA : okA A) {v mk ms t o : Int} (hv1 : -2147483648 ≤ v) (hv2 : v ≤ 2147483647) (hmk1 : -2147483648 ≤ mk) (hmk2 : mk ≤ 2147483647) (hms1 : -2147483648 ≤ ms) (hms2 : ms ≤ 2147483647) (ht1 : -2147483648 ≤ t) (ht2 : t ≤ 2147483647) (ho1 : -2147483648 ≤ o) (ho2 : o ≤ 2147483647) : ∃ u, am_F sc 241 [am_R (some 0), am_I (ii v), am_I (ii mk), am_I (ii ms), am_I (ii t), am_I (ii o)] (wst w) = some (some (am_I (ii (if (0 ≤ mk ∧ mk < 6) ∧ (0 ≤ ms ∧ ms < 4) ∧ (0 ≤ t ∧ t ≤ 1000) ∧ (0 ≤ o ∧ o ≤ 2) ∧ (0 ≤ v ∧ v < A.2.2.1.1) then if (nr (nW (aG A) (vF A v) mk ms t (vM A v)) (nR (aG A) (vF A v) mk (vM A v)) 121).1 < 0 then -2 else if o = 0 then (nr (nW (aG A) (vF A v) mk ms t (vM A v)) (nR (aG A) (vF A v) mk (vM A v)) 121).1 / 11 else if o = 1 then (nr (nW (aG A) (vF A v) mk ms t (vM A v)) (nR (aG A) (vF A v) mk (vM A v)) 121).1 % 11 else (nr (nW (aG A) (vF A v) mk ms t (vM A v)) (nR (aG A) (vF A v) mk (vM A v)) 121).2 else -1))), wst u) ∧ fr scC w u := by
  have hn8 := hA.2.2.1.2.1
  have hn0 := hA.2.2.1.1
  by_cases q1 : 0 ≤ mk ∧ mk < 6
  · skip
    by_cases q2 : 0 ≤ ms ∧ ms < 4
    · skip
      by_cases q3 : 0 ≤ t ∧ t ≤ 1000
      · skip
        by_cases q4 : 0 ≤ o ∧ o ≤ 2
        · skip
          by_cases q5 : 0 ≤ v ∧ v < A.2.2.1.1
          · skip
            rw [if_pos (by omega)]
            obtain ⟨u, e1, f1, t1, -⟩ := (c117 (sc := sc) hC hA hv1 hv2).1 q5
            have hCu := RC_c hC (fr_m f1 rfl)
            have hm := vM_le hA v
            have hg := hA.1.2.2.1
            have hst := stg hA v
            have hok : ∀ i, i < vM A v → 0 ≤ vF A v i ∧ vF A v i < A.1.1 := fun i hi => vF_ok hA v hi
            obtain ⟨u2, e2, f2, hG⟩ := c234 (sc := sc) hCu.1 hg t1 hm hok q1
            have hR : ∀ k : Nat, 0 ≤ nR A.1.2.1 (vF A v) mk (vM A v) k ∧ nR A.1.2.1 (vF A v) mk (vM A v) k ≤ 800 := fun k => by
              have := bR_ran A.1.2.1 (vF A v) mk (c0 := (k : Int) / 11) (c1 := (k : Int) % 11) (by omega) (by omega) (vM A v)
              unfold nR
              omega
            obtain ⟨u3, e3, f3, -⟩ := lp_s0 (am_W sc 241) (fun (k : Nat) (v' : wo) => (70, [some (am_R (some 0)), none, none, some (am_I (ii ms)), some (am_I (ii t)), some (am_I (ii o)), some (am_I (ii (nr (nW A.1.2.1 (vF A v) mk ms t (vM A v)) (nR A.1.2.1 (vF A v) mk (vM A v)) k).1)), some (am_I (ii (nr (nW A.1.2.1 (vF A v) mk ms t (vM A v)) (nR A.1.2.1 (vF A v) mk (vM A v)) k).2)), some (am_I (ii k)), none], [], wst v')) (fun k v' => fr [2800, 2801] u2 v' ∧ True) 121 (fun k v' hk hi => by
              obtain ⟨u4, e4, f4, e5, e6⟩ := c239k (sc := sc) (GB_fr hG hi.1 rfl) hm (ms := ms) (t := t) (by omega) q3 hk
              have hkm : (k : Int) - (k : Int) / 11 * 11 = (k : Int) % 11 := by omega
              have ho := nr_ok (W := nW A.1.2.1 (vF A v) mk ms t (vM A v)) hR k
              have hRk := hR k
              refine ⟨u4, ?_, fr_t hi.1 f4, trivial⟩
              by_cases z : nW A.1.2.1 (vF A v) mk ms t (vM A v) k = true ∧ (nr (nW A.1.2.1 (vF A v) mk ms t (vM A v)) (nR A.1.2.1 (vF A v) mk (vM A v)) k).2 < nR A.1.2.1 (vF A v) mk (vM A v) k
              · rw [nr_t z]
                rw [z.1] at e6
                have z2 := z.2
                rw [wq_241_70]
                rcases ho with y | y
                · rw [y] at z2 ⊢
                  simp (disch := omega) only [qB_s, qC_t, qC_f, qI_T, qI_F, qI_t, qI_f, r_I, r_L, r_R, r_V, ii_add, ii_sub, ii_mul, ii_neg, bz_0, bz_1, Bool.true_and, Bool.false_and, Bool.and_true, z00, z11, li_0, li_1, li_11, li_121, li_2, gR_0_0, gR_0_10, gR_0_12, gR_0_9, is_0, is_28, is_39, ii_lt, ii_eq, ii_div, hkm, e4, e5, e6, nat_1, not_true_eq_false]
                · simp (disch := omega) only [qB_s, qC_t, qC_f, qI_T, qI_F, qI_t, qI_f, r_I, r_L, r_R, r_V, ii_add, ii_sub, ii_mul, ii_neg, bz_0, bz_1, Bool.true_and, Bool.false_and, Bool.and_true, z00, z11, li_0, li_1, li_11, li_121, li_2, gR_0_0, gR_0_10, gR_0_12, gR_0_9, is_0, is_28, is_39, ii_lt, ii_eq, ii_div, hkm, e4, e5, e6, nat_1, not_true_eq_false]
              · rw [nr_f z]
                rw [wq_241_70]
                cases y2 : nW A.1.2.1 (vF A v) mk ms t (vM A v) k with
                | false =>
                  rw [y2] at e6
                  simp (disch := omega) only [qB_s, qC_t, qC_f, qI_T, qI_F, qI_t, qI_f, r_I, r_L, r_R, r_V, ii_add, ii_sub, ii_mul, ii_neg, bz_0, bz_1, Bool.true_and, Bool.false_and, Bool.and_true, z00, z11, li_0, li_1, li_11, li_121, li_2, gR_0_0, gR_0_10, gR_0_12, gR_0_9, is_0, is_28, is_39, ii_lt, ii_eq, ii_div, hkm, e4, e5, e6, nat_1, Bool.false_eq_true, not_false_eq_true]
                | true =>
                  rw [y2] at e6
                  have z2 : ¬ ((nr (nW A.1.2.1 (vF A v) mk ms t (vM A v)) (nR A.1.2.1 (vF A v) mk (vM A v)) k).2 < nR A.1.2.1 (vF A v) mk (vM A v) k) := fun x => z ⟨y2, x⟩
                  rcases ho with y | y
                  · rw [y] at z2
                    exfalso
                    dsimp only at z2
                    omega
                  · simp (disch := omega) only [qB_s, qC_t, qC_f, qI_T, qI_F, qI_t, qI_f, r_I, r_L, r_R, r_V, ii_add, ii_sub, ii_mul, ii_neg, bz_0, bz_1, Bool.true_and, Bool.false_and, Bool.and_true, z00, z11, li_0, li_1, li_11, li_121, li_2, gR_0_0, gR_0_10, gR_0_12, gR_0_9, is_0, is_28, is_39, ii_lt, ii_eq, ii_div, hkm, e4, e5, e6, nat_1, not_true_eq_false]) u2 ⟨fr_r _ _, trivial⟩
            have e3' : am_W sc 241 (70, [some (am_R (some 0)), none, none, some (am_I (ii ms)), some (am_I (ii t)), some (am_I (ii o)), some (am_I (ii (-2))), some (am_I (ii (-2))), some (am_I (ii 0)), none], [], wst u2) = _ := e3
            have ho := nr_ok (W := nW A.1.2.1 (vF A v) mk ms t (vM A v)) hR 121
            refine ⟨u3, ?_, fr_t (fr_m f1 rfl) (fr_t (fr_m f2 rfl) (fr_m f3 rfl))⟩
            have hlast : am_W sc 241 (70, [some (am_R (some 0)), none, none, some (am_I (ii ms)), some (am_I (ii t)), some (am_I (ii o)), some (am_I (ii (nr (nW A.1.2.1 (vF A v) mk ms t (vM A v)) (nR A.1.2.1 (vF A v) mk (vM A v)) 121).1)), some (am_I (ii (nr (nW A.1.2.1 (vF A v) mk ms t (vM A v)) (nR A.1.2.1 (vF A v) mk (vM A v)) 121).2)), some (am_I (ii ((121 : Nat) : Int))), none], [], wst u3) = some (some (am_I (ii (if (nr (nW A.1.2.1 (vF A v) mk ms t (vM A v)) (nR A.1.2.1 (vF A v) mk (vM A v)) 121).1 < 0 then -2 else if o = 0 then (nr (nW A.1.2.1 (vF A v) mk ms t (vM A v)) (nR A.1.2.1 (vF A v) mk (vM A v)) 121).1 / 11 else if o = 1 then (nr (nW A.1.2.1 (vF A v) mk ms t (vM A v)) (nR A.1.2.1 (vF A v) mk (vM A v)) 121).1 % 11 else (nr (nW A.1.2.1 (vF A v) mk ms t (vM A v)) (nR A.1.2.1 (vF A v) mk (vM A v)) 121).2))), wst u3) := by
              revert ho
              generalize nr (nW A.1.2.1 (vF A v) mk ms t (vM A v)) (nR A.1.2.1 (vF A v) mk (vM A v)) 121 = r
              obtain ⟨b, c⟩ := r
              intro ho
              dsimp only at ho ⊢
              rw [wq_241_70]
              have hkm : b - b / 11 * 11 = b % 11 := by omega
              rcases ho with y | y
              · have yb : b = -2 := congrArg Prod.fst y
                have yc : c = -2 := congrArg Prod.snd y
                rw [if_pos (by omega), yb, yc]
                simp (disch := omega) only [qB_s, qC_t, qC_f, qI_T, qI_F, qI_t, qI_f, r_I, r_L, r_R, r_V, ii_add, ii_sub, ii_mul, ii_neg, bz_0, bz_1, Bool.true_and, Bool.false_and, Bool.and_true, z00, z11, li_0, li_1, li_11, li_121, li_2, gR_0_0, gR_0_10, gR_0_12, gR_0_9, is_0, is_28, is_39, ii_lt, ii_eq, Int.cast_ofNat_Int]
              · rw [if_neg (by omega)]
                have ho3 : o = 0 ∨ o = 1 ∨ o = 2 := by omega
                rcases ho3 with x | x | x
                · rw [if_pos x]
                  simp (disch := omega) only [qB_s, qC_t, qC_f, qI_T, qI_F, qI_t, qI_f, r_I, r_L, r_R, r_V, ii_add, ii_sub, ii_mul, ii_neg, bz_0, bz_1, Bool.true_and, Bool.false_and, Bool.and_true, z00, z11, li_0, li_1, li_11, li_121, li_2, gR_0_0, gR_0_10, gR_0_12, gR_0_9, is_0, is_28, is_39, ii_lt, ii_eq, ii_div, Int.cast_ofNat_Int]
                · rw [if_neg (by omega), if_pos x]
                  simp (disch := omega) only [qB_s, qC_t, qC_f, qI_T, qI_F, qI_t, qI_f, r_I, r_L, r_R, r_V, ii_add, ii_sub, ii_mul, ii_neg, bz_0, bz_1, Bool.true_and, Bool.false_and, Bool.and_true, z00, z11, li_0, li_1, li_11, li_121, li_2, gR_0_0, gR_0_10, gR_0_12, gR_0_9, is_0, is_28, is_39, ii_lt, ii_eq, ii_div, hkm, Int.cast_ofNat_Int]
                · rw [if_neg (by omega), if_neg (by omega)]
                  simp (disch := omega) only [qB_s, qC_t, qC_f, qI_T, qI_F, qI_t, qI_f, r_I, r_L, r_R, r_V, ii_add, ii_sub, ii_mul, ii_neg, bz_0, bz_1, Bool.true_and, Bool.false_and, Bool.and_true, z00, z11, li_0, li_1, li_11, li_121, li_2, gR_0_0, gR_0_10, gR_0_12, gR_0_9, is_0, is_28, is_39, ii_lt, ii_eq, Int.cast_ofNat_Int]
            rw [fq_241]
            simp (disch := omega) only [qB_s, qC_t, qC_f, qI_T, qI_F, qI_t, qI_f, r_I, r_L, r_R, r_V, ii_add, ii_sub, ii_mul, ii_neg, bz_0, bz_1, Bool.true_and, Bool.false_and, Bool.and_true, z00, z11, li_0, li_1, li_11, li_121, li_2, gR_0_0, gR_0_10, gR_0_12, gR_0_9, is_0, is_28, is_39, s20, s220, s229, ii_lt, ii_eq, e1, e2, e3', hlast]
            rfl
          · rw [if_neg (by omega)]
            have h117 := (c117 (sc := sc) hC hA hv1 hv2).2 q5
            exact ⟨w, by
              rw [fq_241]
              simp (disch := omega) only [qB_s, qC_t, qC_f, qI_T, qI_F, qI_t, qI_f, r_I, r_L, r_R, r_V, ii_add, ii_sub, ii_mul, ii_neg, bz_0, bz_1, Bool.true_and, Bool.false_and, Bool.and_true, z00, z11, li_0, li_1, li_11, li_121, li_2, gR_0_0, gR_0_10, gR_0_12, gR_0_9, is_0, is_28, is_39, ii_lt, ii_eq, ii_jj, jj_neg, h117, s20, s20, s220, s20, s220, s229, s20, s220, s229], fr_r _ _⟩
        · rw [if_neg (by omega)]
          exact ⟨w, by
            rw [fq_241]
            by_cases zz : o < 0
            · simp (disch := omega) only [qB_s, qC_t, qC_f, qI_T, qI_F, qI_t, qI_f, r_I, r_L, r_R, r_V, ii_add, ii_sub, ii_mul, ii_neg, bz_0, bz_1, Bool.true_and, Bool.false_and, Bool.and_true, z00, z11, li_0, li_1, li_11, li_121, li_2, gR_0_0, gR_0_10, gR_0_12, gR_0_9, is_0, is_28, is_39, ii_lt, ii_eq, ii_jj, jj_neg, s20, s220, s229]
            · simp (disch := omega) only [qB_s, qC_t, qC_f, qI_T, qI_F, qI_t, qI_f, r_I, r_L, r_R, r_V, ii_add, ii_sub, ii_mul, ii_neg, bz_0, bz_1, Bool.true_and, Bool.false_and, Bool.and_true, z00, z11, li_0, li_1, li_11, li_121, li_2, gR_0_0, gR_0_10, gR_0_12, gR_0_9, is_0, is_28, is_39, ii_lt, ii_eq, ii_jj, jj_neg, s20, s220, s229], fr_r _ _⟩
      · rw [if_neg (by omega)]
        exact ⟨w, by
          rw [fq_241]
          simp (disch := omega) only [qB_s, qC_t, qC_f, qI_T, qI_F, qI_t, qI_f, r_I, r_L, r_R, r_V, ii_add, ii_sub, ii_mul, ii_neg, bz_0, bz_1, Bool.true_and, Bool.false_and, Bool.and_true, z00, z11, li_0, li_1, li_11, li_121, li_2, gR_0_0, gR_0_10, gR_0_12, gR_0_9, is_0, is_28, is_39, ii_lt, ii_eq, ii_jj, jj_neg, s20, s220, s229], fr_r _ _⟩
    · rw [if_neg (by omega)]
      exact ⟨w, by
        rw [fq_241]
        simp (disch := omega) only [qB_s, qC_t, qC_f, qI_T, qI_F, qI_t, qI_f, r_I, r_L, r_R, r_V, ii_add, ii_sub, ii_mul, ii_neg, bz_0, bz_1, Bool.true_and, Bool.false_and, Bool.and_true, z00, z11, li_0, li_1, li_11, li_121, li_2, gR_0_0, gR_0_10, gR_0_12, gR_0_9, is_0, is_28, is_39, ii_lt, ii_eq, ii_jj, jj_neg, s20, s220], fr_r _ _⟩
  · rw [if_neg (by omega)]
    exact ⟨w, by
      rw [fq_241]
      simp (disch := omega) only [qB_s, qC_t, qC_f, qI_T, qI_F, qI_t, qI_f, r_I, r_L, r_R, r_V, ii_add, ii_sub, ii_mul, ii_neg, bz_0, bz_1, Bool.true_and, Bool.false_and, Bool.and_true, z00, z11, li_0, li_1, li_11, li_121, li_2, gR_0_0, gR_0_10, gR_0_12, gR_0_9, is_0, is_28, is_39, ii_lt, ii_eq, ii_jj, jj_neg, s20], fr_r _ _⟩

theorem d242 (hM : MS w n g) (hg : gK n g) {m : Nat} {f : Nat → Int} (hT : MK w m f) (hm : m ≤ 200) (hf : ∀ i, i < m → 0 ≤ f i ∧ f i < n) {mk c0 c1 : Int} (hk : 0 ≤ mk ∧ mk < 6) (h0 : 0 ≤ c0 ∧ c0 < 11) (h1 : 0 ≤ c1 ∧ c1 < 11) : ∃ v, am_F sc 242 [am_R (some 47), am_I (ii mk), am_I (ii c0), am_I (ii c1)] (wst w) = some (some (am_I (ii (bR g f mk c0 c1 m))), wst v) ∧ fr [7299, 7399] w v ∧ LK v m (innB g f mk) (ltB g f mk c0 c1) := by
  obtain ⟨v, e, hfr, hl⟩ := lp_s0 (am_W sc 242) (fun (k : Nat) (v : wo) => (6, [some (am_R (some 47)), some (am_I (ii mk)), some (am_I (ii c0)), some (am_I (ii c1)), some (am_I (ii (bR g f mk c0 c1 k))), some (am_I (ii k)), none, none, none], [], wst v)) (fun k v => fr [7299, 7399] w v ∧ LK v k (innB g f mk) (ltB g f mk c0 c1)) m (fun k v hk' hi => by
    obtain ⟨hfr, hl⟩ := hi
    have hMv := MS_fr hM hfr rfl
    have hn200 := hM.2.2.1
    have hfk := hf k hk'
    have hr := hg (f k) hfk.1 hfk.2
    have hrm := hr.2.2.2.2 mk hk.1 hk.2
    have hs : wI v 47 26 = m := by rw [fr_I hfr rfl]; exact hT.1
    have hl9 : wA v 59 k = f k := by rw [fr_A (a := 59) hfr rfl]; exact hT.2 k hk'
    have p1 := d107 (sc := sc) hMv hfk.1 hfk.2 hk.1 hk.2
    have c3 := hMv.2.2.2 (f k) 3 hfk.1 hfk.2 (by decide) (by decide)
    have hran := bR_ran g f mk h0.1 h1.1 k
    have hsum : bR g f mk c0 c1 (k + 1) = bR g f mk c0 c1 k + (bz (g (f k) 0 = 0 ∧ g (f k) 3 = 1 ∧ c0 ≤ g (f k) (4 + mk)) + bz (g (f k) 0 = 0 ∧ g (f k) 3 = 0 ∧ 0 ≤ g (f k) (4 + mk)) - bz (g (f k) 0 = 0 ∧ g (f k) 3 = 0 ∧ c0 ≤ g (f k) (4 + mk)) + bz (g (f k) 0 = 1 ∧ g (f k) 3 = 1 ∧ c1 ≤ g (f k) (4 + mk)) + bz (g (f k) 0 = 1 ∧ g (f k) 3 = 0 ∧ 0 ≤ g (f k) (4 + mk)) - bz (g (f k) 0 = 1 ∧ g (f k) 3 = 0 ∧ c1 ≤ g (f k) (4 + mk))) := by
      unfold bR gS bS
      simp only [sm_s]
      omega
    have hin : ∀ i, innB g f mk i = decide (0 ≤ g (f i) (4 + mk) ∧ 0 ≤ g (f i) 3) := fun _ => rfl
    have hlt : ∀ i, ltB g f mk c0 c1 i = decide ((if g (f i) 0 = 0 then c0 else c1) ≤ g (f i) (4 + mk)) := fun _ => rfl
    obtain ⟨t0, ht0⟩ : ∃ t0, t0 = g (f k) 0 := ⟨_, rfl⟩
    obtain ⟨c, hc⟩ : ∃ c, c = g (f k) 3 := ⟨_, rfl⟩
    obtain ⟨x, hx⟩ : ∃ x, x = g (f k) (4 + mk) := ⟨_, rfl⟩
    obtain ⟨y0, hy0⟩ : ∃ y0, y0 = bR g f mk c0 c1 k := ⟨_, rfl⟩
    obtain ⟨a, ha⟩ : ∃ a, a = bz (0 ≤ x ∧ 0 ≤ c) := ⟨_, rfl⟩
    obtain ⟨b, hb⟩ : ∃ b, b = bz ((if t0 = 0 then c0 else c1) ≤ x) := ⟨_, rfl⟩
    have ha1 : a = bz (innB g f mk k = true) := by rw [hin, ← hx, ← hc, ha]; exact bz_c (by simp)
    have hb1 : b = bz (ltB g f mk c0 c1 k = true) := by rw [hlt, ← hx, ← ht0, hb]; exact bz_c (by simp)
    rw [← ht0, ← hc, ← hx, ← hy0] at hsum
    rw [← hx] at p1 hrm
    rw [← hc] at c3
    rw [← hy0] at hran ⊢
    rw [← ht0, ← hc] at hr
    have hta : ∀ z : Int, fr [7299, 7399] w (uA v 72 (fu (wA v 72) k z)) := fun z => fr_uA hfr rfl
    have p2 := fun z => d122 (sc := sc) (MS_fr hM (hta z) rfl) hfk.1 hfk.2
    simp only [← ht0] at p2
    have hL : LK (uA (uA v 72 (fu (wA v 72) k a)) 73 (fu (wA v 73) k b)) (k + 1) (innB g f mk) (ltB g f mk c0 c1) := fun i hi => by
      rw [rAn _ _ rfl, rA, rA, fu_at, fu_at]
      by_cases q : (i : Int) = k
      · rw [if_pos q, if_pos q, show i = k from by omega, ← ha1, ← hb1]
        exact ⟨rfl, rfl⟩
      · rw [if_neg q, if_neg q]
        exact hl i (by omega)
    refine ⟨uA (uA v 72 (fu (wA v 72) k a)) 73 (fu (wA v 73) k b), ?_, fr_uA (hta _) rfl, hL⟩
    have ht1 : t0 = 0 ∨ t0 = 1 := by omega
    have hc1 : c = -1 ∨ c = 0 ∨ c = 1 := by omega
    rw [wq_242_6, hsum]
    clear hsum hL hl hT hg hM hf hMv hin hlt ha1 hb1 hta
    have hx3 : x < 0 ∨ (0 ≤ x ∧ x < (if t0 = 0 then c0 else c1)) ∨ (if t0 = 0 then c0 else c1) ≤ x := by
      by_cases q : x < 0
      · exact .inl q
      · by_cases q2 : (if t0 = 0 then c0 else c1) ≤ x
        · exact .inr (.inr q2)
        · exact .inr (.inl ⟨by omega, by omega⟩)
    rcases ht1 with y | y
    · rw [if_pos y] at hb hx3
      rw [bz_f (p := t0 = 1 ∧ c = 1 ∧ c1 ≤ x) (by omega), bz_f (p := t0 = 1 ∧ c = 0 ∧ 0 ≤ x) (by omega), bz_f (p := t0 = 1 ∧ c = 0 ∧ c1 ≤ x) (by omega)]
      rcases hx3 with q | q | q
      · have a0 : a = 0 := by rw [ha, bz_f (by omega)]
        have b0 : b = 0 := by rw [hb, bz_f (by omega)]
        rw [a0, b0, bz_f (by omega), bz_f (by omega), bz_f (by omega)]
        simp (disch := omega) only [qB_s, qC_t, qC_f, qI_T, qI_F, qI_t, qI_f, r_I, r_L, r_R, r_V, ii_add, ii_sub, ii_mul, ii_neg, bz_0, bz_1, Bool.true_and, Bool.false_and, Bool.and_true, z00, z11, li_0, li_1, li_10, li_3, e_48, e_59, e_72, e_73, gI_47_26, gR_47_1, gR_47_27, gR_47_49, gR_47_50, is_47, t_72, t_73, hs, ii_lt, ii_eq, hl9, p1, c3, p2, uA_A, if_false, if_true, Nat.reduceEqDiff, rA, fu_at, nat_1, Int.add_zero, Int.sub_zero]
      · have b0 : b = 0 := by rw [hb, bz_f (by omega)]
        rcases hc1 with z | z | z
        · have a0 : a = 0 := by rw [ha, bz_f (by omega)]
          rw [a0, b0, bz_f (by omega), bz_f (by omega), bz_f (by omega)]
          simp (disch := omega) only [qB_s, qC_t, qC_f, qI_T, qI_F, qI_t, qI_f, r_I, r_L, r_R, r_V, ii_add, ii_sub, ii_mul, ii_neg, bz_0, bz_1, Bool.true_and, Bool.false_and, Bool.and_true, z00, z11, li_0, li_1, li_10, li_3, e_48, e_59, e_72, e_73, gI_47_26, gR_47_1, gR_47_27, gR_47_49, gR_47_50, is_47, t_72, t_73, hs, ii_lt, ii_eq, hl9, p1, c3, p2, uA_A, if_false, if_true, Nat.reduceEqDiff, rA, fu_at, nat_1, Int.add_zero, Int.sub_zero]
        · have a0 : a = 1 := by rw [ha, bz_t (by omega)]
          rw [a0, b0, bz_f (p := t0 = 0 ∧ c = 1 ∧ c0 ≤ x) (by omega), bz_t (p := t0 = 0 ∧ c = 0 ∧ 0 ≤ x) (by omega), bz_f (p := t0 = 0 ∧ c = 0 ∧ c0 ≤ x) (by omega)]
          simp (disch := omega) only [qB_s, qC_t, qC_f, qI_T, qI_F, qI_t, qI_f, r_I, r_L, r_R, r_V, ii_add, ii_sub, ii_mul, ii_neg, bz_0, bz_1, Bool.true_and, Bool.false_and, Bool.and_true, z00, z11, li_0, li_1, li_10, li_3, e_48, e_59, e_72, e_73, gI_47_26, gR_47_1, gR_47_27, gR_47_49, gR_47_50, is_47, t_72, t_73, hs, ii_lt, ii_eq, hl9, p1, c3, p2, uA_A, if_false, if_true, Nat.reduceEqDiff, rA, fu_at, nat_1, Int.add_zero, Int.sub_zero, Int.zero_add]
        · have a0 : a = 1 := by rw [ha, bz_t (by omega)]
          rw [a0, b0, bz_f (by omega), bz_f (by omega), bz_f (by omega)]
          simp (disch := omega) only [qB_s, qC_t, qC_f, qI_T, qI_F, qI_t, qI_f, r_I, r_L, r_R, r_V, ii_add, ii_sub, ii_mul, ii_neg, bz_0, bz_1, Bool.true_and, Bool.false_and, Bool.and_true, z00, z11, li_0, li_1, li_10, li_3, e_48, e_59, e_72, e_73, gI_47_26, gR_47_1, gR_47_27, gR_47_49, gR_47_50, is_47, t_72, t_73, hs, ii_lt, ii_eq, hl9, p1, c3, p2, uA_A, if_false, if_true, Nat.reduceEqDiff, rA, fu_at, nat_1, Int.add_zero, Int.sub_zero]
      · have b0 : b = 1 := by rw [hb, bz_t (by omega)]
        rcases hc1 with z | z | z
        · have a0 : a = 0 := by rw [ha, bz_f (by omega)]
          rw [a0, b0, bz_f (by omega), bz_f (by omega), bz_f (by omega)]
          simp (disch := omega) only [qB_s, qC_t, qC_f, qI_T, qI_F, qI_t, qI_f, r_I, r_L, r_R, r_V, ii_add, ii_sub, ii_mul, ii_neg, bz_0, bz_1, Bool.true_and, Bool.false_and, Bool.and_true, z00, z11, li_0, li_1, li_10, li_3, e_48, e_59, e_72, e_73, gI_47_26, gR_47_1, gR_47_27, gR_47_49, gR_47_50, is_47, t_72, t_73, hs, ii_lt, ii_eq, hl9, p1, c3, p2, uA_A, if_false, if_true, Nat.reduceEqDiff, rA, fu_at, nat_1, Int.add_zero, Int.sub_zero]
        · have a0 : a = 1 := by rw [ha, bz_t (by omega)]
          rw [a0, b0, bz_f (p := t0 = 0 ∧ c = 1 ∧ c0 ≤ x) (by omega), bz_t (p := t0 = 0 ∧ c = 0 ∧ 0 ≤ x) (by omega), bz_t (p := t0 = 0 ∧ c = 0 ∧ c0 ≤ x) (by omega)]
          simp (disch := omega) only [qB_s, qC_t, qC_f, qI_T, qI_F, qI_t, qI_f, r_I, r_L, r_R, r_V, ii_add, ii_sub, ii_mul, ii_neg, bz_0, bz_1, Bool.true_and, Bool.false_and, Bool.and_true, z00, z11, li_0, li_1, li_10, li_3, e_48, e_59, e_72, e_73, gI_47_26, gR_47_1, gR_47_27, gR_47_49, gR_47_50, is_47, t_72, t_73, hs, ii_lt, ii_eq, hl9, p1, c3, p2, uA_A, if_false, if_true, Nat.reduceEqDiff, rA, fu_at, nat_1, Int.add_zero, Int.sub_zero, Int.zero_add, Int.sub_self]
        · have a0 : a = 1 := by rw [ha, bz_t (by omega)]
          rw [a0, b0, bz_t (p := t0 = 0 ∧ c = 1 ∧ c0 ≤ x) (by omega), bz_f (p := t0 = 0 ∧ c = 0 ∧ 0 ≤ x) (by omega), bz_f (p := t0 = 0 ∧ c = 0 ∧ c0 ≤ x) (by omega)]
          simp (disch := omega) only [qB_s, qC_t, qC_f, qI_T, qI_F, qI_t, qI_f, r_I, r_L, r_R, r_V, ii_add, ii_sub, ii_mul, ii_neg, bz_0, bz_1, Bool.true_and, Bool.false_and, Bool.and_true, z00, z11, li_0, li_1, li_10, li_3, e_48, e_59, e_72, e_73, gI_47_26, gR_47_1, gR_47_27, gR_47_49, gR_47_50, is_47, t_72, t_73, hs, ii_lt, ii_eq, hl9, p1, c3, p2, uA_A, if_false, if_true, Nat.reduceEqDiff, rA, fu_at, nat_1, Int.add_zero, Int.sub_zero]
    · rw [if_neg (by omega)] at hb hx3
      rw [bz_f (p := t0 = 0 ∧ c = 1 ∧ c0 ≤ x) (by omega), bz_f (p := t0 = 0 ∧ c = 0 ∧ 0 ≤ x) (by omega), bz_f (p := t0 = 0 ∧ c = 0 ∧ c0 ≤ x) (by omega)]
      rcases hx3 with q | q | q
      · have a0 : a = 0 := by rw [ha, bz_f (by omega)]
        have b0 : b = 0 := by rw [hb, bz_f (by omega)]
        rw [a0, b0, bz_f (by omega), bz_f (by omega), bz_f (by omega)]
        simp (disch := omega) only [qB_s, qC_t, qC_f, qI_T, qI_F, qI_t, qI_f, r_I, r_L, r_R, r_V, ii_add, ii_sub, ii_mul, ii_neg, bz_0, bz_1, Bool.true_and, Bool.false_and, Bool.and_true, z00, z11, li_0, li_1, li_10, li_3, e_48, e_59, e_72, e_73, gI_47_26, gR_47_1, gR_47_27, gR_47_49, gR_47_50, is_47, t_72, t_73, hs, ii_lt, ii_eq, hl9, p1, c3, p2, uA_A, if_false, if_true, Nat.reduceEqDiff, rA, fu_at, nat_1, Int.add_zero, Int.sub_zero]
      · have b0 : b = 0 := by rw [hb, bz_f (by omega)]
        rcases hc1 with z | z | z
        · have a0 : a = 0 := by rw [ha, bz_f (by omega)]
          rw [a0, b0, bz_f (by omega), bz_f (by omega), bz_f (by omega)]
          simp (disch := omega) only [qB_s, qC_t, qC_f, qI_T, qI_F, qI_t, qI_f, r_I, r_L, r_R, r_V, ii_add, ii_sub, ii_mul, ii_neg, bz_0, bz_1, Bool.true_and, Bool.false_and, Bool.and_true, z00, z11, li_0, li_1, li_10, li_3, e_48, e_59, e_72, e_73, gI_47_26, gR_47_1, gR_47_27, gR_47_49, gR_47_50, is_47, t_72, t_73, hs, ii_lt, ii_eq, hl9, p1, c3, p2, uA_A, if_false, if_true, Nat.reduceEqDiff, rA, fu_at, nat_1, Int.add_zero, Int.sub_zero]
        · have a0 : a = 1 := by rw [ha, bz_t (by omega)]
          rw [a0, b0, bz_f (p := t0 = 1 ∧ c = 1 ∧ c1 ≤ x) (by omega), bz_t (p := t0 = 1 ∧ c = 0 ∧ 0 ≤ x) (by omega), bz_f (p := t0 = 1 ∧ c = 0 ∧ c1 ≤ x) (by omega)]
          simp (disch := omega) only [qB_s, qC_t, qC_f, qI_T, qI_F, qI_t, qI_f, r_I, r_L, r_R, r_V, ii_add, ii_sub, ii_mul, ii_neg, bz_0, bz_1, Bool.true_and, Bool.false_and, Bool.and_true, z00, z11, li_0, li_1, li_10, li_3, e_48, e_59, e_72, e_73, gI_47_26, gR_47_1, gR_47_27, gR_47_49, gR_47_50, is_47, t_72, t_73, hs, ii_lt, ii_eq, hl9, p1, c3, p2, uA_A, if_false, if_true, Nat.reduceEqDiff, rA, fu_at, nat_1, Int.add_zero, Int.sub_zero, Int.zero_add]
        · have a0 : a = 1 := by rw [ha, bz_t (by omega)]
          rw [a0, b0, bz_f (by omega), bz_f (by omega), bz_f (by omega)]
          simp (disch := omega) only [qB_s, qC_t, qC_f, qI_T, qI_F, qI_t, qI_f, r_I, r_L, r_R, r_V, ii_add, ii_sub, ii_mul, ii_neg, bz_0, bz_1, Bool.true_and, Bool.false_and, Bool.and_true, z00, z11, li_0, li_1, li_10, li_3, e_48, e_59, e_72, e_73, gI_47_26, gR_47_1, gR_47_27, gR_47_49, gR_47_50, is_47, t_72, t_73, hs, ii_lt, ii_eq, hl9, p1, c3, p2, uA_A, if_false, if_true, Nat.reduceEqDiff, rA, fu_at, nat_1, Int.add_zero, Int.sub_zero]
      · have b0 : b = 1 := by rw [hb, bz_t (by omega)]
        rcases hc1 with z | z | z
        · have a0 : a = 0 := by rw [ha, bz_f (by omega)]
          rw [a0, b0, bz_f (by omega), bz_f (by omega), bz_f (by omega)]
          simp (disch := omega) only [qB_s, qC_t, qC_f, qI_T, qI_F, qI_t, qI_f, r_I, r_L, r_R, r_V, ii_add, ii_sub, ii_mul, ii_neg, bz_0, bz_1, Bool.true_and, Bool.false_and, Bool.and_true, z00, z11, li_0, li_1, li_10, li_3, e_48, e_59, e_72, e_73, gI_47_26, gR_47_1, gR_47_27, gR_47_49, gR_47_50, is_47, t_72, t_73, hs, ii_lt, ii_eq, hl9, p1, c3, p2, uA_A, if_false, if_true, Nat.reduceEqDiff, rA, fu_at, nat_1, Int.add_zero, Int.sub_zero]
        · have a0 : a = 1 := by rw [ha, bz_t (by omega)]
          rw [a0, b0, bz_f (p := t0 = 1 ∧ c = 1 ∧ c1 ≤ x) (by omega), bz_t (p := t0 = 1 ∧ c = 0 ∧ 0 ≤ x) (by omega), bz_t (p := t0 = 1 ∧ c = 0 ∧ c1 ≤ x) (by omega)]
          simp (disch := omega) only [qB_s, qC_t, qC_f, qI_T, qI_F, qI_t, qI_f, r_I, r_L, r_R, r_V, ii_add, ii_sub, ii_mul, ii_neg, bz_0, bz_1, Bool.true_and, Bool.false_and, Bool.and_true, z00, z11, li_0, li_1, li_10, li_3, e_48, e_59, e_72, e_73, gI_47_26, gR_47_1, gR_47_27, gR_47_49, gR_47_50, is_47, t_72, t_73, hs, ii_lt, ii_eq, hl9, p1, c3, p2, uA_A, if_false, if_true, Nat.reduceEqDiff, rA, fu_at, nat_1, Int.add_zero, Int.sub_zero, Int.zero_add, Int.sub_self]
        · have a0 : a = 1 := by rw [ha, bz_t (by omega)]
          rw [a0, b0, bz_t (p := t0 = 1 ∧ c = 1 ∧ c1 ≤ x) (by omega), bz_f (p := t0 = 1 ∧ c = 0 ∧ 0 ≤ x) (by omega), bz_f (p := t0 = 1 ∧ c = 0 ∧ c1 ≤ x) (by omega)]
          simp (disch := omega) only [qB_s, qC_t, qC_f, qI_T, qI_F, qI_t, qI_f, r_I, r_L, r_R, r_V, ii_add, ii_sub, ii_mul, ii_neg, bz_0, bz_1, Bool.true_and, Bool.false_and, Bool.and_true, z00, z11, li_0, li_1, li_10, li_3, e_48, e_59, e_72, e_73, gI_47_26, gR_47_1, gR_47_27, gR_47_49, gR_47_50, is_47, t_72, t_73, hs, ii_lt, ii_eq, hl9, p1, c3, p2, uA_A, if_false, if_true, Nat.reduceEqDiff, rA, fu_at, nat_1, Int.add_zero, Int.sub_zero, Int.zero_add]) w ⟨fr_r _ _, fun i hi => absurd hi (Nat.not_lt_zero i)⟩
  have hs : wI v 47 26 = m := by rw [fr_I hfr rfl]; exact hT.1
  have hran := bR_ran g f mk h0.1 h1.1 m
  refine ⟨v, ?_, hfr, hl⟩
  have e' : am_W sc 242 (6, [some (am_R (some 47)), some (am_I (ii mk)), some (am_I (ii c0)), some (am_I (ii c1)), some (am_I (ii 0)), some (am_I (ii 0)), none, none, none], [], wst w) = _ := e
  rw [fq_242, li_0, e', wq_242_6]
  simp (disch := omega) only [qB_s, qC_t, qC_f, qI_T, qI_F, qI_t, qI_f, r_I, r_L, r_R, r_V, ii_add, ii_sub, ii_mul, ii_neg, bz_0, bz_1, Bool.true_and, Bool.false_and, Bool.and_true, z00, z11, li_0, li_1, li_10, li_3, e_48, e_59, e_72, e_73, gI_47_26, gR_47_1, gR_47_27, gR_47_49, gR_47_50, is_47, t_72, t_73, hs, ii_lt]
end L29
