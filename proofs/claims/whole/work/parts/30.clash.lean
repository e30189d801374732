/-! NEAREST IN THE OTHER, CLASH -/
section L30
variable {sc : am_X} {w : wo} {A : ab} {ow : Nat → Nat} {n : Int} {g : Int → Int → Int}
theorem d227k (hM : MS w n g) (hg : gK n g) {m : Nat} {f : Nat → Int} (hT : MK w m f) (hm : m ≤ 200) (hf : ∀ i, i < m → 0 ≤ f i ∧ f i < n) {mk ms t : Int} (hms : 0 ≤ ms ∧ ms ≤ 3) (ht : 0 ≤ t ∧ t ≤ 1000) {k : Nat} (hL : LK w m (innB g f mk) (ltB g f mk ((k : Int) / 11) ((k : Int) % 11))) : ∃ v, am_F sc 227 [am_R (some 47), am_I (ii ms)] (wst w) = some (none, wst v) ∧ fr [6899, 6999, 4730, 4731] w v ∧ am_F sc 232 [am_R (some 47), am_I (ii t)] (wst v) = some (some (am_I (ii (bz (nW g f mk ms t m k = true)))), wst v) := by
  obtain ⟨v, e, h, j0, j1⟩ := d227 (sc := sc) hM hg hT hm hf hL hms
  have c0 : 0 ≤ (k : Int) / 11 := by omega
  have c1 : 0 ≤ (k : Int) % 11 := by omega
  rw [pV_eq hg hf hms (.inl rfl) c0 c1, pV_eq hg hf hms (.inr rfl) c0 c1, jV_eq hg hf hms (.inl rfl) c0 c1, jV_eq hg hf hms (.inr rfl) c0 c1, if_pos rfl, if_neg (by decide)] at j0 j1
  obtain ⟨hU, hD⟩ := bUD_ran g f mk ms ((k : Int) / 11) ((k : Int) % 11) hm
  exact ⟨v, e, h, d232 (sc := sc) ht j0 j1 hU hD⟩
theorem d242k (hM : MS w n g) (hg : gK n g) {m : Nat} {f : Nat → Int} (hT : MK w m f) (hm : m ≤ 200) (hf : ∀ i, i < m → 0 ≤ f i ∧ f i < n) {mk : Int} (hk : 0 ≤ mk ∧ mk < 6) {k : Nat} (hk2 : k < 121) : ∃ v, am_F sc 242 [am_R (some 47), am_I (ii mk), am_I (ii ((k : Int) / 11)), am_I (ii ((k : Int) % 11))] (wst w) = some (some (am_I (ii (nR g f mk m k))), wst v) ∧ fr [7299, 7399] w v ∧ LK v m (innB g f mk) (ltB g f mk ((k : Int) / 11) ((k : Int) % 11)) :=
  d242 (sc := sc) hM hg hT hm hf hk (by omega) (by omega)
theorem MK_fr {m : Nat} {f : Nat → Int} {v : wo} {l : List Nat} (h : MK w m f) (q : fr l w v) (z : (fhas l 4726 || fhas l 5999) = false) : MK v m f := by
  rw [Bool.or_eq_false_iff] at z
  exact ⟨by rw [fr_I q z.1]; exact h.1, by rw [fr_A (a := 59) q z.2]; exact h.2⟩
theorem TK_fr {m : Nat} {f : Nat → Int} {v : wo} {l : List Nat} (h : TK w m f) (q : fr l w v) (z : (fhas l 2203 || fhas l 2499) = false) : TK v m f := by
  rw [Bool.or_eq_false_iff] at z
  exact ⟨by rw [fr_I q z.1]; exact h.1, by rw [fr_A (a := 24) q z.2]; exact h.2⟩
theorem LK_fr {m : Nat} {a b : Nat → Bool} {v : wo} {l : List Nat} (h : LK w m a b) (q : fr l w v) (z : (fhas l 7299 || fhas l 7399) = false) : LK v m a b := by
  rw [Bool.or_eq_false_iff] at z
  unfold LK
  rw [fr_A (a := 72) q z.1, fr_A (a := 73) q z.2]
  exact h
def rm (r : Int × Int) : Int := if r.1 < 0 then -1 else r.2
def rb (r : Int × Int) : Int := if r.1 < 0 then 0 else r.1
def sB7 : List Nat := [7299, 7399, 6899, 6999, 4730, 4731]
/-- the other's loop for nearest -/
theorem d243 (hM : MS w n g) (hg : gK n g) {m : Nat} {f : Nat → Int} (hT : MK w m f) (hm : m ≤ 200) (hf : ∀ i, i < m → 0 ≤ f i ∧ f i < n) {mk ms t o : Int} (hk : 0 ≤ mk ∧ mk < 6) (hms : 0 ≤ ms ∧ ms ≤ 3) (ht : 0 ≤ t ∧ t ≤ 1000) (ho : 0 ≤ o ∧ o ≤ 2) : ∃ v, am_W sc 243 (75, [some (am_R (some 47)), none, some (am_I (ii mk)), some (am_I (ii ms)), some (am_I (ii t)), some (am_I (ii o)), some (am_I (ii (-1))), some (am_I (ii 0)), some (am_I (ii 0)), none], [], wst w) = some (some (am_I (ii (if (nr (nW g f mk ms t m) (nR g f mk m) 121).1 < 0 then -2 else if o = 0 then (nr (nW g f mk ms t m) (nR g f mk m) 121).1 / 11 else if o = 1 then (nr (nW g f mk ms t m) (nR g f mk m) 121).1 % 11 else (nr (nW g f mk ms t m) (nR g f mk m) 121).2))), wst v) ∧ fr sB7 w v := by
  have hR : ∀ k : Nat, 0 ≤ nR g f mk m k ∧ nR g f mk m k ≤ 800 := fun k => by
    have := bR_ran g f mk (c0 := (k : Int) / 11) (c1 := (k : Int) % 11) (by omega) (by omega) m
    unfold nR
    omega
  obtain ⟨v, e, hfr, -⟩ := lp_s0 (am_W sc 243) (fun (k : Nat) (v : wo) => (75, [some (am_R (some 47)), none, some (am_I (ii mk)), some (am_I (ii ms)), some (am_I (ii t)), some (am_I (ii o)), some (am_I (ii (rm (nr (nW g f mk ms t m) (nR g f mk m) k)))), some (am_I (ii (rb (nr (nW g f mk ms t m) (nR g f mk m) k)))), some (am_I (ii k)), none], [], wst v)) (fun k v => fr sB7 w v ∧ True) 121 (fun k v hk' hi => by
    obtain ⟨u1, e1, f1, l1⟩ := d242k (sc := sc) (MS_fr hM hi.1 rfl) hg (MK_fr hT hi.1 rfl) hm hf hk hk'
    obtain ⟨u2, e2, f2, e3⟩ := d227k (sc := sc) (t := t) (MS_fr (MS_fr hM hi.1 rfl) f1 rfl) hg (MK_fr (MK_fr hT hi.1 rfl) f1 rfl) hm hf hms ht l1
    have hkm : (k : Int) - (k : Int) / 11 * 11 = (k : Int) % 11 := by omega
    have ho' := nr_ok (W := nW g f mk ms t m) hR k
    have hRk := hR k
    refine ⟨u2, ?_, fr_t hi.1 (fr_t (fr_m f1 rfl) (fr_m f2 rfl)), trivial⟩
    clear hM hg hT hf l1 hi f1 f2 hR
    by_cases z : nW g f mk ms t m k = true ∧ (nr (nW g f mk ms t m) (nR g f mk m) k).2 < nR g f mk m k
    · rw [nr_t z]
      rw [z.1] at e3
      have z2 := z.2
      rw [wq_243_75]
      revert ho' z2
      clear z
      generalize nr (nW g f mk ms t m) (nR g f mk m) k = r
      obtain ⟨b, c⟩ := r
      intro ho' z2
      have hrm : rm ((k : Int), nR g f mk m k) = nR g f mk m k := if_neg (by show ¬ ((k : Int) < 0); omega)
      have hrb : rb ((k : Int), nR g f mk m k) = k := if_neg (by show ¬ ((k : Int) < 0); omega)
      have hq : rm (b, c) < nR g f mk m k ∧ -1 ≤ rm (b, c) := by
        unfold rm
        dsimp only at ho' z2 ⊢
        rcases ho' with y | y
        · have yb : b = -2 := congrArg Prod.fst y
          rw [if_pos (by omega)]
          omega
        · rw [if_neg (by omega)]
          omega
      rw [hrm, hrb]
      simp (disch := omega) only [qB_s, qC_t, qC_f, qI_T, qI_F, qI_t, qI_f, r_I, r_L, r_R, r_V, ii_add, ii_sub, ii_mul, ii_neg, bz_0, bz_1, Bool.true_and, Bool.false_and, Bool.and_true, z00, z11, li_0, li_1, li_11, li_121, li_2, lj_0, lj_1000, lj_2, lj_3, lj_5, is_47, ii_lt, ii_eq, ii_div, hkm, e1, e2, e3, nat_1, not_true_eq_false]
    · rw [nr_f z]
      rw [wq_243_75]
      cases y2 : nW g f mk ms t m k with
      | false =>
        rw [y2] at e3
        have hq : -1 ≤ rm (nr (nW g f mk ms t m) (nR g f mk m) k) ∧ rm (nr (nW g f mk ms t m) (nR g f mk m) k) ≤ 800 := by
          unfold rm
          split
          · omega
          · rcases ho' with y | y
            · rename_i x
              rw [y] at x
              exact absurd (show ((-2 : Int), (-2 : Int)).1 < 0 from by decide) x
            · omega
        by_cases y3 : rm (nr (nW g f mk ms t m) (nR g f mk m) k) < nR g f mk m k
        · simp (disch := omega) only [qB_s, qC_t, qC_f, qI_T, qI_F, qI_t, qI_f, r_I, r_L, r_R, r_V, ii_add, ii_sub, ii_mul, ii_neg, bz_0, bz_1, Bool.true_and, Bool.false_and, Bool.and_true, z00, z11, li_0, li_1, li_11, li_121, li_2, lj_0, lj_1000, lj_2, lj_3, lj_5, is_47, ii_lt, ii_eq, ii_div, hkm, e1, e2, e3, nat_1, Bool.false_eq_true, not_false_eq_true]
        · simp (disch := omega) only [qB_s, qC_t, qC_f, qI_T, qI_F, qI_t, qI_f, r_I, r_L, r_R, r_V, ii_add, ii_sub, ii_mul, ii_neg, bz_0, bz_1, Bool.true_and, Bool.false_and, Bool.and_true, z00, z11, li_0, li_1, li_11, li_121, li_2, lj_0, lj_1000, lj_2, lj_3, lj_5, is_47, ii_lt, ii_eq, ii_div, hkm, e1, e2, e3, nat_1, Bool.false_eq_true, not_false_eq_true]
      | true =>
        have z2 : ¬ ((nr (nW g f mk ms t m) (nR g f mk m) k).2 < nR g f mk m k) := fun x => z ⟨y2, x⟩
        clear z
        revert ho' z2
        generalize nr (nW g f mk ms t m) (nR g f mk m) k = r
        obtain ⟨b, c⟩ := r
        intro ho' z2
        dsimp only at ho' z2
        have hq : rm (b, c) = c ∧ 0 ≤ c ∧ c ≤ 800 := by
          rcases ho' with y | y
          · have yc : c = -2 := congrArg Prod.snd y
            omega
          · exact ⟨if_neg (by show ¬ (b < 0); omega), y.2.2.1, y.2.2.2⟩
        rw [hq.1]
        simp (disch := omega) only [qB_s, qC_t, qC_f, qI_T, qI_F, qI_t, qI_f, r_I, r_L, r_R, r_V, ii_add, ii_sub, ii_mul, ii_neg, bz_0, bz_1, Bool.true_and, Bool.false_and, Bool.and_true, z00, z11, li_0, li_1, li_11, li_121, li_2, lj_0, lj_1000, lj_2, lj_3, lj_5, is_47, ii_lt, ii_eq, ii_div, hkm, e1, e2, nat_1]) w ⟨fr_r _ _, trivial⟩
  have e' : am_W sc 243 (75, [some (am_R (some 47)), none, some (am_I (ii mk)), some (am_I (ii ms)), some (am_I (ii t)), some (am_I (ii o)), some (am_I (ii (-1))), some (am_I (ii 0)), some (am_I (ii 0)), none], [], wst w) = _ := e
  refine ⟨v, ?_, hfr⟩
  rw [e', wq_243_75]
  have ho' := nr_ok (W := nW g f mk ms t m) hR 121
  revert ho'
  generalize nr (nW g f mk ms t m) (nR g f mk m) 121 = r
  obtain ⟨b, c⟩ := r
  intro ho'
  dsimp only at ho' ⊢
  have hkm : b - b / 11 * 11 = b % 11 := by omega
  unfold rm rb
  dsimp only
  rcases ho' with y | y
  · have yb : b = -2 := congrArg Prod.fst y
    rw [if_pos (by omega), if_pos (by omega), if_pos (by omega)]
    simp (disch := omega) only [qB_s, qC_t, qC_f, qI_T, qI_F, qI_t, qI_f, r_I, r_L, r_R, r_V, ii_add, ii_sub, ii_mul, ii_neg, bz_0, bz_1, Bool.true_and, Bool.false_and, Bool.and_true, z00, z11, li_0, li_1, li_11, li_121, li_2, lj_0, lj_1000, lj_2, lj_3, lj_5, is_47, ii_lt, ii_eq, Int.cast_ofNat_Int]
  · rw [if_neg (by omega), if_neg (by omega), if_neg (by omega)]
    have ho3 : o = 0 ∨ o = 1 ∨ o = 2 := by omega
    rcases ho3 with x | x | x
    · rw [if_pos x]
      simp (disch := omega) only [qB_s, qC_t, qC_f, qI_T, qI_F, qI_t, qI_f, r_I, r_L, r_R, r_V, ii_add, ii_sub, ii_mul, ii_neg, bz_0, bz_1, Bool.true_and, Bool.false_and, Bool.and_true, z00, z11, li_0, li_1, li_11, li_121, li_2, lj_0, lj_1000, lj_2, lj_3, lj_5, is_47, ii_lt, ii_eq, ii_div, Int.cast_ofNat_Int]
    · rw [if_neg (by omega), if_pos x]
      simp (disch := omega) only [qB_s, qC_t, qC_f, qI_T, qI_F, qI_t, qI_f, r_I, r_L, r_R, r_V, ii_add, ii_sub, ii_mul, ii_neg, bz_0, bz_1, Bool.true_and, Bool.false_and, Bool.and_true, z00, z11, li_0, li_1, li_11, li_121, li_2, lj_0, lj_1000, lj_2, lj_3, lj_5, is_47, ii_lt, ii_eq, ii_div, hkm, Int.cast_ofNat_Int]
    · rw [if_neg (by omega), if_neg (by omega)]
      simp (disch := omega) only [qB_s, qC_t, qC_f, qI_T, qI_F, qI_t, qI_f, r_I, r_L, r_R, r_V, ii_add, ii_sub, ii_mul, ii_neg, bz_0, bz_1, Bool.true_and, Bool.false_and, Bool.and_true, z00, z11, li_0, li_1, li_11, li_121, li_2, lj_0, lj_1000, lj_2, lj_3, lj_5, is_47, ii_lt, ii_eq, Int.cast_ofNat_Int]
/-- both measures hold -/
def kS (g : Int → Int → Int) (f : Nat → Int) (mk a b t : Int) (m k : Nat) : Int := sm (fun i => bz (nW g f mk a t m i = true ∧ nW g f mk b t m i = true)) k
theorem kS_s (g : Int → Int → Int) (f : Nat → Int) (mk a b t : Int) (m k : Nat) : kS g f mk a b t m (k + 1) = kS g f mk a b t m k + bz (nW g f mk a t m k = true ∧ nW g f mk b t m k = true) := rfl
theorem c244 {m : Nat} {f : Nat → Int} {mk a b t : Int} (hG : GB w g f mk m) (hm : m ≤ 200) (ha : 0 ≤ a ∧ a ≤ 3) (hb : 0 ≤ b ∧ b ≤ 3) (ht : 0 ≤ t ∧ t ≤ 1000) : ∃ v, am_W sc 244 (68, [some (am_R (some 0)), none, none, some (am_I (ii a)), some (am_I (ii b)), some (am_I (ii t)), some (am_I (ii 0)), some (am_I (ii 0))], [], wst w) = some (some (am_I (ii (kS g f mk a b t m 121))), wst v) ∧ fr [2800, 2801] w v := by
  obtain ⟨v, e, hfr, -⟩ := lp_s0 (am_W sc 244) (fun (k : Nat) (v : wo) => (68, [some (am_R (some 0)), none, none, some (am_I (ii a)), some (am_I (ii b)), some (am_I (ii t)), some (am_I (ii (kS g f mk a b t m k))), some (am_I (ii k))], [], wst v)) (fun k v => fr [2800, 2801] w v ∧ True) 121 (fun k v hk' hi => by
    obtain ⟨u1, e1, f1, -, e2⟩ := c239k (sc := sc) (GB_fr hG hi.1 rfl) hm ha ht hk'
    obtain ⟨u2, e3, f2, -, e4⟩ := c239k (sc := sc) (GB_fr (GB_fr hG hi.1 rfl) f1 rfl) hm hb ht hk'
    have hkm : (k : Int) - (k : Int) / 11 * 11 = (k : Int) % 11 := by omega
    rw [kS_s]
    cases y1 : nW g f mk a t m k with
    | false =>
      rw [y1] at e2
      refine ⟨u1, ?_, fr_t hi.1 f1, trivial⟩
      rw [wq_244_68, bz_f (by simp)]
      simp (disch := omega) only [qB_s, qC_t, qC_f, qI_T, qI_F, qI_t, qI_f, r_I, r_L, r_R, r_V, ii_add, ii_sub, ii_mul, ii_neg, bz_0, bz_1, Bool.true_and, Bool.false_and, Bool.and_true, z00, z11, li_0, li_1, li_11, li_121, gR_0_0, gR_0_10, gR_0_12, gR_0_9, is_0, is_28, is_39, ii_lt, ii_eq, ii_div, hkm, e1, e2, nat_1, Bool.false_eq_true, not_false_eq_true, Int.add_zero]
    | true =>
      rw [y1] at e2
      refine ⟨u2, ?_, fr_t hi.1 (fr_t f1 f2), trivial⟩
      rw [wq_244_68]
      cases y2 : nW g f mk b t m k with
      | false =>
        rw [y2] at e4
        rw [bz_f (by simp)]
        simp (disch := omega) only [qB_s, qC_t, qC_f, qI_T, qI_F, qI_t, qI_f, r_I, r_L, r_R, r_V, ii_add, ii_sub, ii_mul, ii_neg, bz_0, bz_1, Bool.true_and, Bool.false_and, Bool.and_true, z00, z11, li_0, li_1, li_11, li_121, gR_0_0, gR_0_10, gR_0_12, gR_0_9, is_0, is_28, is_39, ii_lt, ii_eq, ii_div, hkm, e1, e2, e3, e4, nat_1, Bool.false_eq_true, not_false_eq_true, not_true_eq_false]
      | true =>
        rw [y2] at e4
        rw [bz_t (by simp)]
        simp (disch := omega) only [qB_s, qC_t, qC_f, qI_T, qI_F, qI_t, qI_f, r_I, r_L, r_R, r_V, ii_add, ii_sub, ii_mul, ii_neg, bz_0, bz_1, Bool.true_and, Bool.false_and, Bool.and_true, z00, z11, li_0, li_1, li_11, li_121, gR_0_0, gR_0_10, gR_0_12, gR_0_9, is_0, is_28, is_39, ii_lt, ii_eq, ii_div, hkm, e1, e2, e3, e4, nat_1, not_true_eq_false]) w ⟨fr_r _ _, trivial⟩
  have e' : am_W sc 244 (68, [some (am_R (some 0)), none, none, some (am_I (ii a)), some (am_I (ii b)), some (am_I (ii t)), some (am_I (ii 0)), some (am_I (ii 0))], [], wst w) = _ := e
  refine ⟨v, ?_, hfr⟩
  rw [e', wq_244_68]
  simp (disch := omega) only [qB_s, qC_t, qC_f, qI_T, qI_F, qI_t, qI_f, r_I, r_L, r_R, r_V, ii_add, ii_sub, ii_mul, ii_neg, bz_0, bz_1, Bool.true_and, Bool.false_and, Bool.and_true, z00, z11, li_0, li_1, li_11, li_121, gR_0_0, gR_0_10, gR_0_12, gR_0_9, is_0, is_28, is_39, ii_lt, Int.cast_ofNat_Int]
theorem d245 (hM : MS w n g) (hg : gK n g) {m : Nat} {f : Nat → Int} (hT : MK w m f) (hm : m ≤ 200) (hf : ∀ i, i < m → 0 ≤ f i ∧ f i < n) {mk a b t : Int} (hk : 0 ≤ mk ∧ mk < 6) (ha : 0 ≤ a ∧ a ≤ 3) (hb : 0 ≤ b ∧ b ≤ 3) (ht : 0 ≤ t ∧ t ≤ 1000) : ∃ v, am_W sc 245 (78, [some (am_R (some 47)), none, some (am_I (ii mk)), some (am_I (ii a)), some (am_I (ii b)), some (am_I (ii t)), some (am_I (ii 0)), some (am_I (ii 0)), none], [], wst w) = some (some (am_I (ii (kS g f mk a b t m 121))), wst v) ∧ fr sB7 w v := by
  obtain ⟨v, e, hfr, -⟩ := lp_s0 (am_W sc 245) (fun (k : Nat) (v : wo) => (78, [some (am_R (some 47)), none, some (am_I (ii mk)), some (am_I (ii a)), some (am_I (ii b)), some (am_I (ii t)), some (am_I (ii (kS g f mk a b t m k))), some (am_I (ii k)), none], [], wst v)) (fun k v => fr sB7 w v ∧ True) 121 (fun k v hk' hi => by
    have hM1 := MS_fr hM hi.1 rfl
    have hT1 := MK_fr hT hi.1 rfl
    obtain ⟨u1, e1, f1, l1⟩ := d242k (sc := sc) hM1 hg hT1 hm hf hk hk'
    obtain ⟨u2, e2, f2, e3⟩ := d227k (sc := sc) (t := t) (MS_fr hM1 f1 rfl) hg (MK_fr hT1 f1 rfl) hm hf ha ht l1
    obtain ⟨u3, e4, f3, e5⟩ := d227k (sc := sc) (t := t) (MS_fr (MS_fr hM1 f1 rfl) f2 rfl) hg (MK_fr (MK_fr hT1 f1 rfl) f2 rfl) hm hf hb ht (LK_fr l1 f2 rfl)
    have hkm : (k : Int) - (k : Int) / 11 * 11 = (k : Int) % 11 := by omega
    refine ⟨u3, ?_, fr_t hi.1 (fr_t (fr_m f1 rfl) (fr_t (fr_m f2 rfl) (fr_m f3 rfl))), trivial⟩
    rw [kS_s]
    clear hM hg hT hf l1 hi f1 f2 f3 hM1 hT1
    rw [wq_245_78]
    cases y1 : nW g f mk a t m k with
    | false =>
      rw [y1] at e3
      rw [bz_f (by simp)]
      simp (disch := omega) only [qB_s, qC_t, qC_f, qI_T, qI_F, qI_t, qI_f, r_I, r_L, r_R, r_V, ii_add, ii_sub, ii_mul, ii_neg, bz_0, bz_1, Bool.true_and, Bool.false_and, Bool.and_true, z00, z11, li_0, li_1, li_11, li_121, lj_0, lj_1000, lj_3, lj_5, is_47, ii_lt, ii_eq, ii_div, hkm, e1, e2, e3, e4, nat_1, Bool.false_eq_true, not_false_eq_true]
    | true =>
      rw [y1] at e3
      cases y2 : nW g f mk b t m k with
      | false =>
        rw [y2] at e5
        rw [bz_f (by simp)]
        simp (disch := omega) only [qB_s, qC_t, qC_f, qI_T, qI_F, qI_t, qI_f, r_I, r_L, r_R, r_V, ii_add, ii_sub, ii_mul, ii_neg, bz_0, bz_1, Bool.true_and, Bool.false_and, Bool.and_true, z00, z11, li_0, li_1, li_11, li_121, lj_0, lj_1000, lj_3, lj_5, is_47, ii_lt, ii_eq, ii_div, hkm, e1, e2, e3, e4, e5, nat_1, Bool.false_eq_true, not_false_eq_true, not_true_eq_false]
      | true =>
        rw [y2] at e5
        rw [bz_t (by simp)]
        simp (disch := omega) only [qB_s, qC_t, qC_f, qI_T, qI_F, qI_t, qI_f, r_I, r_L, r_R, r_V, ii_add, ii_sub, ii_mul, ii_neg, bz_0, bz_1, Bool.true_and, Bool.false_and, Bool.and_true, z00, z11, li_0, li_1, li_11, li_121, lj_0, lj_1000, lj_3, lj_5, is_47, ii_lt, ii_eq, ii_div, hkm, e1, e2, e3, e4, e5, nat_1, not_true_eq_false]) w ⟨fr_r _ _, trivial⟩
  have e' : am_W sc 245 (78, [some (am_R (some 47)), none, some (am_I (ii mk)), some (am_I (ii a)), some (am_I (ii b)), some (am_I (ii t)), some (am_I (ii 0)), some (am_I (ii 0)), none], [], wst w) = _ := e
  refine ⟨v, ?_, hfr⟩
  rw [e', wq_245_78]
  simp (disch := omega) only [qB_s, qC_t, qC_f, qI_T, qI_F, qI_t, qI_f, r_I, r_L, r_R, r_V, ii_add, ii_sub, ii_mul, ii_neg, bz_0, bz_1, Bool.true_and, Bool.false_and, Bool.and_true, z00, z11, li_0, li_1, li_11, li_121, lj_0, lj_1000, lj_3, lj_5, is_47, ii_lt, Int.cast_ofNat_Int]
theorem y_243 (hM : RM w A) (hA : okA A) {v mk ms t o : Int} (hv1 : -2147483648 ≤ v) (hv2 : v ≤ 2147483647) (hmk1 : -2147483648 ≤ mk) (hmk2 : mk ≤ 2147483647) (hms1 : -2147483648 ≤ ms) (hms2 : ms ≤ 2147483647) (ht1 : -2147483648 ≤ t) (ht2 : t ≤ 2147483647) (ho1 : -2147483648 ≤ o) (ho2 : o ≤ 2147483647) : ∃ u, am_F sc 243 [am_R (some 47), am_I (ii v), am_I (ii mk), am_I (ii ms), am_I (ii t), am_I (ii o)] (wst w) = some (some (am_I (ii (if (0 ≤ v ∧ v < A.2.2.1.1) ∧ (0 ≤ mk ∧ mk < 6) ∧ (0 ≤ ms ∧ ms < 4) ∧ (0 ≤ t ∧ t ≤ 1000) ∧ (0 ≤ o ∧ o ≤ 2) then if (nr (nW (aG A) (vF A v) mk ms t (vM A v)) (nR (aG A) (vF A v) mk (vM A v)) 121).1 < 0 then -2 else if o = 0 then (nr (nW (aG A) (vF A v) mk ms t (vM A v)) (nR (aG A) (vF A v) mk (vM A v)) 121).1 / 11 else if o = 1 then (nr (nW (aG A) (vF A v) mk ms t (vM A v)) (nR (aG A) (vF A v) mk (vM A v)) 121).1 % 11 else (nr (nW (aG A) (vF A v) mk ms t (vM A v)) (nR (aG A) (vF A v) mk (vM A v)) 121).2 else -1))), wst u) ∧ fr scM w u := by
  have hn8 := hA.2.2.1.2.1
  have hn0 := hA.2.2.1.1
  have h120 := d120 (sc := sc) hM hn8 hn0 (v := v) hv1 hv2
  by_cases q1 : 0 ≤ v ∧ v < A.2.2.1.1
  · skip
    by_cases q2 : 0 ≤ mk ∧ mk < 6
    · skip
      by_cases q3 : 0 ≤ ms ∧ ms < 4
      · skip
        by_cases q4 : 0 ≤ t ∧ t ≤ 1000
        · skip
          by_cases q5 : 0 ≤ o ∧ o ≤ 2
          · skip
            rw [if_pos (by omega)]
            obtain ⟨u, e1, f1, t1, -⟩ := d124v (sc := sc) hM hA q1
            have hMu := RM_m hM (fr_m f1 rfl)
            have hm := vM_le hA v
            have hok : ∀ i, i < vM A v → 0 ≤ vF A v i ∧ vF A v i < A.1.1 := fun i hi => vF_ok hA v hi
            obtain ⟨u2, e2, f2⟩ := d243 (sc := sc) hMu.1 hA.1.2.2.1 t1 hm hok (mk := mk) (ms := ms) (t := t) (o := o) q2 (by omega) q4 q5
            refine ⟨u2, ?_, fr_t (fr_m f1 rfl) (fr_m f2 rfl)⟩
            rw [fq_243]
            simp (disch := omega) only [qB_s, qC_t, qC_f, qI_T, qI_F, qI_t, qI_f, r_I, r_L, r_R, r_V, ii_add, ii_sub, ii_mul, ii_neg, bz_0, bz_1, Bool.true_and, Bool.false_and, Bool.and_true, z00, z11, li_0, li_1, li_11, li_121, li_2, lj_0, lj_1000, lj_2, lj_3, lj_5, is_47, h120, e1, ii_eq, ii_jj, d17, e2]
            rfl
          · rw [if_neg (by omega)]
            exact ⟨w, by
              rw [fq_243]
              simp (disch := omega) only [qB_s, qC_t, qC_f, qI_T, qI_F, qI_t, qI_f, r_I, r_L, r_R, r_V, ii_add, ii_sub, ii_mul, ii_neg, bz_0, bz_1, Bool.true_and, Bool.false_and, Bool.and_true, z00, z11, li_0, li_1, li_11, li_121, li_2, lj_0, lj_1000, lj_2, lj_3, lj_5, is_47, ii_lt, ii_eq, ii_jj, jj_neg, h120, d17], fr_r _ _⟩
        · rw [if_neg (by omega)]
          exact ⟨w, by
            rw [fq_243]
            simp (disch := omega) only [qB_s, qC_t, qC_f, qI_T, qI_F, qI_t, qI_f, r_I, r_L, r_R, r_V, ii_add, ii_sub, ii_mul, ii_neg, bz_0, bz_1, Bool.true_and, Bool.false_and, Bool.and_true, z00, z11, li_0, li_1, li_11, li_121, li_2, lj_0, lj_1000, lj_2, lj_3, lj_5, is_47, ii_lt, ii_eq, ii_jj, jj_neg, h120, d17], fr_r _ _⟩
      · rw [if_neg (by omega)]
        exact ⟨w, by
          rw [fq_243]
          simp (disch := omega) only [qB_s, qC_t, qC_f, qI_T, qI_F, qI_t, qI_f, r_I, r_L, r_R, r_V, ii_add, ii_sub, ii_mul, ii_neg, bz_0, bz_1, Bool.true_and, Bool.false_and, Bool.and_true, z00, z11, li_0, li_1, li_11, li_121, li_2, lj_0, lj_1000, lj_2, lj_3, lj_5, is_47, ii_lt, ii_eq, ii_jj, jj_neg, h120, d17], fr_r _ _⟩
    · rw [if_neg (by omega)]
      exact ⟨w, by
        rw [fq_243]
        simp (disch := omega) only [qB_s, qC_t, qC_f, qI_T, qI_F, qI_t, qI_f, r_I, r_L, r_R, r_V, ii_add, ii_sub, ii_mul, ii_neg, bz_0, bz_1, Bool.true_and, Bool.false_and, Bool.and_true, z00, z11, li_0, li_1, li_11, li_121, li_2, lj_0, lj_1000, lj_2, lj_3, lj_5, is_47, ii_lt, ii_eq, ii_jj, jj_neg, h120, d17], fr_r _ _⟩
  · rw [if_neg (by omega)]
    exact ⟨w, by
      rw [fq_243]
      simp (disch := omega) only [qB_s, qC_t, qC_f, qI_T, qI_F, qI_t, qI_f, r_I, r_L, r_R, r_V, ii_add, ii_sub, ii_mul, ii_neg, bz_0, bz_1, Bool.true_and, Bool.false_and, Bool.and_true, z00, z11, li_0, li_1, li_11, li_121, li_2, lj_0, lj_1000, lj_2, lj_3, lj_5, is_47, ii_lt, ii_eq, ii_jj, jj_neg, h120], fr_r _ _⟩

theorem x_244 (hC : RC ow w A) (hA : okA A) {v mk a b t : Int} (hv1 : -2147483648 ≤ v) (hv2 : v ≤ 2147483647) (hmk1 : -2147483648 ≤ mk) (hmk2 : mk ≤ 2147483647) (ha1 : -2147483648 ≤ a) (ha2 : a ≤ 2147483647) (hb1 : -2147483648 ≤ b) (hb2 : b ≤ 2147483647) (ht1 : -2147483648 ≤ t) (ht2 : t ≤ 2147483647) : ∃ u, am_F sc 244 [am_R (some 0), am_I (ii v), am_I (ii mk), am_I (ii a), am_I (ii b), am_I (ii t)] (wst w) = some (some (am_I (ii (if (0 ≤ mk ∧ mk < 6) ∧ (0 ≤ a ∧ a < 4) ∧ (0 ≤ b ∧ b < 4) ∧ (¬ (a = b)) ∧ (0 ≤ t ∧ t ≤ 1000) ∧ (0 ≤ v ∧ v < A.2.2.1.1) then kS (aG A) (vF A v) mk a b t (vM A v) 121 else -1))), wst u) ∧ fr scC w u := by
  have hn8 := hA.2.2.1.2.1
  have hn0 := hA.2.2.1.1
  by_cases q1 : 0 ≤ mk ∧ mk < 6
  · skip
    by_cases q2 : 0 ≤ a ∧ a < 4
    · skip
      by_cases q3 : 0 ≤ b ∧ b < 4
      · skip
        by_cases q4 : ¬ (a = b)
        · skip
          by_cases q5 : 0 ≤ t ∧ t ≤ 1000
          · skip
            by_cases q6 : 0 ≤ v ∧ v < A.2.2.1.1
            · skip
              rw [if_pos (by omega)]
              obtain ⟨u, e1, f1, t1, -⟩ := (c117 (sc := sc) hC hA hv1 hv2).1 q6
              have hCu := RC_c hC (fr_m f1 rfl)
              have hm := vM_le hA v
              have hg := hA.1.2.2.1
              have hst := stg hA v
              have hok : ∀ i, i < vM A v → 0 ≤ vF A v i ∧ vF A v i < A.1.1 := fun i hi => vF_ok hA v hi
              obtain ⟨u2, e2, f2, hG⟩ := c234 (sc := sc) hCu.1 hg t1 hm hok q1
              obtain ⟨u3, e3, f3⟩ := c244 (sc := sc) hG hm (a := a) (b := b) (t := t) (by omega) (by omega) q5
              refine ⟨u3, ?_, fr_t (fr_m f1 rfl) (fr_t (fr_m f2 rfl) (fr_m f3 rfl))⟩
              rw [fq_244]
              simp (disch := omega) only [qB_s, qC_t, qC_f, qI_T, qI_F, qI_t, qI_f, r_I, r_L, r_R, r_V, ii_add, ii_sub, ii_mul, ii_neg, bz_0, bz_1, Bool.true_and, Bool.false_and, Bool.and_true, z00, z11, li_0, li_1, li_11, li_121, gR_0_0, gR_0_10, gR_0_12, gR_0_9, is_0, is_28, is_39, s20, s220, s229, ii_eq, e1, e2, e3]
              rfl
            · rw [if_neg (by omega)]
              have h117 := (c117 (sc := sc) hC hA hv1 hv2).2 q6
              exact ⟨w, by
                rw [fq_244]
                simp (disch := omega) only [qB_s, qC_t, qC_f, qI_T, qI_F, qI_t, qI_f, r_I, r_L, r_R, r_V, ii_add, ii_sub, ii_mul, ii_neg, bz_0, bz_1, Bool.true_and, Bool.false_and, Bool.and_true, z00, z11, li_0, li_1, li_11, li_121, gR_0_0, gR_0_10, gR_0_12, gR_0_9, is_0, is_28, is_39, ii_lt, ii_eq, ii_jj, jj_neg, h117, s20, s20, s220, s20, s220, s20, s220, s20, s220, s229], fr_r _ _⟩
          · rw [if_neg (by omega)]
            exact ⟨w, by
              rw [fq_244]
              simp (disch := omega) only [qB_s, qC_t, qC_f, qI_T, qI_F, qI_t, qI_f, r_I, r_L, r_R, r_V, ii_add, ii_sub, ii_mul, ii_neg, bz_0, bz_1, Bool.true_and, Bool.false_and, Bool.and_true, z00, z11, li_0, li_1, li_11, li_121, gR_0_0, gR_0_10, gR_0_12, gR_0_9, is_0, is_28, is_39, ii_lt, ii_eq, ii_jj, jj_neg, s20, s220, s229], fr_r _ _⟩
        · rw [if_neg (by omega)]
          exact ⟨w, by
            rw [fq_244]
            simp (disch := omega) only [qB_s, qC_t, qC_f, qI_T, qI_F, qI_t, qI_f, r_I, r_L, r_R, r_V, ii_add, ii_sub, ii_mul, ii_neg, bz_0, bz_1, Bool.true_and, Bool.false_and, Bool.and_true, z00, z11, li_0, li_1, li_11, li_121, gR_0_0, gR_0_10, gR_0_12, gR_0_9, is_0, is_28, is_39, ii_lt, ii_eq, ii_jj, jj_neg, s20, s220], fr_r _ _⟩
      · rw [if_neg (by omega)]
        exact ⟨w, by
          rw [fq_244]
          simp (disch := omega) only [qB_s, qC_t, qC_f, qI_T, qI_F, qI_t, qI_f, r_I, r_L, r_R, r_V, ii_add, ii_sub, ii_mul, ii_neg, bz_0, bz_1, Bool.true_and, Bool.false_and, Bool.and_true, z00, z11, li_0, li_1, li_11, li_121, gR_0_0, gR_0_10, gR_0_12, gR_0_9, is_0, is_28, is_39, ii_lt, ii_eq, ii_jj, jj_neg, s20, s220], fr_r _ _⟩
    · rw [if_neg (by omega)]
      exact ⟨w, by
        rw [fq_244]
        simp (disch := omega) only [qB_s, qC_t, qC_f, qI_T, qI_F, qI_t, qI_f, r_I, r_L, r_R, r_V, ii_add, ii_sub, ii_mul, ii_neg, bz_0, bz_1, Bool.true_and, Bool.false_and, Bool.and_true, z00, z11, li_0, li_1, li_11, li_121, gR_0_0, gR_0_10, gR_0_12, gR_0_9, is_0, is_28, is_39, ii_lt, ii_eq, ii_jj, jj_neg, s20, s220], fr_r _ _⟩
  · rw [if_neg (by omega)]
    exact ⟨w, by
      rw [fq_244]
      simp (disch := omega) only [qB_s, qC_t, qC_f, qI_T, qI_F, qI_t, qI_f, r_I, r_L, r_R, r_V, ii_add, ii_sub, ii_mul, ii_neg, bz_0, bz_1, Bool.true_and, Bool.false_and, Bool.and_true, z00, z11, li_0, li_1, li_11, li_121, gR_0_0, gR_0_10, gR_0_12, gR_0_9, is_0, is_28, is_39, ii_lt, ii_eq, ii_jj, jj_neg, s20], fr_r _ _⟩

theorem y_245 (hM : RM w A) (hA : okA A) {v mk a b t : Int} (hv1 : -2147483648 ≤ v) (hv2 : v ≤ 2147483647) (hmk1 : -2147483648 ≤ mk) (hmk2 : mk ≤ 2147483647) (ha1 : -2147483648 ≤ a) (ha2 : a ≤ 2147483647) (hb1 : -2147483648 ≤ b) (hb2 : b ≤ 2147483647) (ht1 : -2147483648 ≤ t) (ht2 : t ≤ 2147483647) : ∃ u, am_F sc 245 [am_R (some 47), am_I (ii v), am_I (ii mk), am_I (ii a), am_I (ii b), am_I (ii t)] (wst w) = some (some (am_I (ii (if (0 ≤ v ∧ v < A.2.2.1.1) ∧ (0 ≤ mk ∧ mk < 6) ∧ (0 ≤ a ∧ a < 4) ∧ (0 ≤ b ∧ b < 4) ∧ (¬ (a = b)) ∧ (0 ≤ t ∧ t ≤ 1000) then kS (aG A) (vF A v) mk a b t (vM A v) 121 else -1))), wst u) ∧ fr scM w u := by
  have hn8 := hA.2.2.1.2.1
  have hn0 := hA.2.2.1.1
  have h120 := d120 (sc := sc) hM hn8 hn0 (v := v) hv1 hv2
  by_cases q1 : 0 ≤ v ∧ v < A.2.2.1.1
  · skip
    by_cases q2 : 0 ≤ mk ∧ mk < 6
    · skip
      by_cases q3 : 0 ≤ a ∧ a < 4
      · skip
        by_cases q4 : 0 ≤ b ∧ b < 4
        · skip
          by_cases q5 : ¬ (a = b)
          · skip
            by_cases q6 : 0 ≤ t ∧ t ≤ 1000
            · skip
              rw [if_pos (by omega)]
              obtain ⟨u, e1, f1, t1, -⟩ := d124v (sc := sc) hM hA q1
              have hMu := RM_m hM (fr_m f1 rfl)
              have hm := vM_le hA v
              have hok : ∀ i, i < vM A v → 0 ≤ vF A v i ∧ vF A v i < A.1.1 := fun i hi => vF_ok hA v hi
              obtain ⟨u2, e2, f2⟩ := d245 (sc := sc) hMu.1 hA.1.2.2.1 t1 hm hok (mk := mk) (a := a) (b := b) (t := t) q2 (by omega) (by omega) q6
              refine ⟨u2, ?_, fr_t (fr_m f1 rfl) (fr_m f2 rfl)⟩
              rw [fq_245]
              simp (disch := omega) only [qB_s, qC_t, qC_f, qI_T, qI_F, qI_t, qI_f, r_I, r_L, r_R, r_V, ii_add, ii_sub, ii_mul, ii_neg, bz_0, bz_1, Bool.true_and, Bool.false_and, Bool.and_true, z00, z11, li_0, li_1, li_11, li_121, lj_0, lj_1000, lj_3, lj_5, is_47, h120, e1, ii_eq, ii_jj, d17, e2]
              rfl
            · rw [if_neg (by omega)]
              exact ⟨w, by
                rw [fq_245]
                simp (disch := omega) only [qB_s, qC_t, qC_f, qI_T, qI_F, qI_t, qI_f, r_I, r_L, r_R, r_V, ii_add, ii_sub, ii_mul, ii_neg, bz_0, bz_1, Bool.true_and, Bool.false_and, Bool.and_true, z00, z11, li_0, li_1, li_11, li_121, lj_0, lj_1000, lj_3, lj_5, is_47, ii_lt, ii_eq, ii_jj, jj_neg, h120, d17], fr_r _ _⟩
          · rw [if_neg (by omega)]
            exact ⟨w, by
              rw [fq_245]
              simp (disch := omega) only [qB_s, qC_t, qC_f, qI_T, qI_F, qI_t, qI_f, r_I, r_L, r_R, r_V, ii_add, ii_sub, ii_mul, ii_neg, bz_0, bz_1, Bool.true_and, Bool.false_and, Bool.and_true, z00, z11, li_0, li_1, li_11, li_121, lj_0, lj_1000, lj_3, lj_5, is_47, ii_lt, ii_eq, ii_jj, jj_neg, h120, d17], fr_r _ _⟩
        · rw [if_neg (by omega)]
          exact ⟨w, by
            rw [fq_245]
            simp (disch := omega) only [qB_s, qC_t, qC_f, qI_T, qI_F, qI_t, qI_f, r_I, r_L, r_R, r_V, ii_add, ii_sub, ii_mul, ii_neg, bz_0, bz_1, Bool.true_and, Bool.false_and, Bool.and_true, z00, z11, li_0, li_1, li_11, li_121, lj_0, lj_1000, lj_3, lj_5, is_47, ii_lt, ii_eq, ii_jj, jj_neg, h120, d17], fr_r _ _⟩
      · rw [if_neg (by omega)]
        exact ⟨w, by
          rw [fq_245]
          simp (disch := omega) only [qB_s, qC_t, qC_f, qI_T, qI_F, qI_t, qI_f, r_I, r_L, r_R, r_V, ii_add, ii_sub, ii_mul, ii_neg, bz_0, bz_1, Bool.true_and, Bool.false_and, Bool.and_true, z00, z11, li_0, li_1, li_11, li_121, lj_0, lj_1000, lj_3, lj_5, is_47, ii_lt, ii_eq, ii_jj, jj_neg, h120, d17], fr_r _ _⟩
    · rw [if_neg (by omega)]
      exact ⟨w, by
        rw [fq_245]
        simp (disch := omega) only [qB_s, qC_t, qC_f, qI_T, qI_F, qI_t, qI_f, r_I, r_L, r_R, r_V, ii_add, ii_sub, ii_mul, ii_neg, bz_0, bz_1, Bool.true_and, Bool.false_and, Bool.and_true, z00, z11, li_0, li_1, li_11, li_121, lj_0, lj_1000, lj_3, lj_5, is_47, ii_lt, ii_eq, ii_jj, jj_neg, h120, d17], fr_r _ _⟩
  · rw [if_neg (by omega)]
    exact ⟨w, by
      rw [fq_245]
      simp (disch := omega) only [qB_s, qC_t, qC_f, qI_T, qI_F, qI_t, qI_f, r_I, r_L, r_R, r_V, ii_add, ii_sub, ii_mul, ii_neg, bz_0, bz_1, Bool.true_and, Bool.false_and, Bool.and_true, z00, z11, li_0, li_1, li_11, li_121, lj_0, lj_1000, lj_3, lj_5, is_47, ii_lt, ii_eq, ii_jj, jj_neg, h120], fr_r _ _⟩

end L30
