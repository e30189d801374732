/-! FEW, BEST IN THE OTHER -/
/-- the row of a test of the other's; none: the row that all pass -/
def tz (p : Int) : Nat := if p < 0 then 110 else tq p.toNat
theorem tz_lt {p : Int} (h : p < 110) : tz p < 111 := by
  unfold tz
  split
  · decide
  · have := tq_lt (q := p.toNat) (by omega)
    omega
theorem tR_110 (g : Int → Int → Int) (k : Int) : tR g 110 k = true := rfl
theorem tz_n {p : Int} (h : p < 0) : tz p = 110 := if_pos h
theorem tz_t {p : Int} (h : p < 110) : tt (tz p) = decide (108 ≤ p) := by
  unfold tz
  split
  · rw [decide_eq_false (by omega)]
    rfl
  · rw [tt_tq, decide_eq_decide]
    omega
/-- the state of the search in the other -/
def MB (S : Int → Bool → Prop) (w : wo) : Prop := (wI w 47 51 = -1 ∧ ∀ x t, ¬ S x t) ∨ ∃ r, HB S r ∧ (0 ≤ r.1 ∧ r.1 ≤ 200) ∧ wI w 47 51 = r.1 ∧ wI w 47 52 = bB r.2.1 ∧ wI w 47 53 = bB r.2.2
theorem MB_c {S T : Int → Bool → Prop} (e : ∀ x t, S x t ↔ T x t) {w : wo} (h : MB S w) : MB T w :=
  h.elim (fun z => .inl ⟨z.1, fun x t k => z.2 x t ((e x t).mpr k)⟩) (fun z => z.elim fun r z => .inr ⟨r, HB_c e z.1, z.2⟩)
def sMB : List Nat := [4751, 4752, 4753]
theorem bsD_ran (g : Int → Int → Int) (f : Nat → Int) {m : Nat} (hm : m ≤ 200) {d : Int} (hd : d = 0 ∨ d = 1 ∨ d = 2) : 0 ≤ (bsD g f m d).1 ∧ (bsD g f m d).1 ≤ 200 := by
  obtain ⟨-, ⟨t, h⟩, -⟩ := bsD_HB g f hm hd
  generalize (bsD g f m d).1 = x at *
  unfold SD at h
  split at h
  · rw [h.1]
    have := wr_ran g f m 110 110
    omega
  · split at h
    · obtain ⟨a, -, h, -⟩ := h
      rw [h]
      have := wr_ran g f m a 110
      omega
    · obtain ⟨a, b, -, -, -, h, -⟩ := h
      rw [h]
      have := wr_ran g f m a b
      omega
section L44
variable {sc : am_X} {w : wo} {A : ab} {ow : Nat → Nat} {n : Int} {g : Int → Int → Int} {f : Nat → Int} {m : Nat}
theorem d256 (hM : MS w n g) (hg : gK n g) {p c : Int} (hp : 0 ≤ p ∧ p < 110) (hc : 0 ≤ c ∧ c < n) : am_F sc 256 [am_R (some 47), am_I (ii p), am_I (ii c)] (wst w) = some (some (am_I (ii (bz (tR g (tz p) c = true)))), wst w) := by
  have hn200 := hM.2.2.1
  have hr := hg c hc.1 hc.2
  have r1 := hr.1
  rw [fq_256]
  by_cases q : p < 108
  · have p1 := d107 (sc := sc) hM hc.1 hc.2 (m := (p - p / 54 * 54) / 9) (by omega) (by omega)
    have r3 := gK_m hg hc.1 hc.2 (m := (p - p / 54 * 54) / 9) (by omega) (by omega)
    obtain ⟨k, hk⟩ : ∃ k : Nat, (k : Int) = (p - p / 54 * 54) / 9 := ⟨((p - p / 54 * 54) / 9).toNat, by omega⟩
    rw [← hk] at p1 r3
    have e : 18 * k ≤ tz p ∧ tz p < 18 * k + 18 ∧ (p < 54 → (tz p : Int) = 18 * k + p % 9) ∧ (¬ p < 54 → (tz p : Int) = 18 * k + 9 + p % 9) := by
      unfold tz tq
      rw [if_neg (by omega)]
      by_cases z : p < 54
      · rw [if_pos (by omega)]
        omega
      · rw [if_neg (by omega), if_pos (by omega)]
        omega
    have h := tR_V (g := g) (c := c) (k := k) (r := tz p) (by omega) e.1 e.2.1
    have e3 := e.2.2.1
    have e4 := e.2.2.2
    rw [show bz (tR g (tz p) c = true) = bz (tV k (g c (4 + k)) (tz p)) from bz_c h]
    by_cases q1 : g c (4 + k) < 0
    · rw [bz_f (fun z => by have := z.2.2.1; omega)]
      simp (disch := omega) only [qB_s, qC_t, qC_f, qI_T, qI_F, qI_t, qI_f, r_I, r_L, r_R, r_V, ii_add, ii_sub, ii_mul, ii_neg, bz_0, bz_1, Bool.true_and, Bool.false_and, Bool.and_true, z00, z11, li_0, li_1, li_108, li_54, li_9, is_47, ii_lt, ii_eq, ii_div, ← hk, p1]
    · by_cases q2 : p < 54
      · by_cases q3 : g c (4 + k) < 1 + (p - p / 9 * 9)
        · rw [bz_f (fun z => by have := z.2.2.2; omega)]
          simp (disch := omega) only [qB_s, qC_t, qC_f, qI_T, qI_F, qI_t, qI_f, r_I, r_L, r_R, r_V, ii_add, ii_sub, ii_mul, ii_neg, bz_0, bz_1, Bool.true_and, Bool.false_and, Bool.and_true, z00, z11, li_0, li_1, li_108, li_54, li_9, is_47, ii_lt, ii_eq, ii_div, ← hk, p1]
        · rw [bz_t ⟨e.1, e.2.1, by omega, by omega⟩]
          simp (disch := omega) only [qB_s, qC_t, qC_f, qI_T, qI_F, qI_t, qI_f, r_I, r_L, r_R, r_V, ii_add, ii_sub, ii_mul, ii_neg, bz_0, bz_1, Bool.true_and, Bool.false_and, Bool.and_true, z00, z11, li_0, li_1, li_108, li_54, li_9, is_47, ii_lt, ii_eq, ii_div, ← hk, p1]
      · by_cases q3 : p - p / 9 * 9 < g c (4 + k)
        · rw [bz_f (fun z => by have := z.2.2.2; omega)]
          simp (disch := omega) only [qB_s, qC_t, qC_f, qI_T, qI_F, qI_t, qI_f, r_I, r_L, r_R, r_V, ii_add, ii_sub, ii_mul, ii_neg, bz_0, bz_1, Bool.true_and, Bool.false_and, Bool.and_true, z00, z11, li_0, li_1, li_108, li_54, li_9, is_47, ii_lt, ii_eq, ii_div, ← hk, p1]
        · rw [bz_t ⟨e.1, e.2.1, by omega, by omega⟩]
          simp (disch := omega) only [qB_s, qC_t, qC_f, qI_T, qI_F, qI_t, qI_f, r_I, r_L, r_R, r_V, ii_add, ii_sub, ii_mul, ii_neg, bz_0, bz_1, Bool.true_and, Bool.false_and, Bool.and_true, z00, z11, li_0, li_1, li_108, li_54, li_9, is_47, ii_lt, ii_eq, ii_div, ← hk, p1]
  · have p1 := d122 (sc := sc) hM hc.1 hc.2
    have e : tz p = p.toNat := by
      unfold tz tq
      rw [if_neg (by omega), if_neg (by omega), if_neg (by omega)]
    have h : tR g (tz p) c = decide (g c 0 = ((tz p : Nat) : Int) - 108) := by
      unfold tR
      rw [if_neg (by omega), if_pos (by omega)]
    by_cases z : g c 0 = p - 108
    · rw [bz_t (by rw [h]; exact decide_eq_true (by omega))]
      simp (disch := omega) only [qB_s, qC_t, qC_f, qI_T, qI_F, qI_t, qI_f, r_I, r_L, r_R, r_V, ii_add, ii_sub, ii_mul, ii_neg, bz_0, bz_1, Bool.true_and, Bool.false_and, Bool.and_true, z00, z11, li_0, li_1, li_108, li_54, li_9, is_47, ii_lt, ii_eq, p1]
    · rw [bz_f (by rw [h, decide_eq_true_eq]; omega)]
      simp (disch := omega) only [qB_s, qC_t, qC_f, qI_T, qI_F, qI_t, qI_f, r_I, r_L, r_R, r_V, ii_add, ii_sub, ii_mul, ii_neg, bz_0, bz_1, Bool.true_and, Bool.false_and, Bool.and_true, z00, z11, li_0, li_1, li_108, li_54, li_9, is_47, ii_lt, ii_eq, p1]
theorem tX_at (a b i : Nat) {x y z : Bool} (h1 : tR g a (f i) = x) (h2 : tR g b (f i) = y) (h3 : decide (g (f i) 2 = 2) = z) : tX g f a b i = ((x && y) ^^ z) := by
  unfold tX
  rw [h1, h2, h3]
theorem d257 (hM : MS w n g) (hg : gK n g) (hT : MK w m f) (hm : m ≤ 200) (hf : ∀ i, i < m → 0 ≤ f i ∧ f i < n) {p q : Int} (hp : -1 ≤ p ∧ p < 110) (hq : -1 ≤ q ∧ q < 110) : am_F sc 257 [am_R (some 47), am_I (ii p), am_I (ii q)] (wst w) = some (some (am_I (ii (wr g f m (tz p) (tz q)))), wst w) := by
  have hs := hT.1
  have hn200 := hM.2.2.1
  have e := lp_0 (am_W sc 257) (fun i : Nat => (5, [some (am_R (some 47)), some (am_I (ii p)), some (am_I (ii q)), some (am_I (ii (sb (tX g f (tz p) (tz q)) i : Nat))), some (am_I (ii i)), none], [], wst w)) m (fun i hi => by
    have hfi := hf i hi
    have h59 := hT.2 i hi
    have p3 := d123 (sc := sc) hM hg hfi.1 hfi.2
    have es : ((sb (tX g f (tz p) (tz q)) (i + 1) : Nat) : Int) = sb (tX g f (tz p) (tz q)) i + (b1 (tX g f (tz p) (tz q) i) : Nat) := rfl
    rw [wq_257_5, es]
    obtain ⟨c, hc⟩ : ∃ c, decide (g (f i) 2 = 2) = c := ⟨_, rfl⟩
    have hc3 : bz (g (f i) 2 = 2) = bB c := by
      rw [← hc]
      by_cases z : g (f i) 2 = 2
      · rw [bz_t z, decide_eq_true z]
        rfl
      · rw [bz_f z, decide_eq_false z]
        rfl
    rw [hc3] at p3
    by_cases q1 : p < 0
    · have ha : tR g (tz p) (f i) = true := by rw [tz_n q1]; rfl
      by_cases q2 : q < 0
      · have hb : tR g (tz q) (f i) = true := by rw [tz_n q2]; rfl
        rw [tX_at _ _ _ ha hb hc]
        cases c
        all_goals simp only [bB_t, bB_f] at p3
        all_goals simp (disch := omega) only [qB_s, qC_t, qC_f, qI_T, qI_F, qI_t, qI_f, r_I, r_L, r_R, r_V, ii_add, ii_sub, ii_mul, ii_neg, bz_0, bz_1, Bool.true_and, Bool.false_and, Bool.and_true, z00, z11, li_0, li_1, e_59, gI_47_26, gR_47_27, is_47, hs, ii_lt, ii_eq, h59, p3, nat_1]
        all_goals rfl
      · have pb := d256 (sc := sc) hM hg (p := q) (by omega) hfi
        cases hb : tR g (tz q) (f i)
        all_goals rw [hb] at pb
        all_goals first | rw [bz_tt] at pb | rw [bz_ff] at pb
        all_goals rw [tX_at _ _ _ ha hb hc]
        all_goals cases c
        all_goals simp only [bB_t, bB_f] at p3
        all_goals simp (disch := omega) only [qB_s, qC_t, qC_f, qI_T, qI_F, qI_t, qI_f, r_I, r_L, r_R, r_V, ii_add, ii_sub, ii_mul, ii_neg, bz_0, bz_1, Bool.true_and, Bool.false_and, Bool.and_true, z00, z11, li_0, li_1, e_59, gI_47_26, gR_47_27, is_47, hs, ii_lt, ii_eq, h59, p3, pb, nat_1]
        all_goals rfl
    · have pa := d256 (sc := sc) hM hg (p := p) (by omega) hfi
      cases ha : tR g (tz p) (f i) with
      | false =>
        rw [ha] at pa
        first | rw [bz_tt] at pa | rw [bz_ff] at pa
        rw [tX_at _ _ _ ha rfl hc]
        cases c
        all_goals simp only [bB_t, bB_f] at p3
        all_goals simp (disch := omega) only [qB_s, qC_t, qC_f, qI_T, qI_F, qI_t, qI_f, r_I, r_L, r_R, r_V, ii_add, ii_sub, ii_mul, ii_neg, bz_0, bz_1, Bool.true_and, Bool.false_and, Bool.and_true, z00, z11, li_0, li_1, e_59, gI_47_26, gR_47_27, is_47, hs, ii_lt, ii_eq, h59, p3, pa, nat_1]
        all_goals rfl
      | true =>
        rw [ha] at pa
        first | rw [bz_tt] at pa | rw [bz_ff] at pa
        by_cases q2 : q < 0
        · have hb : tR g (tz q) (f i) = true := by rw [tz_n q2]; rfl
          rw [tX_at _ _ _ ha hb hc]
          cases c
          all_goals simp only [bB_t, bB_f] at p3
          all_goals simp (disch := omega) only [qB_s, qC_t, qC_f, qI_T, qI_F, qI_t, qI_f, r_I, r_L, r_R, r_V, ii_add, ii_sub, ii_mul, ii_neg, bz_0, bz_1, Bool.true_and, Bool.false_and, Bool.and_true, z00, z11, li_0, li_1, e_59, gI_47_26, gR_47_27, is_47, hs, ii_lt, ii_eq, h59, p3, pa, nat_1]
          all_goals rfl
        · have pb := d256 (sc := sc) hM hg (p := q) (by omega) hfi
          cases hb : tR g (tz q) (f i)
          all_goals rw [hb] at pb
          all_goals first | rw [bz_tt] at pb | rw [bz_ff] at pb
          all_goals rw [tX_at _ _ _ ha hb hc]
          all_goals cases c
          all_goals simp only [bB_t, bB_f] at p3
          all_goals simp (disch := omega) only [qB_s, qC_t, qC_f, qI_T, qI_F, qI_t, qI_f, r_I, r_L, r_R, r_V, ii_add, ii_sub, ii_mul, ii_neg, bz_0, bz_1, Bool.true_and, Bool.false_and, Bool.and_true, z00, z11, li_0, li_1, e_59, gI_47_26, gR_47_27, is_47, hs, ii_lt, ii_eq, h59, p3, pa, pb, nat_1]
          all_goals rfl)
  have e' : am_W sc 257 (5, [some (am_R (some 47)), some (am_I (ii p)), some (am_I (ii q)), some (am_I (ii 0)), some (am_I (ii 0)), none], [], wst w) = _ := e
  rw [fq_257, li_0, e', wq_257_5]
  simp (disch := omega) only [qB_s, qC_t, qC_f, qI_T, qI_F, qI_t, qI_f, r_I, r_L, r_R, r_V, ii_add, ii_sub, ii_mul, ii_neg, bz_0, bz_1, Bool.true_and, Bool.false_and, Bool.and_true, z00, z11, li_0, li_1, e_59, gI_47_26, gR_47_27, is_47, hs, ii_lt]
  rfl
theorem d258c {a b t : Bool} (h2 : wI w 47 52 = bB a) (h3 : wI w 47 53 = bB b) : am_W sc 258 (72, [some (am_R (some 47)), none, none, none, some (am_I (ii (bB t)))], [], wst w) = some (none, wst (uI (uI w 47 52 (bB (a || t))) 47 53 (bB (b && t)))) := by
  have k5 : ∀ y, wI (uI w 47 52 y) 47 53 = wI w 47 53 := fun y => rfl
  rw [wq_258_72]
  cases a <;> cases b <;> cases t
  all_goals simp only [bB_t, bB_f] at h2 h3 ⊢
  all_goals simp (disch := omega) only [qB_s, qC_t, qC_f, qI_T, qI_F, qI_t, qI_f, r_I, r_L, r_R, r_V, ii_add, ii_sub, ii_mul, ii_neg, bz_0, bz_1, Bool.true_and, Bool.false_and, Bool.and_true, z00, z11, li_0, li_1, li_108, gI_47_51, gI_47_52, gI_47_53, is_47, pI_47_51, pI_47_52, pI_47_53, ii_lt, ii_eq, h2, h3, k5]
  all_goals rfl
theorem d258d {x : Int} {t : Bool} : am_W sc 258 (57, [some (am_R (some 47)), none, none, some (am_I (ii x)), some (am_I (ii (bB t)))], [], wst w) = some (none, wst (uI (uI (uI (uI (uI w 47 51 x) 47 52 0) 47 53 1) 47 52 (bB (false || t))) 47 53 (bB (true && t)))) := by
  rw [wq_258_57, ← d258c (sc := sc) (w := uI (uI (uI w 47 51 x) 47 52 0) 47 53 1) (a := false) (b := true) (t := t) rfl rfl]
  simp (disch := omega) only [qB_s, qC_t, qC_f, qI_T, qI_F, qI_t, qI_f, r_I, r_L, r_R, r_V, ii_add, ii_sub, ii_mul, ii_neg, bz_0, bz_1, Bool.true_and, Bool.false_and, Bool.and_true, z00, z11, li_0, li_1, li_108, gI_47_51, gI_47_52, gI_47_53, is_47, pI_47_51, pI_47_52, pI_47_53, ii_eq]
theorem d258 (hM : MS w n g) (hg : gK n g) (hT : MK w m f) (hm : m ≤ 200) (hf : ∀ i, i < m → 0 ≤ f i ∧ f i < n) {p q : Int} (hp : -1 ≤ p ∧ p < 110) (hq : -1 ≤ q ∧ q < 110) {S : Int → Bool → Prop} (hS : MB S w) : ∃ v, am_F sc 258 [am_R (some 47), am_I (ii p), am_I (ii q)] (wst w) = some (none, wst v) ∧ fr sMB w v ∧ MB (fun y u => S y u ∨ (y = wr g f m (tz p) (tz q) ∧ u = tt2 (tz p) (tz q))) v := by
  have p1 := d257 (sc := sc) hM hg hT hm hf hp hq
  have hx := wr_ran g f m (tz p) (tz q)
  obtain ⟨x, ex⟩ : ∃ x, x = wr g f m (tz p) (tz q) := ⟨_, rfl⟩
  rw [← ex] at p1 hx ⊢
  obtain ⟨t, et⟩ : ∃ t, t = tt2 (tz p) (tz q) := ⟨_, rfl⟩
  rw [← et]
  have et2 : t = (decide (108 ≤ p) || decide (108 ≤ q)) := by
    rw [et]
    unfold tt2
    rw [tz_t hp.2, tz_t hq.2]
  rcases hS with ⟨h1, h0⟩ | ⟨r, hB, hr, h1, h2, h3⟩
  · refine ⟨uI (uI (uI (uI (uI w 47 51 x) 47 52 0) 47 53 1) 47 52 (bB (false || t))) 47 53 (bB (true && t)), ?_, fr_uI (fr_uI (fr_uI (fr_uI (fr_uI (fr_r _ _) rfl) rfl) rfl) rfl) rfl, .inr ⟨(x, t, t), ?_, ?_, ?_, ?_, ?_⟩⟩
    · rw [← d258d (sc := sc), fq_258, et2]
      by_cases z1 : p < 108
      · by_cases z2 : q < 108
        · rw [decide_eq_false (by omega), decide_eq_false (by omega)]
          simp (disch := omega) only [qB_s, qC_t, qC_f, qI_T, qI_F, qI_t, qI_f, r_I, r_L, r_R, r_V, ii_add, ii_sub, ii_mul, ii_neg, bz_0, bz_1, Bool.true_and, Bool.false_and, Bool.and_true, z00, z11, li_0, li_1, li_108, gI_47_51, gI_47_52, gI_47_53, is_47, pI_47_51, pI_47_52, pI_47_53, ii_lt, p1, h1, Bool.or_false, bB_f]
        · rw [decide_eq_true (p := 108 ≤ q) (by omega), Bool.or_true]
          simp (disch := omega) only [qB_s, qC_t, qC_f, qI_T, qI_F, qI_t, qI_f, r_I, r_L, r_R, r_V, ii_add, ii_sub, ii_mul, ii_neg, bz_0, bz_1, Bool.true_and, Bool.false_and, Bool.and_true, z00, z11, li_0, li_1, li_108, gI_47_51, gI_47_52, gI_47_53, is_47, pI_47_51, pI_47_52, pI_47_53, ii_lt, p1, h1, bB_t]
      · rw [decide_eq_true (p := 108 ≤ p) (by omega), Bool.true_or]
        simp (disch := omega) only [qB_s, qC_t, qC_f, qI_T, qI_F, qI_t, qI_f, r_I, r_L, r_R, r_V, ii_add, ii_sub, ii_mul, ii_neg, bz_0, bz_1, Bool.true_and, Bool.false_and, Bool.and_true, z00, z11, li_0, li_1, li_108, gI_47_51, gI_47_52, gI_47_53, is_47, pI_47_51, pI_47_52, pI_47_53, ii_lt, p1, h1, bB_t]
    · exact HB_c (fun y u => ⟨.inr, fun z => z.resolve_left (h0 y u)⟩) (HB_1 x t)
    · exact ⟨hx.1, by show x ≤ 200; omega⟩
    · rfl
    · show bB (false || t) = bB t
      rw [Bool.false_or]
    · show bB (true && t) = bB t
      rw [Bool.true_and]
  · by_cases q1 : r.1 < x
    · refine ⟨w, ?_, fr_r _ _, .inr ⟨bs r x t, HB_s hB x t, ?_⟩⟩
      · rw [fq_258]
        by_cases z1 : p < 108
        · by_cases z2 : q < 108
          · simp (disch := omega) only [qB_s, qC_t, qC_f, qI_T, qI_F, qI_t, qI_f, r_I, r_L, r_R, r_V, ii_add, ii_sub, ii_mul, ii_neg, bz_0, bz_1, Bool.true_and, Bool.false_and, Bool.and_true, z00, z11, li_0, li_1, li_108, gI_47_51, gI_47_52, gI_47_53, is_47, pI_47_51, pI_47_52, pI_47_53, ii_lt, p1, h1]
          · simp (disch := omega) only [qB_s, qC_t, qC_f, qI_T, qI_F, qI_t, qI_f, r_I, r_L, r_R, r_V, ii_add, ii_sub, ii_mul, ii_neg, bz_0, bz_1, Bool.true_and, Bool.false_and, Bool.and_true, z00, z11, li_0, li_1, li_108, gI_47_51, gI_47_52, gI_47_53, is_47, pI_47_51, pI_47_52, pI_47_53, ii_lt, p1, h1]
        · simp (disch := omega) only [qB_s, qC_t, qC_f, qI_T, qI_F, qI_t, qI_f, r_I, r_L, r_R, r_V, ii_add, ii_sub, ii_mul, ii_neg, bz_0, bz_1, Bool.true_and, Bool.false_and, Bool.and_true, z00, z11, li_0, li_1, li_108, gI_47_51, gI_47_52, gI_47_53, is_47, pI_47_51, pI_47_52, pI_47_53, ii_lt, p1, h1]
      · rw [bs_gt t q1]
        exact ⟨hr, h1, h2, h3⟩
    · by_cases q2 : x = r.1
      · refine ⟨uI (uI w 47 52 (bB (r.2.1 || t))) 47 53 (bB (r.2.2 && t)), ?_, fr_uI (fr_uI (fr_r _ _) rfl) rfl, .inr ⟨bs r x t, HB_s hB x t, ?_⟩⟩
        · rw [← d258c (sc := sc) h2 h3, fq_258, et2]
          by_cases z1 : p < 108
          · by_cases z2 : q < 108
            · rw [decide_eq_false (by omega), decide_eq_false (by omega)]
              simp (disch := omega) only [qB_s, qC_t, qC_f, qI_T, qI_F, qI_t, qI_f, r_I, r_L, r_R, r_V, ii_add, ii_sub, ii_mul, ii_neg, bz_0, bz_1, Bool.true_and, Bool.false_and, Bool.and_true, z00, z11, li_0, li_1, li_108, gI_47_51, gI_47_52, gI_47_53, is_47, pI_47_51, pI_47_52, pI_47_53, ii_lt, p1, h1, Bool.or_false, bB_f]
            · rw [decide_eq_true (p := 108 ≤ q) (by omega), Bool.or_true]
              simp (disch := omega) only [qB_s, qC_t, qC_f, qI_T, qI_F, qI_t, qI_f, r_I, r_L, r_R, r_V, ii_add, ii_sub, ii_mul, ii_neg, bz_0, bz_1, Bool.true_and, Bool.false_and, Bool.and_true, z00, z11, li_0, li_1, li_108, gI_47_51, gI_47_52, gI_47_53, is_47, pI_47_51, pI_47_52, pI_47_53, ii_lt, p1, h1, bB_t]
          · rw [decide_eq_true (p := 108 ≤ p) (by omega), Bool.true_or]
            simp (disch := omega) only [qB_s, qC_t, qC_f, qI_T, qI_F, qI_t, qI_f, r_I, r_L, r_R, r_V, ii_add, ii_sub, ii_mul, ii_neg, bz_0, bz_1, Bool.true_and, Bool.false_and, Bool.and_true, z00, z11, li_0, li_1, li_108, gI_47_51, gI_47_52, gI_47_53, is_47, pI_47_51, pI_47_52, pI_47_53, ii_lt, p1, h1, bB_t]
        · rw [bs_eq t q2]
          exact ⟨⟨hx.1, by show x ≤ 200; omega⟩, h1.trans q2.symm, rfl, rfl⟩
      · refine ⟨uI (uI (uI (uI (uI w 47 51 x) 47 52 0) 47 53 1) 47 52 (bB (false || t))) 47 53 (bB (true && t)), ?_, fr_uI (fr_uI (fr_uI (fr_uI (fr_uI (fr_r _ _) rfl) rfl) rfl) rfl) rfl, .inr ⟨bs r x t, HB_s hB x t, ?_⟩⟩
        · rw [← d258d (sc := sc), fq_258, et2]
          by_cases z1 : p < 108
          · by_cases z2 : q < 108
            · rw [decide_eq_false (by omega), decide_eq_false (by omega)]
              simp (disch := omega) only [qB_s, qC_t, qC_f, qI_T, qI_F, qI_t, qI_f, r_I, r_L, r_R, r_V, ii_add, ii_sub, ii_mul, ii_neg, bz_0, bz_1, Bool.true_and, Bool.false_and, Bool.and_true, z00, z11, li_0, li_1, li_108, gI_47_51, gI_47_52, gI_47_53, is_47, pI_47_51, pI_47_52, pI_47_53, ii_lt, p1, h1, Bool.or_false, bB_f]
            · rw [decide_eq_true (p := 108 ≤ q) (by omega), Bool.or_true]
              simp (disch := omega) only [qB_s, qC_t, qC_f, qI_T, qI_F, qI_t, qI_f, r_I, r_L, r_R, r_V, ii_add, ii_sub, ii_mul, ii_neg, bz_0, bz_1, Bool.true_and, Bool.false_and, Bool.and_true, z00, z11, li_0, li_1, li_108, gI_47_51, gI_47_52, gI_47_53, is_47, pI_47_51, pI_47_52, pI_47_53, ii_lt, p1, h1, bB_t]
          · rw [decide_eq_true (p := 108 ≤ p) (by omega), Bool.true_or]
            simp (disch := omega) only [qB_s, qC_t, qC_f, qI_T, qI_F, qI_t, qI_f, r_I, r_L, r_R, r_V, ii_add, ii_sub, ii_mul, ii_neg, bz_0, bz_1, Bool.true_and, Bool.false_and, Bool.and_true, z00, z11, li_0, li_1, li_108, gI_47_51, gI_47_52, gI_47_53, is_47, pI_47_51, pI_47_52, pI_47_53, ii_lt, p1, h1, bB_t]
        · rw [bs_lt t (by omega)]
          refine ⟨⟨hx.1, by show x ≤ 200; omega⟩, rfl, ?_, ?_⟩
          · show bB (false || t) = bB t
            rw [Bool.false_or]
          · show bB (true && t) = bB t
            rw [Bool.true_and]
theorem d259e {d : Int} (hd : d = 0 ∨ d = 1) : am_W sc 259 (42, [some (am_R (some 47)), some (am_I (ii d)), some (am_I (ii 0)), none], [], wst w) = some (none, wst w) := by
  rw [wq_259_42]
  simp (disch := omega) only [qB_s, qC_t, qC_f, qI_T, qI_F, qI_t, qI_f, r_I, r_L, r_R, r_V, ii_add, ii_sub, ii_mul, ii_neg, bz_0, bz_1, Bool.true_and, Bool.false_and, Bool.and_true, z00, z11, li_0, li_1, li_110, li_2, is_47, pI_47_51, ii_lt, ii_eq]
theorem d259 (hM : MS w n g) (hg : gK n g) (hT : MK w m f) (hm : m ≤ 200) (hf : ∀ i, i < m → 0 ≤ f i ∧ f i < n) {d : Int} (hd : d = 0 ∨ d = 1 ∨ d = 2) : ∃ v, am_F sc 259 [am_R (some 47), am_I (ii d)] (wst w) = some (none, wst v) ∧ fr sMB w v ∧ wI v 47 51 = (bsD g f m d).1 ∧ wI v 47 52 = bB (bsD g f m d).2.1 ∧ wI v 47 53 = bB (bsD g f m d).2.2 := by
  suffices h : ∃ v, am_F sc 259 [am_R (some 47), am_I (ii d)] (wst w) = some (none, wst v) ∧ fr sMB w v ∧ MB (SD g f m d) v by
    obtain ⟨v, e, fv, hv⟩ := h
    refine ⟨v, e, fv, ?_⟩
    have hb := bsD_HB g f hm hd
    rcases hv with ⟨-, h⟩ | ⟨r, h, -, h1⟩
    · exact absurd hb.2.1.choose_spec (h _ _)
    · rw [HB_u hb h]
      exact h1
  have f0 : fr sMB w (uI w 47 51 (-1)) := fr_uI (fr_r _ _) rfl
  have m0 : ∀ {S : Int → Bool → Prop}, (∀ x t, ¬ S x t) → MB S (uI w 47 51 (-1)) := fun h => .inl ⟨rfl, h⟩
  rw [fq_259]
  rcases hd with rfl | rfl | rfl
  · obtain ⟨v, e, fv, hv⟩ := d258 (sc := sc) (MS_fr hM f0 rfl) hg (MK_fr hT f0 rfl) hm hf (p := -1) (q := -1) (by decide) (by decide) (m0 (S := fun _ _ => False) (fun _ _ h => h))
    refine ⟨v, ?_, fr_t f0 fv, MB_c (fun x t => ?_) hv⟩
    · simp (disch := omega) only [qB_s, qC_t, qC_f, qI_T, qI_F, qI_t, qI_f, r_I, r_L, r_R, r_V, ii_add, ii_sub, ii_mul, ii_neg, bz_0, bz_1, Bool.true_and, Bool.false_and, Bool.and_true, z00, z11, li_0, li_1, li_110, li_2, is_47, pI_47_51, ii_eq, e]
      rw [wq_259_17]
      simp (disch := omega) only [qB_s, qC_t, qC_f, qI_T, qI_F, qI_t, qI_f, r_I, r_L, r_R, r_V, ii_add, ii_sub, ii_mul, ii_neg, bz_0, bz_1, Bool.true_and, Bool.false_and, Bool.and_true, z00, z11, li_0, li_1, li_110, li_2, is_47, pI_47_51, ii_lt, ii_eq]
      exact d259e (.inl rfl)
    · unfold SD
      rw [if_pos rfl]
      exact ⟨fun z => z.resolve_left id, .inr⟩
  · obtain ⟨v, e, fv, hv⟩ := lp_s0 (am_W sc 259) (fun (k : Nat) (v : wo) => (17, [some (am_R (some 47)), some (am_I (ii 1)), some (am_I (ii k)), none], [], wst v)) (fun k v => fr sMB w v ∧ MB (fun x t => ∃ a, a < k ∧ x = wr g f m (tq a) 110 ∧ t = tt2 (tq a) 110) v) 110 (fun k v hk hv => by
      obtain ⟨u, e, fu', hu⟩ := d258 (sc := sc) (MS_fr hM hv.1 rfl) hg (MK_fr hT hv.1 rfl) hm hf (p := k) (q := -1) (by omega) (by decide) hv.2
      refine ⟨u, ?_, fr_t hv.1 fu', MB_c (fun x t => ⟨?_, ?_⟩) hu⟩
      · rw [wq_259_17]
        simp (disch := omega) only [qB_s, qC_t, qC_f, qI_T, qI_F, qI_t, qI_f, r_I, r_L, r_R, r_V, ii_add, ii_sub, ii_mul, ii_neg, bz_0, bz_1, Bool.true_and, Bool.false_and, Bool.and_true, z00, z11, li_0, li_1, li_110, li_2, is_47, pI_47_51, ii_lt, ii_eq, e, nat_1]
      · rintro (⟨a, h1, h2⟩ | h2)
        · exact ⟨a, by omega, h2⟩
        · refine ⟨k, by omega, ?_⟩
          have e1 : tz (k : Int) = tq k := by
            unfold tz
            rw [if_neg (by omega), Int.toNat_natCast]
          rw [e1] at h2
          exact h2
      · rintro ⟨a, h1, h2⟩
        by_cases z : a = k
        · have e1 : tz (k : Int) = tq k := by
            unfold tz
            rw [if_neg (by omega), Int.toNat_natCast]
          rw [e1]
          rw [z] at h2
          exact .inr h2
        · exact .inl ⟨a, by omega, h2⟩) _ ⟨f0, m0 (fun x t h => h.elim fun a z => absurd z.1 (Nat.not_lt_zero a))⟩
    have e' : am_W sc 259 (17, [some (am_R (some 47)), some (am_I (ii 1)), some (am_I (ii 0)), none], [], wst (uI w 47 51 (-1))) = _ := e
    refine ⟨v, ?_, fv, MB_c (fun x t => (SD_1 g f m x t).symm) hv⟩
    simp (disch := omega) only [qB_s, qC_t, qC_f, qI_T, qI_F, qI_t, qI_f, r_I, r_L, r_R, r_V, ii_add, ii_sub, ii_mul, ii_neg, bz_0, bz_1, Bool.true_and, Bool.false_and, Bool.and_true, z00, z11, li_0, li_1, li_110, li_2, is_47, pI_47_51, ii_eq]
    rw [e', wq_259_17]
    simp (disch := omega) only [qB_s, qC_t, qC_f, qI_T, qI_F, qI_t, qI_f, r_I, r_L, r_R, r_V, ii_add, ii_sub, ii_mul, ii_neg, bz_0, bz_1, Bool.true_and, Bool.false_and, Bool.and_true, z00, z11, li_0, li_1, li_110, li_2, is_47, pI_47_51, ii_lt]
    exact d259e (.inr rfl)
  · obtain ⟨v, e, fv, hv⟩ := lp_s0 (am_W sc 259) (fun (a : Nat) (v : wo) => (42, [some (am_R (some 47)), some (am_I (ii 2)), some (am_I (ii a)), none], [], wst v)) (fun k v => fr sMB w v ∧ MB (fun x t => ∃ a b, a < k ∧ b < a ∧ x = wr g f m (tq a) (tq b) ∧ t = tt2 (tq a) (tq b)) v) 110 (fun k v hk hv => by
      have e1 : ∀ k : Nat, tz (k : Int) = tq k := fun k => by
        unfold tz
        rw [if_neg (by omega), Int.toNat_natCast]
      obtain ⟨u, e, fu', hu⟩ := lp_s0 (am_W sc 259) (fun (j : Nat) (v : wo) => (55, [some (am_R (some 47)), some (am_I (ii 2)), some (am_I (ii k)), some (am_I (ii j))], [], wst v)) (fun j v => fr sMB w v ∧ MB (fun x t => (∃ a b, a < k ∧ b < a ∧ x = wr g f m (tq a) (tq b) ∧ t = tt2 (tq a) (tq b)) ∨ ∃ b, b < j ∧ x = wr g f m (tq k) (tq b) ∧ t = tt2 (tq k) (tq b)) v) k (fun j v hj hv => by
        obtain ⟨u, e, fu', hu⟩ := d258 (sc := sc) (MS_fr hM hv.1 rfl) hg (MK_fr hT hv.1 rfl) hm hf (p := k) (q := j) (by omega) (by omega) hv.2
        rw [e1, e1] at hu
        refine ⟨u, ?_, fr_t hv.1 fu', MB_c (fun x t => ⟨?_, ?_⟩) hu⟩
        · rw [wq_259_55]
          simp (disch := omega) only [qB_s, qC_t, qC_f, qI_T, qI_F, qI_t, qI_f, r_I, r_L, r_R, r_V, ii_add, ii_sub, ii_mul, ii_neg, bz_0, bz_1, Bool.true_and, Bool.false_and, Bool.and_true, z00, z11, li_0, li_1, li_110, li_2, is_47, pI_47_51, ii_lt, ii_eq, e, nat_1]
        · rintro ((h | ⟨b, h1, h2⟩) | h2)
          · exact .inl h
          · exact .inr ⟨b, by omega, h2⟩
          · exact .inr ⟨j, by omega, h2⟩
        · rintro (h | ⟨b, h1, h2⟩)
          · exact .inl (.inl h)
          · by_cases z : b = j
            · rw [z] at h2
              exact .inr h2
            · exact .inl (.inr ⟨b, by omega, h2⟩)) v ⟨hv.1, MB_c (fun x t => ⟨.inl, fun z => z.resolve_right (fun h => h.elim fun b z => absurd z.1 (Nat.not_lt_zero b))⟩) hv.2⟩
      have e' : am_W sc 259 (55, [some (am_R (some 47)), some (am_I (ii 2)), some (am_I (ii k)), some (am_I (ii 0))], [], wst v) = _ := e
      refine ⟨u, ?_, fu', MB_c (fun x t => ⟨?_, ?_⟩) hu⟩
      · rw [wq_259_42]
        simp (disch := omega) only [qB_s, qC_t, qC_f, qI_T, qI_F, qI_t, qI_f, r_I, r_L, r_R, r_V, ii_add, ii_sub, ii_mul, ii_neg, bz_0, bz_1, Bool.true_and, Bool.false_and, Bool.and_true, z00, z11, li_0, li_1, li_110, li_2, is_47, pI_47_51, ii_lt, ii_eq]
        rw [e', wq_259_55]
        simp (disch := omega) only [qB_s, qC_t, qC_f, qI_T, qI_F, qI_t, qI_f, r_I, r_L, r_R, r_V, ii_add, ii_sub, ii_mul, ii_neg, bz_0, bz_1, Bool.true_and, Bool.false_and, Bool.and_true, z00, z11, li_0, li_1, li_110, li_2, is_47, pI_47_51, ii_lt, nat_1]
      · rintro (⟨a, b, h1, h2, h3⟩ | ⟨b, h1, h2⟩)
        · exact ⟨a, b, by omega, h2, h3⟩
        · exact ⟨k, b, by omega, h1, h2⟩
      · rintro ⟨a, b, h1, h2, h3⟩
        by_cases z : a = k
        · rw [z] at h2 h3
          exact .inr ⟨b, h2, h3⟩
        · exact .inl ⟨a, b, by omega, h2, h3⟩) _ ⟨f0, m0 (fun x t h => h.elim fun a z => z.elim fun b z => absurd z.1 (Nat.not_lt_zero a))⟩
    have e' : am_W sc 259 (42, [some (am_R (some 47)), some (am_I (ii 2)), some (am_I (ii 0)), none], [], wst (uI w 47 51 (-1))) = _ := e
    refine ⟨v, ?_, fv, MB_c (fun x t => ((SD_2 g f m x t).trans ⟨fun ⟨a, b, h1, h2, h3⟩ => ⟨a, b, h1, h2, h3⟩, fun ⟨a, b, h1, h2, h3⟩ => ⟨a, b, h1, h2, h3⟩⟩).symm) hv⟩
    simp (disch := omega) only [qB_s, qC_t, qC_f, qI_T, qI_F, qI_t, qI_f, r_I, r_L, r_R, r_V, ii_add, ii_sub, ii_mul, ii_neg, bz_0, bz_1, Bool.true_and, Bool.false_and, Bool.and_true, z00, z11, li_0, li_1, li_110, li_2, is_47, pI_47_51, ii_eq]
    rw [wq_259_17]
    simp (disch := omega) only [qB_s, qC_t, qC_f, qI_T, qI_F, qI_t, qI_f, r_I, r_L, r_R, r_V, ii_add, ii_sub, ii_mul, ii_neg, bz_0, bz_1, Bool.true_and, Bool.false_and, Bool.and_true, z00, z11, li_0, li_1, li_110, li_2, is_47, pI_47_51, ii_lt, ii_eq]
    rw [e', wq_259_42]
    simp (disch := omega) only [qB_s, qC_t, qC_f, qI_T, qI_F, qI_t, qI_f, r_I, r_L, r_R, r_V, ii_add, ii_sub, ii_mul, ii_neg, bz_0, bz_1, Bool.true_and, Bool.false_and, Bool.and_true, z00, z11, li_0, li_1, li_110, li_2, is_47, pI_47_51, ii_lt]
theorem d260s (hM : MS w n g) (hg : gK n g) (hT : MK w m f) (hm : m ≤ 200) (hf : ∀ i, i < m → 0 ≤ f i ∧ f i < n) {d x : Int} (hd : d = 0 ∨ d = 1 ∨ d = 2) (hx : 0 ≤ x ∧ x ≤ 200) : ∃ v, am_W sc 260 (30, [some (am_R (some 47)), none, some (am_I (ii x)), some (am_I (ii d))], [], wst w) = (if (bsD g f m d).1 ≤ x then some (some (am_I (ii d)), wst v) else am_W sc 260 (30, [some (am_R (some 47)), none, some (am_I (ii x)), some (am_I (ii (d + 1)))], [], wst v)) ∧ fr sMB w v := by
  obtain ⟨v, e, fv, h1, h2, h3⟩ := d259 (sc := sc) hM hg hT hm hf hd
  have hr := bsD_ran g f hm hd
  refine ⟨v, ?_, fv⟩
  rw [wq_260_30]
  by_cases q : (bsD g f m d).1 ≤ x
  · rw [if_pos q]
    simp (disch := omega) only [qB_s, qC_t, qC_f, qI_T, qI_F, qI_t, qI_f, r_I, r_L, r_R, r_V, ii_add, ii_sub, ii_mul, ii_neg, bz_0, bz_1, Bool.true_and, Bool.false_and, Bool.and_true, z00, z11, li_0, li_1, li_2, li_3, lj_0, lj_200, gI_47_51, is_47, ii_lt, e, h1]
  · rw [if_neg q]
    simp (disch := omega) only [qB_s, qC_t, qC_f, qI_T, qI_F, qI_t, qI_f, r_I, r_L, r_R, r_V, ii_add, ii_sub, ii_mul, ii_neg, bz_0, bz_1, Bool.true_and, Bool.false_and, Bool.and_true, z00, z11, li_0, li_1, li_2, li_3, lj_0, lj_200, gI_47_51, is_47, ii_lt, e, h1]
theorem d260 (hM : MS w n g) (hg : gK n g) (hT : MK w m f) (hm : m ≤ 200) (hf : ∀ i, i < m → 0 ≤ f i ∧ f i < n) {x : Int} (hx : 0 ≤ x ∧ x ≤ 200) : ∃ v, am_W sc 260 (30, [some (am_R (some 47)), none, some (am_I (ii x)), some (am_I (ii 0))], [], wst w) = some (some (am_I (ii (fwD g f m x))), wst v) ∧ fr sMB w v := by
  obtain ⟨v0, e0, f0⟩ := d260s (sc := sc) hM hg hT hm hf (d := 0) (.inl rfl) hx
  obtain ⟨v1, e1, f1⟩ := d260s (sc := sc) (MS_fr hM f0 rfl) hg (MK_fr hT f0 rfl) hm hf (d := 1) (.inr (.inl rfl)) hx
  obtain ⟨v2, e2, f2⟩ := d260s (sc := sc) (MS_fr (MS_fr hM f0 rfl) f1 rfl) hg (MK_fr (MK_fr hT f0 rfl) f1 rfl) hm hf (d := 2) (.inr (.inr rfl)) hx
  unfold fwD
  by_cases q0 : (bsD g f m 0).1 ≤ x
  · rw [if_pos q0] at e0 ⊢
    exact ⟨v0, e0, f0⟩
  · rw [if_neg q0] at e0 ⊢
    rw [Int.zero_add] at e0
    by_cases q1 : (bsD g f m 1).1 ≤ x
    · rw [if_pos q1] at e1 ⊢
      exact ⟨v1, e0.trans e1, fr_t f0 f1⟩
    · rw [if_neg q1] at e1 ⊢
      by_cases q2 : (bsD g f m 2).1 ≤ x
      · rw [if_pos q2] at e2 ⊢
        exact ⟨v2, e0.trans (e1.trans e2), fr_t f0 (fr_t f1 f2)⟩
      · rw [if_neg q2] at e2 ⊢
        refine ⟨v2, e0.trans (e1.trans (e2.trans ?_)), fr_t f0 (fr_t f1 f2)⟩
        rw [wq_260_30]
        simp (disch := omega) only [qB_s, qC_t, qC_f, qI_T, qI_F, qI_t, qI_f, r_I, r_L, r_R, r_V, ii_add, ii_sub, ii_mul, ii_neg, bz_0, bz_1, Bool.true_and, Bool.false_and, Bool.and_true, z00, z11, li_0, li_1, li_2, li_3, lj_0, lj_200, gI_47_51, is_47, ii_lt, Int.reduceAdd]

theorem y_260 (hM : RM w A) (hA : okA A) {v x : Int} (hv1 : -2147483648 ≤ v) (hv2 : v ≤ 2147483647) (hx1 : -2147483648 ≤ x) (hx2 : x ≤ 2147483647) : ∃ u, am_F sc 260 [am_R (some 47), am_I (ii v), am_I (ii x)] (wst w) = some (some (am_I (ii (if (0 ≤ v ∧ v < A.2.2.1.1) ∧ (0 ≤ x ∧ x ≤ 200) then fwD (aG A) (vF A v) (vM A v) x else -1))), wst u) ∧ fr scM w u := by
  have hn8 := hA.2.2.1.2.1
  have hn0 := hA.2.2.1.1
  have h120 := d120 (sc := sc) hM hn8 hn0 (v := v) hv1 hv2
  by_cases q1 : 0 ≤ v ∧ v < A.2.2.1.1
  · skip
    by_cases q2 : 0 ≤ x ∧ x ≤ 200
    · skip
      rw [if_pos (by omega)]
      obtain ⟨u, e1, f1, t1, -⟩ := d124v (sc := sc) hM hA q1
      have hMu := RM_m hM (fr_m f1 rfl)
      have hm := vM_le hA v
      have hok : ∀ i, i < vM A v → 0 ≤ vF A v i ∧ vF A v i < A.1.1 := fun i hi => vF_ok hA v hi
      obtain ⟨u3, e3, f3⟩ := d260 (sc := sc) hMu.1 hA.1.2.2.1 t1 hm hok (x := x) q2
      refine ⟨u3, ?_, fr_t (fr_m f1 rfl) (fr_m f3 rfl)⟩
      rw [fq_260]
      simp (disch := omega) only [qB_s, qC_t, qC_f, qI_T, qI_F, qI_t, qI_f, r_I, r_L, r_R, r_V, ii_add, ii_sub, ii_mul, ii_neg, bz_0, bz_1, Bool.true_and, Bool.false_and, Bool.and_true, z00, z11, li_0, li_1, li_2, li_3, lj_0, lj_200, gI_47_51, is_47, h120, e1, ii_eq, ii_jj, d17, ii_lt]
      exact e3
    · rw [if_neg (by omega)]
      exact ⟨w, by
        rw [fq_260]
        simp (disch := omega) only [qB_s, qC_t, qC_f, qI_T, qI_F, qI_t, qI_f, r_I, r_L, r_R, r_V, ii_add, ii_sub, ii_mul, ii_neg, bz_0, bz_1, Bool.true_and, Bool.false_and, Bool.and_true, z00, z11, li_0, li_1, li_2, li_3, lj_0, lj_200, gI_47_51, is_47, ii_lt, ii_eq, ii_jj, jj_neg, h120, ii_jj, d17], fr_r _ _⟩
  · rw [if_neg (by omega)]
    exact ⟨w, by
      rw [fq_260]
      simp (disch := omega) only [qB_s, qC_t, qC_f, qI_T, qI_F, qI_t, qI_f, r_I, r_L, r_R, r_V, ii_add, ii_sub, ii_mul, ii_neg, bz_0, bz_1, Bool.true_and, Bool.false_and, Bool.and_true, z00, z11, li_0, li_1, li_2, li_3, lj_0, lj_200, gI_47_51, is_47, ii_lt, ii_eq, ii_jj, jj_neg, h120], fr_r _ _⟩

theorem y_262 (hM : RM w A) (hA : okA A) {v d o : Int} (hv1 : -2147483648 ≤ v) (hv2 : v ≤ 2147483647) (hd1 : -2147483648 ≤ d) (hd2 : d ≤ 2147483647) (ho1 : -2147483648 ≤ o) (ho2 : o ≤ 2147483647) : ∃ u, am_F sc 262 [am_R (some 47), am_I (ii v), am_I (ii d), am_I (ii o)] (wst w) = some (some (am_I (ii (if (0 ≤ v ∧ v < A.2.2.1.1) ∧ (0 ≤ d ∧ d ≤ 2) ∧ (o = 0 ∨ o = 1) then bsA (bsD (aG A) (vF A v) (vM A v) d) o else -1))), wst u) ∧ fr scM w u := by
  have hn8 := hA.2.2.1.2.1
  have hn0 := hA.2.2.1.1
  have h120 := d120 (sc := sc) hM hn8 hn0 (v := v) hv1 hv2
  by_cases q1 : 0 ≤ v ∧ v < A.2.2.1.1
  · skip
    by_cases q2 : 0 ≤ d ∧ d ≤ 2
    · skip
      by_cases q3 : o = 0 ∨ o = 1
      · skip
        rw [if_pos (by omega)]
        obtain ⟨u, e1, f1, t1, -⟩ := d124v (sc := sc) hM hA q1
        have hMu := RM_m hM (fr_m f1 rfl)
        have hm := vM_le hA v
        have hok : ∀ i, i < vM A v → 0 ≤ vF A v i ∧ vF A v i < A.1.1 := fun i hi => vF_ok hA v hi
        obtain ⟨u3, e3, f3, h1, h2, h3⟩ := d259 (sc := sc) hMu.1 hA.1.2.2.1 t1 hm hok (d := d) (by omega)
        have h1' : wI u3 47 51 = (bsD (aG A) (vF A v) (vM A v) d).1 := h1
        have h2' : wI u3 47 52 = bB (bsD (aG A) (vF A v) (vM A v) d).2.1 := h2
        have h3' : wI u3 47 53 = bB (bsD (aG A) (vF A v) (vM A v) d).2.2 := h3
        refine ⟨u3, ?_, fr_t (fr_m f1 rfl) (fr_m f3 rfl)⟩
        rw [fq_262]
        unfold bsA
        by_cases z : o = 0
        · rw [if_pos z]
          simp (disch := omega) only [qB_s, qC_t, qC_f, qI_T, qI_F, qI_t, qI_f, r_I, r_L, r_R, r_V, ii_add, ii_sub, ii_mul, ii_neg, bz_0, bz_1, Bool.true_and, Bool.false_and, Bool.and_true, z00, z11, li_0, li_1, li_2, lj_0, lj_1, lj_2, gI_47_51, gI_47_52, gI_47_53, is_47, h120, e1, ii_eq, ii_lt, ii_jj, d17, e3, h1']
        · rw [if_neg z]
          cases b5 : (bsD (aG A) (vF A v) (vM A v) d).2.2 with
          | true =>
            rw [b5, bB_t] at h3'
            rw [if_pos rfl]
            simp (disch := omega) only [qB_s, qC_t, qC_f, qI_T, qI_F, qI_t, qI_f, r_I, r_L, r_R, r_V, ii_add, ii_sub, ii_mul, ii_neg, bz_0, bz_1, Bool.true_and, Bool.false_and, Bool.and_true, z00, z11, li_0, li_1, li_2, lj_0, lj_1, lj_2, gI_47_51, gI_47_52, gI_47_53, is_47, h120, e1, ii_eq, ii_lt, ii_jj, d17, e3, h3']
          | false =>
            rw [b5, bB_f] at h3'
            rw [if_neg (by decide)]
            cases b4 : (bsD (aG A) (vF A v) (vM A v) d).2.1 with
            | true =>
              rw [b4, bB_t] at h2'
              rw [if_pos rfl]
              simp (disch := omega) only [qB_s, qC_t, qC_f, qI_T, qI_F, qI_t, qI_f, r_I, r_L, r_R, r_V, ii_add, ii_sub, ii_mul, ii_neg, bz_0, bz_1, Bool.true_and, Bool.false_and, Bool.and_true, z00, z11, li_0, li_1, li_2, lj_0, lj_1, lj_2, gI_47_51, gI_47_52, gI_47_53, is_47, h120, e1, ii_eq, ii_lt, ii_jj, d17, e3, h2', h3']
            | false =>
              rw [b4, bB_f] at h2'
              rw [if_neg (by decide)]
              simp (disch := omega) only [qB_s, qC_t, qC_f, qI_T, qI_F, qI_t, qI_f, r_I, r_L, r_R, r_V, ii_add, ii_sub, ii_mul, ii_neg, bz_0, bz_1, Bool.true_and, Bool.false_and, Bool.and_true, z00, z11, li_0, li_1, li_2, lj_0, lj_1, lj_2, gI_47_51, gI_47_52, gI_47_53, is_47, h120, e1, ii_eq, ii_lt, ii_jj, d17, e3, h2', h3']
      · rw [if_neg (by omega)]
        exact ⟨w, by
          rw [fq_262]
          simp (disch := omega) only [qB_s, qC_t, qC_f, qI_T, qI_F, qI_t, qI_f, r_I, r_L, r_R, r_V, ii_add, ii_sub, ii_mul, ii_neg, bz_0, bz_1, Bool.true_and, Bool.false_and, Bool.and_true, z00, z11, li_0, li_1, li_2, lj_0, lj_1, lj_2, gI_47_51, gI_47_52, gI_47_53, is_47, ii_lt, ii_eq, ii_jj, jj_neg, h120, ii_jj, d17], fr_r _ _⟩
    · rw [if_neg (by omega)]
      exact ⟨w, by
        rw [fq_262]
        simp (disch := omega) only [qB_s, qC_t, qC_f, qI_T, qI_F, qI_t, qI_f, r_I, r_L, r_R, r_V, ii_add, ii_sub, ii_mul, ii_neg, bz_0, bz_1, Bool.true_and, Bool.false_and, Bool.and_true, z00, z11, li_0, li_1, li_2, lj_0, lj_1, lj_2, gI_47_51, gI_47_52, gI_47_53, is_47, ii_lt, ii_eq, ii_jj, jj_neg, h120, ii_jj, d17], fr_r _ _⟩
  · rw [if_neg (by omega)]
    exact ⟨w, by
      rw [fq_262]
      simp (disch := omega) only [qB_s, qC_t, qC_f, qI_T, qI_F, qI_t, qI_f, r_I, r_L, r_R, r_V, ii_add, ii_sub, ii_mul, ii_neg, bz_0, bz_1, Bool.true_and, Bool.false_and, Bool.and_true, z00, z11, li_0, li_1, li_2, lj_0, lj_1, lj_2, gI_47_51, gI_47_52, gI_47_53, is_47, ii_lt, ii_eq, ii_jj, jj_neg, h120], fr_r _ _⟩

end L44
