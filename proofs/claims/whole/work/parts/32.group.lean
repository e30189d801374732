/-! GROUPS -/
/-- groups: how many, a case of each, tallies -/
abbrev gst := Nat × (Nat → Int) × (Int → Int → Int)
def tQ (g : Int → Int → Int) (k j x i c : Int) : Int := if i = j ∧ c = 2 * g k 0 then x else if i = j ∧ c = 2 * g k 0 + 1 ∧ g k 2 = 2 then x else 0
def gj (g : Int → Int → Int) (l k : Int) (s : gst) : Nat := ff (fun j => al g (s.2.1 j) k l) s.1
def g1 (g : Int → Int → Int) (l k : Int) (s : gst) : gst := (if gj g l k s < s.1 then s.1 else s.1 + 1, fun j => if j = s.1 then k else s.2.1 j, fun i c => s.2.2 i c + tQ g k (gj g l k s) 1 i c)
def gp (g : Int → Int → Int) (l : Int) (f : Nat → Int) (sk : Int) : Nat → gst
  | 0 => (0, fun _ => 0, fun _ _ => 0)
  | i + 1 => if f i = sk then gp g l f sk i else g1 g l (f i) (gp g l f sk i)
theorem ff_c {p q : Nat → Bool} : ∀ {n : Nat}, (∀ k, k < n → p k = q k) → ff p n = ff q n
  | 0, _ => rfl
  | n + 1, h => by
    unfold ff
    rw [ff_c (n := n) (fun k hk => h k (by omega)), h n (by omega)]
theorem gj_le (g : Int → Int → Int) (l k : Int) (s : gst) : gj g l k s ≤ s.1 := ff_le _ _
theorem gp_le (g : Int → Int → Int) (l : Int) (f : Nat → Int) (sk : Int) : ∀ i, (gp g l f sk i).1 ≤ i
  | 0 => Nat.le_refl _
  | i + 1 => by
    have h := gp_le g l f sk i
    unfold gp
    split
    · omega
    · unfold g1
      simp only []
      split <;> omega
theorem gp_rep (g : Int → Int → Int) (l : Int) (f : Nat → Int) (sk : Int) : ∀ i j, j < (gp g l f sk i).1 → ∃ z, z < i ∧ (gp g l f sk i).2.1 j = f z
  | 0, j, h => absurd h (Nat.not_lt_zero _)
  | i + 1, j, h => by
    have ih := gp_rep g l f sk i j
    unfold gp at h ⊢
    by_cases q : f i = sk
    · rw [if_pos q] at h ⊢
      obtain ⟨z, z1, z2⟩ := ih h
      exact ⟨z, by omega, z2⟩
    · rw [if_neg q] at h ⊢
      unfold g1 at h ⊢
      simp only [] at h ⊢
      by_cases q2 : j = (gp g l f sk i).1
      · rw [if_pos q2]
        exact ⟨i, by omega, rfl⟩
      · rw [if_neg q2]
        have : j < (gp g l f sk i).1 := by
          split at h <;> omega
        obtain ⟨z, z1, z2⟩ := ih this
        exact ⟨z, by omega, z2⟩
/-- tallies: none beyond, none too great -/
theorem gp_T (g : Int → Int → Int) (l : Int) (f : Nat → Int) (sk : Int) : ∀ (i : Nat) (j c : Int), (0 ≤ (gp g l f sk i).2.2 j c ∧ (gp g l f sk i).2.2 j c ≤ i) ∧ ((gp g l f sk i).1 ≤ j → (gp g l f sk i).2.2 j c = 0)
  | 0, j, c => ⟨⟨Int.le_refl _, Int.le_refl _⟩, fun _ => rfl⟩
  | i + 1, j, c => by
    have ih := gp_T g l f sk i j c
    unfold gp
    by_cases q : f i = sk
    · rw [if_pos q]
      exact ⟨⟨ih.1.1, by omega⟩, ih.2⟩
    · rw [if_neg q]
      have hj := gj_le g l (f i) (gp g l f sk i)
      unfold g1 tQ
      simp only []
      generalize gj g l (f i) (gp g l f sk i) = y at *
      refine ⟨?_, fun h => ?_⟩
      · repeat' split
        all_goals omega
      · rw [ih.2 (by split at h <;> omega)]
        rw [if_neg (fun z => by split at h <;> omega), if_neg (fun z => by split at h <;> omega)]
        rfl
section L32
variable {sc : am_X} {w : wo} {A : ab} {ow : Nat → Nat} {n : Int} {g : Int → Int → Int}
theorem c145 (hC : CS w n g) (hg : gK n g) {j k x : Int} (hj0 : 0 ≤ j) (hj : j < 200) (hk0 : 0 ≤ k) (hk : k < n) : ∃ v, am_F sc 145 [am_R (some 22), am_I (ii j), am_I (ii k), am_I (ii x)] (wst w) = some (none, wst v) ∧ fr [2799] w v ∧ ∀ i c : Int, 0 ≤ i → 0 ≤ c → c < 4 → wA v 27 (4 * i + c) = wA w 27 (4 * i + c) + tQ g k j x i c := by
  have hr := hg k hk0 hk
  have p1 := c26 (sc := sc) hC hk0 hk
  simp only [Int.reduceSub] at p1
  have hCv : ∀ v, fr [2799] w v → CS v n g := fun v h => CS_fr hC h rfl
  have f1 : fr [2799] w (uA w 27 (fu (wA w 27) (j * 4 + g k 0 * 2) (wA w 27 (j * 4 + g k 0 * 2) + x))) := fr_uA (fr_r _ _) rfl
  have p2 := c28 (sc := sc) (hCv _ f1) hk0 hk
  simp only [Int.reduceSub] at p2
  by_cases q : g k 2 = 2
  · refine ⟨uA (uA w 27 (fu (wA w 27) (j * 4 + g k 0 * 2) (wA w 27 (j * 4 + g k 0 * 2) + x))) 27 (fu (fu (wA w 27) (j * 4 + g k 0 * 2) (wA w 27 (j * 4 + g k 0 * 2) + x)) (j * 4 + g k 0 * 2 + 1) (fu (wA w 27) (j * 4 + g k 0 * 2) (wA w 27 (j * 4 + g k 0 * 2) + x) (j * 4 + g k 0 * 2 + 1) + x)), ?_, fr_uA f1 rfl, fun i c i0 c0 c1 => ?_⟩
    · rw [fq_145]
      simp (disch := omega) only [qB_s, qC_t, qC_f, qI_T, qI_F, qI_t, qI_f, r_I, r_L, r_R, r_V, ii_add, ii_sub, ii_mul, ii_neg, bz_0, bz_1, Bool.true_and, Bool.false_and, Bool.and_true, z00, z11, li_0, li_1, li_2, li_4, li_nat, e_27, gR_22_0, gR_22_7, is_1, len_27, t_27, ii_lt, ii_eq, p1, p2, rA, li_nat]
    · rw [rA]
      simp only [fu_at]
      unfold tQ
      repeat' split
      all_goals first | omega | (exfalso; omega) | skip
      all_goals simp_all
      all_goals omega
  · refine ⟨uA (uA w 27 (fu (wA w 27) (j * 4 + g k 0 * 2) (wA w 27 (j * 4 + g k 0 * 2) + x))) 27 (fu (fu (wA w 27) (j * 4 + g k 0 * 2) (wA w 27 (j * 4 + g k 0 * 2) + x)) (j * 4 + g k 0 * 2 + 1) (fu (wA w 27) (j * 4 + g k 0 * 2) (wA w 27 (j * 4 + g k 0 * 2) + x) (j * 4 + g k 0 * 2 + 1) + 0)), ?_, fr_uA f1 rfl, fun i c i0 c0 c1 => ?_⟩
    · rw [fq_145]
      simp (disch := omega) only [qB_s, qC_t, qC_f, qI_T, qI_F, qI_t, qI_f, r_I, r_L, r_R, r_V, ii_add, ii_sub, ii_mul, ii_neg, bz_0, bz_1, Bool.true_and, Bool.false_and, Bool.and_true, z00, z11, li_0, li_1, li_2, li_4, li_nat, e_27, gR_22_0, gR_22_7, is_1, len_27, t_27, ii_lt, ii_eq, p1, p2, rA, li_nat]
    · rw [rA]
      simp only [fu_at]
      unfold tQ
      repeat' split
      all_goals first | omega | (exfalso; omega) | skip
      all_goals simp_all
      all_goals omega
theorem c144 {G : Nat} {K : Nat → Int} {x : Int} (hG : wI w 22 8 = G) (hG2 : G < 200) (hK : ∀ j : Nat, j < G → wA w 26 j = K j ∧ 0 ≤ K j ∧ K j < 1000000) (hx0 : 0 ≤ x) (hx : x < 1000000) : ∃ v, am_F sc 144 [am_R (some 22), am_I (ii x)] (wst w) = some (some (am_I (ii (ff (fun j => decide (K j = x)) G))), wst v) ∧ fr [2208, 2699] w v ∧ wI v 22 8 = ((if ff (fun j => decide (K j = x)) G < G then G else G + 1 : Nat) : Int) ∧ (∀ j : Nat, j < G → wA v 26 j = K j) ∧ (ff (fun j => decide (K j = x)) G = G → wA v 26 G = x) := by
  have hle := ff_le (fun j => decide (K j = x)) G
  have e := lp_0 (am_W sc 144) (fun i : Nat => (2, [some (am_R (some 22)), some (am_I (ii x)), some (am_I (ii i))], [], wst w)) (ff (fun j => decide (K j = x)) G) (fun i hi => by
    have hh := hK i (by omega)
    have hn := ff_no _ _ i hi
    simp only [decide_eq_false_iff_not] at hn
    have hh1 := hh.1
    rw [wq_144_2]
    simp (disch := omega) only [qB_s, qC_t, qC_f, qI_T, qI_F, qI_t, qI_f, r_I, r_L, r_R, r_V, ii_add, ii_sub, ii_mul, ii_neg, bz_0, bz_1, Bool.true_and, Bool.false_and, Bool.and_true, z00, z11, li_0, li_1, li_200, e_26, gI_22_8, gR_22_6, pI_22_8, t_26, hG, ii_lt, ii_eq, hh1, nat_1])
  have e' : am_W sc 144 (2, [some (am_R (some 22)), some (am_I (ii x)), some (am_I (ii 0))], [], wst w) = _ := e
  by_cases q : ff (fun j => decide (K j = x)) G < G
  · have hy := ff_yes _ _ q
    simp only [decide_eq_true_eq] at hy
    have hh := hK _ q
    have hh1 := hh.1
    refine ⟨w, ?_, fr_r _ _, ?_, fun j hj => (hK j hj).1, fun z => absurd z (by omega)⟩
    · rw [fq_144, li_0, e', wq_144_2]
      simp (disch := omega) only [qB_s, qC_t, qC_f, qI_T, qI_F, qI_t, qI_f, r_I, r_L, r_R, r_V, ii_add, ii_sub, ii_mul, ii_neg, bz_0, bz_1, Bool.true_and, Bool.false_and, Bool.and_true, z00, z11, li_0, li_1, li_200, e_26, gI_22_8, gR_22_6, pI_22_8, t_26, hG, ii_lt, ii_eq, hh1]
    · rw [if_pos q, hG]
  · have q2 : ff (fun j => decide (K j = x)) G = G := by omega
    refine ⟨uI (uA w 26 (fu (wA w 26) G x)) 22 8 (G + 1), ?_, fr_uI (fr_uA (fr_r _ _) rfl) rfl, ?_, fun j hj => ?_, fun _ => ?_⟩
    · rw [fq_144, li_0, e', wq_144_2, q2]
      simp (disch := omega) only [qB_s, qC_t, qC_f, qI_T, qI_F, qI_t, qI_f, r_I, r_L, r_R, r_V, ii_add, ii_sub, ii_mul, ii_neg, bz_0, bz_1, Bool.true_and, Bool.false_and, Bool.and_true, z00, z11, li_0, li_1, li_200, e_26, gI_22_8, gR_22_6, pI_22_8, t_26, hG, ii_lt, ii_eq, rI, uA_I, Int.add_sub_cancel]
    · rw [if_neg q, rI]
      rfl
    · rw [uI_A, rA, fu_at, if_neg (by omega)]
      exact (hK j hj).1
    · rw [uI_A, rA, fu_at, if_pos rfl]
/-- the groups, in the class and in the other -/
def GS (w : wo) (g : Int → Int → Int) (l : Int) (s : gst) : Prop := wI w 22 8 = s.1 ∧ (∀ j : Nat, j < s.1 → wA w 26 j = ky g (s.2.1 j) l) ∧ ∀ j c : Int, 0 ≤ j → j < 200 → 0 ≤ c → c < 4 → wA w 27 (4 * j + c) = s.2.2 j c
def HS (w : wo) (s : gst) : Prop := wI w 47 33 = s.1 ∧ (∀ j : Nat, j < s.1 → wA w 63 j = s.2.1 j) ∧ ∀ j c : Int, 0 ≤ j → j < s.1 → 0 ≤ c → c < 4 → wA w 64 (4 * j + c) = s.2.2 j c
def sG : List Nat := [2208, 2599, 2699, 2799]
theorem c146 (hC : CS w n g) (hg : gK n g) {m : Nat} {f : Nat → Int} (hT : TK w m f) (hm : m ≤ 200) (hf : ∀ i, i < m → 0 ≤ f i ∧ f i < n) {l : Int} (hL : wI w 22 4 = l) (hl0 : 0 ≤ l) (hl : l < 64) (hlf : ∀ i, i < m → lm g (f i) l = false) : ∃ v, am_F sc 146 [am_R (some 22)] (wst w) = some (none, wst v) ∧ fr sG w v ∧ GS v g l (gp g l f (-1) m) ∧ ∀ i : Nat, i < m → wA v 25 i = gj g l (f i) (gp g l f (-1) i) := by
  obtain ⟨w1, e1, f1, z1⟩ := c142 (sc := sc) (w := uI w 22 8 0) (a := 27) (n := 800) (x := 0) rfl (by decide)
  have f01 : fr sG w w1 := fr_t (fr_uI (fr_r _ _) rfl) (fr_m f1 rfl)
  obtain ⟨v, e, hfr, hgs, hgo⟩ := lp_s0 (am_W sc 146) (fun (i : Nat) (v : wo) => (15, [some (am_R (some 22)), some (am_I (ii i)), none, none], [], wst v)) (fun i v => fr sG w v ∧ GS v g l (gp g l f (-1) i) ∧ ∀ z : Nat, z < i → wA v 25 z = gj g l (f z) (gp g l f (-1) z)) m (fun i v hi hv => by
    obtain ⟨hfr, ⟨h1, h2, h3⟩, h4⟩ := hv
    have hCv := CS_fr hC hfr rfl
    have hTv := TK_fr hT hfr rfl
    have hs := hTv.1
    have hLv : wI v 22 4 = l := by rw [fr_I hfr rfl]; exact hL
    have hn200 := hC.2.2.1
    have hfk := hf i hi
    have hl9 := hTv.2 i hi
    have hle := gp_le g l f (-1) i
    have p1 := c143 (sc := sc) hCv hfk.1 hfk.2 hl0 hl
    have r1 := ky_ran hg hfk.1 hfk.2 (hlf i hi)
    have hK : ∀ j : Nat, j < (gp g l f (-1) i).1 → wA v 26 j = ky g ((gp g l f (-1) i).2.1 j) l ∧ 0 ≤ ky g ((gp g l f (-1) i).2.1 j) l ∧ ky g ((gp g l f (-1) i).2.1 j) l < 1000000 := fun j hj => by
      obtain ⟨z, z1, z2⟩ := gp_rep g l f (-1) i j hj
      refine ⟨h2 j hj, ?_⟩
      rw [z2]
      exact ky_ran hg (hf z (by omega)).1 (hf z (by omega)).2 (hlf z (by omega))
    have hgj : ff (fun j => decide (ky g ((gp g l f (-1) i).2.1 j) l = ky g (f i) l)) (gp g l f (-1) i).1 = gj g l (f i) (gp g l f (-1) i) := by
      refine ff_c (fun j hj => ?_)
      obtain ⟨z, z1, z2⟩ := gp_rep g l f (-1) i j hj
      have := ky_eq hg (hf z (by omega)).1 (hf z (by omega)).2 hfk.1 hfk.2 (hlf z (by omega)) (hlf i hi)
      rw [z2, Bool.eq_iff_iff, decide_eq_true_eq, this]
    obtain ⟨u, e2, f2, a1, a2, a3⟩ := c144 (sc := sc) (w := v) (G := (gp g l f (-1) i).1) (K := fun j => ky g ((gp g l f (-1) i).2.1 j) l) (x := ky g (f i) l) h1 (by omega) hK r1.1 r1.2
    rw [hgj] at e2 a1 a3
    have hgl := gj_le g l (f i) (gp g l f (-1) i)
    have hfu : fr sG w u := fr_t hfr (fr_m f2 rfl)
    have f3 : fr sG w (uA u 25 (fu (wA u 25) i (gj g l (f i) (gp g l f (-1) i)))) := fr_uA hfu rfl
    obtain ⟨x, e3, f4, b1⟩ := c145 (sc := sc) (CS_fr hC f3 rfl) hg (j := (gj g l (f i) (gp g l f (-1) i) : Nat)) (k := f i) (x := 1) (by omega) (by omega) hfk.1 hfk.2
    have hstep : gp g l f (-1) (i + 1) = g1 g l (f i) (gp g l f (-1) i) := if_neg (by omega)
    refine ⟨x, ?_, fr_t f3 (fr_m f4 rfl), ⟨?_, fun j hj => ?_, fun j c j0 j1 c0 c1 => ?_⟩, fun z hz => ?_⟩
    · rw [wq_146_15]
      simp (disch := omega) only [qB_s, qC_t, qC_f, qI_T, qI_F, qI_t, qI_f, r_I, r_L, r_R, r_V, ii_add, ii_sub, ii_mul, ii_neg, bz_0, bz_1, Bool.true_and, Bool.false_and, Bool.and_true, z00, z11, li_0, li_1, li_200, e_24, e_25, e_27, gI_22_3, gI_22_4, gR_22_0, gR_22_2, gR_22_5, gR_22_7, is_1, is_22, pI_22_8, t_24, t_25, t_27, hs, ii_lt, hl9, hLv, p1, e2, e3, nat_1]
    · rw [fr_I f4 rfl, uA_I, a1, hstep]
      rfl
    · rw [fr_A (a := 26) f4 rfl, rAn _ _ rfl, hstep]
      rw [hstep] at hj
      unfold g1 at hj ⊢
      simp only [] at hj ⊢
      by_cases q2 : j = (gp g l f (-1) i).1
      · rw [if_pos q2, q2]
        exact a3 (by split at hj <;> omega)
      · rw [if_neg q2]
        exact a2 j (by split at hj <;> omega)
    · rw [b1 j c j0 c0 c1, rAn _ _ rfl, fr_A (a := 27) f2 rfl, h3 j c j0 j1 c0 c1, hstep]
      rfl
    · rw [fr_A (a := 25) f4 rfl, rA, fu_at, fr_A (a := 25) f2 rfl]
      by_cases q2 : z = i
      · rw [if_pos (by omega), q2]
      · rw [if_neg (by omega)]
        exact h4 z (by omega)) w1 ⟨f01, ⟨by rw [fr_I f1 rfl, rI]; rfl, fun j hj => absurd hj (Nat.not_lt_zero _), fun j c j0 j1 c0 c1 => z1 _ (by omega) (by omega)⟩, fun z hz => absurd hz (Nat.not_lt_zero _)⟩
  have hs : wI v 22 3 = m := by rw [fr_I hfr rfl]; exact hT.1
  refine ⟨v, ?_, hfr, hgs, hgo⟩
  have e' : am_W sc 146 (15, [some (am_R (some 22)), some (am_I (ii 0)), none, none], [], wst w1) = _ := e
  rw [fq_146]
  simp (disch := omega) only [qB_s, qC_t, qC_f, qI_T, qI_F, qI_t, qI_f, r_I, r_L, r_R, r_V, ii_add, ii_sub, ii_mul, ii_neg, bz_0, bz_1, Bool.true_and, Bool.false_and, Bool.and_true, z00, z11, li_0, li_1, li_200, e_24, e_25, e_27, gI_22_3, gI_22_4, gR_22_0, gR_22_2, gR_22_5, gR_22_7, is_1, is_22, pI_22_8, t_24, t_25, t_27, e1]
  rw [e', wq_146_15]
  simp (disch := omega) only [qB_s, qC_t, qC_f, qI_T, qI_F, qI_t, qI_f, r_I, r_L, r_R, r_V, ii_add, ii_sub, ii_mul, ii_neg, bz_0, bz_1, Bool.true_and, Bool.false_and, Bool.and_true, z00, z11, li_0, li_1, li_200, e_24, e_25, e_27, gI_22_3, gI_22_4, gR_22_0, gR_22_2, gR_22_5, gR_22_7, is_1, is_22, pI_22_8, t_24, t_25, t_27, hs, ii_lt]
/-- the other's -/
theorem d152z {x1 k j : Int} (hj0 : 0 ≤ j) (hj : j < 200) : ∃ v, am_W sc 152 (81, [some (am_R (some 47)), some (am_I (ii x1)), some (am_I (ii k)), some (am_I (ii j)), some (am_I (ii 0))], [], wst w) = am_W sc 152 (81, [some (am_R (some 47)), some (am_I (ii x1)), some (am_I (ii k)), some (am_I (ii j)), some (am_I (ii 4))], [], wst v) ∧ fr [6499] w v ∧ ∀ i c : Int, 0 ≤ c → c < 4 → wA v 64 (4 * i + c) = if i = j then 0 else wA w 64 (4 * i + c) := by
  obtain ⟨v, e, hfr, hv⟩ := lp_s0 (am_W sc 152) (fun (i : Nat) (v : wo) => (81, [some (am_R (some 47)), some (am_I (ii x1)), some (am_I (ii k)), some (am_I (ii j)), some (am_I (ii i))], [], wst v)) (fun i v => fr [6499] w v ∧ ∀ z c : Int, 0 ≤ c → c < 4 → wA v 64 (4 * z + c) = if z = j ∧ c < i then 0 else wA w 64 (4 * z + c)) 4 (fun i v hi hv => by
    obtain ⟨hfr, hv⟩ := hv
    refine ⟨uA v 64 (fu (wA v 64) (4 * j + i) 0), ?_, fr_uA hfr rfl, fun z c c0 c1 => ?_⟩
    · rw [wq_152_81]
      simp (disch := omega) only [qB_s, qC_t, qC_f, qI_T, qI_F, qI_t, qI_f, r_I, r_L, r_R, r_V, ii_add, ii_sub, ii_mul, ii_neg, bz_0, bz_1, Bool.true_and, Bool.false_and, Bool.and_true, z00, z11, li_0, li_1, li_2, li_4, e_59, e_63, e_64, gI_47_26, gI_47_33, gI_47_36, gR_47_27, gR_47_34, gR_47_35, is_47, pI_47_33, t_59, t_63, t_64, ii_lt, nat_1]
    · rw [rA, fu_at, hv z c c0 c1]
      repeat' split
      all_goals first | rfl | (exfalso; omega)) w ⟨fr_r _ _, fun z c c0 c1 => by rw [if_neg (by omega)]⟩
  refine ⟨v, e, hfr, fun i c c0 c1 => ?_⟩
  rw [hv i c c0 c1]
  repeat' split
  all_goals first | rfl | (exfalso; omega)
def tU (a : Int → Int) (j tr b : Int) : Int → Int := fu (fu a (4 * j + 2 * tr) (a (4 * j + 2 * tr) + 1)) (4 * j + 2 * tr + 1) (fu a (4 * j + 2 * tr) (a (4 * j + 2 * tr) + 1) (4 * j + 2 * tr + 1) + b)
theorem tU_at (hg : gK n g) {k : Int} (hk0 : 0 ≤ k) (hk : k < n) (a : Int → Int) (j i c : Int) (c0 : 0 ≤ c) (c1 : c < 4) : tU a j (g k 0) (bz (g k 2 = 2)) (4 * i + c) = a (4 * i + c) + tQ g k j 1 i c := by
  have hr := hg k hk0 hk
  unfold tU tQ bz
  simp only [fu_at]
  repeat' split
  all_goals first | omega | (exfalso; omega) | skip
  all_goals simp_all
  all_goals omega
def tW (w : wo) (j tr b : Int) : wo := uA (uA w 64 (fu (wA w 64) (4 * j + 2 * tr) (wA w 64 (4 * j + 2 * tr) + 1))) 64 (tU (wA w 64) j tr b)
theorem d152t (hM : MS w n g) (hg : gK n g) {x1 k : Int} {j G : Nat} (hG : wI w 47 33 = G) (hG2 : G < 200) (hj : j ≤ G) (hk0 : 0 ≤ k) (hk : k < n) (hx : 0 ≤ x1 ∧ x1 < 200) : am_W sc 152 (81, [some (am_R (some 47)), some (am_I (ii x1)), some (am_I (ii k)), some (am_I (ii j)), some (am_I (ii 4))], [], wst w) = am_W sc 152 (7, [some (am_R (some 47)), some (am_I (ii (x1 + 1))), none, none, none], [], wst (tW (uI w 47 33 (G + 1)) j (g k 0) (bz (g k 2 = 2)))) := by
  have hr := hg k hk0 hk
  have f1 : fr [4733] w (uI w 47 33 (G + 1)) := fr_uI (fr_r _ _) rfl
  have f2 : fr [4733, 6499] w (uA (uI w 47 33 (G + 1)) 64 (fu (wA w 64) (4 * j + 2 * g k 0) (wA w 64 (4 * j + 2 * g k 0) + 1))) := fr_uA (fr_m f1 rfl) rfl
  have p1 := d122 (sc := sc) (MS_fr hM f1 rfl) hk0 hk
  have p2 := d122 (sc := sc) (MS_fr hM f2 rfl) hk0 hk
  have p3 := d123 (sc := sc) (MS_fr hM f2 rfl) hg hk0 hk
  unfold tW tU
  rw [wq_152_81]
  by_cases q : g k 2 = 2
  · rw [bz_t q] at p3 ⊢
    simp (disch := omega) only [qB_s, qC_t, qC_f, qI_T, qI_F, qI_t, qI_f, r_I, r_L, r_R, r_V, ii_add, ii_sub, ii_mul, ii_neg, bz_0, bz_1, Bool.true_and, Bool.false_and, Bool.and_true, z00, z11, li_0, li_1, li_2, li_4, e_59, e_63, e_64, gI_47_26, gI_47_33, gI_47_36, gR_47_27, gR_47_34, gR_47_35, is_47, pI_47_33, t_59, t_63, t_64, ii_lt, ii_eq, hG, p1, p2, p3, uI_A, rA]
  · rw [bz_f q] at p3 ⊢
    simp (disch := omega) only [qB_s, qC_t, qC_f, qI_T, qI_F, qI_t, qI_f, r_I, r_L, r_R, r_V, ii_add, ii_sub, ii_mul, ii_neg, bz_0, bz_1, Bool.true_and, Bool.false_and, Bool.and_true, z00, z11, li_0, li_1, li_2, li_4, e_59, e_63, e_64, gI_47_26, gI_47_33, gI_47_36, gR_47_27, gR_47_34, gR_47_35, is_47, pI_47_33, t_59, t_63, t_64, ii_lt, ii_eq, hG, p1, p2, p3, uI_A, rA]
theorem d152f (hM : MS w n g) (hg : gK n g) {x1 k a l : Int} {j G : Nat} (hG : wI w 47 33 = G) (hG2 : G ≤ 200) (hj : j < G) (hk0 : 0 ≤ k) (hk : k < n) (hx : 0 ≤ x1 ∧ x1 < 200) (ha : wA w 63 j = a) (ha0 : 0 ≤ a) (han : a < n) (hL : wI w 47 25 = l) (hl0 : 0 ≤ l) (hl : l < 64) (hal : al g a k l = true) : am_W sc 152 (35, [some (am_R (some 47)), some (am_I (ii x1)), some (am_I (ii k)), some (am_I (ii j)), none], [], wst w) = am_W sc 152 (7, [some (am_R (some 47)), some (am_I (ii (x1 + 1))), none, none, none], [], wst (tW w j (g k 0) (bz (g k 2 = 2)))) := by
  have hr := hg k hk0 hk
  have hn200 := hM.2.2.1
  have p0 := d151 (sc := sc) hM hg hL ha0 han hk0 hk hl0 hl
  rw [bz_t hal] at p0
  have f2 : fr [6499] w (uA w 64 (fu (wA w 64) (4 * j + 2 * g k 0) (wA w 64 (4 * j + 2 * g k 0) + 1))) := fr_uA (fr_r _ _) rfl
  have p1 := d122 (sc := sc) hM hk0 hk
  have p2 := d122 (sc := sc) (MS_fr hM f2 rfl) hk0 hk
  have p3 := d123 (sc := sc) (MS_fr hM f2 rfl) hg hk0 hk
  unfold tW tU
  rw [wq_152_35]
  by_cases q : g k 2 = 2
  · rw [bz_t q] at p3 ⊢
    simp (disch := omega) only [qB_s, qC_t, qC_f, qI_T, qI_F, qI_t, qI_f, r_I, r_L, r_R, r_V, ii_add, ii_sub, ii_mul, ii_neg, bz_0, bz_1, Bool.true_and, Bool.false_and, Bool.and_true, z00, z11, li_0, li_1, li_2, li_4, e_59, e_63, e_64, gI_47_26, gI_47_33, gI_47_36, gR_47_27, gR_47_34, gR_47_35, is_47, pI_47_33, t_59, t_63, t_64, ii_lt, ii_eq, hG, ha, p0, p1, p2, p3, rA]
  · rw [bz_f q] at p3 ⊢
    simp (disch := omega) only [qB_s, qC_t, qC_f, qI_T, qI_F, qI_t, qI_f, r_I, r_L, r_R, r_V, ii_add, ii_sub, ii_mul, ii_neg, bz_0, bz_1, Bool.true_and, Bool.false_and, Bool.and_true, z00, z11, li_0, li_1, li_2, li_4, e_59, e_63, e_64, gI_47_26, gI_47_33, gI_47_36, gR_47_27, gR_47_34, gR_47_35, is_47, pI_47_33, t_59, t_63, t_64, ii_lt, ii_eq, hG, ha, p0, p1, p2, p3, rA]
def sH : List Nat := [4733, 6399, 6499]
theorem tW_fr {l : List Nat} {v : wo} (h : fr l w v) (q : fhas l 6499 = true) (j tr b : Int) : fr l w (tW v j tr b) := fr_uA (fr_uA h q) q
theorem tW_A (j tr b : Int) : wA (tW w j tr b) 64 = tU (wA w 64) j tr b := rA _ _ _
theorem d152 (hM : MS w n g) (hg : gK n g) {m : Nat} {f : Nat → Int} (hT : MK w m f) (hm : m ≤ 200) (hf : ∀ i, i < m → 0 ≤ f i ∧ f i < n) {l sk : Int} (hL : wI w 47 25 = l) (hl0 : 0 ≤ l) (hl : l < 64) (hsk : wI w 47 36 = sk) (hs0 : -1 ≤ sk) (hs1 : sk < 200) : ∃ v, am_F sc 152 [am_R (some 47)] (wst w) = some (none, wst v) ∧ fr sH w v ∧ HS v (gp g l f sk m) := by
  obtain ⟨v, e, hfr, hgs⟩ := lp_s0 (am_W sc 152) (fun (i : Nat) (v : wo) => (7, [some (am_R (some 47)), some (am_I (ii i)), none, none, none], [], wst v)) (fun i v => fr sH w v ∧ HS v (gp g l f sk i)) m (fun i v hi hv => by
    obtain ⟨hfr, h1, h2, h3⟩ := hv
    have hMv := MS_fr hM hfr rfl
    have hTv := MK_fr hT hfr rfl
    have hs := hTv.1
    have hLv : wI v 47 25 = l := by rw [fr_I hfr rfl]; exact hL
    have hskv : wI v 47 36 = sk := by rw [fr_I hfr rfl]; exact hsk
    have hn200 := hM.2.2.1
    have hfk := hf i hi
    have hl9 := hTv.2 i hi
    have hle := gp_le g l f sk i
    have hgl := gj_le g l (f i) (gp g l f sk i)
    have hrep : ∀ j : Nat, j < (gp g l f sk i).1 → 0 ≤ (gp g l f sk i).2.1 j ∧ (gp g l f sk i).2.1 j < n := fun j hj => by
      obtain ⟨z, z1, z2⟩ := gp_rep g l f sk i j hj
      rw [z2]
      exact hf z (by omega)
    by_cases q : f i = sk
    · refine ⟨v, ?_, hfr, ?_⟩
      · rw [wq_152_7]
        simp (disch := omega) only [qB_s, qC_t, qC_f, qI_T, qI_F, qI_t, qI_f, r_I, r_L, r_R, r_V, ii_add, ii_sub, ii_mul, ii_neg, bz_0, bz_1, Bool.true_and, Bool.false_and, Bool.and_true, z00, z11, li_0, li_1, li_2, li_4, e_59, e_63, e_64, gI_47_26, gI_47_33, gI_47_36, gR_47_27, gR_47_34, gR_47_35, is_47, pI_47_33, t_59, t_63, t_64, hs, ii_lt, ii_eq, hl9, hskv, nat_1]
      · rw [show gp g l f sk (i + 1) = gp g l f sk i from if_pos q]
        exact ⟨h1, h2, h3⟩
    · have hstep : gp g l f sk (i + 1) = g1 g l (f i) (gp g l f sk i) := if_neg q
      have es := lp_0 (am_W sc 152) (fun j : Nat => (35, [some (am_R (some 47)), some (am_I (ii i)), some (am_I (ii (f i))), some (am_I (ii j)), none], [], wst v)) (gj g l (f i) (gp g l f sk i)) (fun j hj => by
        have hn := ff_no _ _ j hj
        have ha := hrep j (by omega)
        have p0 := d151 (sc := sc) hMv hg hLv ha.1 ha.2 hfk.1 hfk.2 hl0 hl
        rw [bz_f (by rw [hn]; decide)] at p0
        have ha2 := h2 j (by omega)
        rw [wq_152_35]
        simp (disch := omega) only [qB_s, qC_t, qC_f, qI_T, qI_F, qI_t, qI_f, r_I, r_L, r_R, r_V, ii_add, ii_sub, ii_mul, ii_neg, bz_0, bz_1, Bool.true_and, Bool.false_and, Bool.and_true, z00, z11, li_0, li_1, li_2, li_4, e_59, e_63, e_64, gI_47_26, gI_47_33, gI_47_36, gR_47_27, gR_47_34, gR_47_35, is_47, pI_47_33, t_59, t_63, t_64, h1, ii_lt, ii_eq, ha2, p0, nat_1])
      have es' : am_W sc 152 (35, [some (am_R (some 47)), some (am_I (ii i)), some (am_I (ii (f i))), some (am_I (ii 0)), none], [], wst v) = _ := es
      have ex : am_W sc 152 (7, [some (am_R (some 47)), some (am_I (ii i)), none, none, none], [], wst v) = am_W sc 152 (35, [some (am_R (some 47)), some (am_I (ii i)), some (am_I (ii (f i))), some (am_I (ii 0)), none], [], wst v) := by
        rw [wq_152_7]
        simp (disch := omega) only [qB_s, qC_t, qC_f, qI_T, qI_F, qI_t, qI_f, r_I, r_L, r_R, r_V, ii_add, ii_sub, ii_mul, ii_neg, bz_0, bz_1, Bool.true_and, Bool.false_and, Bool.and_true, z00, z11, li_0, li_1, li_2, li_4, e_59, e_63, e_64, gI_47_26, gI_47_33, gI_47_36, gR_47_27, gR_47_34, gR_47_35, is_47, pI_47_33, t_59, t_63, t_64, hs, ii_lt, ii_eq, hl9, hskv]
      by_cases q2 : gj g l (f i) (gp g l f sk i) < (gp g l f sk i).1
      · have hy := ff_yes _ _ q2
        have ha := hrep _ q2
        have e3 := d152f (sc := sc) hMv hg (x1 := i) (k := f i) h1 (by omega) q2 hfk.1 hfk.2 (by omega) (h2 _ q2) ha.1 ha.2 hLv hl0 hl hy
        refine ⟨tW v (gj g l (f i) (gp g l f sk i) : Nat) (g (f i) 0) (bz (g (f i) 2 = 2)), ?_, tW_fr hfr rfl _ _ _, ?_, fun j hj => ?_, fun j c j0 j1 c0 c1 => ?_⟩
        · rw [ex, es', e3, nat_1]
        · rw [hstep]
          unfold g1
          simp only []
          rw [if_pos q2]
          exact h1
        · rw [hstep] at hj ⊢
          unfold g1 at hj ⊢
          simp only [] at hj ⊢
          rw [if_pos q2] at hj
          rw [if_neg (by omega)]
          exact h2 j hj
        · rw [hstep] at j1 ⊢
          unfold g1 at j1 ⊢
          simp only [] at j1 ⊢
          rw [if_pos q2] at j1
          rw [tW_A, tU_at hg hfk.1 hfk.2 _ _ _ _ c0 c1, h3 j c j0 j1 c0 c1]
      · have q3 : gj g l (f i) (gp g l f sk i) = (gp g l f sk i).1 := by omega
        have f4 : fr sH w (uA v 63 (fu (wA v 63) (gp g l f sk i).1 (f i))) := fr_uA hfr rfl
        obtain ⟨u, e4, f5, z5⟩ := d152z (sc := sc) (w := uA v 63 (fu (wA v 63) (gp g l f sk i).1 (f i))) (x1 := i) (k := f i) (j := (gp g l f sk i).1) (by omega) (by omega)
        have f45 : fr sH w u := fr_t f4 (fr_m f5 rfl)
        have hGu : wI u 47 33 = (gp g l f sk i).1 := by rw [fr_I f5 rfl]; exact h1
        have e3 := d152t (sc := sc) (MS_fr hM f45 rfl) hg (x1 := i) (k := f i) hGu (by omega) (Nat.le_refl _) hfk.1 hfk.2 (by omega)
        refine ⟨tW (uI u 47 33 ((gp g l f sk i).1 + 1)) ((gp g l f sk i).1 : Nat) (g (f i) 0) (bz (g (f i) 2 = 2)), ?_, tW_fr (fr_uI f45 rfl) rfl _ _ _, ?_, fun j hj => ?_, fun j c j0 j1 c0 c1 => ?_⟩
        · rw [ex, es', q3, wq_152_35, nat_1, ← e3, ← e4]
          simp (disch := omega) only [qB_s, qC_t, qC_f, qI_T, qI_F, qI_t, qI_f, r_I, r_L, r_R, r_V, ii_add, ii_sub, ii_mul, ii_neg, bz_0, bz_1, Bool.true_and, Bool.false_and, Bool.and_true, z00, z11, li_0, li_1, li_2, li_4, e_59, e_63, e_64, gI_47_26, gI_47_33, gI_47_36, gR_47_27, gR_47_34, gR_47_35, is_47, pI_47_33, t_59, t_63, t_64, h1, ii_lt, ii_eq]
        · rw [hstep]
          unfold g1
          simp only []
          rw [if_neg q2]
          exact rI u 47 33 _
        · rw [hstep] at hj ⊢
          unfold g1 at hj ⊢
          simp only [] at hj ⊢
          rw [if_neg q2] at hj
          have h63 : wA (tW (uI u 47 33 ((gp g l f sk i).1 + 1)) ((gp g l f sk i).1 : Nat) (g (f i) 0) (bz (g (f i) 2 = 2))) 63 = fu (wA v 63) (gp g l f sk i).1 (f i) := by
            show wA u 63 = _
            rw [fr_A (a := 63) f5 rfl, rA]
          rw [h63, fu_at]
          by_cases q4 : j = (gp g l f sk i).1
          · rw [if_pos (by omega), if_pos q4]
          · rw [if_neg (by omega), if_neg q4]
            exact h2 j (by omega)
        · rw [hstep] at j1 ⊢
          unfold g1 at j1 ⊢
          simp only [] at j1 ⊢
          rw [if_neg q2] at j1
          have hz := (gp_T g l f sk i j c).2
          rw [tW_A, tU_at hg hfk.1 hfk.2 _ _ _ _ c0 c1, q3, uI_A, z5 j c c0 c1, rAn _ _ rfl]
          by_cases q4 : j = (gp g l f sk i).1
          · rw [if_pos q4, hz (by omega)]
          · rw [if_neg q4, h3 j c j0 (by omega) c0 c1]) (uI w 47 33 0) ⟨fr_uI (fr_r _ _) rfl, by rw [rI]; rfl, fun j hj => absurd hj (Nat.not_lt_zero _), fun j c j0 j1 => absurd j1 (by show ¬ (j < ((0 : Nat) : Int)); omega)⟩
  have hs : wI v 47 26 = m := by rw [fr_I hfr rfl]; exact hT.1
  refine ⟨v, ?_, hfr, hgs⟩
  have e' : am_W sc 152 (7, [some (am_R (some 47)), some (am_I (ii 0)), none, none, none], [], wst (uI w 47 33 0)) = _ := e
  rw [fq_152]
  simp (disch := omega) only [qB_s, qC_t, qC_f, qI_T, qI_F, qI_t, qI_f, r_I, r_L, r_R, r_V, ii_add, ii_sub, ii_mul, ii_neg, bz_0, bz_1, Bool.true_and, Bool.false_and, Bool.and_true, z00, z11, li_0, li_1, li_2, li_4, e_59, e_63, e_64, gI_47_26, gI_47_33, gI_47_36, gR_47_27, gR_47_34, gR_47_35, is_47, pI_47_33, t_59, t_63, t_64]
  rw [e', wq_152_7]
  simp (disch := omega) only [qB_s, qC_t, qC_f, qI_T, qI_F, qI_t, qI_f, r_I, r_L, r_R, r_V, ii_add, ii_sub, ii_mul, ii_neg, bz_0, bz_1, Bool.true_and, Bool.false_and, Bool.and_true, z00, z11, li_0, li_1, li_2, li_4, e_59, e_63, e_64, gI_47_26, gI_47_33, gI_47_36, gR_47_27, gR_47_34, gR_47_35, is_47, pI_47_33, t_59, t_63, t_64, hs, ii_lt]

end L32
