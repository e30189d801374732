/-! NEW CELLS, COPIES -/
theorem uN_I (w : wo) (sh : Nat × Nat × Nat) (n : Nat) {b : Nat} (h : b ≠ wn w) (j : Nat) : wI (uN w sh n) b j = wI w b j := if_neg h
theorem uN_J (w : wo) (sh : Nat × Nat × Nat) (n : Nat) {b : Nat} (h : b ≠ wn w) (j : Nat) : wJ (uN w sh n) b j = wJ w b j := if_neg h
theorem uN_A (w : wo) (sh : Nat × Nat × Nat) (n : Nat) {b : Nat} (h : b ≠ wn w) : wA (uN w sh n) b = wA w b := if_neg h
theorem uN_B (w : wo) (sh : Nat × Nat × Nat) (n : Nat) {b : Nat} (h : b ≠ wn w) : wB (uN w sh n) b = wB w b := if_neg h
theorem uN_F (w : wo) (sh : Nat × Nat × Nat) (n : Nat) {b : Nat} (h : b ≠ wn w) (j : Nat) : wF (uN w sh n) b j = wF w b j := if_neg h
theorem uN_R (w : wo) (sh : Nat × Nat × Nat) (n : Nat) {b : Nat} (h : b ≠ wn w) : wR (uN w sh n) b = wR w b := if_neg h
theorem uN_S (w : wo) (sh : Nat × Nat × Nat) (n : Nat) {b : Nat} (h : b ≠ wn w) : wS (uN w sh n) b = wS w b := if_neg h
theorem uN_Sn (w : wo) (sh : Nat × Nat × Nat) (n : Nat) : wS (uN w sh n) (wn w) = some sh := if_pos rfl
theorem uN_An (w : wo) (sh : Nat × Nat × Nat) (n : Nat) : wA (uN w sh n) (wn w) = fun _ => 0 := if_pos rfl
theorem uN_Bn (w : wo) (sh : Nat × Nat × Nat) (n : Nat) : wB (uN w sh n) (wn w) = fun _ => 0 := if_pos rfl
theorem uN_Rn (w : wo) (sh : Nat × Nat × Nat) (n : Nat) : wR (uN w sh n) (wn w) = fun _ => none := if_pos rfl
theorem uN_In (w : wo) (sh : Nat × Nat × Nat) (n : Nat) (j : Nat) : wI (uN w sh n) (wn w) j = 0 := if_pos rfl
theorem uN_Jn (w : wo) (sh : Nat × Nat × Nat) (n : Nat) (j : Nat) : wJ (uN w sh n) (wn w) j = 0 := if_pos rfl
theorem uN_Fn (w : wo) (sh : Nat × Nat × Nat) (n : Nat) (j : Nat) : wF (uN w sh n) (wn w) j = none := if_pos rfl
theorem uN_n (w : wo) (sh : Nat × Nat × Nat) (n : Nat) : wn (uN w sh n) = wn w + 1 := rfl
theorem uN_l (w : wo) (sh : Nat × Nat × Nat) (n : Nat) : wl (uN w sh n) = wl w + n := rfl
theorem shp_hi {w : wo} {a : Nat} (h : 77 ≤ a) : shp w a = wS w a := if_neg (by omega)
theorem ref_hi {w : wo} {a : Nat} (h : 77 ≤ a) (k : Nat) : ref w a k = wF w a k := if_neg (by omega)
theorem hp_N {w : wo} {sh : Nat × Nat × Nat} {n : Nat} {c : am_C} (hw : 77 ≤ wn w) (hc : hp (uN w sh n) (wn w) = some c) : hp (uN w sh n) = am_w (hp w) (wn w) c := by
  funext b
  unfold am_w
  by_cases q : b = wn w
  · rw [q, Nat.beq_refl]
    exact hc
  · rw [nbeq_f q]
    refine hp_same ?_ (fun k kd => ?_) (uN_A w sh n q) (uN_B w sh n q) (uN_R w sh n q)
    · unfold shp
      rw [uN_S w sh n q]
    · unfold wfl ref
      simp only [uN_I w sh n q, uN_J w sh n q, uN_F w sh n q]
theorem nwA_wst {w : wo} {t n : Nat} (hw : 77 ≤ wn w) (hn : n ≤ 60000) : am_nwA (wst w) t (ii n) = some (wn w, wst (uN w (1, t, n) n)) := by
  have hz := ii_nat (z := (n : Int)) (by omega) (by omega)
  unfold am_nwA
  rw [show (n : Int).toNat = n from rfl] at hz
  rw [if_neg (ii_pos (by omega) (by omega)), hz, if_pos hn]
  have hs : shp (uN w (1, t, n) n) (wn w) = some (1, t, n) := by rw [shp_hi hw, uN_Sn]
  refine congrArg (fun z => some (wn w, z)) ?_
  show ((am_w (hp w) (wn w) _, wn w + 1, wl w + n) : am_S) = (hp (uN w (1, t, n) n), wn w + 1, wl w + n)
  refine congrArg (fun z => ((z, wn w + 1, wl w + n) : am_S)) ?_
  refine (hp_N hw ?_).symm
  rw [hp_arr hs, uN_An, uN_Bn, uN_Rn]
  rfl
theorem al_wst {w : wo} {ci n : Nat} {l : List am_V} (hw : 77 ≤ wn w) (hd : l = (wk ci).map fun kd => match kd with
    | 0 => am_I 0
    | 1 => am_L 0
    | _ => am_R none) : am_al (wst w) (.inr (ci, l)) n = wst (uN w (0, ci, 0) n) := by
  have hs : shp (uN w (0, ci, 0) n) (wn w) = some (0, ci, 0) := by rw [shp_hi hw, uN_Sn]
  show ((am_w (hp w) (wn w) _, wn w + 1, wl w + n) : am_S) = (hp (uN w (0, ci, 0) n), wn w + 1, wl w + n)
  refine congrArg (fun z => ((z, wn w + 1, wl w + n) : am_S)) ?_
  refine (hp_N hw ?_).symm
  rw [hp_obj hs, hd]
  congr 3
  apply List.ext_getElem?
  intro k
  rw [List.getElem?_mapIdx, List.getElem?_map]
  cases (wk ci)[k]? with
  | none => rfl
  | some kd =>
    show some (wfl _ _ k kd) = some _
    congr 1
    match kd with
    | 0 => show am_I (ii (wI (uN w (0, ci, 0) n) (wn w) k)) = _; rw [uN_In]; rfl
    | 1 => show am_L (jj (wJ (uN w (0, ci, 0) n) (wn w) k)) = _; rw [uN_Jn]; rfl
    | _ + 2 => show am_R (ref (uN w (0, ci, 0) n) (wn w) k) = _; rw [ref_hi hw, uN_Fn]; rfl
theorem cp_wst {w : wo} {a0 a t n0 n1 n : Nat} (h0 : shp w a0 = some (1, t, n0)) (h1 : shp w a = some (1, t, n1)) (ht : t ≤ 1) (hn0 : n ≤ n0) (hn1 : n ≤ n1) (hn : n ≤ 60000) (hb : t = 0 ∨ ∀ i : Int, wA w a0 i = 0 ∨ wA w a0 i = 1) : am_cp (wst w) a0 (ii 0) a (ii 0) (ii n) = some (wst (uA w a (fun j => if 0 ≤ j ∧ j < n then wA w a0 j else wA w a j))) := by
  have hz := ii_nat (z := (n : Int)) (by omega) (by omega)
  rw [show (n : Int).toNat = n from rfl] at hz
  have ht3 : Nat.blt t 3 = true := by
    have : t = 0 ∨ t = 1 := by omega
    rcases this with rfl | rfl <;> rfl
  unfold am_cp
  rw [show (wst w).1 a0 = hp w a0 from rfl, show (wst w).1 a = hp w a from rfl, hp_arr h0, hp_arr h1, ht3]
  have hc : t = t ∧ t ≤ 1 ∧ ¬ ii 0 < 0 ∧ ¬ ii 0 < 0 ∧ ¬ ii (n : Int) < 0 ∧ (ii 0).toNatClampNeg + (ii (n : Int)).toNatClampNeg ≤ n0 ∧ (ii 0).toNatClampNeg + (ii (n : Int)).toNatClampNeg ≤ n1 ∧ (t = 0 ∨ ∀ i, i < (ii (n : Int)).toNatClampNeg → ii (wA w a0 (((ii 0).toNatClampNeg + i : Nat) : Int)) &&& 1 = ii (wA w a0 (((ii 0).toNatClampNeg + i : Nat) : Int))) := by
    refine ⟨rfl, ht, by decide, by decide, ii_pos (by omega) (by omega), ?_, ?_, ?_⟩
    · rw [hz, show (ii 0).toNatClampNeg = 0 from rfl]
      omega
    · rw [hz, show (ii 0).toNatClampNeg = 0 from rfl]
      omega
    · rcases hb with hb | hb
      · exact .inl hb
      · refine .inr (fun i _ => ?_)
        rcases hb (((ii 0).toNatClampNeg + i : Nat) : Int) with h | h
        · rw [h]; rfl
        · rw [h]; rfl
  show (if _ then some _ else none) = _
  rw [if_pos hc]
  congr 1
  refine tA_w h1 ht3 ?_
  funext j
  unfold am_cpy
  rw [hz, show (ii 0).toNatClampNeg = 0 from rfl]
  by_cases q : j < n
  · rw [if_pos (by omega), if_pos ⟨by omega, by omega⟩]
    rw [show 0 + (j - 0) = j by omega]
  · rw [if_neg (by omega), if_neg (by omega)]
/-- cells below m are the same -/
def eX (m : Nat) (w u : wo) : Prop := (∀ b, b < m → (∀ k, wI u b k = wI w b k ∧ wJ u b k = wJ w b k ∧ wF u b k = wF w b k) ∧ wA u b = wA w b ∧ wB u b = wB w b ∧ wR u b = wR w b ∧ wS u b = wS w b) ∧ wn w ≤ wn u
theorem eX_r (m : Nat) (w : wo) : eX m w w := ⟨fun _ _ => ⟨fun _ => ⟨rfl, rfl, rfl⟩, rfl, rfl, rfl, rfl⟩, Nat.le_refl _⟩
theorem eX_t {m : Nat} {w v u : wo} (h : eX m w v) (k : eX m v u) : eX m w u :=
  ⟨fun b hb => ⟨fun j => ⟨((k.1 b hb).1 j).1.trans ((h.1 b hb).1 j).1, ((k.1 b hb).1 j).2.1.trans ((h.1 b hb).1 j).2.1, ((k.1 b hb).1 j).2.2.trans ((h.1 b hb).1 j).2.2⟩, (k.1 b hb).2.1.trans (h.1 b hb).2.1, (k.1 b hb).2.2.1.trans (h.1 b hb).2.2.1, (k.1 b hb).2.2.2.1.trans (h.1 b hb).2.2.2.1, (k.1 b hb).2.2.2.2.trans (h.1 b hb).2.2.2.2⟩, Nat.le_trans h.2 k.2⟩
theorem eX_le {m m' : Nat} {w u : wo} (h : eX m w u) (q : m' ≤ m) : eX m' w u := ⟨fun b hb => h.1 b (Nat.lt_of_lt_of_le hb q), h.2⟩
theorem eX_N {m : Nat} {w : wo} (h : m ≤ wn w) (sh : Nat × Nat × Nat) (n : Nat) : eX m w (uN w sh n) :=
  ⟨fun b hb => by
    have q : b ≠ wn w := by omega
    exact ⟨fun k => ⟨uN_I w sh n q k, uN_J w sh n q k, uN_F w sh n q k⟩, uN_A w sh n q, uN_B w sh n q, uN_R w sh n q, uN_S w sh n q⟩, by rw [uN_n]; omega⟩
theorem eX_F {m : Nat} {w : wo} {a : Nat} (h : m ≤ a) (k : Nat) (x : Option Nat) : eX m w (uF w a k x) :=
  ⟨fun b hb => ⟨fun j => ⟨rfl, rfl, if_neg (by omega)⟩, rfl, rfl, rfl, rfl⟩, Nat.le_refl _⟩
theorem eX_A {m : Nat} {w : wo} {a : Nat} (h : m ≤ a) (f : Int → Int) : eX m w (uA w a f) :=
  ⟨fun b hb => ⟨fun j => ⟨rfl, rfl, rfl⟩, if_neg (by omega), rfl, rfl, rfl⟩, Nat.le_refl _⟩
theorem eX_I {m : Nat} {w : wo} {a : Nat} (h : m ≤ a) (k : Nat) (x : Int) : eX m w (uI w a k x) :=
  ⟨fun b hb => ⟨fun j => ⟨if_neg (by omega), rfl, rfl⟩, rfl, rfl, rfl, rfl⟩, Nat.le_refl _⟩
/-- a new row, put into a field -/
def nAr (w : wo) (p k t n : Nat) : wo := uF (uN w (1, t, n) n) p k (some (wn w))
theorem nAr_n (w : wo) (p k t n : Nat) : wn (nAr w p k t n) = wn w + 1 := rfl
theorem nAr_l (w : wo) (p k t n : Nat) : wl (nAr w p k t n) = wl w + n := rfl
theorem nAr_S (w : wo) (p k t n : Nat) (b : Nat) : wS (nAr w p k t n) b = if b = wn w then some (1, t, n) else wS w b := rfl
theorem nAr_F (w : wo) (p k t n : Nat) (b j : Nat) : wF (nAr w p k t n) b j = if b = p ∧ j = k then some (wn w) else if b = wn w then none else wF w b j := rfl
theorem nAr_A (w : wo) (p k t n : Nat) (b : Nat) : wA (nAr w p k t n) b = if b = wn w then fun _ => 0 else wA w b := rfl
theorem nAr_X {m : Nat} {w : wo} {p : Nat} (h : m ≤ p) (hm : m ≤ wn w) (k t n : Nat) : eX m w (nAr w p k t n) := eX_t (eX_N hm _ _) (eX_F h _ _)
section L49
variable {sc : am_X} {w : wo}
theorem nAr_r {p ci k t n : Nat} (hw : 77 ≤ wn w) (hp : 77 ≤ p) (hpn : p < wn w) (hs : wS w p = some (0, ci, 0)) (hk : (wk ci)[k]? = some 2) (hn : n ≤ 60000) : am_nwA (wst w) t (ii n) = some (wn w, wst (uN w (1, t, n) n)) ∧ am_pf (wst (uN w (1, t, n) n)) p ci k (am_R (some (wn w))) = some (wst (nAr w p k t n)) := by
  refine ⟨nwA_wst hw hn, pR_of hp ?_ hk⟩
  rw [shp_hi hp, uN_S w _ _ (by omega)]
  exact hs
theorem c0 {p : Nat} (hp : 77 ≤ p) (hpn : p < wn w) (hs : wS w p = some (0, 1, 0)) : ∃ u, am_F sc 0 [am_R (some p)] (wst w) = some (none, wst u) ∧ eX p w u ∧ wn u = wn w + 5 ∧ wl u = wl w + 2000 ∧ (∀ b, p < b → b < wn w → (∀ k, wI u b k = wI w b k ∧ wF u b k = wF w b k) ∧ wA u b = wA w b ∧ wS u b = wS w b) ∧ wS u p = some (0, 1, 0) ∧ (∀ k : Nat, k < 5 → wF u p k = some (wn w + k) ∧ wS u (wn w + k) = some (1, 0, if k = 4 then 1200 else 200)) := by
  obtain ⟨w1, h1⟩ : ∃ v, v = nAr w p 0 0 200 := ⟨_, rfl⟩
  obtain ⟨w2, h2⟩ : ∃ v, v = nAr w1 p 1 0 200 := ⟨_, rfl⟩
  obtain ⟨w3, h3⟩ : ∃ v, v = nAr w2 p 2 0 200 := ⟨_, rfl⟩
  obtain ⟨w4, h4⟩ : ∃ v, v = nAr w3 p 3 0 200 := ⟨_, rfl⟩
  obtain ⟨w5, h5⟩ : ∃ v, v = nAr w4 p 4 0 1200 := ⟨_, rfl⟩
  have n1 : wn w1 = wn w + 1 := by rw [h1]; rfl
  have n2 : wn w2 = wn w + 2 := by rw [h2, nAr_n, n1]
  have n3 : wn w3 = wn w + 3 := by rw [h3, nAr_n, n2]
  have n4 : wn w4 = wn w + 4 := by rw [h4, nAr_n, n3]
  have n5 : wn w5 = wn w + 5 := by rw [h5, nAr_n, n4]
  have s1 : ∀ b, wS w1 b = if b = wn w then some (1, 0, 200) else wS w b := fun b => by rw [h1]; rfl
  have s2 : ∀ b, wS w2 b = if b = wn w + 1 then some (1, 0, 200) else wS w1 b := fun b => by rw [h2, nAr_S, n1]
  have s3 : ∀ b, wS w3 b = if b = wn w + 2 then some (1, 0, 200) else wS w2 b := fun b => by rw [h3, nAr_S, n2]
  have s4 : ∀ b, wS w4 b = if b = wn w + 3 then some (1, 0, 200) else wS w3 b := fun b => by rw [h4, nAr_S, n3]
  have s5 : ∀ b, wS w5 b = if b = wn w + 4 then some (1, 0, 1200) else wS w4 b := fun b => by rw [h5, nAr_S, n4]
  have p1 : wS w1 p = some (0, 1, 0) := by rw [s1, if_neg (by omega)]; exact hs
  have p2 : wS w2 p = some (0, 1, 0) := by rw [s2, if_neg (by omega)]; exact p1
  have p3 : wS w3 p = some (0, 1, 0) := by rw [s3, if_neg (by omega)]; exact p2
  have p4 : wS w4 p = some (0, 1, 0) := by rw [s4, if_neg (by omega)]; exact p3
  have p5 : wS w5 p = some (0, 1, 0) := by rw [s5, if_neg (by omega)]; exact p4
  have e1 := nAr_r (w := w) (p := p) (ci := 1) (k := 0) (t := 0) (n := 200) (by omega) hp hpn hs rfl (by decide)
  have e2 := nAr_r (w := w1) (p := p) (ci := 1) (k := 1) (t := 0) (n := 200) (by omega) hp (by omega) p1 rfl (by decide)
  have e3 := nAr_r (w := w2) (p := p) (ci := 1) (k := 2) (t := 0) (n := 200) (by omega) hp (by omega) p2 rfl (by decide)
  have e4 := nAr_r (w := w3) (p := p) (ci := 1) (k := 3) (t := 0) (n := 200) (by omega) hp (by omega) p3 rfl (by decide)
  have e5 := nAr_r (w := w4) (p := p) (ci := 1) (k := 4) (t := 0) (n := 1200) (by omega) hp (by omega) p4 rfl (by decide)
  rw [← h1] at e1
  rw [← h2] at e2
  rw [← h3] at e3
  rw [← h4] at e4
  rw [← h5] at e5
  have f1 : ∀ b j, wF w1 b j = if b = p ∧ j = 0 then some (wn w) else if b = wn w then none else wF w b j := fun b j => by rw [h1]; rfl
  have f2 : ∀ b j, wF w2 b j = if b = p ∧ j = 1 then some (wn w + 1) else if b = wn w + 1 then none else wF w1 b j := fun b j => by rw [h2, nAr_F, n1]
  have f3 : ∀ b j, wF w3 b j = if b = p ∧ j = 2 then some (wn w + 2) else if b = wn w + 2 then none else wF w2 b j := fun b j => by rw [h3, nAr_F, n2]
  have f4 : ∀ b j, wF w4 b j = if b = p ∧ j = 3 then some (wn w + 3) else if b = wn w + 3 then none else wF w3 b j := fun b j => by rw [h4, nAr_F, n3]
  have f5 : ∀ b j, wF w5 b j = if b = p ∧ j = 4 then some (wn w + 4) else if b = wn w + 4 then none else wF w4 b j := fun b j => by rw [h5, nAr_F, n4]
  refine ⟨w5, ?_, ?_, n5, ?_, ?_, p5, ?_⟩
  · rw [fq_0]
    have z2 : (200 : Int) = ((200 : Nat) : Int) := rfl
    have z3 : (1200 : Int) = ((1200 : Nat) : Int) := rfl
    have e1a : am_nwA (wst w) 0 (ii 200) = _ := e1.1
    have e2a : am_nwA (wst w1) 0 (ii 200) = _ := e2.1
    have e3a : am_nwA (wst w2) 0 (ii 200) = _ := e3.1
    have e4a : am_nwA (wst w3) 0 (ii 200) = _ := e4.1
    have e5a : am_nwA (wst w4) 0 (ii 1200) = _ := e5.1
    simp only [qB_s, qC_t, qC_f, qI_T, qI_F, qI_t, qI_f, r_I, r_L, r_R, r_V, ii_add, ii_sub, ii_mul, ii_neg, bz_0, bz_1, Bool.true_and, Bool.false_and, Bool.and_true, z00, z11, li_0, li_1200, li_200, e1a, e1.2, e2a, e2.2, e3a, e3.2, e4a, e4.2, e5a, e5.2]
  · rw [h5, h4, h3, h2, h1]
    refine eX_t (eX_t (eX_t (eX_t (nAr_X (Nat.le_refl _) (by omega) _ _ _) (nAr_X (Nat.le_refl _) ?_ _ _ _)) (nAr_X (Nat.le_refl _) ?_ _ _ _)) (nAr_X (Nat.le_refl _) ?_ _ _ _)) (nAr_X (Nat.le_refl _) ?_ _ _ _)
    all_goals simp only [nAr_n]
    all_goals omega
  · rw [h5, nAr_l, h4, nAr_l, h3, nAr_l, h2, nAr_l, h1, nAr_l]
  · intro b hb1 hb2
    have a1 : wA w5 b = wA w b := by
      rw [h5, nAr_A, if_neg (by omega), h4, nAr_A, if_neg (by omega), h3, nAr_A, if_neg (by omega), h2, nAr_A, if_neg (by omega), h1, nAr_A, if_neg (by omega)]
    refine ⟨fun k => ⟨?_, ?_⟩, a1, ?_⟩
    · have i1 : ∀ (x : wo) (p k t n : Nat) (j : Nat), b ≠ wn x → wI (nAr x p k t n) b j = wI x b j := fun x p k t n j h => if_neg h
      rw [h5, i1 _ _ _ _ _ _ (by omega), h4, i1 _ _ _ _ _ _ (by omega), h3, i1 _ _ _ _ _ _ (by omega), h2, i1 _ _ _ _ _ _ (by omega), h1, i1 _ _ _ _ _ _ (by omega)]
    · rw [f5, if_neg (by omega), if_neg (by omega), f4, if_neg (by omega), if_neg (by omega), f3, if_neg (by omega), if_neg (by omega), f2, if_neg (by omega), if_neg (by omega), f1, if_neg (by omega), if_neg (by omega)]
    · rw [s5, if_neg (by omega), s4, if_neg (by omega), s3, if_neg (by omega), s2, if_neg (by omega), s1, if_neg (by omega)]
  · intro k hk
    have : k = 0 ∨ k = 1 ∨ k = 2 ∨ k = 3 ∨ k = 4 := by omega
    rcases this with rfl | rfl | rfl | rfl | rfl
    · rw [f5, if_neg (by omega), if_neg (by omega), f4, if_neg (by omega), if_neg (by omega), f3, if_neg (by omega), if_neg (by omega), f2, if_neg (by omega), if_neg (by omega), f1, if_pos ⟨rfl, rfl⟩]
      rw [s5, if_neg (by omega), s4, if_neg (by omega), s3, if_neg (by omega), s2, if_neg (by omega), s1, if_pos (by omega)]
      exact ⟨rfl, rfl⟩
    · rw [f5, if_neg (by omega), if_neg (by omega), f4, if_neg (by omega), if_neg (by omega), f3, if_neg (by omega), if_neg (by omega), f2, if_pos ⟨rfl, rfl⟩]
      rw [s5, if_neg (by omega), s4, if_neg (by omega), s3, if_neg (by omega), s2, if_pos (by omega)]
      exact ⟨rfl, rfl⟩
    · rw [f5, if_neg (by omega), if_neg (by omega), f4, if_neg (by omega), if_neg (by omega), f3, if_pos ⟨rfl, rfl⟩]
      rw [s5, if_neg (by omega), s4, if_neg (by omega), s3, if_pos (by omega)]
      exact ⟨rfl, rfl⟩
    · rw [f5, if_neg (by omega), if_neg (by omega), f4, if_pos ⟨rfl, rfl⟩]
      rw [s5, if_neg (by omega), s4, if_pos (by omega)]
      exact ⟨rfl, rfl⟩
    · rw [f5, if_pos ⟨rfl, rfl⟩]
      rw [s5, if_pos (by omega)]
      exact ⟨rfl, rfl⟩
theorem c1 {p : Nat} (hp : 77 ≤ p) (hpn : p < wn w) (hs : wS w p = some (0, 4, 0)) : ∃ u, am_F sc 1 [am_R (some p)] (wst w) = some (none, wst u) ∧ eX p w u ∧ wn u = wn w + 3 ∧ wl u = wl w + 600 ∧ wS u p = some (0, 4, 0) ∧ (∀ k : Nat, k < 3 → wF u p k = some (wn w + k) ∧ wS u (wn w + k) = some (1, if k = 0 then 0 else 1, 200) ∧ wA u (wn w + k) = fun _ => 0) := by
  obtain ⟨w1, h1⟩ : ∃ v, v = nAr w p 0 0 200 := ⟨_, rfl⟩
  obtain ⟨w2, h2⟩ : ∃ v, v = nAr w1 p 1 1 200 := ⟨_, rfl⟩
  obtain ⟨w3, h3⟩ : ∃ v, v = nAr w2 p 2 1 200 := ⟨_, rfl⟩
  have n1 : wn w1 = wn w + 1 := by rw [h1]; rfl
  have n2 : wn w2 = wn w + 2 := by rw [h2, nAr_n, n1]
  have n3 : wn w3 = wn w + 3 := by rw [h3, nAr_n, n2]
  have s1 : ∀ b, wS w1 b = if b = wn w then some (1, 0, 200) else wS w b := fun b => by rw [h1]; rfl
  have s2 : ∀ b, wS w2 b = if b = wn w + 1 then some (1, 1, 200) else wS w1 b := fun b => by rw [h2, nAr_S, n1]
  have s3 : ∀ b, wS w3 b = if b = wn w + 2 then some (1, 1, 200) else wS w2 b := fun b => by rw [h3, nAr_S, n2]
  have p1 : wS w1 p = some (0, 4, 0) := by rw [s1, if_neg (by omega)]; exact hs
  have p2 : wS w2 p = some (0, 4, 0) := by rw [s2, if_neg (by omega)]; exact p1
  have p3 : wS w3 p = some (0, 4, 0) := by rw [s3, if_neg (by omega)]; exact p2
  have e1 := nAr_r (w := w) (p := p) (ci := 4) (k := 0) (t := 0) (n := 200) (by omega) hp hpn hs rfl (by decide)
  have e2 := nAr_r (w := w1) (p := p) (ci := 4) (k := 1) (t := 1) (n := 200) (by omega) hp (by omega) p1 rfl (by decide)
  have e3 := nAr_r (w := w2) (p := p) (ci := 4) (k := 2) (t := 1) (n := 200) (by omega) hp (by omega) p2 rfl (by decide)
  rw [← h1] at e1
  rw [← h2] at e2
  rw [← h3] at e3
  have f1 : ∀ b j, wF w1 b j = if b = p ∧ j = 0 then some (wn w) else if b = wn w then none else wF w b j := fun b j => by rw [h1]; rfl
  have f2 : ∀ b j, wF w2 b j = if b = p ∧ j = 1 then some (wn w + 1) else if b = wn w + 1 then none else wF w1 b j := fun b j => by rw [h2, nAr_F, n1]
  have f3 : ∀ b j, wF w3 b j = if b = p ∧ j = 2 then some (wn w + 2) else if b = wn w + 2 then none else wF w2 b j := fun b j => by rw [h3, nAr_F, n2]
  have a1 : ∀ b, wA w1 b = if b = wn w then fun _ => 0 else wA w b := fun b => by rw [h1]; rfl
  have a2 : ∀ b, wA w2 b = if b = wn w + 1 then fun _ => 0 else wA w1 b := fun b => by rw [h2, nAr_A, n1]
  have a3 : ∀ b, wA w3 b = if b = wn w + 2 then fun _ => 0 else wA w2 b := fun b => by rw [h3, nAr_A, n2]
  refine ⟨w3, ?_, ?_, n3, ?_, p3, ?_⟩
  · rw [fq_1]
    have e1a : am_nwA (wst w) 0 (ii 200) = _ := e1.1
    have e2a : am_nwA (wst w1) 1 (ii 200) = _ := e2.1
    have e3a : am_nwA (wst w2) 1 (ii 200) = _ := e3.1
    simp only [qB_s, qC_t, qC_f, qI_T, qI_F, qI_t, qI_f, r_I, r_L, r_R, r_V, ii_add, ii_sub, ii_mul, ii_neg, bz_0, bz_1, Bool.true_and, Bool.false_and, Bool.and_true, z00, z11, li_0, li_200, e1a, e1.2, e2a, e2.2, e3a, e3.2]
  · rw [h3, h2, h1]
    refine eX_t (eX_t (nAr_X (Nat.le_refl _) (by omega) _ _ _) (nAr_X (Nat.le_refl _) ?_ _ _ _)) (nAr_X (Nat.le_refl _) ?_ _ _ _)
    all_goals simp only [nAr_n]
    all_goals omega
  · rw [h3, nAr_l, h2, nAr_l, h1, nAr_l]
  · intro k hk
    have : k = 0 ∨ k = 1 ∨ k = 2 := by omega
    rcases this with rfl | rfl | rfl
    · refine ⟨?_, ?_, ?_⟩
      · rw [f3, if_neg (by omega), if_neg (by omega), f2, if_neg (by omega), if_neg (by omega), f1, if_pos ⟨rfl, rfl⟩]
        rfl
      · show wS w3 (wn w + 0) = some (1, 0, 200)
        rw [s3, if_neg (by omega), s2, if_neg (by omega), s1, if_pos (by omega)]
      · rw [a3, if_neg (by omega), a2, if_neg (by omega), a1, if_pos (by omega)]
    · refine ⟨?_, ?_, ?_⟩
      · rw [f3, if_neg (by omega), if_neg (by omega), f2, if_pos ⟨rfl, rfl⟩]
      · show wS w3 (wn w + 1) = some (1, 1, 200)
        rw [s3, if_neg (by omega), s2, if_pos (by omega)]
      · rw [a3, if_neg (by omega), a2, if_pos (by omega)]
    · refine ⟨?_, ?_, ?_⟩
      · rw [f3, if_pos ⟨rfl, rfl⟩]
      · show wS w3 (wn w + 2) = some (1, 1, 200)
        rw [s3, if_pos (by omega)]
      · rw [a3, if_pos (by omega)]
end L49
