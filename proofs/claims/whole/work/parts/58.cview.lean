/-! THE CLASS READS A VIEW -/
def orI (l m : Int) : Int := ((l.toNat ||| m.toNat : Nat) : Int)
theorem or_ii {l m : Int} (h1 : 0 ≤ l) (h2 : l < 64) (h3 : 0 ≤ m) (h4 : m < 64) : ii l ||| ii m = ii (orI l m) ∧ 0 ≤ orI l m ∧ orI l m < 64 ∧ ∀ k : Int, 0 ≤ k → k < 6 → (bt (orI l m) k = 1 ↔ bt l k = 1 ∨ bt m k = 1) := by
  have h := (by decide +kernel : ∀ (l m : Fin 64), (ii (l.val : Int) ||| ii (m.val : Int) = ii (orI (l.val : Int) (m.val : Int)) ∧ orI (l.val : Int) (m.val : Int) < 64 ∧ ∀ k : Fin 6, (bt (orI (l.val : Int) (m.val : Int)) (k.val : Int) = 1 ↔ bt (l.val : Int) (k.val : Int) = 1 ∨ bt (m.val : Int) (k.val : Int) = 1))) ⟨l.toNat, by omega⟩ ⟨m.toNat, by omega⟩
  simp only [Int.toNat_of_nonneg h1, Int.toNat_of_nonneg h3] at h
  refine ⟨h.1, Int.natCast_nonneg _, h.2.1, fun k k1 k2 => ?_⟩
  have := h.2.2 ⟨k.toNat, by omega⟩
  simpa only [Int.toNat_of_nonneg k1] using this
def aNum (b : Nat → Int) (lo hi : Int) (j : Nat) : Sum Int Int := if tK b j = 200 then (if tVl b j < lo ∨ hi < tVl b j then .inl (fl b j 1) else .inr (tVl b j)) else .inl (fl b j 0)
def aMk (b : Nat → Int) (x : vw) (j : Nat) : Sum Int Int := if tK b j < 6 then (if bt x.2.1 (tK b j) = 1 ∨ x.2.2.1 (tK b j) ≠ 0 then .inl (fl b j 4) else .inr (tK b j)) else .inl (fl b j 0)
def aCls (b : Nat → Int) (s : Nat × vw) : Sum Int (Nat × vw) :=
  if tK b s.1 = 11 then (if s.2.1.isNone = true then bd (aTst b (s.1 + 1)) fun t => .inr (t.1, some t.2.2.2, s.2.2) else .inl (fl b s.1 4))
  else if tK b s.1 = 14 then (if s.2.2.2.2 = -1 then bd (aNum b 0 999 (s.1 + 1)) fun n => .inr (s.1 + 2, s.2.1, s.2.2.1, s.2.2.2.1, n) else .inl (fl b s.1 4))
  else if tK b s.1 = 12 then bd (aMk b s.2 (s.1 + 1)) fun m => .inr (s.1 + 2, s.2.1, orB s.2.2.1 m, s.2.2.2)
  else if tK b s.1 = 13 then bd (aMk b s.2 (s.1 + 1)) fun m => bd (aNum b 1 99 (s.1 + 2)) fun n => .inr (s.1 + 3, s.2.1, s.2.2.1, fu s.2.2.2.1 m n, s.2.2.2.2)
  else .inl (fl b s.1 0)
def aFn (b : Nat → Int) (s : Nat × vw) : Sum Int (Nat × vw) := if tK b s.1 = 204 then .inr s else .inl (fl b s.1 0)
def aVwL (b : Nat → Int) : Nat → Nat × vw → Sum Int (Nat × vw)
  | 0, s => aFn b s
  | d + 1, s => if tK b s.1 = 59 then bd (aCls b (s.1 + 1, s.2)) (aVwL b d) else aFn b s
def aVw (b : Nat → Int) : Sum Int (Nat × vw) := bd (aCls b (0, none, 0, fun _ => 0, -1)) (aVwL b 400)
def aRul (b : Nat → Int) : Sum Int pg := bd (aTst b 0) fun t => if tK b t.1 = 204 then .inr t.2.2.2 else .inl (fl b t.1 0)
theorem aNum_I {b : Nat → Int} {L T : Nat} {lo hi : Int} {j : Nat} {n : Int} (hT : TT b L T) (hj : j ≤ T) (q : aNum b lo hi j = .inr n) : lo ≤ n ∧ n ≤ hi ∧ j < T ∧ tK b j = 200 ∧ n = tVl b j := by
  unfold aNum at q
  by_cases y1 : tK b j = 200
  · rw [if_pos y1] at q
    by_cases y2 : tVl b j < lo ∨ hi < tVl b j
    · rw [if_pos y2] at q
      cases q
    · rw [if_neg y2] at q
      have := Sum.inr.inj q
      subst this
      exact ⟨by omega, by omega, (TT_lt hT hj (by omega)).1, y1, rfl⟩
  · rw [if_neg y1] at q
    cases q
theorem aMk_I {b : Nat → Int} {L T : Nat} {x : vw} {j : Nat} {m : Int} (hT : TT b L T) (hj : j ≤ T) (q : aMk b x j = .inr m) : m = tK b j ∧ 0 ≤ m ∧ m < 6 ∧ j < T ∧ bt x.2.1 m ≠ 1 ∧ x.2.2.1 m = 0 := by
  have hk := tK_r hT.1 j
  unfold aMk at q
  by_cases y1 : tK b j < 6
  · rw [if_pos y1] at q
    by_cases y2 : bt x.2.1 (tK b j) = 1 ∨ x.2.2.1 (tK b j) ≠ 0
    · rw [if_pos y2] at q
      cases q
    · rw [if_neg y2] at q
      have := Sum.inr.inj q
      subst this
      exact ⟨rfl, hk.1, y1, (TT_lt hT hj (by omega)).1, fun y => y2 (Or.inl y), by
        by_cases z : x.2.2.1 (tK b j) = 0
        · exact z
        · exact absurd (Or.inr z) y2⟩
  · rw [if_neg y1] at q
    cases q
theorem aEnd_le {b : Nat → Int} {s s' : st} {g : Bool} (q : aEnd b s = .inr (g, s')) : s.1 ≤ s'.1 := by
  unfold aEnd at q
  split at q
  · cases q
    exact Nat.le_succ _
  · split at q
    · cases q
      exact Nat.le_succ _
    · split at q
      · cases q
        exact Nat.le_refl _
      · cases q
theorem aBhL_le {b : Nat → Int} : ∀ (d : Nat) (s s' : st) (g : Bool), aBhL b d s = .inr (g, s') → s.1 ≤ s'.1
  | 0, s, s', g, q => aEnd_le q
  | d + 1, s, s', g, q => by
    unfold aBhL at q
    split at q
    · split at q
      · cases q
        exact Nat.le_refl _
      · have := aBhL_le d _ s' g q
        have : s.1 + 1 ≤ s'.1 := this
        omega
    · exact aEnd_le q
theorem aTsL_le {b : Nat → Int} {L T : Nat} (hT : TT b L T) : ∀ (d : Nat) (s s' : st), aI b T 0 0 0 s → aTsL b d s = .inr s' → s.1 ≤ s'.1
  | 0, s, s', h, q => by
    have := Sum.inr.inj q
    rw [this]
    exact Nat.le_refl _
  | d + 1, s, s', h, q => by
    unfold aTsL at q
    by_cases y1 : tK b s.1 = 17
    · rw [if_pos y1] at q
      obtain ⟨s1, q1, q⟩ := bd_i q
      obtain ⟨a1, a2⟩ := aOpn_I hT h (.inl ⟨rfl, y1⟩) q1
      have := aTsL_le hT d s1 s' a1 q
      omega
    · rw [if_neg y1] at q
      by_cases y2 : tK b s.1 = 91
      · rw [if_pos y2] at q
        obtain ⟨s1, q1, q⟩ := bd_i q
        obtain ⟨a1, a2⟩ := aOpn_I hT h (.inr ⟨rfl, y2⟩) q1
        have := aTsL_le hT d s1 s' a1 q
        omega
      · rw [if_neg y2] at q
        obtain ⟨s1, q1, q⟩ := bd_i q
        obtain ⟨⟨g, s2⟩, q2, q⟩ := bd_i q
        obtain ⟨a1, a2, a3⟩ := aCmp_I hT h q1
        have hl := aBhL_le (b := b) 400 _ s2 g q2
        have hl : s1.1 ≤ s2.1 := hl
        cases g with
        | true =>
          obtain ⟨c1, c2⟩ := aBhL_I hT 400 _ s2 true (aStl_I (k := 6) (by decide) a1).1 q2
          have := aTsL_le hT d s2 s' (c1 rfl).1 q
          omega
        | false =>
          have := Sum.inr.inj q
          rw [← this]
          show s.1 ≤ s2.1
          omega
theorem aTst_le {b : Nat → Int} {L T j : Nat} {s : st} (hT : TT b L T) (hj : j ≤ T) (q : aTst b j = .inr s) : j ≤ s.1 := aTsL_le hT 401 _ s (aTst_0 hj) q
theorem aCls_I {b : Nat → Int} {L T : Nat} {s s' : Nat × vw} (hT : TT b L T) (hj : s.1 ≤ T) (hx : okV s.2) (q : aCls b s = .inr s') : s'.1 ≤ T ∧ s.1 + 1 ≤ s'.1 ∧ okV s'.2 := by
  obtain ⟨x1, x2, x3, x4⟩ := hx
  unfold aCls at q
  by_cases y1 : tK b s.1 = 11
  · rw [if_pos y1] at q
    have h1 := TT_lt hT hj (by omega)
    by_cases y2 : s.2.1.isNone = true
    · rw [if_pos y2] at q
      obtain ⟨t, q1, q2⟩ := bd_i q
      have := Sum.inr.inj q2
      subst this
      obtain ⟨i1, i2, i3, i4, i5⟩ := aTst_I hT (by omega) q1
      have hm := aTst_le hT (by omega) q1
      refine ⟨i1.1, hm, fun P hP => ?_, x2, x3, x4⟩
      have hP : some t.2.2.2 = some P := hP
      cases hP
      exact i3
    · rw [if_neg y2] at q
      cases q
  · rw [if_neg y1] at q
    by_cases y2 : tK b s.1 = 14
    · rw [if_pos y2] at q
      have h1 := TT_lt hT hj (by omega)
      by_cases y3 : s.2.2.2.2 = -1
      · rw [if_pos y3] at q
        obtain ⟨n, q1, q2⟩ := bd_i q
        have := Sum.inr.inj q2
        subst this
        obtain ⟨n1, n2, n3, -⟩ := aNum_I hT (by omega) q1
        exact ⟨by show s.1 + 2 ≤ T; omega, by show s.1 + 1 ≤ s.1 + 2; omega, x1, x2, x3, by show -1 ≤ n ∧ n ≤ 999; omega⟩
      · rw [if_neg y3] at q
        cases q
    · rw [if_neg y2] at q
      by_cases y3 : tK b s.1 = 12
      · rw [if_pos y3] at q
        have h1 := TT_lt hT hj (by omega)
        obtain ⟨m, q1, q2⟩ := bd_i q
        have := Sum.inr.inj q2
        subst this
        obtain ⟨m1, m2, m3, m4, m5, m6⟩ := aMk_I hT (by omega) q1
        obtain ⟨o1, o2, o3, o4⟩ := orB_ii x2.1 x2.2 m2 m3
        exact ⟨by show s.1 + 2 ≤ T; omega, by show s.1 + 1 ≤ s.1 + 2; omega, x1, ⟨o2, o3⟩, x3, x4⟩
      · rw [if_neg y3] at q
        by_cases y4 : tK b s.1 = 13
        · rw [if_pos y4] at q
          have h1 := TT_lt hT hj (by omega)
          obtain ⟨m, q1, q2⟩ := bd_i q
          obtain ⟨n, q3, q4⟩ := bd_i q2
          have := Sum.inr.inj q4
          subst this
          obtain ⟨m1, m2, m3, m4, m5, m6⟩ := aMk_I hT (by omega) q1
          obtain ⟨n1, n2, n3, -⟩ := aNum_I hT (by omega) q3
          refine ⟨by show s.1 + 3 ≤ T; omega, by show s.1 + 1 ≤ s.1 + 3; omega, x1, x2, fun k k0 k6 => ?_, x4⟩
          show 0 ≤ fu s.2.2.2.1 m n k ∧ fu s.2.2.2.1 m n k ≤ 99
          rw [fu_at]
          by_cases z : k = m
          · rw [if_pos z]; omega
          · rw [if_neg z]; exact x3 k k0 k6
        · rw [if_neg y4] at q
          cases q
/-- the same below m, a list apart -/
def eF (l : List Nat) (m : Nat) (w u : wo) : Prop := (∀ a k, a < m → fhas l (a * 100 + k) = false → wI u a k = wI w a k ∧ wJ u a k = wJ w a k) ∧ (∀ a, a < m → fhas l (a * 100 + 99) = false → wA u a = wA w a ∧ wB u a = wB w a) ∧ (∀ a, a < m → (∀ k, wF u a k = wF w a k) ∧ wR u a = wR w a ∧ wS u a = wS w a) ∧ wn w ≤ wn u ∧ wl w ≤ wl u
theorem eF_fr {l : List Nat} {w u : wo} (f : fr l w u) (m : Nat) : eF l m w u := ⟨fun a k _ h => ⟨fr_I f h, fr_J f h⟩, fun a _ h => ⟨fr_A f h, fr_B f h⟩, fun a _ => ⟨fr_F f a, fr_R f a, fr_S f a⟩, Nat.le_of_eq (fr_n f).symm, Nat.le_of_eq (fr_l f).symm⟩
theorem eF_X {l : List Nat} {m : Nat} {w u : wo} (h : eX m w u) (hl : wl w ≤ wl u) : eF l m w u := ⟨fun a k ha _ => ⟨((h.1 a ha).1 k).1, ((h.1 a ha).1 k).2.1⟩, fun a ha _ => ⟨(h.1 a ha).2.1, (h.1 a ha).2.2.1⟩, fun a ha => ⟨fun k => ((h.1 a ha).1 k).2.2, (h.1 a ha).2.2.2.1, (h.1 a ha).2.2.2.2⟩, h.2, hl⟩
theorem eF_t {l : List Nat} {m : Nat} {w v u : wo} (h : eF l m w v) (k : eF l m v u) : eF l m w u := by
  obtain ⟨h1, h2, h3, h4, h5⟩ := h
  obtain ⟨k1, k2, k3, k4, k5⟩ := k
  exact ⟨fun a j ha q => ⟨(k1 a j ha q).1.trans (h1 a j ha q).1, (k1 a j ha q).2.trans (h1 a j ha q).2⟩, fun a ha q => ⟨(k2 a ha q).1.trans (h2 a ha q).1, (k2 a ha q).2.trans (h2 a ha q).2⟩, fun a ha => ⟨fun j => ((k3 a ha).1 j).trans ((h3 a ha).1 j), (k3 a ha).2.1.trans (h3 a ha).2.1, (k3 a ha).2.2.trans (h3 a ha).2.2⟩, Nat.le_trans h4 k4, Nat.le_trans h5 k5⟩
theorem eF_m {l : List Nat} {m m' : Nat} {w u : wo} (h : eF l m w u) (q : m' ≤ m) : eF l m' w u :=
  ⟨fun a k ha => h.1 a k (by omega), fun a ha => h.2.1 a (by omega), fun a ha => h.2.2.1 a (by omega), h.2.2.2⟩
/-- a new test -/
def TN (u : wo) (p : Nat) (P : pg) : Prop := (wS u p = some (0, 9, 0) ∧ wF u p 0 = some (p + 1) ∧ wS u (p + 1) = some (1, 0, P.1) ∧ ∀ k : Nat, k < P.1 → wA u (p + 1) k = P.2.1 k * 65536 + P.2.2 k) ∧ MSk (wI u p 1) P
theorem TN_e {w u : wo} {p : Nat} {P : pg} (h : TN w p P) (hS : wS u p = wS w p ∧ wS u (p + 1) = wS w (p + 1)) (hF : wF u p 0 = wF w p 0) (hA : wA u (p + 1) = wA w (p + 1)) (hI : wI u p 1 = wI w p 1) : TN u p P := by
  unfold TN at h ⊢
  rw [hS.1, hS.2, hF, hA, hI]
  exact h
section L58
variable {sc : am_X} {w : wo} {b : Nat → Int} {L T : Nat}
theorem CK_X {u : wo} (h : CK w b L T) {m : Nat} (x : eX m w u) (hm : 77 ≤ m) : CK u b L T := by
  have x1 := (x.1 13 (by omega)).1
  have x2 := fun a (ha : a < 77) => (x.1 a (by omega)).2.1
  obtain ⟨⟨h1, h2⟩, h3, h4, h5⟩ := h
  refine ⟨⟨by rw [(x1 1).1]; exact h1, by rw [x2 14 (by decide)]; exact h2⟩, by rw [(x1 5).1]; exact h3, ?_, h5⟩
  unfold TKS
  rw [x2 15 (by decide), x2 16 (by decide), x2 17 (by decide)]
  exact h4
theorem CW_X {u : wo} {s : st} (h : CW w b L T s) {m : Nat} (x : eX m w u) (hm : 77 ≤ m) : CW u b L T s := by
  have x1 := (x.1 13 (by omega)).1
  have x2 := fun a (ha : a < 77) => (x.1 a (by omega)).2.1
  obtain ⟨w1, w2, w3, w4, ⟨w5, w6⟩, w7, w8⟩ := h
  refine ⟨CK_X w1 x hm, by rw [(x1 6).1]; exact w2, by rw [(x1 13).1]; exact w3, by rw [(x1 10).1]; exact w4, ⟨by rw [(x1 12).1]; exact w5, by rw [x2 19 (by decide)]; exact w6⟩, ?_, by rw [(x1 9).1]; exact w8⟩
  unfold SPk
  rw [(x1 8).1, x2 18 (by decide)]
  exact w7
theorem c66 (h77 : 77 ≤ wn w) {n : Nat} (hn : n ≤ 300) : am_F sc 66 [am_R (some 18), am_I (ii n)] (wst w) = some (some (am_R (some (wn w))), wst (uA (uN w (1, 0, n) n) (wn w) (fun j => if 0 ≤ j ∧ j < n then wA w 18 j else 0))) := by
  have e1 := nwA_wst (w := w) (t := 0) (n := n) h77 (by omega)
  have x18 : wA (uN w (1, 0, n) n) 18 = wA w 18 := uN_A w _ _ (by omega)
  have hs : shp (uN w (1, 0, n) n) (wn w) = some (1, 0, n) := by rw [shp_hi h77, uN_Sn]
  have e2 := cp_wst (w := uN w (1, 0, n) n) (a0 := 18) (a := wn w) (t := 0) (n0 := 400) (n1 := n) (n := n) rfl hs (by decide) (by omega) (Nat.le_refl _) (by omega) (.inl rfl)
  rw [x18, uN_An] at e2
  have hmin : am_minI (Int32.ofNat 400) (ii n) = ii n := by
    have := minI_ii (a := 400) (b := n) (by decide) (by decide) (by omega) (by omega)
    rw [if_pos (by omega)] at this
    exact this
  have hne : ¬ ii n = Int32.ofNat 400 := fun y => by
    have y : ii n = ii 400 := y
    rw [ii_eq (by omega) (by omega) (by omega) (by omega)] at y
    omega
  have hl : am_len (wst (uN w (1, 0, n) n)) 18 = some 400 := len_of (t := 0) rfl
  rw [fq_66, qB_s, len_18, qB_s, qI_f hne, e1, qB_s, qB_s, hl, qB_s, qB_s, hmin]
  have e2 : am_cp (wst (uN w (1, 0, n) n)) 18 (0 : Int32) (wn w) (0 : Int32) (ii n) = _ := e2
  rw [e2, qB_s]
/-- a test is made -/
theorem c68c (hT : TT b L T) {s : st} (hW : CW w b L T s) (hn : s.2.2.2.1 ≤ 300) (h77 : 77 ≤ wn w) {x : Int} {i : Nat} (hxi : (x = 0 ∧ i ≤ 400) ∨ i = 401) : ∃ u, am_W sc 68 (24, [some (am_R (some 13)), some (am_I (ii x)), some (am_I (ii i)), none], [], wst w) = some (some (am_R (some (wn w))), wst u) ∧ eX (wn w) w u ∧ wn u = wn w + 2 ∧ wl u = wl w + 2 + s.2.2.2.1 ∧ TN u (wn w) s.2.2.2 := by
  obtain ⟨w1, w2, w3, w4, ⟨w5, w6⟩, w7, w8⟩ := hW
  obtain ⟨p, hp⟩ : ∃ p, p = wn w := ⟨_, rfl⟩
  obtain ⟨v1, hv1⟩ : ∃ v, v = uN w (0, 9, 0) 2 := ⟨_, rfl⟩
  have n1 : wn v1 = p + 1 := by rw [hv1, uN_n, hp]
  have l1 : wl v1 = wl w + 2 := by rw [hv1, uN_l]
  have x1 : eX p w v1 := by rw [hv1]; exact eX_N (by omega) _ _
  have al : am_al (wst w) (.inr (9, am_dfs.getD 9 [])) (am_dfs.getD 9 []).length = wst v1 := by rw [hv1]; exact al_wst h77 rfl
  have s1 : wS v1 p = some (0, 9, 0) := by rw [hv1, hp, uN_Sn]
  have y8 : wI v1 13 8 = s.2.2.2.1 := by rw [((x1.1 13 (by omega)).1 8).1]; exact w7.1
  have y9 : wI v1 13 9 = wI w 13 9 := ((x1.1 13 (by omega)).1 9).1
  have y13 : wI v1 13 13 = 0 := by rw [((x1.1 13 (by omega)).1 13).1]; exact w3
  have yA : wA v1 18 = wA w 18 := (x1.1 18 (by omega)).2.1
  have e66 := c66 (sc := sc) (w := v1) (by omega) hn
  obtain ⟨v2, hv2⟩ : ∃ v, v = uA (uN v1 (1, 0, s.2.2.2.1) s.2.2.2.1) (wn v1) (fun j => if 0 ≤ j ∧ j < s.2.2.2.1 then wA v1 18 j else 0) := ⟨_, rfl⟩
  rw [← hv2, n1] at e66
  have n2 : wn v2 = p + 2 := by rw [hv2]; show wn v1 + 1 = _; omega
  have l2 : wl v2 = wl w + 2 + s.2.2.2.1 := by rw [hv2]; show wl v1 + s.2.2.2.1 = _; omega
  have x2 : eX (p + 1) v1 v2 := by
    rw [hv2]
    exact eX_t (eX_N (by omega) _ _) (eX_A (by omega) _)
  have z9 : wI v2 13 9 = wI w 13 9 := by rw [((x2.1 13 (by omega)).1 9).1, y9]
  have s2 : wS v2 p = some (0, 9, 0) := by rw [(x2.1 p (by omega)).2.2.2.2, s1]
  have sp2 : shp v2 p = some (0, 9, 0) := by rw [shp_hi (by omega), s2]
  have r1 : am_pf (wst v2) p 9 0 (am_R (some (p + 1))) = some (wst (uF v2 p 0 (some (p + 1)))) := pR_of (by omega) sp2 rfl
  have sp3 : shp (uF v2 p 0 (some (p + 1))) p = some (0, 9, 0) := by rw [shp_hi (by omega)]; exact s2
  have r2 : am_pf (wst (uF v2 p 0 (some (p + 1)))) p 9 1 (am_I (ii (wI w 13 9))) = some (wst (uI (uF v2 p 0 (some (p + 1))) p 1 (wI w 13 9))) := pI_of sp3 rfl
  have e67 : am_F sc 67 [am_R (some p), am_R (some (p + 1)), am_I (ii (wI w 13 9))] (wst v2) = some (none, wst (uI (uF v2 p 0 (some (p + 1))) p 1 (wI w 13 9))) := by
    rw [fq_67, r1, qB_s, r2, qB_s]
  have h21 : (wst w).2.1 = p := by rw [hp]; rfl
  have g7 : am_gR (wst v1) 13 6 7 = some (some 18) := gR_13_7 v1
  have g8 : am_gI (wst v1) 13 6 8 = some (ii s.2.2.2.1) := by rw [gI_13_8, y8]
  have g9 : am_gI (wst v2) 13 6 9 = some (ii (wI w 13 9)) := by rw [gI_13_9, z9]
  have g13 : am_gI (wst w) 13 6 13 = some (ii 0) := by rw [gI_13_13, w3]
  rw [← hp]
  refine ⟨uI (uF v2 p 0 (some (p + 1))) p 1 (wI w 13 9), ?_, eX_t (eX_t (eX_t x1 (eX_le x2 (by omega))) (eX_F (Nat.le_refl _) _ _)) (eX_I (Nat.le_refl _) _ _), n2, l2, ⟨s2, if_pos ⟨rfl, rfl⟩, ?_, fun k hk => ?_⟩, ?_⟩
  · rw [wq_68_24]
    rcases hxi with ⟨a1, a2⟩ | a1
    · subst a1
      simp (disch := omega) only [qB_s, qC_t, qC_f, qI_T, qI_F, qI_t, qI_f, r_I, r_L, r_R, r_V, ii_add, ii_sub, ii_mul, ii_neg, bz_0, bz_1, Bool.true_and, Bool.false_and, Bool.and_true, z00, z11, li_0, li_1, li_17, li_3, li_400, li_6, li_91, gI_13_13, gI_13_9, is_13, pI_13_10, pI_13_12, pI_13_8, pI_13_9, ii_lt, g13, al, g7, g8, e66, g9, h21, e67]
    · subst a1
      simp (disch := omega) only [qB_s, qC_t, qC_f, qI_T, qI_F, qI_t, qI_f, r_I, r_L, r_R, r_V, ii_add, ii_sub, ii_mul, ii_neg, bz_0, bz_1, Bool.true_and, Bool.false_and, Bool.and_true, z00, z11, li_0, li_1, li_17, li_3, li_400, li_6, li_91, gI_13_13, gI_13_9, is_13, pI_13_10, pI_13_12, pI_13_8, pI_13_9, ii_lt, Int.cast_ofNat_Int, g13, al, g7, g8, e66, g9, h21, e67]
  · show wS v2 (p + 1) = _
    rw [hv2]
    show wS (uN v1 (1, 0, s.2.2.2.1) s.2.2.2.1) (p + 1) = _
    rw [← n1, uN_Sn]
  · show wA v2 (p + 1) k = _
    rw [hv2, n1, rA, if_pos ⟨by omega, by omega⟩, yA]
    exact w7.2 k hk
  · rw [rI]
    exact w8
theorem c68e {c : Int} {N : Nat} (h : CX w b L T c N) {x : Int} {i : Nat} (hi : i ≤ 401) : am_W sc 68 (24, [some (am_R (some 13)), some (am_I (ii x)), some (am_I (ii i)), none], [], wst w) = some (some (am_R none), wst w) := by
  obtain ⟨h1, h2, h3, -⟩ := h
  rw [wq_68_24]
  by_cases z : 400 < i
  · simp (disch := omega) only [qB_s, qC_t, qC_f, qI_T, qI_F, qI_t, qI_f, r_I, r_L, r_R, r_V, ii_add, ii_sub, ii_mul, ii_neg, bz_0, bz_1, Bool.true_and, Bool.false_and, Bool.and_true, z00, z11, li_0, li_1, li_17, li_3, li_400, li_6, li_91, gI_13_13, gI_13_9, is_13, pI_13_10, pI_13_12, pI_13_8, pI_13_9, ii_lt, ii_eq, h2]
  · simp (disch := omega) only [qB_s, qC_t, qC_f, qI_T, qI_F, qI_t, qI_f, r_I, r_L, r_R, r_V, ii_add, ii_sub, ii_mul, ii_neg, bz_0, bz_1, Bool.true_and, Bool.false_and, Bool.and_true, z00, z11, li_0, li_1, li_17, li_3, li_400, li_6, li_91, gI_13_13, gI_13_9, is_13, pI_13_10, pI_13_12, pI_13_8, pI_13_9, ii_lt, ii_eq, h2]
def C8 (w u : wo) (b : Nat → Int) (L T : Nat) (p : Option Nat) (r : Sum Int st) : Prop := match r with
  | .inl c => p = none ∧ fr lR w u ∧ CX u b L T c 600
  | .inr s => p = some (wn w) ∧ ∃ v, fr lR w v ∧ CW v b L T s ∧ eX (wn w) v u ∧ wn u = wn w + 2 ∧ wl u = wl w + 2 + s.2.2.2.1 ∧ TN u (wn w) s.2.2.2
theorem C8_fr {w v u : wo} {p : Option Nat} {r : Sum Int st} (f : fr lR w v) (h : C8 v u b L T p r) : C8 w u b L T p r := by
  cases r with
  | inl c =>
    obtain ⟨h1, h2, h3⟩ := h
    exact ⟨h1, fr_t f h2, h3⟩
  | inr s =>
    obtain ⟨h1, x, h2, h3, h4, h5, h6, h7⟩ := h
    rw [fr_n f] at h1 h4 h5 h7
    rw [fr_l f] at h6
    exact ⟨h1, x, fr_t f h2, h3, h4, h5, h6, h7⟩
theorem c68l (hT : TT b L T) : ∀ (d i : Nat) (w : wo) (s : st), i + d = 401 → 77 ≤ wn w → CW w b L T s → aI b T 0 0 0 s → ∃ (u : wo) (p : Option Nat), am_W sc 68 (24, [some (am_R (some 13)), some (am_I (ii 1)), some (am_I (ii i)), none], [], wst w) = some (some (am_R p), wst u) ∧ C8 w u b L T p (aTsL b d s)
  | 0, i, w, s, hd, h77, hW, hI => by
    have hn := aI_n hT hI (Int.le_refl _)
    obtain ⟨u, k1, k2, k3, k4, k5⟩ := c68c (sc := sc) hT hW (by omega) h77 (x := 1) (i := i) (.inr (by omega))
    exact ⟨u, _, k1, rfl, w, fr_r _ _, hW, k2, k3, k4, k5⟩
  | d + 1, i, w, s, hd, h77, hW, hI => by
    have hn := aI_n hT hI (Int.le_refl _)
    have h54 := c54 (sc := sc) hT hW.1 hW.2.1 (by omega)
    have hk := tK_r hT.1 s.1
    have w3 := hW.2.2.1
    have opn : ∀ k : Int, (k = 6 ∧ tK b s.1 = 17) ∨ (k = 3 ∧ tK b s.1 = 91) → aTsL b (d + 1) s = bd (aOpn b k s) (aTsL b d) → (∀ u1, am_F sc 57 [am_R (some 13), am_I (ii k)] (wst w) = some (none, wst u1) → am_W sc 68 (24, [some (am_R (some 13)), some (am_I (ii 1)), some (am_I (ii i)), none], [], wst w) = am_W sc 68 (24, [some (am_R (some 13)), some (am_I (ii 1)), some (am_I (ii ((i + 1 : Nat) : Int))), none], [], wst u1)) → ∃ (u : wo) (p : Option Nat), am_W sc 68 (24, [some (am_R (some 13)), some (am_I (ii 1)), some (am_I (ii i)), none], [], wst w) = some (some (am_R p), wst u) ∧ C8 w u b L T p (aTsL b (d + 1) s) := fun k hkk hu hs => by
      obtain ⟨u1, k1, k2, k3⟩ := c57 (sc := sc) hT hW hI (Int.le_refl _) (k := k)
      rw [hs u1 k1, hu]
      revert k3
      cases hr : aOpn b k s with
      | inl c =>
        intro k3
        have k3 : CX u1 b L T c 500 := k3
        exact ⟨u1, none, c68e k3 (by omega), rfl, k2, CX_m k3 (by omega)⟩
      | inr s1 =>
        intro k3
        obtain ⟨a1, a2⟩ := aOpn_I hT hI hkk hr
        obtain ⟨u, p, m1, m2⟩ := c68l hT d (i + 1) u1 s1 (by omega) (by rw [fr_n k2]; exact h77) k3 a1
        exact ⟨u, p, m1, C8_fr k2 m2⟩
    by_cases y1 : tK b s.1 = 17
    · refine opn 6 (.inl ⟨rfl, y1⟩) (if_pos y1) (fun u1 k1 => ?_)
      rw [wq_68_24, nat_1]
      simp (disch := omega) only [qB_s, qC_t, qC_f, qI_T, qI_F, qI_t, qI_f, r_I, r_L, r_R, r_V, ii_add, ii_sub, ii_mul, ii_neg, bz_0, bz_1, Bool.true_and, Bool.false_and, Bool.and_true, z00, z11, li_0, li_1, li_17, li_3, li_400, li_6, li_91, gI_13_13, gI_13_9, is_13, pI_13_10, pI_13_12, pI_13_8, pI_13_9, ii_lt, ii_eq, w3, h54, k1]
    · by_cases y2 : tK b s.1 = 91
      · refine opn 3 (.inr ⟨rfl, y2⟩) (by
          show (if tK b s.1 = 17 then _ else _) = _
          rw [if_neg y1, if_pos y2]) (fun u1 k1 => ?_)
        rw [wq_68_24, nat_1]
        simp (disch := omega) only [qB_s, qC_t, qC_f, qI_T, qI_F, qI_t, qI_f, r_I, r_L, r_R, r_V, ii_add, ii_sub, ii_mul, ii_neg, bz_0, bz_1, Bool.true_and, Bool.false_and, Bool.and_true, z00, z11, li_0, li_1, li_17, li_3, li_400, li_6, li_91, gI_13_13, gI_13_9, is_13, pI_13_10, pI_13_12, pI_13_8, pI_13_9, ii_lt, ii_eq, w3, h54, k1]
      · have eA : aTsL b (d + 1) s = bd (aCmp b s) fun s1 => bd (aBeh b s1) fun z => bif z.1 then aTsL b d z.2 else .inr z.2 := by
          show (if tK b s.1 = 17 then _ else _) = _
          rw [if_neg y1, if_neg y2]
        rw [eA]
        obtain ⟨u1, k1, k2, k3⟩ := c63 (sc := sc) hT hW hI (Int.le_refl _)
        have go : ∀ (u2 : wo) (x : Int), am_F sc 65 [am_R (some 13)] (wst u1) = some (some (am_I (ii x)), wst u2) → am_W sc 68 (24, [some (am_R (some 13)), some (am_I (ii 1)), some (am_I (ii i)), none], [], wst w) = am_W sc 68 (24, [some (am_R (some 13)), some (am_I (ii x)), some (am_I (ii ((i + 1 : Nat) : Int))), none], [], wst u2) := fun u2 x k4 => by
          rw [wq_68_24, nat_1]
          simp (disch := omega) only [qB_s, qC_t, qC_f, qI_T, qI_F, qI_t, qI_f, r_I, r_L, r_R, r_V, ii_add, ii_sub, ii_mul, ii_neg, bz_0, bz_1, Bool.true_and, Bool.false_and, Bool.and_true, z00, z11, li_0, li_1, li_17, li_3, li_400, li_6, li_91, gI_13_13, gI_13_9, is_13, pI_13_10, pI_13_12, pI_13_8, pI_13_9, ii_lt, ii_eq, w3, h54, k1, k4]
        revert k3
        cases hr : aCmp b s with
        | inl c =>
          intro k3
          have k3 : CX u1 b L T c 510 := k3
          obtain ⟨u2, x, m1, m2, m3⟩ := c65x (sc := sc) hT k3 (by omega)
          exact ⟨u2, none, by rw [go u2 x m1]; exact c68e m3 (by omega), rfl, fr_t k2 m2, CX_m m3 (by omega)⟩
        | inr s1 =>
          intro k3
          have k3 : CW u1 b L T s1 := k3
          obtain ⟨a1, a2, a3⟩ := aCmp_I hT hI hr
          obtain ⟨u2, x, m1, m2, m3⟩ := c65 (sc := sc) hT k3 a1 (Int.le_refl _)
          rw [go u2 x m1]
          show ∃ u p, _ ∧ C8 w u b L T p (bd (aBeh b s1) fun z => bif z.1 then aTsL b d z.2 else .inr z.2)
          revert m3
          cases hr2 : aBeh b s1 with
          | inl c =>
            intro m3
            have m3 : CX u2 b L T c 500 := m3
            exact ⟨u2, none, c68e m3 (by omega), rfl, fr_t k2 m2, CX_m m3 (by omega)⟩
          | inr z =>
            intro m3
            obtain ⟨g, s2⟩ := z
            have m3 : x = bz (g = true) ∧ CW u2 b L T s2 := m3
            obtain ⟨m3, m4⟩ := m3
            have hb := aBhL_I hT 400 _ s2 g (aStl_I (k := 6) (by decide) a1).1 hr2
            have f2 : fr lR w u2 := fr_t k2 m2
            cases g with
            | true =>
              rw [bz_tt] at m3
              subst m3
              obtain ⟨u, p, n1, n2⟩ := c68l hT d (i + 1) u2 s2 (by omega) (by rw [fr_n f2]; exact h77) m4 (hb.1 rfl).1
              exact ⟨u, p, n1, C8_fr f2 n2⟩
            | false =>
              rw [bz_ff] at m3
              subst m3
              have hn2 := aI_n hT (hb.2 rfl).1 (Int.le_refl _)
              obtain ⟨u, n1, n2, n3, n4, n5⟩ := c68c (sc := sc) hT m4 (by omega) (by rw [fr_n f2]; exact h77) (x := 0) (i := i + 1) (by omega)
              refine ⟨u, _, n1, C8_fr f2 ⟨rfl, u2, fr_r _ _, m4, n2, n3, n4, n5⟩⟩
def CQ (w : wo) (b : Nat → Int) (L T : Nat) (j : Nat) : Prop := CK w b L T ∧ wI w 13 6 = j ∧ wI w 13 13 = 0
def CY (w : wo) (b : Nat → Int) (L T : Nat) (c : Int) (N : Nat) : Prop := CK w b L T ∧ wI w 13 13 = c ∧ (1 ≤ c ∧ c ≤ 10000) ∧ ∃ j : Nat, wI w 13 6 = j ∧ j ≤ N
theorem CY_X {c : Int} {N : Nat} (h : CX w b L T c N) : CY w b L T c N := ⟨h.1, h.2.1, h.2.2.1, h.2.2.2.1⟩
theorem CQ_W {s : st} (h : CW w b L T s) : CQ w b L T s.1 := ⟨h.1, h.2.1, h.2.2.1⟩
theorem c68 (hT : TT b L T) {j : Nat} (hj : j ≤ T) (h77 : 77 ≤ wn w) (hQ : CQ w b L T j) : ∃ (u : wo) (p : Option Nat), am_F sc 68 [am_R (some 13)] (wst w) = some (some (am_R p), wst u) ∧ C8 w u b L T p (aTst b j) := by
  obtain ⟨q1, q2, q3⟩ := hQ
  obtain ⟨v, hv⟩ : ∃ v, v = uI (uI (uI (uI w 13 8 0) 13 9 0) 13 10 0) 13 12 0 := ⟨_, rfl⟩
  have f1 : fr lR w v := by
    rw [hv]
    exact fr_uI (fr_uI (fr_uI (fr_uI (fr_r _ _) rfl) rfl) rfl) rfl
  have hW : CW v b L T (j, 0, [], 0, fun _ => 0, fun _ => 0) := by
    refine ⟨CK_R q1 f1, by rw [hv]; exact q2, by rw [hv]; exact q3, by rw [hv]; rfl, ⟨by rw [hv]; rfl, trivial⟩, ⟨by rw [hv]; rfl, fun k hk => absurd hk (Nat.not_lt_zero k)⟩, ⟨by rw [hv]; exact ⟨Int.le_refl _, (by decide : (0 : Int) < 64)⟩, fun k x hk => absurd hk (Nat.not_lt_zero k)⟩⟩
  obtain ⟨u, p, k1, k2⟩ := c68l (sc := sc) hT 401 0 v _ (Nat.zero_add 401) (by rw [fr_n f1]; exact h77) hW (aTst_0 hj)
  have k1 : am_W sc 68 (24, [some (am_R (some 13)), some (am_I (ii 1)), some (am_I (ii 0)), none], [], wst v) = _ := k1
  refine ⟨u, p, ?_, C8_fr f1 k2⟩
  rw [fq_68]
  simp (disch := omega) only [qB_s, qC_t, qC_f, qI_T, qI_F, qI_t, qI_f, r_I, r_L, r_R, r_V, ii_add, ii_sub, ii_mul, ii_neg, bz_0, bz_1, Bool.true_and, Bool.false_and, Bool.and_true, z00, z11, li_0, li_1, li_17, li_3, li_400, li_6, li_91, gI_13_13, gI_13_9, is_13, pI_13_10, pI_13_12, pI_13_8, pI_13_9, ← hv, k1]
def CN (w : wo) (b : Nat → Int) (L T : Nat) (j : Nat) (v : Int) (r : Sum Int Int) : Prop := match r with
  | .inl c => CY w b L T c (j + 1)
  | .inr n => v = n ∧ CQ w b L T (j + 1)
theorem CY_n {c : Int} {N : Nat} {u : wo} (h : CY w b L T c N) (f : fr lR w u) (h13 : wI u 13 13 = wI w 13 13) (h6 : wI u 13 6 = wI w 13 6 + 1) : CY u b L T c (N + 1) := by
  obtain ⟨h1, h2, h3, j, h4, h5⟩ := h
  exact ⟨CK_R h1 f, by rw [h13, h2], h3, j + 1, by rw [h6, h4, nat_1], by omega⟩
theorem CY_f (hT : TT b L T) {j : Nat} (h : CQ w b L T j) {c : Int} (hc : 0 ≤ c ∧ c ≤ 7) : fr lR w (uI w 13 13 (fl b j c)) ∧ CY (uI w 13 13 (fl b j c)) b L T (fl b j c) j := by
  have f : fr lR w (uI w 13 13 (fl b j c)) := fr_uI (fr_r _ _) rfl
  exact ⟨f, CK_R h.1 f, rI _ _ _ _, fl_r hT j hc.1 hc.2, j, h.2.1, Nat.le_refl _⟩
theorem c69 (hT : TT b L T) {j : Nat} (hj : j ≤ 1000) (h : CQ w b L T j) {lo hi : Int} (h0 : 0 ≤ lo ∧ lo ≤ 1000) (h1 : 0 ≤ hi ∧ hi ≤ 1000) : ∃ (u : wo) (v : Int), am_F sc 69 [am_R (some 13), am_I (ii lo), am_I (ii hi)] (wst w) = some (some (am_I (ii v)), wst u) ∧ fr lR w u ∧ CN u b L T j v (aNum b lo hi j) := by
  obtain ⟨q1, q2, q3⟩ := id h
  have h54 := c54 (sc := sc) hT q1 q2 (by omega)
  obtain ⟨v, e1, e2⟩ := c58 (sc := sc) hT q1 q2 (by omega)
  have b55 := fun c => c55 (sc := sc) hT q1 q2 (by omega) q3 (c := c)
  have hv := tVl_r hT.1 j
  have hk := tK_r hT.1 j
  have bad : ∀ c, 0 ≤ c ∧ c ≤ 7 → fr lR w (uI (uI w 13 13 (fl b j c)) 13 6 (j + 1)) ∧ CY (uI (uI w 13 13 (fl b j c)) 13 6 (j + 1)) b L T (fl b j c) (j + 1) := fun c hc => by
    obtain ⟨f1, y1⟩ := CY_f hT h hc
    have f2 : fr lR (uI w 13 13 (fl b j c)) (uI (uI w 13 13 (fl b j c)) 13 6 (j + 1)) := fr_uI (fr_r _ _) rfl
    refine ⟨fr_t f1 f2, CY_n y1 f2 rfl ?_⟩
    rw [rI]
    show _ = wI w 13 6 + 1
    rw [q2]
  have n6 : ∀ c, wI (uI w 13 13 (fl b j c)) 13 6 = j := fun c => q2
  unfold aNum
  by_cases y1 : tK b j = 200
  · rw [if_pos y1]
    have e2 := e2 y1
    subst e2
    by_cases y2 : tVl b j < lo ∨ hi < tVl b j
    · rw [if_pos y2]
      obtain ⟨f1, f2⟩ := bad 1 ⟨by decide, by decide⟩
      refine ⟨_, tVl b j, ?_, f1, f2⟩
      rw [fq_69]
      by_cases y3 : tVl b j < lo
      · simp (disch := omega) only [qB_s, qC_t, qC_f, qI_T, qI_F, qI_t, qI_f, r_I, r_L, r_R, r_V, ii_add, ii_sub, ii_mul, ii_neg, bz_0, bz_1, Bool.true_and, Bool.false_and, Bool.and_true, z00, z11, li_0, li_1, li_200, gI_13_6, is_13, pI_13_6, ii_lt, ii_eq, h54, e1, b55, n6]
      · simp (disch := omega) only [qB_s, qC_t, qC_f, qI_T, qI_F, qI_t, qI_f, r_I, r_L, r_R, r_V, ii_add, ii_sub, ii_mul, ii_neg, bz_0, bz_1, Bool.true_and, Bool.false_and, Bool.and_true, z00, z11, li_0, li_1, li_200, gI_13_6, is_13, pI_13_6, ii_lt, ii_eq, h54, e1, b55, n6]
    · rw [if_neg y2]
      have f2 : fr lR w (uI w 13 6 (j + 1)) := fr_uI (fr_r _ _) rfl
      refine ⟨uI w 13 6 (j + 1), tVl b j, ?_, f2, rfl, CK_R q1 f2, by rw [rI, nat_1], q3⟩
      rw [fq_69]
      simp (disch := omega) only [qB_s, qC_t, qC_f, qI_T, qI_F, qI_t, qI_f, r_I, r_L, r_R, r_V, ii_add, ii_sub, ii_mul, ii_neg, bz_0, bz_1, Bool.true_and, Bool.false_and, Bool.and_true, z00, z11, li_0, li_1, li_200, gI_13_6, is_13, pI_13_6, ii_lt, ii_eq, h54, e1, q2]
  · rw [if_neg y1]
    obtain ⟨f1, f2⟩ := bad 0 ⟨by decide, by decide⟩
    refine ⟨_, v, ?_, f1, f2⟩
    rw [fq_69]
    simp (disch := omega) only [qB_s, qC_t, qC_f, qI_T, qI_F, qI_t, qI_f, r_I, r_L, r_R, r_V, ii_add, ii_sub, ii_mul, ii_neg, bz_0, bz_1, Bool.true_and, Bool.false_and, Bool.and_true, z00, z11, li_0, li_1, li_200, gI_13_6, is_13, pI_13_6, ii_lt, ii_eq, h54, e1, b55, n6]
theorem c69x (hT : TT b L T) {c : Int} {N : Nat} (h : CY w b L T c N) (hN : N ≤ 2000) {lo hi : Int} (h0 : 0 ≤ lo ∧ lo ≤ 1000) (h1 : 0 ≤ hi ∧ hi ≤ 1000) : ∃ (u : wo) (v : Int), am_F sc 69 [am_R (some 13), am_I (ii lo), am_I (ii hi)] (wst w) = some (some (am_I (ii v)), wst u) ∧ fr lR w u ∧ CY u b L T c (N + 1) := by
  obtain ⟨q1, q2, q3, j, q4, q5⟩ := id h
  have h54 := c54 (sc := sc) hT q1 q4 (by omega)
  obtain ⟨v, e1, e2⟩ := c58 (sc := sc) hT q1 q4 (by omega)
  have b55 := fun x => c55x (sc := sc) q2 q3 (x := x)
  have hv := tVl_r hT.1 j
  have hk := tK_r hT.1 j
  have f2 : fr lR w (uI w 13 6 (j + 1)) := fr_uI (fr_r _ _) rfl
  refine ⟨uI w 13 6 (j + 1), v, ?_, f2, CY_n h f2 rfl (by rw [rI, q4])⟩
  rw [fq_69]
  by_cases y1 : tK b j = 200
  · have e2 := e2 y1
    subst e2
    by_cases y2 : tVl b j < lo
    · simp (disch := omega) only [qB_s, qC_t, qC_f, qI_T, qI_F, qI_t, qI_f, r_I, r_L, r_R, r_V, ii_add, ii_sub, ii_mul, ii_neg, bz_0, bz_1, Bool.true_and, Bool.false_and, Bool.and_true, z00, z11, li_0, li_1, li_200, gI_13_6, is_13, pI_13_6, ii_lt, ii_eq, h54, e1, b55, q4]
    · by_cases y3 : hi < tVl b j
      · simp (disch := omega) only [qB_s, qC_t, qC_f, qI_T, qI_F, qI_t, qI_f, r_I, r_L, r_R, r_V, ii_add, ii_sub, ii_mul, ii_neg, bz_0, bz_1, Bool.true_and, Bool.false_and, Bool.and_true, z00, z11, li_0, li_1, li_200, gI_13_6, is_13, pI_13_6, ii_lt, ii_eq, h54, e1, b55, q4]
      · simp (disch := omega) only [qB_s, qC_t, qC_f, qI_T, qI_F, qI_t, qI_f, r_I, r_L, r_R, r_V, ii_add, ii_sub, ii_mul, ii_neg, bz_0, bz_1, Bool.true_and, Bool.false_and, Bool.and_true, z00, z11, li_0, li_1, li_200, gI_13_6, is_13, pI_13_6, ii_lt, ii_eq, h54, e1, b55, q4]
  · simp (disch := omega) only [qB_s, qC_t, qC_f, qI_T, qI_F, qI_t, qI_f, r_I, r_L, r_R, r_V, ii_add, ii_sub, ii_mul, ii_neg, bz_0, bz_1, Bool.true_and, Bool.false_and, Bool.and_true, z00, z11, li_0, li_1, li_200, gI_13_6, is_13, pI_13_6, ii_lt, ii_eq, h54, e1, b55, q4]
def aM0 (b : Nat → Int) (nm : Int) (j : Nat) : Sum Int Int := if tK b j < 6 then (if bt nm (tK b j) = 1 then .inl (fl b j 4) else .inr (tK b j)) else .inl (fl b j 0)
theorem c70 (hT : TT b L T) {j : Nat} (hj : j ≤ 1000) (h : CQ w b L T j) {nm : Int} (h0 : 0 ≤ nm ∧ nm < 64) : ∃ (u : wo) (v : Int), am_F sc 70 [am_R (some 13), am_I (ii nm)] (wst w) = some (some (am_I (ii v)), wst u) ∧ fr lR w u ∧ CN u b L T j v (aM0 b nm j) := by
  obtain ⟨q1, q2, q3⟩ := id h
  have h54 := c54 (sc := sc) hT q1 q2 (by omega)
  have b55 := fun c => c55 (sc := sc) hT q1 q2 (by omega) q3 (c := c)
  have hk := tK_r hT.1 j
  have h20 := s20 (sc := sc) (w := w) (x := tK b j) (by omega) (by omega)
  have n6 : ∀ c, wI (uI w 13 13 (fl b j c)) 13 6 = j := fun c => q2
  unfold aM0
  by_cases y1 : tK b j < 6
  · rw [if_pos y1]
    rw [bz_t ⟨hk.1, y1⟩] at h20
    have hb := bt_ran nm (tK b j)
    by_cases y2 : bt nm (tK b j) = 1
    · rw [if_pos y2]
      obtain ⟨f1, z1⟩ := CY_f hT h (c := 4) ⟨by decide, by decide⟩
      have f2 : fr lR (uI w 13 13 (fl b j 4)) (uI (uI w 13 13 (fl b j 4)) 13 6 (j + 1)) := fr_uI (fr_r _ _) rfl
      refine ⟨uI (uI w 13 13 (fl b j 4)) 13 6 (j + 1), tK b j, ?_, fr_t f1 f2, CY_n z1 f2 rfl ?_⟩
      · rw [fq_70]
        simp (disch := omega) only [qB_s, qC_t, qC_f, qI_T, qI_F, qI_t, qI_f, r_I, r_L, r_R, r_V, ii_add, ii_sub, ii_mul, ii_neg, bz_0, bz_1, Bool.true_and, Bool.false_and, Bool.and_true, z00, z11, li_0, li_1, li_31, li_4, gI_13_6, is_13, pI_13_6, ii_lt, ii_eq, h54, h20, bt_ii, y2, b55, n6]
      · rw [rI]
        show _ = wI w 13 6 + 1
        rw [q2]
    · rw [if_neg y2]
      have f2 : fr lR w (uI w 13 6 (j + 1)) := fr_uI (fr_r _ _) rfl
      refine ⟨uI w 13 6 (j + 1), tK b j, ?_, f2, rfl, CK_R q1 f2, by rw [rI, nat_1], q3⟩
      rw [fq_70]
      simp (disch := omega) only [qB_s, qC_t, qC_f, qI_T, qI_F, qI_t, qI_f, r_I, r_L, r_R, r_V, ii_add, ii_sub, ii_mul, ii_neg, bz_0, bz_1, Bool.true_and, Bool.false_and, Bool.and_true, z00, z11, li_0, li_1, li_31, li_4, gI_13_6, is_13, pI_13_6, ii_lt, ii_eq, h54, h20, bt_ii, q2]
  · rw [if_neg y1]
    rw [bz_f (by omega)] at h20
    obtain ⟨f1, h1, h2, h3, k, h4, h5⟩ := CY_f hT h (c := 0) ⟨by decide, by decide⟩
    refine ⟨uI w 13 13 (fl b j 0), 0, ?_, f1, h1, h2, h3, k, h4, by omega⟩
    rw [fq_70]
    simp (disch := omega) only [qB_s, qC_t, qC_f, qI_T, qI_F, qI_t, qI_f, r_I, r_L, r_R, r_V, ii_add, ii_sub, ii_mul, ii_neg, bz_0, bz_1, Bool.true_and, Bool.false_and, Bool.and_true, z00, z11, li_0, li_1, li_31, li_4, gI_13_6, is_13, pI_13_6, ii_lt, ii_eq, h54, h20, b55]
end L58
