/-! PAIRS IN THE CLASS -/
theorem sm_one {p q : Nat → Int} {m : Nat} : ∀ {n : Nat}, (∀ j, j < n → j ≠ m → q j = p j) → m < n → sm q n = sm p n + (q m - p m)
  | 0, _, h => absurd h (Nat.not_lt_zero m)
  | n + 1, h, hm => by
    rw [sm_s, sm_s]
    by_cases z : m = n
    · subst z
      rw [sm_c (f := q) (g := p) (fun j hj => h j (by omega) (by omega))]
      omega
    · rw [sm_one (n := n) (fun j hj => h j (by omega)) (by omega), h n (by omega) (by omega)]
      omega
theorem sm_ex0 {p : Nat → Int} : ∀ {n : Nat}, (∀ j, j < n → p j = 0 ∨ p j = 1) → sm p n < n → ∃ j, j < n ∧ p j = 0
  | 0, _, h => by
    have : sm p 0 = 0 := rfl
    omega
  | n + 1, h, hs => by
    rw [sm_s] at hs
    rcases h n (by omega) with q | q
    · exact ⟨n, by omega, q⟩
    · obtain ⟨j, hj, e⟩ := sm_ex0 (n := n) (fun j hj => h j (by omega)) (by omega)
      exact ⟨j, by omega, e⟩
theorem sm_le1 {p : Nat → Int} : ∀ {n : Nat}, (∀ j, j < n → p j = 0 ∨ p j = 1) → sm p n ≤ n
  | 0, _ => Int.le_refl _
  | n + 1, h => by
    have := sm_le1 (n := n) (fun j hj => h j (by omega))
    have := h n (by omega)
    rw [sm_s]
    omega
theorem sm_lt1 {p : Nat → Int} {m : Nat} : ∀ {n : Nat}, (∀ j, j < n → p j = 0 ∨ p j = 1) → m < n → p m = 0 → sm p n < n
  | 0, _, hm, _ => absurd hm (Nat.not_lt_zero m)
  | n + 1, h, hm, e => by
    rw [sm_s]
    have := h n (by omega)
    by_cases z : m = n
    · subst z
      have := sm_le1 (p := p) (n := m) (fun j hj => h j (by omega))
      omega
    · have := sm_lt1 (m := m) (n := n) (fun j hj => h j (by omega)) (by omega) e
      omega
/-- i rows have a column each, at prices -/
def gHA (C : Int → Int → Int) (u v r : Int → Int) (i : Int) : Prop := (∀ a b, 1 ≤ a → a ≤ 10 → 1 ≤ b → b ≤ 10 → u a + v b ≤ C a b) ∧ (∀ a, 1 ≤ a → a ≤ 10 → 0 ≤ u a) ∧ (∀ b, 1 ≤ b → b ≤ 10 → v b ≤ 0 ∧ 0 ≤ r b ∧ r b ≤ i ∧ (r b = 0 → v b = 0) ∧ (r b ≠ 0 → u (r b) + v b = C (r b) b)) ∧ (∀ b b', 1 ≤ b → b ≤ 10 → 1 ≤ b' → b' ≤ 10 → r b ≠ 0 → r b = r b' → b = b') ∧ sm (fun j => bz (r ((j : Int) + 1) ≠ 0)) 10 = i
theorem gHA_free {C : Int → Int → Int} {u v r : Int → Int} {i : Int} (h : gHA C u v r i) (hi : i < 10) : ∃ b, 1 ≤ b ∧ b ≤ 10 ∧ r b = 0 := by
  obtain ⟨j, hj, e⟩ := sm_ex0 (p := fun j : Nat => bz (r ((j : Int) + 1) ≠ 0)) (n := 10) (fun j _ => by unfold bz; split <;> omega) (by rw [h.2.2.2.2]; exact hi)
  refine ⟨(j : Int) + 1, by omega, by omega, ?_⟩
  by_cases q : r ((j : Int) + 1) = 0
  · exact q
  · have e : bz (r ((j : Int) + 1) ≠ 0) = 0 := e
    rw [bz_t q] at e
    omega
theorem gHA_0 {C : Int → Int → Int} {u v r : Int → Int} (hC : ∀ a b, 1 ≤ a → a ≤ 10 → 1 ≤ b → b ≤ 10 → 0 ≤ C a b ∧ C a b ≤ 100000) (hu : ∀ j, 0 ≤ j → j < 11 → u j = 0) (hv : ∀ j, 0 ≤ j → j < 11 → v j = 0) (hr : ∀ j, 0 ≤ j → j < 11 → r j = 0) : gHA C u v r 0 := by
  refine ⟨fun a b h1 h2 h3 h4 => ?_, fun a h1 h2 => ?_, fun b h1 h2 => ?_, fun b b' h1 h2 h3 h4 h5 => ?_, ?_⟩
  · have := hC a b h1 h2 h3 h4
    rw [hu a (by omega) (by omega), hv b (by omega) (by omega)]
    omega
  · rw [hu a (by omega) (by omega)]
    exact Int.le_refl _
  · have e := hr b (by omega) (by omega)
    have e2 := hv b (by omega) (by omega)
    refine ⟨by omega, by omega, by omega, fun _ => e2, fun q => absurd e q⟩
  · exact absurd (hr b (by omega) (by omega)) h5
  · have e : sm (fun j => bz (r ((j : Int) + 1) ≠ 0)) 10 = sm (fun _ => 0) 10 := sm_c (fun j hj => bz_f (fun q => q (hr _ (by omega) (by omega))))
    rw [e]
    rfl
/-- k columns are reached, col is next -/
def gHB (C : Int → Int → Int) (u v r : Int → Int) (i : Int) (k : Nat) (col : Int) (f s t tm : Int → Int) : Prop :=
  gHA C u v r (i - 1) ∧ r 0 = i ∧ (∀ b, 0 ≤ b → b ≤ 10 → (t b = 0 ∨ t b = 1) ∧ (t b = 1 → (b ≠ 0 → r b ≠ 0) ∧ 0 ≤ tm b ∧ tm b < k)) ∧ sm (fun j => t (j : Int)) 11 = k ∧ (0 ≤ col ∧ col ≤ 10 ∧ t col = 0) ∧ (k = 0 → col = 0 ∧ (∀ b, 0 ≤ b → b ≤ 10 → t b = 0) ∧ ∀ j, 1 ≤ j → j ≤ 10 → s j = 1000000000) ∧ (k ≠ 0 → (col ≠ 0 ∧ t 0 = 1 ∧ s col = 0) ∧ ∀ j, 1 ≤ j → j ≤ 10 → t j = 0 → (∀ b, 0 ≤ b → b ≤ 10 → t b = 1 → s j ≤ C (r b) j - u (r b) - v j) ∧ (0 ≤ f j ∧ f j ≤ 10 ∧ t (f j) = 1) ∧ s j = C (r (f j)) j - u (r (f j)) - v j) ∧ ∀ j, 1 ≤ j → j ≤ 10 → t j = 1 → (0 ≤ f j ∧ f j ≤ 10 ∧ t (f j) = 1) ∧ u (r (f j)) + v j = C (r (f j)) j ∧ tm (f j) < tm j
theorem gHB_0 {C : Int → Int → Int} {u v r r' s t f : Int → Int} {i : Int} (h : gHA C u v r (i - 1)) (hi1 : 1 ≤ i) (hi : i ≤ 10) (h0 : r' 0 = i) (hr : ∀ j, 1 ≤ j → j ≤ 10 → r' j = r j) (hs : ∀ j, 0 ≤ j → j < 11 → s j = 1000000000) (ht : ∀ j, 0 ≤ j → j < 11 → t j = 0) : gHB C u v r' i 0 0 f s t (fun _ => 0) := by
  obtain ⟨a1, a2, a3, a4, a5⟩ := h
  refine ⟨⟨a1, a2, fun b h1 h2 => ?_, fun b b' h1 h2 h3 h4 => ?_, ?_⟩, h0, fun b h1 h2 => ⟨Or.inl (ht b h1 (by omega)), fun q => ?_⟩, ?_, ⟨by omega, by omega, ht 0 (by omega) (by omega)⟩, fun _ => ⟨rfl, fun b h1 h2 => ht b h1 (by omega), fun j h1 h2 => hs j (by omega) (by omega)⟩, fun q => absurd rfl q, fun j h1 h2 q => ?_⟩
  · rw [hr b h1 h2]
    exact a3 b h1 h2
  · rw [hr b h1 h2, hr b' h3 h4]
    exact a4 b b' h1 h2 h3 h4
  · rw [← a5]
    exact sm_c (fun j hj => by rw [hr _ (by omega) (by omega)])
  · have := ht b h1 (by omega)
    omega
  · rw [sm_c (g := fun _ => 0) (fun j hj => ht _ (by omega) (by omega))]
    rfl
  · have := ht j (by omega) (by omega)
    omega
/-- what is reached has rows, each its own -/
theorem gHB_row {C : Int → Int → Int} {u v r : Int → Int} {i : Int} {k : Nat} {col : Int} {f s t tm : Int → Int} (h : gHB C u v r i k col f s t tm) (hi1 : 1 ≤ i) (hi : i ≤ 10) (hc : r col ≠ 0) : ∀ b, 0 ≤ b → b ≤ 10 → fu t col 1 b = 1 → (1 ≤ r b ∧ r b ≤ 10) ∧ ∀ b', 1 ≤ b' → b' ≤ 10 → r b = r b' → b = b' := by
  obtain ⟨⟨a1, a2, a3, a4, a5⟩, b1, b2, b3, b4, b5, b6, b7⟩ := h
  intro b h1 h2 ht
  have hb0 : b ≠ 0 → r b ≠ 0 := fun q => by
    rw [fu_at] at ht
    by_cases z : b = col
    · rw [z]; exact hc
    · rw [if_neg z] at ht
      exact ((b2 b h1 h2).2 ht).1 q
  by_cases z : b = 0
  · subst z
    refine ⟨by omega, fun b' h3 h4 q => ?_⟩
    have := a3 b' h3 h4
    omega
  · have := a3 b (by omega) h2
    have := hb0 z
    refine ⟨by omega, fun b' h3 h4 q => a4 b b' (by omega) h2 h3 h4 this q⟩
/-- the slack after a further column is reached -/
theorem gHB_sl {C : Int → Int → Int} {u v r : Int → Int} {i : Int} {k : Nat} {col : Int} {f s t tm : Int → Int} (h : gHB C u v r i k col f s t tm) (hC : ∀ a b, 1 ≤ a → a ≤ 10 → 1 ≤ b → b ≤ 10 → 0 ≤ C a b ∧ C a b ≤ 100000) (hi1 : 1 ≤ i) (hi : i ≤ 10) (hc : r col ≠ 0) {s1 f1 : Int → Int} (hs : ∀ j, 1 ≤ j → j ≤ 10 → fu t col 1 j = 0 → (C (r col) j - u (r col) - v j < s j → s1 j = C (r col) j - u (r col) - v j ∧ f1 j = col) ∧ (¬ C (r col) j - u (r col) - v j < s j → s1 j = s j ∧ f1 j = f j)) : ∀ j, 1 ≤ j → j ≤ 10 → fu t col 1 j = 0 → (∀ b, 0 ≤ b → b ≤ 10 → fu t col 1 b = 1 → s1 j ≤ C (r b) j - u (r b) - v j) ∧ (0 ≤ f1 j ∧ f1 j ≤ 10 ∧ fu t col 1 (f1 j) = 1) ∧ s1 j = C (r (f1 j)) j - u (r (f1 j)) - v j := by
  have hrow := gHB_row h hi1 hi hc
  obtain ⟨⟨a1, a2, a3, a4, a5⟩, b1, b2, b3, b4, b5, b6, b7⟩ := h
  intro j h1 h2 ht
  have hj := hs j h1 h2 ht
  have hcol := hrow col b4.1 b4.2.1 (by rw [fu_at, if_pos rfl])
  have ht' := ht
  rw [fu_at] at ht'
  have hjc : j ≠ col := fun z => by rw [if_pos z] at ht'; omega
  rw [if_neg hjc] at ht'
  by_cases q : C (r col) j - u (r col) - v j < s j
  · obtain ⟨e1, e2⟩ := hj.1 q
    rw [e1, e2]
    refine ⟨fun b k1 k2 k3 => ?_, ⟨b4.1, b4.2.1, by rw [fu_at, if_pos rfl]⟩, rfl⟩
    rw [fu_at] at k3
    by_cases z : b = col
    · rw [z]; exact Int.le_refl _
    · rw [if_neg z] at k3
      by_cases z2 : k = 0
      · have := (b5 z2).2.1 b k1 k2
        omega
      · have := ((b6 z2).2 j h1 h2 ht').1 b k1 k2 k3
        omega
  · obtain ⟨e1, e2⟩ := hj.2 q
    rw [e1, e2]
    have hk : k ≠ 0 := fun z => by
      have := (b5 z).2.2 j h1 h2
      have c1 := hC (r col) j hcol.1.1 hcol.1.2 h1 h2
      have c2 := a2 (r col) hcol.1.1 hcol.1.2
      have c3 := a3 j h1 h2
      by_cases z3 : r j = 0
      · have := c3.2.2.2.1 z3
        omega
      · have d1 := c3.2.2.2.2 z3
        have d2 := hC (r j) j (by omega) (by omega) h1 h2
        obtain ⟨b, k1, k2, k3⟩ := gHA_free ⟨a1, a2, a3, a4, a5⟩ (by omega)
        have d3 := a1 (r j) b (by omega) (by omega) k1 k2
        have d4 := hC (r j) b (by omega) (by omega) k1 k2
        have d5 := (a3 b k1 k2).2.2.2.1 k3
        omega
    obtain ⟨m1, ⟨m2, m3, m4⟩, m5⟩ := (b6 hk).2 j h1 h2 ht'
    refine ⟨fun b k1 k2 k3 => ?_, ⟨m2, m3, ?_⟩, m5⟩
    · rw [fu_at] at k3
      by_cases z : b = col
      · rw [z]; omega
      · rw [if_neg z] at k3
        exact m1 b k1 k2 k3
    · rw [fu_at]
      by_cases z : f j = col
      · rw [if_pos z]
      · rw [if_neg z]; exact m4
theorem gHB_up {C : Int → Int → Int} {u v r : Int → Int} {i : Int} {k : Nat} {col : Int} {f s t tm : Int → Int} (h : gHB C u v r i k col f s t tm) (hC : ∀ a b, 1 ≤ a → a ≤ 10 → 1 ≤ b → b ≤ 10 → 0 ≤ C a b ∧ C a b ≤ 100000) (hi1 : 1 ≤ i) (hi : i ≤ 10) (hc : r col ≠ 0) {s1 f1 : Int → Int} (hs : ∀ j, 1 ≤ j → j ≤ 10 → fu t col 1 j = 0 → (C (r col) j - u (r col) - v j < s j → s1 j = C (r col) j - u (r col) - v j ∧ f1 j = col) ∧ (¬ C (r col) j - u (r col) - v j < s j → s1 j = s j ∧ f1 j = f j)) (hf1 : ∀ j, 1 ≤ j → j ≤ 10 → fu t col 1 j = 1 → f1 j = f j) {near least : Int} (hn : 1 ≤ near ∧ near ≤ 10 ∧ fu t col 1 near = 0 ∧ s1 near = least ∧ ∀ j, 1 ≤ j → j ≤ 10 → fu t col 1 j = 0 → least ≤ s1 j) {u' v' s' : Int → Int} (hu1 : ∀ b, 0 ≤ b → b ≤ 10 → fu t col 1 b = 1 → u' (r b) = u (r b) + least) (hu2 : ∀ a, (∀ b, 0 ≤ b → b ≤ 10 → fu t col 1 b = 1 → r b ≠ a) → u' a = u a) (hv1 : ∀ b, 0 ≤ b → b ≤ 10 → fu t col 1 b = 1 → v' b = v b - least) (hv2 : ∀ b, 0 ≤ b → b ≤ 10 → fu t col 1 b = 0 → v' b = v b ∧ s' b = s1 b - least) : gHB C u' v' r i (k + 1) near f1 s' (fu t col 1) (fu tm col k) := by
  have hrow := gHB_row h hi1 hi hc
  have hsl := gHB_sl h hC hi1 hi hc hs
  obtain ⟨⟨a1, a2, a3, a4, a5⟩, b1, b2, b3, b4, b5, b6, b7⟩ := h
  obtain ⟨n1, n2, n3, n4, n5⟩ := hn
  have ht1 : ∀ b, 0 ≤ b → b ≤ 10 → fu t col 1 b = 0 ∨ fu t col 1 b = 1 := fun b h1 h2 => by
    rw [fu_at]
    split
    · exact Or.inr rfl
    · exact (b2 b h1 h2).1
  have hl0 : 0 ≤ least := by
    obtain ⟨m1, ⟨m2, m3, m4⟩, m5⟩ := hsl near n1 n2 n3
    have r1 := (hrow (f1 near) m2 m3 m4).1
    have := a1 (r (f1 near)) near r1.1 r1.2 n1 n2
    omega
  refine ⟨⟨fun a b h1 h2 h3 h4 => ?_, fun a h1 h2 => ?_, fun b h1 h2 => ?_, a4, a5⟩, b1, fun b h1 h2 => ⟨ht1 b h1 h2, fun q => ⟨fun q2 => ?_, ?_⟩⟩, ?_, ⟨by omega, n2, n3⟩, fun q => absurd q (Nat.succ_ne_zero k), fun _ => ⟨⟨by omega, ?_, ?_⟩, fun j h1 h2 h3 => ?_⟩, fun j h1 h2 h3 => ?_⟩
  · have e := a1 a b h1 h2 h3 h4
    by_cases q : ∃ b', 0 ≤ b' ∧ b' ≤ 10 ∧ fu t col 1 b' = 1 ∧ r b' = a
    · obtain ⟨b', k1, k2, k3, k4⟩ := q
      have e1 := hu1 b' k1 k2 k3
      rw [k4] at e1
      rcases ht1 b (by omega) h4 with z | z
      · have e2 := (hv2 b (by omega) h4 z).1
        have e3 := (hsl b h3 h4 z).1 b' k1 k2 k3
        have e4 := n5 b h3 h4 z
        rw [k4] at e3
        omega
      · have e2 := hv1 b (by omega) h4 z
        omega
    · have e1 := hu2 a (fun b' k1 k2 k3 k4 => q ⟨b', k1, k2, k3, k4⟩)
      rcases ht1 b (by omega) h4 with z | z
      · have e2 := (hv2 b (by omega) h4 z).1
        omega
      · have e2 := hv1 b (by omega) h4 z
        omega
  · have e := a2 a h1 h2
    by_cases q : ∃ b', 0 ≤ b' ∧ b' ≤ 10 ∧ fu t col 1 b' = 1 ∧ r b' = a
    · obtain ⟨b', k1, k2, k3, k4⟩ := q
      have e1 := hu1 b' k1 k2 k3
      rw [k4] at e1
      omega
    · have e1 := hu2 a (fun b' k1 k2 k3 k4 => q ⟨b', k1, k2, k3, k4⟩)
      omega
  · obtain ⟨c1, c2, c3, c4, c5⟩ := a3 b h1 h2
    rcases ht1 b (by omega) h2 with z | z
    · have e2 := (hv2 b (by omega) h2 z).1
      rw [e2]
      refine ⟨c1, c2, c3, c4, fun q => ?_⟩
      rw [hu2 (r b) (fun b' k1 k2 k3 k4 => ?_)]
      · exact c5 q
      · have := (hrow b' k1 k2 k3).2 b h1 h2 k4
        rw [this] at k3
        omega
    · have e2 := hv1 b (by omega) h2 z
      have e3 := (hrow b (by omega) h2 z).1
      rw [e2]
      refine ⟨by omega, c2, c3, fun q => by omega, fun q => ?_⟩
      have := c5 q
      rw [hu1 b (by omega) h2 z]
      omega
  · have := (hrow b h1 h2 q).1
    omega
  · rw [fu_at] at q ⊢
    by_cases z : b = col
    · rw [if_pos z]
      omega
    · rw [if_neg z] at q ⊢
      have := ((b2 b h1 h2).2 q).2
      omega
  · have e := sm_one (p := fun j : Nat => t (j : Int)) (q := fun j : Nat => fu t col 1 (j : Int)) (m := col.toNat) (n := 11) (fun j hj hm => by
      show fu t col 1 (j : Int) = t (j : Int)
      rw [fu_at, if_neg (by omega)]) (by omega)
    have e0 : ((col.toNat : Nat) : Int) = col := by omega
    have e1 : fu t col 1 ((col.toNat : Nat) : Int) = 1 := by
      rw [e0, fu_at, if_pos rfl]
    have e2 : t ((col.toNat : Nat) : Int) = 0 := by
      rw [e0]
      exact b4.2.2
    rw [e1, e2, b3] at e
    rw [e]
    omega
  · rw [fu_at]
    by_cases z : (0 : Int) = col
    · rw [if_pos z]
    · rw [if_neg z]
      exact (b6 (fun q => z (b5 q).1.symm)).1.2.1
  · have := (hv2 near (by omega) n2 n3).2
    omega
  · obtain ⟨m1, ⟨m2, m3, m4⟩, m5⟩ := hsl j h1 h2 h3
    obtain ⟨e1, e2⟩ := hv2 j (by omega) h2 h3
    refine ⟨fun b k1 k2 k3 => ?_, ⟨m2, m3, m4⟩, ?_⟩
    · have := m1 b k1 k2 k3
      have := hu1 b k1 k2 k3
      omega
    · have := hu1 (f1 j) m2 m3 m4
      omega
  · rw [hf1 j h1 h2 h3]
    have e2 := hv1 j (by omega) h2 h3
    rw [fu_at] at h3
    by_cases z : j = col
    · have hk : k ≠ 0 := fun q => by
        have := (b5 q).1
        omega
      have g := b6 hk
      obtain ⟨m1, ⟨m2, m3, m4⟩, m5⟩ := g.2 j h1 h2 (by rw [z]; exact b4.2.2)
      have g3 := g.1.2.2
      rw [← z] at g3
      have nc : f j ≠ col := fun q => by
        rw [q] at m4
        have := b4.2.2
        omega
      have m4' : fu t col 1 (f j) = 1 := by rw [fu_at, if_neg nc]; exact m4
      have := hu1 (f j) m2 m3 m4'
      have tmk := ((b2 (f j) m2 m3).2 m4).2
      refine ⟨⟨m2, m3, m4'⟩, by omega, ?_⟩
      rw [fu_at, fu_at, if_neg nc, if_pos z]
      exact tmk.2
    · rw [if_neg z] at h3
      obtain ⟨⟨m2, m3, m4⟩, m5, m6⟩ := b7 j h1 h2 h3
      have nc : f j ≠ col := fun q => by
        rw [q] at m4
        have := b4.2.2
        omega
      have m4' : fu t col 1 (f j) = 1 := by rw [fu_at, if_neg nc]; exact m4
      have := hu1 (f j) m2 m3 m4'
      refine ⟨⟨m2, m3, m4'⟩, by omega, ?_⟩
      rw [fu_at, fu_at, if_neg nc, if_neg z]
      exact m6
theorem gHB_k {C : Int → Int → Int} {u v r : Int → Int} {i : Int} {k : Nat} {col : Int} {f s t tm : Int → Int} (h : gHB C u v r i k col f s t tm) (hi : i ≤ 10) : k ≤ 10 := by
  obtain ⟨a, b1, b2, b3, b4, b5, b6, b7⟩ := h
  obtain ⟨f0, k1, k2, k3⟩ := gHA_free a (by omega)
  have e0 : ((f0.toNat : Nat) : Int) = f0 := by omega
  have := sm_lt1 (p := fun j : Nat => t (j : Int)) (m := f0.toNat) (n := 11) (fun j hj => (b2 j (by omega) (by omega)).1) (by omega) (by
    show t ((f0.toNat : Nat) : Int) = 0
    rw [e0]
    rcases (b2 f0 (by omega) k2).1 with z | z
    · exact z
    · exact absurd k3 (((b2 f0 (by omega) k2).2 z).1 (by omega)))
  rw [b3] at this
  omega
/-- the bounds of what is compared -/
theorem gHB_b {C : Int → Int → Int} {u v r : Int → Int} {i : Int} {k : Nat} {col : Int} {f s t tm : Int → Int} (h : gHB C u v r i k col f s t tm) (hC : ∀ a b, 1 ≤ a → a ≤ 10 → 1 ≤ b → b ≤ 10 → 0 ≤ C a b ∧ C a b ≤ 100000) (hi : i ≤ 10) : (∀ a, 1 ≤ a → a ≤ 10 → 0 ≤ u a ∧ u a ≤ 100000) ∧ (∀ b, 1 ≤ b → b ≤ 10 → -100000 ≤ v b ∧ v b ≤ 0) ∧ ∀ j, 1 ≤ j → j ≤ 10 → t j = 0 → -200000 ≤ s j ∧ s j ≤ 1000000000 := by
  obtain ⟨⟨a1, a2, a3, a4, a5⟩, b1, b2, b3, b4, b5, b6, b7⟩ := h
  obtain ⟨f0, k1, k2, k3⟩ := gHA_free ⟨a1, a2, a3, a4, a5⟩ (by omega)
  have vf := (a3 f0 k1 k2).2.2.2.1 k3
  have hu : ∀ a, 1 ≤ a → a ≤ 10 → 0 ≤ u a ∧ u a ≤ 100000 := fun a h1 h2 => by
    have := a1 a f0 h1 h2 k1 k2
    have := hC a f0 h1 h2 k1 k2
    have := a2 a h1 h2
    omega
  have hv : ∀ b, 1 ≤ b → b ≤ 10 → -100000 ≤ v b ∧ v b ≤ 0 := fun b h1 h2 => by
    obtain ⟨c1, c2, c3, c4, c5⟩ := a3 b h1 h2
    by_cases q : r b = 0
    · have := c4 q
      omega
    · have := c5 q
      have := hu (r b) (by omega) (by omega)
      have := hC (r b) b (by omega) (by omega) h1 h2
      omega
  refine ⟨hu, hv, fun j h1 h2 h3 => ?_⟩
  by_cases q : k = 0
  · have := (b5 q).2.2 j h1 h2
    omega
  · obtain ⟨m1, ⟨m2, m3, m4⟩, m5⟩ := (b6 q).2 j h1 h2 h3
    have rr : 1 ≤ r (f j) ∧ r (f j) ≤ 10 := by
      by_cases z : f j = 0
      · rw [z, b1]
        by_cases z2 : i ≤ 0
        · have := sm_le1 (p := fun j : Nat => bz (r ((j : Int) + 1) ≠ 0)) (n := 10) (fun j _ => by unfold bz; split <;> omega)
          have := (b2 0 (by omega) (by omega)).1
          have e := a3 f0 k1 k2
          omega
        · omega
      · have := ((b2 (f j) m2 m3).2 m4).1 z
        have := a3 (f j) (by omega) m3
        omega
    have := hu (r (f j)) rr.1 rr.2
    have := hv j h1 h2
    have := hC (r (f j)) j rr.1 rr.2 h1 h2
    omega
/-- the rows move along; h is the hole -/
def gHF (C : Int → Int → Int) (u v r : Int → Int) (i col : Int) (f t tm : Int → Int) (q : Int → Int) (h : Int) : Prop :=
  (0 ≤ h ∧ h ≤ 10 ∧ (h = col ∨ t h = 1)) ∧ (∀ b b', 0 ≤ b → b ≤ 10 → 0 ≤ b' → b' ≤ 10 → b ≠ h → b' ≠ h → q b ≠ 0 → q b = q b' → b = b') ∧ (∀ b, 1 ≤ b → b ≤ 10 → b ≠ h → (0 ≤ q b ∧ q b ≤ i) ∧ (q b ≠ 0 → u (q b) + v b = C (q b) b) ∧ (q b ≠ 0 ↔ r b ≠ 0 ∨ b = col)) ∧ q 0 = i ∧ ∀ b, 0 ≤ b → b ≤ 10 → t b = 1 → tm b < tm h → q b = r b
/-- where the rows come from -/
def gHP (C : Int → Int → Int) (u v r : Int → Int) (i col : Int) (f t tm : Int → Int) : Prop := (∀ b, 0 ≤ b → b ≤ 10 → t b = 1 → 0 ≤ tm b ∧ r b ≠ 0) ∧ (t 0 = 1) ∧ r 0 = i ∧ (∀ b, 1 ≤ b → b ≤ 10 → 0 ≤ r b ∧ r b ≤ i) ∧ ∀ j, 1 ≤ j → j ≤ 10 → t j = 1 ∨ j = col → (0 ≤ f j ∧ f j ≤ 10 ∧ t (f j) = 1) ∧ u (r (f j)) + v j = C (r (f j)) j ∧ tm (f j) < tm j
theorem gHF_s {C : Int → Int → Int} {u v r : Int → Int} {i col : Int} {f t tm q : Int → Int} {h : Int} (hp : gHP C u v r i col f t tm) (hf : gHF C u v r i col f t tm q h) (hi : 1 ≤ i) (h0 : h ≠ 0) : gHF C u v r i col f t tm (fu q h (q (f h))) (f h) ∧ (0 ≤ f h ∧ f h ≤ 10) ∧ tm (f h) < tm h ∧ 0 ≤ tm (f h) := by
  obtain ⟨p1, p2, p3, p4, p5⟩ := hp
  obtain ⟨⟨g1, g2, g3⟩, g4, g5, g6, g7⟩ := hf
  obtain ⟨⟨m1, m2, m3⟩, m4, m5⟩ := p5 h (by omega) g2 (by omega)
  have e := g7 (f h) m1 m2 m3 m5
  have e1 := p1 (f h) m1 m2 m3
  have nh : f h ≠ h := fun z => by rw [z] at m5; omega
  refine ⟨⟨⟨m1, m2, Or.inr m3⟩, fun b b' h1 h2 h3 h4 h5 h6 h7 h8 => ?_, fun b h1 h2 h3 => ?_, ?_, fun b h1 h2 h3 h4 => ?_⟩, ⟨m1, m2⟩, m5, e1.1⟩
  · rw [fu_at] at h7 h8
    rw [fu_at] at h8
    by_cases z : b = h
    · by_cases z2 : b' = h
      · omega
      · rw [if_pos z, if_neg z2] at h8
        rw [if_pos z] at h7
        have := g4 (f h) b' m1 m2 h3 h4 nh z2 h7 h8
        omega
    · rw [if_neg z] at h7 h8
      by_cases z2 : b' = h
      · rw [if_pos z2] at h8
        have := g4 b (f h) h1 h2 m1 m2 z nh h7 h8
        omega
      · rw [if_neg z2] at h8
        exact g4 b b' h1 h2 h3 h4 z z2 h7 h8
  · rw [fu_at]
    by_cases z : b = h
    · rw [if_pos z, e]
      refine ⟨?_, fun _ => by rw [z]; exact m4, ⟨fun _ => ?_, fun _ => e1.2⟩⟩
      · by_cases z2 : f h = 0
        · rw [z2, p3]; omega
        · exact p4 (f h) (by omega) m2
      · rcases g3 with g3 | g3
        · exact Or.inr (by omega)
        · rw [z]
          exact Or.inl (p1 h g1 g2 g3).2
    · rw [if_neg z]
      exact g5 b h1 h2 z
  · rw [fu_at, if_neg (by omega)]
    exact g6
  · have : b ≠ h := fun z => by rw [z] at h4; omega
    rw [fu_at, if_neg this]
    exact g7 b h1 h2 h3 (by omega)
theorem gHF_0 {C : Int → Int → Int} {u v r : Int → Int} {i : Int} {k : Nat} {col : Int} {f s t tm : Int → Int} (h : gHB C u v r i k col f s t tm) (hi1 : 1 ≤ i) (hc : r col = 0) : gHP C u v r i col f t (fu tm col k) ∧ gHF C u v r i col f t (fu tm col k) r col ∧ fu tm col k col = k := by
  obtain ⟨⟨a1, a2, a3, a4, a5⟩, b1, b2, b3, b4, b5, b6, b7⟩ := h
  have hk : k ≠ 0 := fun z => by
    have := (b5 z).1
    rw [this] at hc
    omega
  obtain ⟨⟨c1, c2, c3⟩, c4⟩ := b6 hk
  have hcr : ∀ b, 0 ≤ b → b ≤ 10 → t b = 1 → b ≠ col := fun b h1 h2 h3 z => by
    rw [z] at h3
    omega
  refine ⟨⟨fun b h1 h2 h3 => ?_, c2, b1, fun b h1 h2 => ?_, fun j h1 h2 h3 => ?_⟩, ⟨⟨b4.1, b4.2.1, Or.inl rfl⟩, fun b b' h1 h2 h3 h4 h5 h6 h7 h8 => ?_, fun b h1 h2 h3 => ?_, b1, fun _ _ _ _ _ => rfl⟩, by rw [fu_at, if_pos rfl]⟩
  · have := (b2 b h1 h2).2 h3
    rw [fu_at, if_neg (hcr b h1 h2 h3)]
    refine ⟨this.2.1, ?_⟩
    by_cases z : b = 0
    · rw [z]; omega
    · exact this.1 z
  · have := a3 b h1 h2
    omega
  · by_cases z : j = col
    · subst z
      obtain ⟨m1, ⟨m2, m3, m4⟩, m5⟩ := c4 j h1 h2 b4.2.2
      have := ((b2 (f j) m2 m3).2 m4).2
      refine ⟨⟨m2, m3, m4⟩, by omega, ?_⟩
      rw [fu_at, fu_at, if_pos rfl, if_neg (hcr _ m2 m3 m4)]
      exact this.2
    · rcases h3 with h3 | h3
      · obtain ⟨⟨m2, m3, m4⟩, m5, m6⟩ := b7 j h1 h2 h3
        refine ⟨⟨m2, m3, m4⟩, m5, ?_⟩
        rw [fu_at, fu_at, if_neg z, if_neg (hcr _ m2 m3 m4)]
        exact m6
      · exact absurd h3 z
  · by_cases z : b = 0
    · by_cases z2 : b' = 0
      · omega
      · have := a3 b' (by omega) h4
        rw [z] at h8
        omega
    · by_cases z2 : b' = 0
      · have := a3 b (by omega) h2
        rw [z2] at h8
        omega
      · exact a4 b b' (by omega) h2 (by omega) h4 h7 h8
  · have := a3 b h1 h2
    exact ⟨by omega, this.2.2.2.2, ⟨fun q => Or.inl q, fun q => q.resolve_right h3⟩⟩
theorem gHF_e {C : Int → Int → Int} {u v r : Int → Int} {i : Int} {k : Nat} {col : Int} {f s t tm : Int → Int} (h : gHB C u v r i k col f s t tm) (hi1 : 1 ≤ i) (hc : r col = 0) {tm' q : Int → Int} (hf : gHF C u v r i col f t tm' q 0) : gHA C u v q i := by
  obtain ⟨⟨a1, a2, a3, a4, a5⟩, b1, b2, b3, b4, b5, b6, b7⟩ := h
  have hk : k ≠ 0 := fun z => by
    have := (b5 z).1
    rw [this] at hc
    omega
  obtain ⟨⟨c1, c2, c3⟩, c4⟩ := b6 hk
  obtain ⟨⟨g1, g2, g3⟩, g4, g5, g6, g7⟩ := hf
  refine ⟨a1, a2, fun b h1 h2 => ?_, fun b b' h1 h2 h3 h4 h5 h6 => g4 b b' (by omega) h2 (by omega) h4 (by omega) (by omega) h5 h6, ?_⟩
  · have e := g5 b h1 h2 (by omega)
    have e2 := a3 b h1 h2
    refine ⟨e2.1, e.1.1, e.1.2, fun z => e2.2.2.2.1 ?_, e.2.1⟩
    by_cases z2 : r b = 0
    · exact z2
    · exact absurd z (e.2.2.2 (Or.inl z2))
  · have e0 : (((col - 1).toNat : Nat) : Int) = col - 1 := by omega
    have e := sm_one (p := fun j : Nat => bz (r ((j : Int) + 1) ≠ 0)) (q := fun j : Nat => bz (q ((j : Int) + 1) ≠ 0)) (m := (col - 1).toNat) (n := 10) (fun j hj hm => by
      have e := (g5 ((j : Int) + 1) (by omega) (by omega) (by omega)).2.2
      show bz (q ((j : Int) + 1) ≠ 0) = bz (r ((j : Int) + 1) ≠ 0)
      by_cases z : r ((j : Int) + 1) = 0
      · rw [bz_f (p := r ((j : Int) + 1) ≠ 0) (fun y => y z), bz_f (fun y => by
          rcases e.1 y with y | y
          · exact y z
          · omega)]
      · rw [bz_t (p := r ((j : Int) + 1) ≠ 0) z, bz_t (e.2 (Or.inl z))]) (by omega)
    have e' := (g5 col (by omega) b4.2.1 c1).2.2.2 (Or.inr rfl)
    rw [e, e0, show col - 1 + 1 = col by omega, a5, bz_t e', bz_f (p := r col ≠ 0) (fun y => y hc)]
    omega
theorem lmF_or {g : Int → Int → Int} {k l m : Int} (h1 : 0 ≤ l) (h2 : l < 64) (h3 : 0 ≤ m) (h4 : m < 64) : ∀ {i : Nat}, i ≤ 6 → lmF g k (orI l m) i = (lmF g k l i || lmF g k m i)
  | 0, _ => rfl
  | i + 1, hi => by
    have e := (or_ii h1 h2 h3 h4).2.2.2 (5 - i) (by omega) (by omega)
    unfold lmF
    rw [lmF_or h1 h2 h3 h4 (i := i) (by omega)]
    by_cases q1 : bt l (5 - i) = 1 <;> by_cases q2 : bt m (5 - i) = 1 <;> by_cases q3 : g k (4 + (5 - i)) = -1 <;> by_cases q4 : bt (orI l m) (5 - i) = 1 <;> simp [q1, q2, q3, q4] at e ⊢
theorem lmF_yes {g : Int → Int → Int} {k l : Int} : ∀ {i : Nat}, i ≤ 6 → (∀ m : Int, 6 - i ≤ m → m < 6 → bt l m = 1 → g k (4 + m) ≠ -1) → lmF g k l i = false
  | 0, _, _ => rfl
  | i + 1, hi, h => by
    unfold lmF
    rw [lmF_yes (i := i) (by omega) (fun m h1 h2 h3 => h m (by omega) h2 h3), Bool.or_false]
    by_cases q : bt l (5 - i) = 1
    · rw [decide_eq_false (h (5 - i) (by omega) (by omega) q), Bool.and_false]
    · rw [decide_eq_false q, Bool.false_and]
theorem nrB_t {g : Int → Int → Int} {x : vw} {a b : Int} : ∀ {n : Nat}, nrB g x a b n = true ↔ ∀ m : Nat, m < n → x.2.2.1 m ≠ 0 → g a (4 + m) ≠ -1 ∧ g b (4 + m) ≠ -1
  | 0 => ⟨fun _ m hm => absurd hm (Nat.not_lt_zero m), fun _ => rfl⟩
  | n + 1 => by
    unfold nrB
    rw [Bool.and_eq_true, nrB_t (n := n), Bool.or_eq_true, Bool.and_eq_true, decide_eq_true_eq, decide_eq_true_eq, decide_eq_true_eq]
    constructor
    · rintro ⟨h1, h2⟩ m hm hz
      by_cases z : m = n
      · subst z
        exact h2.resolve_left hz
      · exact h1 m (by omega) hz
    · intro h
      refine ⟨fun m hm => h m (by omega), ?_⟩
      by_cases z : x.2.2.1 n = 0
      · exact Or.inl z
      · exact Or.inr (h n (by omega) z)
theorem nrB_lm {g : Int → Int → Int} {x : vw} {a b nb : Int} (hb : ∀ m : Int, 0 ≤ m → m < 6 → (bt nb m = 1 ↔ x.2.2.1 m ≠ 0)) : nrB g x a b 6 = true ↔ lm g a nb = false ∧ lm g b nb = false := by
  rw [nrB_t]
  constructor
  · intro h
    have h' : ∀ m : Int, 0 ≤ m → m < 6 → bt nb m = 1 → g a (4 + m) ≠ -1 ∧ g b (4 + m) ≠ -1 := fun m h1 h2 h3 => by
      have e : ((m.toNat : Nat) : Int) = m := Int.toNat_of_nonneg h1
      have := h m.toNat (by omega)
      rw [e] at this
      exact this ((hb m h1 h2).1 h3)
    exact ⟨lmF_yes (i := 6) (by omega) (fun m h1 h2 h3 => (h' m (by omega) h2 h3).1), lmF_yes (i := 6) (by omega) (fun m h1 h2 h3 => (h' m (by omega) h2 h3).2)⟩
  · rintro ⟨h1, h2⟩ m hm hz
    have hq := (hb m (by omega) (by omega)).2 hz
    exact ⟨lmF_no (i := 6) (by omega) h1 m (by omega) (by omega) hq, lmF_no (i := 6) (by omega) h2 m (by omega) (by omega) hq⟩
section L65
variable {sc : am_X} {w : wo} {n : Int} {g : Int → Int → Int} {ow : Nat → Nat}
theorem CVo_g {a : Nat} {x : vw} (h : CVo ow w a x) : am_gI (wst w) a 10 1 = some (ii x.2.1) ∧ am_gI (wst w) a 10 2 = some (ii (wI w a 2)) ∧ am_gI (wst w) a 10 4 = some (ii x.2.2.2) ∧ am_is (wst w) a 10 = true ∧ (0 ≤ wI w a 2 ∧ wI w a 2 < 64 ∧ ∀ m, 0 ≤ m → m < 6 → (bt (wI w a 2) m = 1 ↔ x.2.2.1 m ≠ 0)) ∧ ∃ b, am_gR (wst w) a 10 3 = some (some b) ∧ ∀ m : Int, 0 ≤ m → m < 6 → x.2.2.1 m ≠ 0 → am_eI (wst w) b 0 (ii m) = some (ii (x.2.2.1 m)) := by
  obtain ⟨⟨v1, v2, v3, v4⟩, v5, v6, v7, ⟨b, v8, ⟨b1, b2, b3, b4⟩, v9⟩, v10⟩ := h
  have hs : shp w a = some (0, 10, 0) := by unfold shp; rw [if_neg (by omega), v4]
  have hb : shp w b = some (1, 0, 6) := by unfold shp; rw [if_neg (by omega), b4]
  refine ⟨by rw [gI_of hs rfl, v6], gI_of hs rfl, by rw [gI_of hs rfl, v10], is_of hs, v7, b, ?_, fun m h1 h2 h3 => ?_⟩
  · rw [gR_of hs rfl]
    unfold ref
    rw [if_neg (by omega), v8]
  · rw [eI_of (t := 0) (n := 6) hb rfl rfl h1 h2 (by decide), v9 m h1 h2 h3]
theorem c162 {a : Nat} {x : vw} (h : CVo ow w a x) {m : Nat} (hm : m < 6) (hz : x.2.2.1 m ≠ 0) : am_F sc 162 [am_R (some a), am_I (ii m)] (wst w) = some (some (am_I (ii (x.2.2.1 m))), wst w) := by
  obtain ⟨g1, g2, g3, g4, g5, b, g6, g7⟩ := CVo_g h
  have e := g7 m (by omega) (by omega) hz
  rw [fq_162, fq_20]
  simp (disch := omega) only [qB_s, qC_t, qC_f, qI_T, qI_F, qI_t, qI_f, r_I, r_L, r_R, r_V, ii_add, ii_sub, ii_mul, ii_neg, bz_0, bz_1, Bool.true_and, Bool.false_and, Bool.and_true, z00, z11, li_0, li_1, li_6, ii_lt, ii_eq, g6, e]
theorem c163 {a : Nat} {x : vw} (h : CVo ow w a x) (hx : okV x) : am_F sc 163 [am_R (some a)] (wst w) = some (some (am_I (ii (if x.2.2.2 < 0 then 999 else x.2.2.2))), wst w) := by
  obtain ⟨g1, g2, g3, g4, g5, -⟩ := CVo_g h
  have hr := hx.2.2.2
  rw [fq_163]
  by_cases q : x.2.2.2 < 0
  · rw [if_pos q]
    simp (disch := omega) only [qB_s, qC_t, qC_f, qI_T, qI_F, qI_t, qI_f, r_I, r_L, r_R, r_V, ii_add, ii_sub, ii_mul, ii_neg, bz_0, bz_1, Bool.true_and, Bool.false_and, Bool.and_true, z00, z11, li_0, li_1, li_999, ii_lt, ii_eq, g3]
  · rw [if_neg q]
    simp (disch := omega) only [qB_s, qC_t, qC_f, qI_T, qI_F, qI_t, qI_f, r_I, r_L, r_R, r_V, ii_add, ii_sub, ii_mul, ii_neg, bz_0, bz_1, Bool.true_and, Bool.false_and, Bool.and_true, z00, z11, li_0, li_1, li_999, ii_lt, ii_eq, g3]
theorem c164l (hC : CS w n g) (hg : gK n g) {a : Nat} {x : vw} (hV : CVo ow w a x) (hx : okV x) {p q : Int} (hp : 0 ≤ p ∧ p < n) (hq : 0 ≤ q ∧ q < n) : ∀ (d m : Nat), m + d = 6 → am_W sc 164 (64, [some (am_R (some 1)), some (am_R (some a)), some (am_I (ii p)), some (am_I (ii q)), some (am_I (ii (dsS g x p q m))), some (am_I (ii m))], [], wst w) = some (some (am_I (ii (if dsS g x p q 6 ≤ (if x.2.2.2 < 0 then 999 else x.2.2.2) then dsS g x p q 6 else 100000))), wst w)
  | 0, m, hm => by
    have hm6 : m = 6 := by omega
    subst hm6
    have hr := dsS_ran hg hx hp hq (m := 6) (Nat.le_refl _)
    obtain ⟨g1, g2, g3, g4, g5, -⟩ := CVo_g hV
    have e := c163 (sc := sc) hV hx
    have hf := hx.2.2.2
    rw [wq_164_64]
    generalize hF : (if x.2.2.2 < 0 then (999 : Int) else x.2.2.2) = F at e ⊢
    have hF2 : 0 ≤ F ∧ F ≤ 999 := by
      rw [← hF]
      split <;> omega
    by_cases z : dsS g x p q 6 ≤ F
    · rw [if_pos z]
      simp (disch := omega) only [qB_s, qC_t, qC_f, qI_T, qI_F, qI_t, qI_f, r_I, r_L, r_R, r_V, ii_add, ii_sub, ii_mul, ii_neg, bz_0, bz_1, Bool.true_and, Bool.false_and, Bool.and_true, z00, z11, li_0, li_1, li_100000, li_31, li_6, is_1, ii_lt, g4, e]
    · rw [if_neg z]
      simp (disch := omega) only [qB_s, qC_t, qC_f, qI_T, qI_F, qI_t, qI_f, r_I, r_L, r_R, r_V, ii_add, ii_sub, ii_mul, ii_neg, bz_0, bz_1, Bool.true_and, Bool.false_and, Bool.and_true, z00, z11, li_0, li_1, li_100000, li_31, li_6, is_1, ii_lt, g4, e]
  | d + 1, m, hm => by
    have hr := dsS_ran hg hx hp hq (m := m) (by omega)
    obtain ⟨g1, g2, g3, g4, g5, -⟩ := CVo_g hV
    have ih := c164l hC hg hV hx hp hq d (m + 1) (by omega)
    have hn200 := hC.2.2.1
    have hbt := bt_ran (wI w a 2) m
    have e5 := g5.2.2 m (by omega) (by omega)
    have g50 := g5.1
    have g51 := g5.2.1
    have p1 := c21 (sc := sc) hC hp.1 hp.2 (m := m) (by omega) (by omega)
    have p2 := c21 (sc := sc) hC hq.1 hq.2 (m := m) (by omega) (by omega)
    have r1 := gK_m hg hp.1 hp.2 (m := m) (by omega) (by omega)
    have r2 := gK_m hg hq.1 hq.2 (m := m) (by omega) (by omega)
    have es : dsS g x p q (m + 1) = dsS g x p q m + x.2.2.1 m * na (g p (4 + m) - g q (4 + m)) := rfl
    rw [wq_164_64]
    rw [es, nat_1] at ih
    by_cases z : x.2.2.1 m = 0
    · rw [z, Int.zero_mul, Int.add_zero] at ih
      have eb : bt (wI w a 2) m = 0 := by
        by_cases y : bt (wI w a 2) m = 1
        · exact absurd z (e5.1 y)
        · omega
      simp (disch := omega) only [qB_s, qC_t, qC_f, qI_T, qI_F, qI_t, qI_f, r_I, r_L, r_R, r_V, ii_add, ii_sub, ii_mul, ii_neg, bz_0, bz_1, Bool.true_and, Bool.false_and, Bool.and_true, z00, z11, li_0, li_1, li_100000, li_31, li_6, is_1, ii_lt, ii_eq, g2, bt_ii, eb, ih]
    · have eb : bt (wI w a 2) m = 1 := e5.2 z
      have h162 := c162 (sc := sc) hV (m := m) (by omega) z
      have eab : am_absI (ii (g p (4 + m) - g q (4 + m))) = ii (na (g p (4 + m) - g q (4 + m))) := absI_ii (by omega) (by omega)
      simp (disch := omega) only [qB_s, qC_t, qC_f, qI_T, qI_F, qI_t, qI_f, r_I, r_L, r_R, r_V, ii_add, ii_sub, ii_mul, ii_neg, bz_0, bz_1, Bool.true_and, Bool.false_and, Bool.and_true, z00, z11, li_0, li_1, li_100000, li_31, li_6, is_1, ii_lt, ii_eq, g2, bt_ii, eb, g4, h162, p1, p2, eab, ih]
theorem c164 (hC : CS w n g) (hg : gK n g) {a : Nat} {x : vw} (hV : CVo ow w a x) (hx : okV x) {p q : Int} (hp : 0 ≤ p ∧ p < n) (hq : 0 ≤ q ∧ q < n) (hlp : lm g p x.2.1 = false) (hlq : lm g q x.2.1 = false) : am_F sc 164 [am_R (some 1), am_R (some a), am_I (ii p), am_I (ii q)] (wst w) = some (some (am_I (ii (dsF g x p q 100000))), wst w) := by
  obtain ⟨g1, g2, g3, g4, g5, -⟩ := CVo_g hV
  have hn200 := hC.2.2.1
  have hL := hx.2.1
  obtain ⟨o1, o2, o3, o4⟩ := or_ii hL.1 hL.2 g5.1 g5.2.1
  have c1 := c114 (sc := sc) hC hg (k := p) (l := orI x.2.1 (wI w a 2)) (by omega) (by omega) o2 o3
  have c2 := c114 (sc := sc) hC hg (k := q) (l := orI x.2.1 (wI w a 2)) (by omega) (by omega) o2 o3
  have l1 : lm g p (orI x.2.1 (wI w a 2)) = lm g p (wI w a 2) := by
    unfold lm at hlp ⊢
    rw [lmF_or hL.1 hL.2 g5.1 g5.2.1 (Nat.le_refl _), hlp, Bool.false_or]
  have l2 : lm g q (orI x.2.1 (wI w a 2)) = lm g q (wI w a 2) := by
    unfold lm at hlq ⊢
    rw [lmF_or hL.1 hL.2 g5.1 g5.2.1 (Nat.le_refl _), hlq, Bool.false_or]
  rw [l1] at c1
  rw [l2] at c2
  have hn := nrB_lm (g := g) (x := x) (a := p) (b := q) g5.2.2
  have k1 := c143 (sc := sc) hC hp.1 hp.2 hL.1 hL.2
  have k2 := c143 (sc := sc) hC hq.1 hq.2 hL.1 hL.2
  have k3 := ky_ran hg hp.1 hp.2 hlp
  have k4 := ky_ran hg hq.1 hq.2 hlq
  have k5 := ky_eq hg hp.1 hp.2 hq.1 hq.2 hlp hlq
  have e := c164l (sc := sc) hC hg hV hx hp hq 6 0 rfl
  have e' : am_W sc 164 (64, [some (am_R (some 1)), some (am_R (some a)), some (am_I (ii p)), some (am_I (ii q)), some (am_I (ii 0)), some (am_I (ii 0))], [], wst w) = _ := e
  rw [fq_164]
  by_cases z1 : lm g p (wI w a 2) = true
  · rw [bz_t (Or.inr z1)] at c1
    rw [(dsF_or g x p q 100000).elim (fun y => by rw [hn, z1] at y; exact absurd y.2.2.1.1 (by decide)) (fun y => y.1)]
    simp (disch := omega) only [qB_s, qC_t, qC_f, qI_T, qI_F, qI_t, qI_f, r_I, r_L, r_R, r_V, ii_add, ii_sub, ii_mul, ii_neg, bz_0, bz_1, Bool.true_and, Bool.false_and, Bool.and_true, z00, z11, li_0, li_1, li_100000, li_31, li_6, is_1, ii_lt, ii_eq, g1, g2, o1, c1]
  · rw [bz_f (by rintro (y | y); exact y hp; exact z1 y)] at c1
    by_cases z2 : lm g q (wI w a 2) = true
    · rw [bz_t (Or.inr z2)] at c2
      rw [(dsF_or g x p q 100000).elim (fun y => by rw [hn, z2] at y; exact absurd y.2.2.1.2 (by decide)) (fun y => y.1)]
      simp (disch := omega) only [qB_s, qC_t, qC_f, qI_T, qI_F, qI_t, qI_f, r_I, r_L, r_R, r_V, ii_add, ii_sub, ii_mul, ii_neg, bz_0, bz_1, Bool.true_and, Bool.false_and, Bool.and_true, z00, z11, li_0, li_1, li_100000, li_31, li_6, is_1, ii_lt, ii_eq, g1, g2, o1, c1, c2]
    · rw [bz_f (by rintro (y | y); exact y hq; exact z2 y)] at c2
      have hnt : nrB g x p q 6 = true := hn.2 ⟨by simpa using z1, by simpa using z2⟩
      by_cases z3 : al g p q x.2.1 = true
      · have hk : ky g p x.2.1 = ky g q x.2.1 := by rw [k5]; exact z3
        have hd : dsF g x p q 100000 = if dsS g x p q 6 ≤ (if x.2.2.2 < 0 then 999 else x.2.2.2) then dsS g x p q 6 else 100000 := by
          unfold dsF dsL
          rw [if_pos z3, hnt]
          simp only [true_and]
        rw [hd]
        simp (disch := omega) only [qB_s, qC_t, qC_f, qI_T, qI_F, qI_t, qI_f, r_I, r_L, r_R, r_V, ii_add, ii_sub, ii_mul, ii_neg, bz_0, bz_1, Bool.true_and, Bool.false_and, Bool.and_true, z00, z11, li_0, li_1, li_100000, li_31, li_6, is_1, ii_lt, ii_eq, g1, g2, o1, c1, c2, k1, k2]
        exact e'
      · have hk : ¬ ky g p x.2.1 = ky g q x.2.1 := by rw [k5]; exact z3
        rw [show dsF g x p q 100000 = 100000 from if_neg z3]
        simp (disch := omega) only [qB_s, qC_t, qC_f, qI_T, qI_F, qI_t, qI_f, r_I, r_L, r_R, r_V, ii_add, ii_sub, ii_mul, ii_neg, bz_0, bz_1, Bool.true_and, Bool.false_and, Bool.and_true, z00, z11, li_0, li_1, li_100000, li_31, li_6, is_1, ii_lt, ii_eq, g1, g2, o1, c1, c2, k1, k2]
theorem c164n (hC : CS w n g) (hg : gK n g) {a : Nat} {x : vw} (hV : CVo ow w a x) (hx : okV x) {p q : Int} (hp : -1 ≤ p ∧ p < n) (hq : -1 ≤ q ∧ q < n) (hz : p = -1 ∨ q = -1) : am_F sc 164 [am_R (some 1), am_R (some a), am_I (ii p), am_I (ii q)] (wst w) = some (some (am_I (ii 100000)), wst w) := by
  obtain ⟨g1, g2, g3, g4, g5, -⟩ := CVo_g hV
  have hn200 := hC.2.2.1
  have hL := hx.2.1
  obtain ⟨o1, o2, o3, o4⟩ := or_ii hL.1 hL.2 g5.1 g5.2.1
  have c1 := c114 (sc := sc) hC hg (k := p) (l := orI x.2.1 (wI w a 2)) (by omega) (by omega) o2 o3
  have c2 := c114 (sc := sc) hC hg (k := q) (l := orI x.2.1 (wI w a 2)) (by omega) (by omega) o2 o3
  rw [fq_164]
  by_cases z1 : ¬ (0 ≤ p ∧ p < n) ∨ lm g p (orI x.2.1 (wI w a 2)) = true
  · rw [bz_t z1] at c1
    simp (disch := omega) only [qB_s, qC_t, qC_f, qI_T, qI_F, qI_t, qI_f, r_I, r_L, r_R, r_V, ii_add, ii_sub, ii_mul, ii_neg, bz_0, bz_1, Bool.true_and, Bool.false_and, Bool.and_true, z00, z11, li_0, li_1, li_100000, li_31, li_6, is_1, ii_lt, ii_eq, g1, g2, o1, c1]
  · rw [bz_f z1] at c1
    have : q = -1 := by
      rcases hz with h | h
      · exact absurd (Or.inl (by omega)) z1
      · exact h
    rw [bz_t (Or.inl (by omega))] at c2
    simp (disch := omega) only [qB_s, qC_t, qC_f, qI_T, qI_F, qI_t, qI_f, r_I, r_L, r_R, r_V, ii_add, ii_sub, ii_mul, ii_neg, bz_0, bz_1, Bool.true_and, Bool.false_and, Bool.and_true, z00, z11, li_0, li_1, li_100000, li_31, li_6, is_1, ii_lt, ii_eq, g1, g2, o1, c1, c2]
theorem pkk_full {f : Nat → Int} {t : Int} {i : Nat} (h : ¬ (pk g f t i).1 < 10) : ∀ d, pk g f t (i + d) = pk g f t i
  | 0 => rfl
  | d + 1 => by
    have ih := pkk_full h d
    exact (pkk_f (fun z => h (by rw [← ih]; exact z.2))).trans ih
theorem pkk_p {f : Nat → Int} {t : Int} {P : Int → Prop} : ∀ i, (∀ z, z < i → P (f z)) → ∀ j, j < (pk g f t i).1 → P ((pk g f t i).2 j)
  | 0, _, j, hj => absurd hj (Nat.not_lt_zero j)
  | i + 1, hf, j, hj => by
    by_cases h : g (f i) 0 = t ∧ (pk g f t i).1 < 10
    · rw [pkk_t h] at hj ⊢
      have hj : j < (pk g f t i).1 + 1 := hj
      show P (if j = (pk g f t i).1 then f i else (pk g f t i).2 j)
      by_cases z : j = (pk g f t i).1
      · rw [if_pos z]
        exact hf i (by omega)
      · rw [if_neg z]
        exact pkk_p i (fun z hz => hf z (by omega)) j (by omega)
    · rw [pkk_f h] at hj ⊢
      exact pkk_p i (fun z hz => hf z (by omega)) j hj
/-- the first ten, and none beyond -/
def PKc (w : wo) (a : Nat) (P : Nat × (Nat → Int)) : Prop := ∀ j : Nat, j < 10 → wA w a j = if j < P.1 then P.2 j else -1
theorem c161l_30 (hC : CS w n g) (hg : gK n g) {m : Nat} {f : Nat → Int} (hT : TK w m f) (hm : m ≤ 200) (hf : ∀ i, i < m → 0 ≤ f i ∧ f i < n) {t : Int} (ht : 0 ≤ t ∧ t ≤ 1) : ∀ (d i : Nat) (u : wo), i + d = m → fr [3099] w u → PKc u 30 (pk g f t i) → ∃ v, am_W sc 161 (11, [some (am_R (some 1)), some (am_R (some 22)), some (am_I (ii t)), some (am_R (some 30)), some (am_I (ii (pk g f t i).1)), some (am_I (ii i)), none], [], wst u) = some (none, wst v) ∧ fr [3099] w v ∧ PKc v 30 (pk g f t m)
  | 0, i, u, hi, hu, hp => by
    have hi : i = m := by omega
    subst hi
    have hs := (TK_fr hT hu rfl).1
    refine ⟨u, ?_, hu, hp⟩
    rw [wq_161_11]
    simp (disch := omega) only [qB_s, qC_t, qC_f, qI_T, qI_F, qI_t, qI_f, r_I, r_L, r_R, r_V, ii_add, ii_sub, ii_mul, ii_neg, bz_0, bz_1, Bool.true_and, Bool.false_and, Bool.and_true, z00, z11, li_0, li_1, li_nat, gI_22_3, is_1, is_22, hs, ii_lt]
  | d + 1, i, u, hi, hu, hp => by
    have hTu := TK_fr hT hu rfl
    have hs := hTu.1
    have hCu := CS_fr hC hu rfl
    have hfi := hf i (by omega)
    have l0 := pkk_le g f t i
    have hr := (hg (f i) hfi.1 hfi.2).1
    have p1 := c118 (sc := sc) hTu hm (i := i) (by omega)
    have p2 : am_F sc 26 [am_R (some 1), am_I (ii (f i))] (wst u) = some (some (am_I (ii (g (f i) 0))), wst u) := c26 (sc := sc) hCu hfi.1 hfi.2
    by_cases q : (pk g f t i).1 < 10
    · by_cases q2 : g (f i) 0 = t
      · have e := pkk_t (g := g) (f := f) (t := t) (i := i) ⟨q2, q⟩
        have e1 : (pk g f t (i + 1)).1 = (pk g f t i).1 + 1 := by rw [e]
        obtain ⟨v, k1, k2, k3⟩ := c161l_30 hC hg hT hm hf ht d (i + 1) (uA u 30 (fu (wA u 30) (pk g f t i).1 (f i))) (by omega) (fr_uA hu rfl) (fun j hj => by
          rw [e, rA, fu_at]
          show _ = (if j < (pk g f t i).1 + 1 then (if j = (pk g f t i).1 then f i else (pk g f t i).2 j) else -1)
          by_cases z : j = (pk g f t i).1
          · rw [if_pos (by omega), if_pos (by omega), if_pos z]
          · rw [if_neg (by omega), if_neg z, hp j hj]
            by_cases z2 : j < (pk g f t i).1
            · rw [if_pos z2, if_pos (by omega)]
            · rw [if_neg z2, if_neg (by omega)])
        refine ⟨v, ?_, k2, k3⟩
        rw [e1, nat_1, nat_1] at k1
        rw [wq_161_11]
        simp (disch := omega) only [qB_s, qC_t, qC_f, qI_T, qI_F, qI_t, qI_f, r_I, r_L, r_R, r_V, ii_add, ii_sub, ii_mul, ii_neg, bz_0, bz_1, Bool.true_and, Bool.false_and, Bool.and_true, z00, z11, li_0, li_1, li_nat, gI_22_3, is_1, is_22, hs, len_30, t_30, li_nat, Int.cast_ofNat_Int, ii_lt, ii_eq, p1, p2, k1]
      · have e := pkk_f (g := g) (f := f) (t := t) (i := i) (fun z => q2 z.1)
        obtain ⟨v, k1, k2, k3⟩ := c161l_30 hC hg hT hm hf ht d (i + 1) u (by omega) hu (by rw [e]; exact hp)
        refine ⟨v, ?_, k2, k3⟩
        rw [e, nat_1] at k1
        rw [wq_161_11]
        simp (disch := omega) only [qB_s, qC_t, qC_f, qI_T, qI_F, qI_t, qI_f, r_I, r_L, r_R, r_V, ii_add, ii_sub, ii_mul, ii_neg, bz_0, bz_1, Bool.true_and, Bool.false_and, Bool.and_true, z00, z11, li_0, li_1, li_nat, gI_22_3, is_1, is_22, hs, len_30, li_nat, Int.cast_ofNat_Int, ii_lt, ii_eq, p1, p2, k1]
    · have e := pkk_full (g := g) (f := f) (t := t) (i := i) q (d + 1)
      rw [hi] at e
      refine ⟨u, ?_, hu, by rw [e]; exact hp⟩
      rw [wq_161_11]
      simp (disch := omega) only [qB_s, qC_t, qC_f, qI_T, qI_F, qI_t, qI_f, r_I, r_L, r_R, r_V, ii_add, ii_sub, ii_mul, ii_neg, bz_0, bz_1, Bool.true_and, Bool.false_and, Bool.and_true, z00, z11, li_0, li_1, li_nat, gI_22_3, is_1, is_22, hs, len_30, li_nat, Int.cast_ofNat_Int, ii_lt]
theorem c161_30 (hC : CS w n g) (hg : gK n g) {m : Nat} {f : Nat → Int} (hT : TK w m f) (hm : m ≤ 200) (hf : ∀ i, i < m → 0 ≤ f i ∧ f i < n) {t : Int} (ht : 0 ≤ t ∧ t ≤ 1) : ∃ v, am_F sc 161 [am_R (some 1), am_R (some 22), am_I (ii t), am_R (some 30)] (wst w) = some (none, wst v) ∧ fr [3099] w v ∧ PKc v 30 (pk g f t m) := by
  obtain ⟨u, e, f1, h1⟩ := c142 (sc := sc) (w := w) (a := 30) (n := 10) (x := -1) rfl (by decide)
  obtain ⟨v, k1, k2, k3⟩ := c161l_30 (sc := sc) (CS_fr hC f1 rfl) hg (TK_fr hT f1 rfl) hm hf ht m 0 u (by omega) (fr_r _ _) (fun j hj => by
    rw [h1 j (by omega) (by omega)]
    exact (if_neg (Nat.not_lt_zero j)).symm)
  refine ⟨v, ?_, fr_t f1 k2, k3⟩
  have k1' : am_W sc 161 (11, [some (am_R (some 1)), some (am_R (some 22)), some (am_I (ii t)), some (am_R (some 30)), some (am_I (ii 0)), some (am_I (ii 0)), none], [], wst u) = _ := k1
  rw [fq_161]
  simp (disch := omega) only [qB_s, qC_t, qC_f, qI_T, qI_F, qI_t, qI_f, r_I, r_L, r_R, r_V, ii_add, ii_sub, ii_mul, ii_neg, bz_0, bz_1, Bool.true_and, Bool.false_and, Bool.and_true, z00, z11, li_0, li_1, li_nat, gI_22_3, is_1, is_22, e]
  exact k1'
theorem c161l_31 (hC : CS w n g) (hg : gK n g) {m : Nat} {f : Nat → Int} (hT : TK w m f) (hm : m ≤ 200) (hf : ∀ i, i < m → 0 ≤ f i ∧ f i < n) {t : Int} (ht : 0 ≤ t ∧ t ≤ 1) : ∀ (d i : Nat) (u : wo), i + d = m → fr [3199] w u → PKc u 31 (pk g f t i) → ∃ v, am_W sc 161 (11, [some (am_R (some 1)), some (am_R (some 22)), some (am_I (ii t)), some (am_R (some 31)), some (am_I (ii (pk g f t i).1)), some (am_I (ii i)), none], [], wst u) = some (none, wst v) ∧ fr [3199] w v ∧ PKc v 31 (pk g f t m)
  | 0, i, u, hi, hu, hp => by
    have hi : i = m := by omega
    subst hi
    have hs := (TK_fr hT hu rfl).1
    refine ⟨u, ?_, hu, hp⟩
    rw [wq_161_11]
    simp (disch := omega) only [qB_s, qC_t, qC_f, qI_T, qI_F, qI_t, qI_f, r_I, r_L, r_R, r_V, ii_add, ii_sub, ii_mul, ii_neg, bz_0, bz_1, Bool.true_and, Bool.false_and, Bool.and_true, z00, z11, li_0, li_1, li_nat, gI_22_3, is_1, is_22, hs, ii_lt]
  | d + 1, i, u, hi, hu, hp => by
    have hTu := TK_fr hT hu rfl
    have hs := hTu.1
    have hCu := CS_fr hC hu rfl
    have hfi := hf i (by omega)
    have l0 := pkk_le g f t i
    have hr := (hg (f i) hfi.1 hfi.2).1
    have p1 := c118 (sc := sc) hTu hm (i := i) (by omega)
    have p2 : am_F sc 26 [am_R (some 1), am_I (ii (f i))] (wst u) = some (some (am_I (ii (g (f i) 0))), wst u) := c26 (sc := sc) hCu hfi.1 hfi.2
    by_cases q : (pk g f t i).1 < 10
    · by_cases q2 : g (f i) 0 = t
      · have e := pkk_t (g := g) (f := f) (t := t) (i := i) ⟨q2, q⟩
        have e1 : (pk g f t (i + 1)).1 = (pk g f t i).1 + 1 := by rw [e]
        obtain ⟨v, k1, k2, k3⟩ := c161l_31 hC hg hT hm hf ht d (i + 1) (uA u 31 (fu (wA u 31) (pk g f t i).1 (f i))) (by omega) (fr_uA hu rfl) (fun j hj => by
          rw [e, rA, fu_at]
          show _ = (if j < (pk g f t i).1 + 1 then (if j = (pk g f t i).1 then f i else (pk g f t i).2 j) else -1)
          by_cases z : j = (pk g f t i).1
          · rw [if_pos (by omega), if_pos (by omega), if_pos z]
          · rw [if_neg (by omega), if_neg z, hp j hj]
            by_cases z2 : j < (pk g f t i).1
            · rw [if_pos z2, if_pos (by omega)]
            · rw [if_neg z2, if_neg (by omega)])
        refine ⟨v, ?_, k2, k3⟩
        rw [e1, nat_1, nat_1] at k1
        rw [wq_161_11]
        simp (disch := omega) only [qB_s, qC_t, qC_f, qI_T, qI_F, qI_t, qI_f, r_I, r_L, r_R, r_V, ii_add, ii_sub, ii_mul, ii_neg, bz_0, bz_1, Bool.true_and, Bool.false_and, Bool.and_true, z00, z11, li_0, li_1, li_nat, gI_22_3, is_1, is_22, hs, len_31, t_31, li_nat, Int.cast_ofNat_Int, ii_lt, ii_eq, p1, p2, k1]
      · have e := pkk_f (g := g) (f := f) (t := t) (i := i) (fun z => q2 z.1)
        obtain ⟨v, k1, k2, k3⟩ := c161l_31 hC hg hT hm hf ht d (i + 1) u (by omega) hu (by rw [e]; exact hp)
        refine ⟨v, ?_, k2, k3⟩
        rw [e, nat_1] at k1
        rw [wq_161_11]
        simp (disch := omega) only [qB_s, qC_t, qC_f, qI_T, qI_F, qI_t, qI_f, r_I, r_L, r_R, r_V, ii_add, ii_sub, ii_mul, ii_neg, bz_0, bz_1, Bool.true_and, Bool.false_and, Bool.and_true, z00, z11, li_0, li_1, li_nat, gI_22_3, is_1, is_22, hs, len_31, li_nat, Int.cast_ofNat_Int, ii_lt, ii_eq, p1, p2, k1]
    · have e := pkk_full (g := g) (f := f) (t := t) (i := i) q (d + 1)
      rw [hi] at e
      refine ⟨u, ?_, hu, by rw [e]; exact hp⟩
      rw [wq_161_11]
      simp (disch := omega) only [qB_s, qC_t, qC_f, qI_T, qI_F, qI_t, qI_f, r_I, r_L, r_R, r_V, ii_add, ii_sub, ii_mul, ii_neg, bz_0, bz_1, Bool.true_and, Bool.false_and, Bool.and_true, z00, z11, li_0, li_1, li_nat, gI_22_3, is_1, is_22, hs, len_31, li_nat, Int.cast_ofNat_Int, ii_lt]
theorem c161_31 (hC : CS w n g) (hg : gK n g) {m : Nat} {f : Nat → Int} (hT : TK w m f) (hm : m ≤ 200) (hf : ∀ i, i < m → 0 ≤ f i ∧ f i < n) {t : Int} (ht : 0 ≤ t ∧ t ≤ 1) : ∃ v, am_F sc 161 [am_R (some 1), am_R (some 22), am_I (ii t), am_R (some 31)] (wst w) = some (none, wst v) ∧ fr [3199] w v ∧ PKc v 31 (pk g f t m) := by
  obtain ⟨u, e, f1, h1⟩ := c142 (sc := sc) (w := w) (a := 31) (n := 10) (x := -1) rfl (by decide)
  obtain ⟨v, k1, k2, k3⟩ := c161l_31 (sc := sc) (CS_fr hC f1 rfl) hg (TK_fr hT f1 rfl) hm hf ht m 0 u (by omega) (fr_r _ _) (fun j hj => by
    rw [h1 j (by omega) (by omega)]
    exact (if_neg (Nat.not_lt_zero j)).symm)
  refine ⟨v, ?_, fr_t f1 k2, k3⟩
  have k1' : am_W sc 161 (11, [some (am_R (some 1)), some (am_R (some 22)), some (am_I (ii t)), some (am_R (some 31)), some (am_I (ii 0)), some (am_I (ii 0)), none], [], wst u) = _ := k1
  rw [fq_161]
  simp (disch := omega) only [qB_s, qC_t, qC_f, qI_T, qI_F, qI_t, qI_f, r_I, r_L, r_R, r_V, ii_add, ii_sub, ii_mul, ii_neg, bz_0, bz_1, Bool.true_and, Bool.false_and, Bool.and_true, z00, z11, li_0, li_1, li_nat, gI_22_3, is_1, is_22, e]
  exact k1'
end L65
