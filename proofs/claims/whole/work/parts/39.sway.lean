/-! SWAY -/
theorem alF_r (g : Int → Int → Int) (a l : Int) : ∀ i, alF g a a l i = true
  | 0 => rfl
  | i + 1 => by
    unfold alF
    rw [alF_r g a l i, Bool.and_true]
    exact decide_eq_true (fun _ => rfl)
theorem alF_s (g : Int → Int → Int) (a b l : Int) : ∀ i, alF g a b l i = alF g b a l i
  | 0 => rfl
  | i + 1 => by
    unfold alF
    rw [alF_s g a b l i]
    congr 1
    rw [decide_eq_decide]
    exact ⟨fun h q => (h q).symm, fun h q => (h q).symm⟩
theorem alF_t {g : Int → Int → Int} {a b l : Int} (c : Int) : ∀ {i}, alF g a b l i = true → alF g b c l i = alF g a c l i
  | 0, _ => rfl
  | i + 1, h => by
    unfold alF at h ⊢
    rw [Bool.and_eq_true, decide_eq_true_eq] at h
    rw [alF_t c h.2]
    congr 1
    rw [decide_eq_decide]
    exact ⟨fun z q => (h.1 q).trans (z q), fun z q => (h.1 q).symm.trans (z q)⟩
theorem al_r (g : Int → Int → Int) (a l : Int) : al g a a l = true := alF_r g a l 6
theorem al_s (g : Int → Int → Int) (a b l : Int) : al g a b l = al g b a l := alF_s g a b l 6
theorem al_t {g : Int → Int → Int} {a b l : Int} (c : Int) (h : al g a b l = true) : al g b c l = al g a c l := alF_t c h
theorem al_u {g : Int → Int → Int} {a b l : Int} (c : Int) (h : al g a b l = true) : al g c a l = al g c b l := by
  rw [al_s g c a, al_s g c b]
  exact (al_t c h).symm
theorem gj_al {g : Int → Int → Int} {l a k : Int} (h : al g a k l = true) (s : gst) : gj g l k s = gj g l a s :=
  ff_c (fun j _ => (al_u (s.2.1 j) h).symm)
theorem gj_y {g : Int → Int → Int} {l a k : Int} (h : al g a k l = true) (s : gst) : gj g l k (g1 g l a s) = gj g l a s := by
  rw [gj_al h]
  have hle := gj_le g l a s
  by_cases q : gj g l a s < s.1
  · have e : gj g l a (g1 g l a s) = ff (fun j => al g (if j = s.1 then a else s.2.1 j) a l) s.1 := by
      have e0 : (g1 g l a s).1 = s.1 := if_pos q
      show ff (fun j => al g (if j = s.1 then a else s.2.1 j) a l) (g1 g l a s).1 = _
      rw [e0]
    rw [e]
    refine ff_eq q ?_ (fun j hj => ?_)
    · try dsimp only
      rw [if_neg (by omega)]
      exact ff_yes (fun j => al g (s.2.1 j) a l) s.1 q
    · try dsimp only
      rw [if_neg (by omega)]
      exact ff_no (fun j => al g (s.2.1 j) a l) s.1 j hj
  · have e : gj g l a (g1 g l a s) = ff (fun j => al g (if j = s.1 then a else s.2.1 j) a l) (s.1 + 1) := by
      have e0 : (g1 g l a s).1 = s.1 + 1 := if_neg q
      show ff (fun j => al g (if j = s.1 then a else s.2.1 j) a l) (g1 g l a s).1 = _
      rw [e0]
    have e2 : gj g l a s = s.1 := by omega
    rw [e, e2]
    refine ff_eq (by omega) ?_ (fun j hj => ?_)
    · try dsimp only
      rw [if_pos rfl]
      exact al_r g a l
    · try dsimp only
      rw [if_neg (by omega)]
      exact ff_no (fun j => al g (s.2.1 j) a l) s.1 j (by unfold gj at e2; omega)
theorem gj_z {g : Int → Int → Int} {l a k : Int} {s : gst} (z : gj g l k s < s.1) : gj g l k (g1 g l a s) = gj g l k s := by
  refine ff_eq (p := fun j => al g (if j = s.1 then a else s.2.1 j) k l) ?_ ?_ (fun j hj => ?_)
  · unfold g1
    try dsimp only
    split <;> omega
  · try dsimp only
    rw [if_neg (by omega)]
    exact ff_yes (fun j => al g (s.2.1 j) k l) s.1 z
  · try dsimp only
    rw [if_neg (by omega)]
    exact ff_no (fun j => al g (s.2.1 j) k l) s.1 j hj
theorem gj_n {g : Int → Int → Int} {l a k : Int} (h : al g a k l = false) {s : gst} (z : ¬ gj g l k s < s.1) : gj g l k (g1 g l a s) = (g1 g l a s).1 := by
  refine ff_all (p := fun j => al g (if j = s.1 then a else s.2.1 j) k l) (fun j hj => ?_)
  have hle := gj_le g l k s
  by_cases q : j = s.1
  · try dsimp only
    rw [if_pos q]
    exact h
  · try dsimp only
    rw [if_neg q]
    refine ff_no (fun j => al g (s.2.1 j) k l) s.1 j ?_
    have : j < s.1 := by
      unfold g1 at hj
      try dsimp only at hj
      split at hj <;> omega
    unfold gj at z hle
    omega
/-- what one case adds -/
def cQ1 (g : Int → Int → Int) (k c : Int) : Int := if c = 2 * g k 0 then 1 else if c = 2 * g k 0 + 1 ∧ g k 2 = 2 then 1 else 0
theorem tQ_1 (g : Int → Int → Int) (k j i c : Int) : tQ g k j 1 i c = if i = j then cQ1 g k c else 0 := by
  unfold tQ cQ1
  repeat' split
  all_goals first | rfl | (exfalso; simp_all)
theorem tQ_m (g : Int → Int → Int) (k j i c : Int) : tQ g k j (-1) i c = -tQ g k j 1 i c := by
  unfold tQ
  repeat' split
  all_goals rfl
/-- the tallies of the class of k among the first m, without one -/
def tC (g : Int → Int → Int) (l : Int) (f : Nat → Int) (sk : Int) : Nat → Int → Int → Int
  | 0, _, _ => 0
  | m + 1, k, c => tC g l f sk m k c + if f m ≠ sk ∧ al g (f m) k l = true then cQ1 g (f m) c else 0
theorem tC_s (g : Int → Int → Int) (l : Int) (f : Nat → Int) (sk : Int) (m : Nat) (k c : Int) : tC g l f sk (m + 1) k c = tC g l f sk m k c + if f m ≠ sk ∧ al g (f m) k l = true then cQ1 g (f m) c else 0 := rfl
theorem tC_al {g : Int → Int → Int} {l : Int} {f : Nat → Int} {sk a k : Int} (h : al g a k l = true) (c : Int) : ∀ m, tC g l f sk m a c = tC g l f sk m k c
  | 0 => rfl
  | m + 1 => by rw [tC_s, tC_s, tC_al h c m, al_u (f m) h]
theorem gp_s {g : Int → Int → Int} {l : Int} {f : Nat → Int} {sk : Int} {m : Nat} (q : f m ≠ sk) : gp g l f sk (m + 1) = g1 g l (f m) (gp g l f sk m) := if_neg q
theorem gp_C (g : Int → Int → Int) (l : Int) (f : Nat → Int) (sk : Int) : ∀ (m : Nat) (k c : Int), (gp g l f sk m).2.2 (gj g l k (gp g l f sk m)) c = tC g l f sk m k c
  | 0, k, c => rfl
  | m + 1, k, c => by
    have ih := gp_C g l f sk m k c
    rw [tC_s]
    by_cases q : f m = sk
    · rw [show gp g l f sk (m + 1) = gp g l f sk m from if_pos q, ih, if_neg (fun z => z.1 q), Int.add_zero]
    · have hz := fun j => (gp_T g l f sk (m + 1) j c).2
      have hz0 := fun j => (gp_T g l f sk m j c).2
      rw [gp_s q] at hz ⊢
      generalize gp g l f sk m = s at *
      have ht : ∀ j : Int, (g1 g l (f m) s).2.2 j c = s.2.2 j c + if j = gj g l (f m) s then cQ1 g (f m) c else 0 := fun j => by
        rw [← tQ_1]
        rfl
      by_cases h : al g (f m) k l = true
      · rw [gj_y h, if_pos ⟨q, h⟩, ht, if_pos rfl, ← ih, gj_al h]
      · rw [if_neg (fun z => h z.2), Int.add_zero, ← ih]
        by_cases z : gj g l k s < s.1
        · rw [gj_z z, ht, if_neg, Int.add_zero]
          intro e
          have e : gj g l k s = gj g l (f m) s := by omega
          have y1 := ff_yes (fun j => al g (s.2.1 j) k l) s.1 z
          have y2 := ff_yes (fun j => al g (s.2.1 j) (f m) l) s.1 (by unfold gj at e z; omega)
          have y2' : al g (s.2.1 (gj g l k s)) (f m) l = true := by rw [e]; exact y2
          have y1' : al g (s.2.1 (gj g l k s)) k l = true := y1
          rw [al_t k y2', y1'] at h
          exact h rfl
        · have hle := gj_le g l k s
          rw [gj_n (by simpa using h) z, hz _ (Int.le_refl _), hz0 _ (by omega)]
def lkQ (t : Int → Int) : Int := if 0 < t 0 ∧ 0 < t 2 then t 2 * t 1 * 1000 / t 0 - 1000 * t 3 else 0
theorem lk1_Q (s : gst) (j : Int) : lk1 s j = lkQ (fun c => s.2.2 j c) := rfl
theorem lkQ_0 {t : Int → Int} (h : ∀ c, t c = 0) : lkQ t = 0 := if_neg (fun z => by rw [h 0] at z; exact absurd z.1 (by decide))
theorem sm_ch {f h : Nat → Int} {y : Nat} : ∀ {n : Nat}, y < n → (∀ i, i < n → i ≠ y → h i = f i) → sm h n = sm f n + h y - f y
  | 0, q, _ => absurd q (Nat.not_lt_zero _)
  | n + 1, q, e => by
    rw [sm_s, sm_s]
    by_cases z : y = n
    · rw [← z, sm_c (n := y) (f := h) (g := f) (fun i hi => e i (by omega) (by omega))]
      omega
    · rw [sm_ch (n := n) (by omega) (fun i hi hy => e i (by omega) hy), e n (by omega) (fun w => z w.symm)]
      omega
/-- the lack of all, case by case -/
def lW (g : Int → Int → Int) (l : Int) (f : Nat → Int) (sk : Int) : Nat → Int
  | 0 => 0
  | m + 1 => if f m = sk then lW g l f sk m else lW g l f sk m + (lkQ (fun c => tC g l f sk m (f m) c + cQ1 g (f m) c) - lkQ (fun c => tC g l f sk m (f m) c))
theorem gp_W (g : Int → Int → Int) (l : Int) (f : Nat → Int) (sk : Int) : ∀ m : Nat, lkS (gp g l f sk m) (gp g l f sk m).1 = lW g l f sk m
  | 0 => rfl
  | m + 1 => by
    have ih := gp_W g l f sk m
    by_cases q : f m = sk
    · rw [show gp g l f sk (m + 1) = gp g l f sk m from if_pos q, show lW g l f sk (m + 1) = lW g l f sk m from if_pos q, ih]
    · rw [show lW g l f sk (m + 1) = lW g l f sk m + (lkQ (fun c => tC g l f sk m (f m) c + cQ1 g (f m) c) - lkQ (fun c => tC g l f sk m (f m) c)) from if_neg q]
      have hz0 := fun j c => (gp_T g l f sk m j c).2
      have hC := gp_C g l f sk m (f m)
      rw [gp_s q, ← ih]
      generalize gp g l f sk m = s at *
      have ht : ∀ j c : Int, (g1 g l (f m) s).2.2 j c = s.2.2 j c + if j = gj g l (f m) s then cQ1 g (f m) c else 0 := fun j c => by
        rw [← tQ_1]
        rfl
      have hle := gj_le g l (f m) s
      have e1 : lk1 (g1 g l (f m) s) (gj g l (f m) s) = lkQ (fun c => tC g l f sk m (f m) c + cQ1 g (f m) c) := by
        rw [lk1_Q]
        congr 1
        funext c
        rw [ht, if_pos rfl, hC]
      have e2 : lk1 s (gj g l (f m) s) = lkQ (fun c => tC g l f sk m (f m) c) := by
        rw [lk1_Q]
        congr 1
        funext c
        rw [hC]
      have e3 : ∀ i : Nat, i ≠ gj g l (f m) s → lk1 (g1 g l (f m) s) i = lk1 s i := fun i hi => by
        rw [lk1_Q, lk1_Q]
        congr 1
        funext c
        rw [ht, if_neg (by omega), Int.add_zero]
      rw [← e1, ← e2]
      by_cases z : gj g l (f m) s < s.1
      · have e0 : (g1 g l (f m) s).1 = s.1 := if_pos z
        have := sm_ch (f := fun j => lk1 s j) (h := fun j => lk1 (g1 g l (f m) s) j) z (fun i _ hi => e3 i hi)
        unfold lkS
        rw [e0, this]
        omega
      · have e0 : (g1 g l (f m) s).1 = s.1 + 1 := if_neg z
        have z2 : gj g l (f m) s = s.1 := by omega
        have c1 : lkS (g1 g l (f m) s) s.1 = lkS s s.1 := sm_c (fun i hi => e3 i (by omega))
        have c2 : lk1 s (s.1 : Nat) = 0 := by
          rw [lk1_Q]
          exact lkQ_0 (fun c => hz0 _ c (Int.le_refl _))
        rw [e0, z2, c2]
        rw [show lkS (g1 g l (f m) s) (s.1 + 1) = lkS (g1 g l (f m) s) s.1 + lk1 (g1 g l (f m) s) (s.1 : Nat) from rfl, c1]
        omega
theorem tC_d {g : Int → Int → Int} {l : Int} {f : Nat → Int} {M i : Nat} (hi : i < M) (hd : ∀ a b, a < M → b < M → f a = f b → a = b) (hn : ∀ a, a < M → f a ≠ -1) : ∀ {m : Nat}, m ≤ M → ∀ k c : Int, tC g l f (f i) m k c = tC g l f (-1) m k c - if i < m ∧ al g (f i) k l = true then cQ1 g (f i) c else 0
  | 0, _, k, c => by
    rw [if_neg (fun z => absurd z.1 (Nat.not_lt_zero _))]
    rfl
  | m + 1, hm, k, c => by
    rw [tC_s, tC_s, tC_d hi hd hn (m := m) (by omega)]
    by_cases q : m = i
    · rw [q]
      have := hn i hi
      by_cases z : al g (f i) k l = true
      · rw [if_neg (fun w => absurd w.1 (Nat.lt_irrefl _)), if_neg (fun w => w.1 rfl), if_pos ⟨this, z⟩, if_pos ⟨by omega, z⟩]
        omega
      · rw [if_neg (fun w => absurd w.1 (Nat.lt_irrefl _)), if_neg (fun w => w.1 rfl), if_neg (fun w => z w.2), if_neg (fun w => z w.2)]
        omega
    · have q1 : f m ≠ f i := fun w => q (hd m i (by omega) hi w)
      have q2 := hn m (by omega)
      have e1 : (if f m ≠ f i ∧ al g (f m) k l = true then cQ1 g (f m) c else 0) = (if f m ≠ -1 ∧ al g (f m) k l = true then cQ1 g (f m) c else 0) := by
        by_cases z : al g (f m) k l = true
        · rw [if_pos ⟨q1, z⟩, if_pos ⟨q2, z⟩]
        · rw [if_neg (fun w => z w.2), if_neg (fun w => z w.2)]
      have e2 : (if i < m + 1 ∧ al g (f i) k l = true then cQ1 g (f i) c else 0) = (if i < m ∧ al g (f i) k l = true then cQ1 g (f i) c else 0) := by
        by_cases z : i < m
        · by_cases z2 : al g (f i) k l = true
          · rw [if_pos ⟨by omega, z2⟩, if_pos ⟨z, z2⟩]
          · rw [if_neg (fun w => z2 w.2), if_neg (fun w => z2 w.2)]
        · rw [if_neg (by omega), if_neg (by omega)]
      rw [e1, e2]
      omega
theorem lW_d {g : Int → Int → Int} {l : Int} {f : Nat → Int} {M i : Nat} (hi : i < M) (hd : ∀ a b, a < M → b < M → f a = f b → a = b) (hn : ∀ a, a < M → f a ≠ -1) : ∀ {m : Nat}, m ≤ M → lW g l f (-1) m = lW g l f (f i) m + if i < m then lkQ (fun c => tC g l f (-1) m (f i) c) - lkQ (fun c => tC g l f (-1) m (f i) c - cQ1 g (f i) c) else 0
  | 0, _ => by
    rw [if_neg (Nat.not_lt_zero _)]
    rfl
  | m + 1, hm => by
    have ih := lW_d (g := g) (l := l) hi hd hn (m := m) (by omega)
    have hD := tC_d (g := g) (l := l) hi hd hn (m := m) (by omega)
    rw [show lW g l f (-1) (m + 1) = lW g l f (-1) m + (lkQ (fun c => tC g l f (-1) m (f m) c + cQ1 g (f m) c) - lkQ (fun c => tC g l f (-1) m (f m) c)) from if_neg (hn m (by omega)), ih]
    by_cases q : m = i
    · rw [q, if_neg (Nat.lt_irrefl _), if_pos (by omega), show lW g l f (f i) (i + 1) = lW g l f (f i) i from if_pos rfl]
      have e : ∀ c, tC g l f (-1) (i + 1) (f i) c = tC g l f (-1) i (f i) c + cQ1 g (f i) c := fun c => by
        rw [tC_s, if_pos ⟨hn i hi, al_r g _ l⟩]
      simp only [e, Int.add_sub_cancel]
      omega
    · have q1 : f m ≠ f i := fun w => q (hd m i (by omega) hi w)
      rw [show lW g l f (f i) (m + 1) = lW g l f (f i) m + (lkQ (fun c => tC g l f (f i) m (f m) c + cQ1 g (f m) c) - lkQ (fun c => tC g l f (f i) m (f m) c)) from if_neg q1]
      simp only [hD]
      by_cases z : i < m
      · rw [if_pos z, if_pos (by omega)]
        by_cases z2 : al g (f i) (f m) l = true
        · have e : ∀ c, tC g l f (-1) (m + 1) (f i) c = tC g l f (-1) m (f i) c + cQ1 g (f m) c := fun c => by
            rw [tC_s, if_pos ⟨hn m (by omega), by rw [al_s]; exact z2⟩]
          have e2 : ∀ c, tC g l f (-1) m (f m) c = tC g l f (-1) m (f i) c := fun c => (tC_al z2 c m).symm
          simp only [e, e2, if_pos (show i < m ∧ al g (f i) (f m) l = true from ⟨z, z2⟩)]
          have e3 : (fun c => tC g l f (-1) m (f i) c - cQ1 g (f i) c + cQ1 g (f m) c) = fun c => tC g l f (-1) m (f i) c + cQ1 g (f m) c - cQ1 g (f i) c := by
            funext c
            omega
          rw [e3]
          omega
        · have e : ∀ c, tC g l f (-1) (m + 1) (f i) c = tC g l f (-1) m (f i) c := fun c => by
            rw [tC_s, if_neg (fun w => z2 (by rw [al_s]; exact w.2)), Int.add_zero]
          simp only [e, if_neg (show ¬ (i < m ∧ al g (f i) (f m) l = true) from fun w => z2 w.2), Int.sub_zero]
          omega
      · rw [if_neg z, if_neg (by omega)]
        simp only [if_neg (show ¬ (i < m ∧ al g (f i) (f m) l = true) from fun w => z w.1), Int.sub_zero]
        omega
/-- a case's group stays -/
theorem gj_st {g : Int → Int → Int} {l : Int} {f : Nat → Int} {i : Nat} {M : Nat} (hn : ∀ a, a < M → f a ≠ -1) : ∀ {m : Nat}, i < m → m ≤ M → gj g l (f i) (gp g l f (-1) m) = gj g l (f i) (gp g l f (-1) i) ∧ gj g l (f i) (gp g l f (-1) m) < (gp g l f (-1) m).1
  | 0, h, _ => absurd h (Nat.not_lt_zero _)
  | m + 1, h, hm => by
    rw [gp_s (hn m (by omega))]
    by_cases q : i = m
    · rw [q, gj_y (al_r g (f m) l)]
      have hle := gj_le g l (f m) (gp g l f (-1) m)
      refine ⟨rfl, ?_⟩
      unfold g1
      try dsimp only
      split <;> omega
    · obtain ⟨h1, h2⟩ := gj_st (g := g) (l := l) (i := i) hn (m := m) (by omega) (by omega)
      rw [gj_z h2]
      refine ⟨h1, ?_⟩
      unfold g1
      try dsimp only
      split <;> omega
/-- the lack without one -/
def swL (A : ab) (v : Int) (i : Nat) : Int := lkS (gp (aG A) (aV A v).2.1 (vF A v) (vF A v i) (vM A v)) (gp (aG A) (aV A v).2.1 (vF A v) (vF A v i) (vM A v)).1
def sw (A : ab) (v : Int) : Nat → Int × Int
  | 0 => (-1, -1000000)
  | i + 1 => if (sw A v i).1 = -1 ∨ na (swL A v i) < na (sw A v i).2 then (vF A v i, swL A v i) else sw A v i
theorem sw_s (A : ab) (v : Int) (i : Nat) : sw A v (i + 1) = if (sw A v i).1 = -1 ∨ na (swL A v i) < na (sw A v i).2 then (vF A v i, swL A v i) else sw A v i := rfl
theorem swL_ran {A : ab} (hA : okA A) (v : Int) (i : Nat) : -40000000 ≤ swL A v i ∧ swL A v i ≤ 40000000 := by
  have hm := vM_le hA v
  have := gp_le (aG A) (aV A v).2.1 (vF A v) (vF A v i) (vM A v)
  exact lkS_ran (gT_of _ _ _ _ hm) (fun j => (gp_T1 _ _ _ _ _ j).1) (by omega)
theorem sw_ran {A : ab} (hA : okA A) (v : Int) : ∀ i : Nat, i ≤ vM A v → (-1 ≤ (sw A v i).1 ∧ (sw A v i).1 < 200) ∧ -40000000 ≤ (sw A v i).2 ∧ (sw A v i).2 ≤ 40000000
  | 0, _ => ⟨⟨Int.le_refl _, (by decide : (-1 : Int) < 200)⟩, (by decide : (-40000000 : Int) ≤ -1000000), (by decide : (-1000000 : Int) ≤ 40000000)⟩
  | i + 1, h => by
    have ih := sw_ran hA v i (by omega)
    have h1 := swL_ran hA v i
    have h2 := vF_ok hA v (show i < vM A v by omega)
    have hn : aN A ≤ 200 := hA.1.2.1
    rw [sw_s]
    split
    · exact ⟨⟨by show -1 ≤ vF A v i; omega, by show vF A v i < 200; omega⟩, h1⟩
    · exact ih
theorem vF_in {A : ab} (v : Int) {a b : Nat} (ha : a < vM A v) (hb : b < vM A v) (h : vF A v a = vF A v b) : a = b := tg_in _ _ ha hb h
/-- the same groups with one case out of its group -/
def sO (g : Int → Int → Int) (k : Int) (y : Nat) (s : gst) : gst := (s.1, s.2.1, fun j c => s.2.2 j c + tQ g k y (-1) j c)
theorem sw_d {A : ab} (hA : okA A) (v : Int) {i : Nat} (hi : i < vM A v) : gT (sO (aG A) (vF A v i) (gj (aG A) (aV A v).2.1 (vF A v i) (grV A v)) (grV A v)) 200 ∧ swL A v i = lkS (grV A v) (grV A v).1 + (lk1 (sO (aG A) (vF A v i) (gj (aG A) (aV A v).2.1 (vF A v i) (grV A v)) (grV A v)) (gj (aG A) (aV A v).2.1 (vF A v i) (grV A v) : Nat) - lk1 (grV A v) (gj (aG A) (aV A v).2.1 (vF A v i) (grV A v) : Nat)) := by
  have hm := vM_le hA v
  have hd : ∀ a b, a < vM A v → b < vM A v → vF A v a = vF A v b → a = b := fun a b => vF_in v
  have hn : ∀ a, a < vM A v → vF A v a ≠ -1 := fun a ha => by
    have := vF_ok hA v ha
    omega
  have hC := gp_C (aG A) (aV A v).2.1 (vF A v) (-1) (vM A v) (vF A v i)
  have hC2 := gp_C (aG A) (aV A v).2.1 (vF A v) (vF A v i) (vM A v) (vF A v i)
  have hD := tC_d (g := aG A) (l := (aV A v).2.1) hi hd hn (Nat.le_refl _) (vF A v i)
  have hW := lW_d (g := aG A) (l := (aV A v).2.1) hi hd hn (Nat.le_refl _)
  have hT0 : gT (grV A v) 200 := gT_of _ _ _ _ hm
  have hT1 : gT (gp (aG A) (aV A v).2.1 (vF A v) (vF A v i) (vM A v)) 200 := gT_of _ _ _ _ hm
  rw [if_pos hi] at hW
  have e : ∀ (j c : Int), (sO (aG A) (vF A v i) (gj (aG A) (aV A v).2.1 (vF A v i) (grV A v)) (grV A v)).2.2 j c = (grV A v).2.2 j c - if j = (gj (aG A) (aV A v).2.1 (vF A v i) (grV A v) : Nat) then cQ1 (aG A) (vF A v i) c else 0 := fun j c => by
    rw [← tQ_1, Int.sub_eq_add_neg, ← tQ_m]
    rfl
  have hD' : ∀ c, tC (aG A) (aV A v).2.1 (vF A v) (vF A v i) (vM A v) (vF A v i) c = tC (aG A) (aV A v).2.1 (vF A v) (-1) (vM A v) (vF A v i) c - cQ1 (aG A) (vF A v i) c := fun c => by
    rw [hD c, if_pos ⟨hi, al_r _ _ _⟩]
  refine ⟨fun j c => ?_, ?_⟩
  · rw [e]
    by_cases q : j = (gj (aG A) (aV A v).2.1 (vF A v i) (grV A v) : Nat)
    · rw [if_pos q, q]
      have h1 : (grV A v).2.2 (gj (aG A) (aV A v).2.1 (vF A v i) (grV A v) : Nat) c = _ := hC c
      rw [h1, ← hD' c, ← hC2 c]
      exact hT1 _ c
    · rw [if_neg q, Int.sub_zero]
      exact hT0 j c
  · have h0 : lkS (grV A v) (grV A v).1 = lW (aG A) (aV A v).2.1 (vF A v) (-1) (vM A v) := gp_W _ _ _ _ _
    have h1 : swL A v i = lW (aG A) (aV A v).2.1 (vF A v) (vF A v i) (vM A v) := gp_W _ _ _ _ _
    rw [h0, h1, hW, lk1_Q, lk1_Q]
    have e1 : (fun c => (grV A v).2.2 (gj (aG A) (aV A v).2.1 (vF A v i) (grV A v) : Nat) c) = fun c => tC (aG A) (aV A v).2.1 (vF A v) (-1) (vM A v) (vF A v i) c := by
      funext c
      exact hC c
    have e2 : (fun c => (sO (aG A) (vF A v i) (gj (aG A) (aV A v).2.1 (vF A v i) (grV A v)) (grV A v)).2.2 (gj (aG A) (aV A v).2.1 (vF A v i) (grV A v) : Nat) c) = fun c => tC (aG A) (aV A v).2.1 (vF A v) (-1) (vM A v) (vF A v i) c - cQ1 (aG A) (vF A v i) c := by
      funext c
      rw [e, if_pos rfl]
      have h1 : (grV A v).2.2 (gj (aG A) (aV A v).2.1 (vF A v i) (grV A v) : Nat) c = _ := hC c
      rw [h1]
    rw [e1, e2]
    omega
-- a field set for a while
theorem fr_cong {l : List Nat} {w v : wo} (h : fr l w v) (a k : Nat) (x : Int) : fr l (uI w a k x) (uI v a k x) := by
  refine ⟨fun b j e => ⟨?_, (h.1 b j e).2⟩, h.2⟩
  rw [uI_I, uI_I, (h.1 b j e).1]
theorem fr_set (l : List Nat) (w : wo) (a k : Nat) (x y : Int) : fr l (uI w a k x) (uI (uI w a k y) a k x) := by
  refine ⟨fun b j e => ⟨?_, rfl⟩, (fr_r l w).2⟩
  rw [uI_I, uI_I, uI_I]
  split <;> rfl
theorem fr_self (l : List Nat) {w : wo} {a k : Nat} {x : Int} (h : wI w a k = x) : fr l w (uI w a k x) := by
  refine ⟨fun b j e => ⟨?_, rfl⟩, (fr_r l w).2⟩
  rw [uI_I]
  split
  · rename_i q
    rw [q.1, q.2, h]
  · rfl
theorem fr_open {l : List Nat} {u z : wo} {a k : Nat} {x : Int} (h : fr l u (uI z a k x)) : fr ((a * 100 + k) :: l) u z := by
  refine ⟨fun b j e => ?_, fun b e => ?_, h.2.2⟩
  · have e' : (Nat.beq (a * 100 + k) (b * 100 + j) || fhas l (b * 100 + j)) = false := e
    rw [Bool.or_eq_false_iff] at e'
    have := h.1 b j e'.2
    rw [uI_I, if_neg] at this
    · exact this
    · rintro ⟨rfl, rfl⟩
      rw [Nat.beq_refl] at e'
      exact absurd e'.1 (by decide)
  · have e' : (Nat.beq (a * 100 + k) (b * 100 + 99) || fhas l (b * 100 + 99)) = false := e
    rw [Bool.or_eq_false_iff] at e'
    exact h.2.1 b e'.2
section L39
variable {sc : am_X} {w : wo} {A : ab} {ow : Nat → Nat} {n : Int} {g : Int → Int → Int} {l : Int} {s : gst}
theorem c177 (hC : CS w n g) (hg : gK n g) {m : Nat} {f : Nat → Int} (hT : TK w m f) (hm : m ≤ 200) (hf : ∀ i, i < m → 0 ≤ f i ∧ f i < n) (h : GS w g l s) (hs : s.1 ≤ 200) (hT0 : gT s 200) {i y : Nat} (hi : i < m) (hy : y < s.1) (h25 : wA w 25 i = y) (hT1 : gT (sO g (f i) y s) 200) : ∃ v, am_F sc 177 [am_R (some 22), am_I (ii i)] (wst w) = some (some (am_I (ii (lk1 (sO g (f i) y s) y - lk1 s y))), wst v) ∧ fr [2799] w v ∧ GS v g l s := by
  have hfi := hf i hi
  have hn200 := hC.2.2.1
  have p1 := c118 (sc := sc) hT hm hi
  have p2 := c156 (sc := sc) h hT0 (j := y) (by omega) (by omega)
  obtain ⟨v1, e1, f1, b1⟩ := c145 (sc := sc) hC hg (j := y) (k := f i) (x := -1) (by omega) (by omega) hfi.1 hfi.2
  have g1' : GS v1 g l (sO g (f i) y s) := ⟨by rw [fr_I f1 rfl]; exact h.1, fun j hj => by rw [fr_A (a := 26) f1 rfl]; exact h.2.1 j hj, fun j c j0 j1 c0 c1 => by
    rw [b1 j c j0 c0 c1, h.2.2 j c j0 j1 c0 c1]
    rfl⟩
  have p3 := c156 (sc := sc) g1' hT1 (j := y) (by omega) (by omega)
  obtain ⟨v2, e2, f2, b2⟩ := c145 (sc := sc) (CS_fr hC f1 rfl) hg (j := y) (k := f i) (x := 1) (by omega) (by omega) hfi.1 hfi.2
  have f12 : fr [2799] w v2 := fr_t f1 f2
  refine ⟨v2, ?_, f12, by rw [fr_I f12 rfl]; exact h.1, fun j hj => by rw [fr_A (a := 26) f12 rfl]; exact h.2.1 j hj, fun j c j0 j1 c0 c1 => ?_⟩
  · rw [fq_177]
    simp (disch := omega) only [qB_s, qC_t, qC_f, qI_T, qI_F, qI_t, qI_f, r_I, r_L, r_R, r_V, ii_add, ii_sub, ii_mul, ii_neg, bz_0, bz_1, Bool.true_and, Bool.false_and, Bool.and_true, z00, z11, li_0, li_1, e_25, gR_22_5, is_22, ii_lt, ii_eq, p1, p2, p3, e1, e2, h25]
  · rw [b2 j c j0 c0 c1, b1 j c j0 c0 c1, h.2.2 j c j0 j1 c0 c1, tQ_m]
    omega
theorem x_178 (hC : RC ow w A) (hA : okA A) {v x : Int} (hv1 : -2147483648 ≤ v) (hv2 : v ≤ 2147483647) (hx1 : -2147483648 ≤ x) (hx2 : x ≤ 2147483647) : ∃ u, am_F sc 178 [am_R (some 0), am_I (ii v), am_I (ii x)] (wst w) = some (some (am_I (ii (if (x = 0 ∨ x = 1) ∧ (0 ≤ v ∧ v < A.2.2.1.1) then if x = 0 then (sw A v (vM A v)).1 else (sw A v (vM A v)).2 else -1))), wst u) ∧ fr scC w u := by
  have hn8 := hA.2.2.1.2.1
  have hn0 := hA.2.2.1.1
  have h126 := s126 (sc := sc) (w := w) hx1 hx2
  by_cases q1 : x = 0 ∨ x = 1
  · skip
    by_cases q2 : 0 ≤ v ∧ v < A.2.2.1.1
    · skip
      rw [if_pos (by omega)]
      obtain ⟨u, e1, f1, t1, hL⟩ := (c117 (sc := sc) hC hA hv1 hv2).1 q2
      have hCu := RC_c hC (fr_m f1 rfl)
      have hm := vM_le hA v
      have hg := hA.1.2.2.1
      have hst := stg hA v
      have hok : ∀ i, i < vM A v → 0 ≤ vF A v i ∧ vF A v i < A.1.1 := fun i hi => vF_ok hA v hi
      have hx := hA.2.2.1.2.2 v q2.1 q2.2
      obtain ⟨u2, e2, f2, g2, k2⟩ := c146 (sc := sc) hCu.1 hg t1 hm hok hL hx.2.1.1 hx.2.1.2 (fun i hi => vF_lm v hi)
      have g2' : GS u2 (aG A) (aV A v).2.1 (grV A v) := g2
      have hT : gT (grV A v) 200 := gT_of _ _ _ _ hm
      have hG := g2'.1
      have hGl : (grV A v).1 ≤ vM A v := gp_le _ _ _ _ _
      have f12 : fr scC w u2 := fr_t (fr_m f1 rfl) (fr_m f2 rfl)
      have e3 := c157 (sc := sc) g2' hT (by omega)
      have hn' : ∀ a, a < vM A v → vF A v a ≠ -1 := fun a ha => by
        have := hok a ha
        omega
      obtain ⟨u, e, hfr, hgu⟩ := lp_s0 (am_W sc 178) (fun (i : Nat) (u : wo) => (42, [some (am_R (some 0)), none, some (am_I (ii x)), some (am_I (ii (lkS (grV A v) (grV A v).1))), some (am_I (ii (sw A v i).1)), some (am_I (ii (sw A v i).2)), some (am_I (ii i)), none], [], wst u)) (fun i u => fr [2799] u2 u ∧ GS u (aG A) (aV A v).2.1 (grV A v)) (vM A v) (fun i u hi hu => by
        have fu : fr scC w u := fr_t f12 (fr_m hu.1 rfl)
        have hCu2 : CS u A.1.1 A.1.2.1 := (RC_c hC fu).1
        have hTu : TK u (vM A v) (vF A v) := TK_fr (TK_fr t1 f2 rfl) hu.1 rfl
        have hst := gj_st (g := aG A) (l := (aV A v).2.1) hn' hi (Nat.le_refl _)
        have hst1 : gj (aG A) (aV A v).2.1 (vF A v i) (grV A v) = _ := hst.1
        have h25 : wA u 25 i = (gj (aG A) (aV A v).2.1 (vF A v i) (grV A v) : Nat) := by
          rw [fr_A (a := 25) hu.1 rfl, k2 i hi, hst1]
          rfl
        obtain ⟨hd1, hd2⟩ := sw_d hA v hi
        obtain ⟨u3, e4, f4, g4⟩ := c177 (sc := sc) hCu2 hg hTu hm hok hu.2 (by omega) hT hi hst.2 h25 hd1
        have p1 := c118 (sc := sc) (TK_fr hTu f4 rfl) hm hi
        have hr := sw_ran hA v i (by omega)
        have hl := swL_ran hA v i
        have hs := hTu.1
        have ea : am_absI (ii (swL A v i)) = ii (na (swL A v i)) := absI_ii (by omega) (by omega)
        have eb : am_absI (ii (sw A v i).2) = ii (na (sw A v i).2) := absI_ii (by omega) (by omega)
        have na1 : 0 ≤ na (swL A v i) ∧ na (swL A v i) ≤ 40000000 := by unfold na; split <;> omega
        have na2 : 0 ≤ na (sw A v i).2 ∧ na (sw A v i).2 ≤ 40000000 := by unfold na; split <;> omega
        refine ⟨u3, ?_, fr_t hu.1 f4, g4⟩
        rw [wq_178_42, sw_s]
        have e4' : am_F sc 177 [am_R (some 22), am_I (ii i)] (wst u) = some (some (am_I (ii (lk1 (sO (aG A) (vF A v i) (gj (aG A) (aV A v).2.1 (vF A v i) (grV A v)) (grV A v)) (gj (aG A) (aV A v).2.1 (vF A v i) (grV A v) : Nat) - lk1 (grV A v) (gj (aG A) (aV A v).2.1 (vF A v i) (grV A v) : Nat)))), wst u3) := e4
        rw [show lk1 (sO (aG A) (vF A v i) (gj (aG A) (aV A v).2.1 (vF A v i) (grV A v)) (grV A v)) (gj (aG A) (aV A v).2.1 (vF A v i) (grV A v) : Nat) - lk1 (grV A v) (gj (aG A) (aV A v).2.1 (vF A v i) (grV A v) : Nat) = swL A v i - lkS (grV A v) (grV A v).1 by omega] at e4'
        have hz : lkS (grV A v) (grV A v).1 + (swL A v i - lkS (grV A v) (grV A v).1) = swL A v i := by omega
        by_cases q3 : (sw A v i).1 = -1
        · rw [if_pos (.inl q3)]
          simp (disch := omega) only [qB_s, qC_t, qC_f, qI_T, qI_F, qI_t, qI_f, r_I, r_L, r_R, r_V, ii_add, ii_sub, ii_mul, ii_neg, bz_0, bz_1, Bool.true_and, Bool.false_and, Bool.and_true, z00, z11, li_0, li_1, li_1000000, gI_22_3, gR_0_9, is_0, is_22, hs, ii_lt, ii_eq, e4', p1, hz, nat_1]
        · by_cases q4 : na (swL A v i) < na (sw A v i).2
          · rw [if_pos (.inr q4)]
            simp (disch := omega) only [qB_s, qC_t, qC_f, qI_T, qI_F, qI_t, qI_f, r_I, r_L, r_R, r_V, ii_add, ii_sub, ii_mul, ii_neg, bz_0, bz_1, Bool.true_and, Bool.false_and, Bool.and_true, z00, z11, li_0, li_1, li_1000000, gI_22_3, gR_0_9, is_0, is_22, hs, ii_lt, ii_eq, e4', p1, hz, ea, eb, nat_1]
          · rw [if_neg (by omega)]
            simp (disch := omega) only [qB_s, qC_t, qC_f, qI_T, qI_F, qI_t, qI_f, r_I, r_L, r_R, r_V, ii_add, ii_sub, ii_mul, ii_neg, bz_0, bz_1, Bool.true_and, Bool.false_and, Bool.and_true, z00, z11, li_0, li_1, li_1000000, gI_22_3, gR_0_9, is_0, is_22, hs, ii_lt, ii_eq, e4', p1, hz, ea, eb, nat_1]) u2 ⟨fr_r _ _, g2'⟩
      have e' : am_W sc 178 (42, [some (am_R (some 0)), none, some (am_I (ii x)), some (am_I (ii (lkS (grV A v) (grV A v).1))), some (am_I (ii (-1))), some (am_I (ii (-1000000))), some (am_I (ii 0)), none], [], wst u2) = _ := e
      have hs : wI u 22 3 = vM A v := by rw [fr_I hfr rfl]; exact (TK_fr t1 f2 rfl).1
      refine ⟨u, ?_, fr_t f12 (fr_m hfr rfl)⟩
      rw [fq_178]
      simp (disch := omega) only [qB_s, qC_t, qC_f, qI_T, qI_F, qI_t, qI_f, r_I, r_L, r_R, r_V, ii_add, ii_sub, ii_mul, ii_neg, bz_0, bz_1, Bool.true_and, Bool.false_and, Bool.and_true, z00, z11, li_0, li_1, li_1000000, gI_22_3, gR_0_9, is_0, is_22, h126, e1, e2, e3, ii_eq, ii_lt]
      rw [e', wq_178_42]
      by_cases q3 : x = 0
      · rw [if_pos q3]
        simp (disch := omega) only [qB_s, qC_t, qC_f, qI_T, qI_F, qI_t, qI_f, r_I, r_L, r_R, r_V, ii_add, ii_sub, ii_mul, ii_neg, bz_0, bz_1, Bool.true_and, Bool.false_and, Bool.and_true, z00, z11, li_0, li_1, li_1000000, gI_22_3, gR_0_9, is_0, is_22, hs, ii_lt, ii_eq]
      · rw [if_neg q3]
        simp (disch := omega) only [qB_s, qC_t, qC_f, qI_T, qI_F, qI_t, qI_f, r_I, r_L, r_R, r_V, ii_add, ii_sub, ii_mul, ii_neg, bz_0, bz_1, Bool.true_and, Bool.false_and, Bool.and_true, z00, z11, li_0, li_1, li_1000000, gI_22_3, gR_0_9, is_0, is_22, hs, ii_lt, ii_eq]
    · rw [if_neg (by omega)]
      have h117 := (c117 (sc := sc) hC hA hv1 hv2).2 q2
      exact ⟨w, by
        rw [fq_178]
        simp (disch := omega) only [qB_s, qC_t, qC_f, qI_T, qI_F, qI_t, qI_f, r_I, r_L, r_R, r_V, ii_add, ii_sub, ii_mul, ii_neg, bz_0, bz_1, Bool.true_and, Bool.false_and, Bool.and_true, z00, z11, li_0, li_1, li_1000000, gI_22_3, gR_0_9, is_0, is_22, ii_lt, ii_eq, ii_jj, jj_neg, h117, h126], fr_r _ _⟩
  · rw [if_neg (by omega)]
    exact ⟨w, by
      rw [fq_178]
      simp (disch := omega) only [qB_s, qC_t, qC_f, qI_T, qI_F, qI_t, qI_f, r_I, r_L, r_R, r_V, ii_add, ii_sub, ii_mul, ii_neg, bz_0, bz_1, Bool.true_and, Bool.false_and, Bool.and_true, z00, z11, li_0, li_1, li_1000000, gI_22_3, gR_0_9, is_0, is_22, ii_lt, ii_eq, ii_jj, jj_neg, h126], fr_r _ _⟩

theorem y_179 (hM : RM w A) (hsk : wI w 47 36 = -1) (hA : okA A) {v x : Int} (hv1 : -2147483648 ≤ v) (hv2 : v ≤ 2147483647) (hx1 : -2147483648 ≤ x) (hx2 : x ≤ 2147483647) : ∃ u, am_F sc 179 [am_R (some 47), am_I (ii v), am_I (ii x)] (wst w) = some (some (am_I (ii (if (0 ≤ v ∧ v < A.2.2.1.1) ∧ (x = 0 ∨ x = 1) then if x = 0 then (sw A v (vM A v)).1 else (sw A v (vM A v)).2 else -1))), wst u) ∧ fr scM w u := by
  have hn8 := hA.2.2.1.2.1
  have hn0 := hA.2.2.1.1
  have h120 := d120 (sc := sc) hM hn8 hn0 (v := v) hv1 hv2
  by_cases q1 : 0 ≤ v ∧ v < A.2.2.1.1
  · skip
    by_cases q2 : x = 0 ∨ x = 1
    · skip
      rw [if_pos (by omega)]
      obtain ⟨u, e1, f1, t1, hL, -⟩ := d124v (sc := sc) hM hA q1
      have hMu := RM_m hM (fr_m f1 rfl)
      have hm := vM_le hA v
      have hok : ∀ i, i < vM A v → 0 ≤ vF A v i ∧ vF A v i < A.1.1 := fun i hi => vF_ok hA v hi
      have hx := hA.2.2.1.2.2 v q1.1 q1.2
      have hn200 : A.1.1 ≤ 200 := hA.1.2.1
      have hT : ∀ sk, gT (gp (aG A) (aV A v).2.1 (vF A v) sk (vM A v)) 200 := fun sk => gT_of _ _ _ _ hm
      have f1' : fr scM w u := fr_m f1 rfl
      have hsku : wI u 47 36 = -1 := by rw [fr_I f1 rfl]; exact hsk
      obtain ⟨u2, e2, f2, f3⟩ := lp_s0 (am_W sc 179) (fun (i : Nat) (z : wo) => (36, [some (am_R (some 47)), none, some (am_I (ii x)), some (am_I (ii (sw A v i).1)), some (am_I (ii (sw A v i).2)), some (am_I (ii i)), none, none], [], wst z)) (fun i z => fr sH u (uI z 47 36 (-1)) ∧ True) (vM A v) (fun i z hi hz => by
        obtain ⟨hz0, -⟩ := hz
        have hz : fr (4736 :: sH) u z := fr_open hz0
        have hMz : MS z A.1.1 A.1.2.1 := MS_fr hMu.1 hz rfl
        have hTz : MK z (vM A v) (vF A v) := MK_fr t1 hz rfl
        have hs := hTz.1
        have h59 := hTz.2 i hi
        have hfi := hok i hi
        have fz : fr (4736 :: sH) u (uI z 47 36 (vF A v i)) := fr_uI hz rfl
        have hLz : wI (uI z 47 36 (vF A v i)) 47 25 = (aV A v).2.1 := by rw [fr_I fz rfl]; exact hL
        obtain ⟨u3, e3, f3, g3⟩ := d152 (sc := sc) (sk := vF A v i) (MS_fr hMu.1 fz rfl) hA.1.2.2.1 (MK_fr t1 fz rfl) hm hok hLz hx.2.1.1 hx.2.1.2 (rI _ _ _ _) (by omega) (by omega)
        have hGl := gp_le (aG A) (aV A v).2.1 (vF A v) (vF A v i) (vM A v)
        have g3' : HS u3 (gp (aG A) (aV A v).2.1 (vF A v) (vF A v i) (vM A v)) := g3
        have e4 := d159 (sc := sc) g3' (hT _) (by omega)
        have e4' : am_F sc 159 [am_R (some 47)] (wst u3) = some (some (am_I (ii (swL A v i))), wst u3) := e4
        have f3' : fr (4736 :: sH) u u3 := fr_t fz (fr_m f3 rfl)
        have h59' : wA u3 59 i = vF A v i := (MK_fr t1 f3' rfl).2 i hi
        have hr := sw_ran hA v i (by omega)
        have hl := swL_ran hA v i
        refine ⟨u3, ?_, fr_t hz0 (fr_t (fr_set _ _ _ _ _ _) (fr_cong f3 47 36 (-1))), trivial⟩
        rw [wq_179_36, sw_s]
        have a1 : na (swL A v i) = if 0 ≤ swL A v i then swL A v i else -swL A v i := rfl
        have a2 : na (sw A v i).2 = if 0 ≤ (sw A v i).2 then (sw A v i).2 else -(sw A v i).2 := rfl
        by_cases p0 : swL A v i < 0
        · rw [if_neg (by omega)] at a1
          by_cases q3 : (sw A v i).1 < 0
          · rw [if_pos (.inl (by omega))]
            simp (disch := omega) only [qB_s, qC_t, qC_f, qI_T, qI_F, qI_t, qI_f, r_I, r_L, r_R, r_V, ii_add, ii_sub, ii_mul, ii_neg, bz_0, bz_1, Bool.true_and, Bool.false_and, Bool.and_true, z00, z11, li_0, li_1, li_1000000, lj_0, lj_1, e_59, gI_47_26, gR_47_27, is_47, pI_47_36, hs, ii_lt, ii_eq, e3, e4', h59, h59', nat_1]
          · by_cases p1 : (sw A v i).2 < 0
            · rw [if_neg (by omega)] at a2
              by_cases q4 : na (swL A v i) < na (sw A v i).2
              · rw [if_pos (.inr q4)]
                simp (disch := omega) only [qB_s, qC_t, qC_f, qI_T, qI_F, qI_t, qI_f, r_I, r_L, r_R, r_V, ii_add, ii_sub, ii_mul, ii_neg, bz_0, bz_1, Bool.true_and, Bool.false_and, Bool.and_true, z00, z11, li_0, li_1, li_1000000, lj_0, lj_1, e_59, gI_47_26, gR_47_27, is_47, pI_47_36, hs, ii_lt, ii_eq, e3, e4', h59, h59', nat_1]
              · rw [if_neg (by omega)]
                simp (disch := omega) only [qB_s, qC_t, qC_f, qI_T, qI_F, qI_t, qI_f, r_I, r_L, r_R, r_V, ii_add, ii_sub, ii_mul, ii_neg, bz_0, bz_1, Bool.true_and, Bool.false_and, Bool.and_true, z00, z11, li_0, li_1, li_1000000, lj_0, lj_1, e_59, gI_47_26, gR_47_27, is_47, pI_47_36, hs, ii_lt, ii_eq, e3, e4', h59, h59', nat_1]
            · rw [if_pos (by omega)] at a2
              by_cases q4 : na (swL A v i) < na (sw A v i).2
              · rw [if_pos (.inr q4)]
                simp (disch := omega) only [qB_s, qC_t, qC_f, qI_T, qI_F, qI_t, qI_f, r_I, r_L, r_R, r_V, ii_add, ii_sub, ii_mul, ii_neg, bz_0, bz_1, Bool.true_and, Bool.false_and, Bool.and_true, z00, z11, li_0, li_1, li_1000000, lj_0, lj_1, e_59, gI_47_26, gR_47_27, is_47, pI_47_36, hs, ii_lt, ii_eq, e3, e4', h59, h59', nat_1]
              · rw [if_neg (by omega)]
                simp (disch := omega) only [qB_s, qC_t, qC_f, qI_T, qI_F, qI_t, qI_f, r_I, r_L, r_R, r_V, ii_add, ii_sub, ii_mul, ii_neg, bz_0, bz_1, Bool.true_and, Bool.false_and, Bool.and_true, z00, z11, li_0, li_1, li_1000000, lj_0, lj_1, e_59, gI_47_26, gR_47_27, is_47, pI_47_36, hs, ii_lt, ii_eq, e3, e4', h59, h59', nat_1]
        · rw [if_pos (by omega)] at a1
          by_cases q3 : (sw A v i).1 < 0
          · rw [if_pos (.inl (by omega))]
            simp (disch := omega) only [qB_s, qC_t, qC_f, qI_T, qI_F, qI_t, qI_f, r_I, r_L, r_R, r_V, ii_add, ii_sub, ii_mul, ii_neg, bz_0, bz_1, Bool.true_and, Bool.false_and, Bool.and_true, z00, z11, li_0, li_1, li_1000000, lj_0, lj_1, e_59, gI_47_26, gR_47_27, is_47, pI_47_36, hs, ii_lt, ii_eq, e3, e4', h59, h59', nat_1]
          · by_cases p1 : (sw A v i).2 < 0
            · rw [if_neg (by omega)] at a2
              by_cases q4 : na (swL A v i) < na (sw A v i).2
              · rw [if_pos (.inr q4)]
                simp (disch := omega) only [qB_s, qC_t, qC_f, qI_T, qI_F, qI_t, qI_f, r_I, r_L, r_R, r_V, ii_add, ii_sub, ii_mul, ii_neg, bz_0, bz_1, Bool.true_and, Bool.false_and, Bool.and_true, z00, z11, li_0, li_1, li_1000000, lj_0, lj_1, e_59, gI_47_26, gR_47_27, is_47, pI_47_36, hs, ii_lt, ii_eq, e3, e4', h59, h59', nat_1]
              · rw [if_neg (by omega)]
                simp (disch := omega) only [qB_s, qC_t, qC_f, qI_T, qI_F, qI_t, qI_f, r_I, r_L, r_R, r_V, ii_add, ii_sub, ii_mul, ii_neg, bz_0, bz_1, Bool.true_and, Bool.false_and, Bool.and_true, z00, z11, li_0, li_1, li_1000000, lj_0, lj_1, e_59, gI_47_26, gR_47_27, is_47, pI_47_36, hs, ii_lt, ii_eq, e3, e4', h59, h59', nat_1]
            · rw [if_pos (by omega)] at a2
              by_cases q4 : na (swL A v i) < na (sw A v i).2
              · rw [if_pos (.inr q4)]
                simp (disch := omega) only [qB_s, qC_t, qC_f, qI_T, qI_F, qI_t, qI_f, r_I, r_L, r_R, r_V, ii_add, ii_sub, ii_mul, ii_neg, bz_0, bz_1, Bool.true_and, Bool.false_and, Bool.and_true, z00, z11, li_0, li_1, li_1000000, lj_0, lj_1, e_59, gI_47_26, gR_47_27, is_47, pI_47_36, hs, ii_lt, ii_eq, e3, e4', h59, h59', nat_1]
              · rw [if_neg (by omega)]
                simp (disch := omega) only [qB_s, qC_t, qC_f, qI_T, qI_F, qI_t, qI_f, r_I, r_L, r_R, r_V, ii_add, ii_sub, ii_mul, ii_neg, bz_0, bz_1, Bool.true_and, Bool.false_and, Bool.and_true, z00, z11, li_0, li_1, li_1000000, lj_0, lj_1, e_59, gI_47_26, gR_47_27, is_47, pI_47_36, hs, ii_lt, ii_eq, e3, e4', h59, h59', nat_1]) u ⟨fr_self _ hsku, trivial⟩
      have e' : am_W sc 179 (36, [some (am_R (some 47)), none, some (am_I (ii x)), some (am_I (ii (-1))), some (am_I (ii (-1000000))), some (am_I (ii 0)), none, none], [], wst u) = _ := e2
      have hs : wI u2 47 26 = vM A v := (MK_fr t1 (fr_open f2) rfl).1
      have f5 : fr scM u (uI u2 47 36 (-1)) := fr_m f2 rfl
      refine ⟨uI u2 47 36 (-1), ?_, fr_t f1' f5⟩
      rw [fq_179]
      simp (disch := omega) only [qB_s, qC_t, qC_f, qI_T, qI_F, qI_t, qI_f, r_I, r_L, r_R, r_V, ii_add, ii_sub, ii_mul, ii_neg, bz_0, bz_1, Bool.true_and, Bool.false_and, Bool.and_true, z00, z11, li_0, li_1, li_1000000, lj_0, lj_1, e_59, gI_47_26, gR_47_27, is_47, pI_47_36, h120, e1, ii_eq, ii_jj, jj_neg, d17, ii_lt]
      rw [e', wq_179_36]
      by_cases q3 : x = 0
      · rw [if_pos q3]
        simp (disch := omega) only [qB_s, qC_t, qC_f, qI_T, qI_F, qI_t, qI_f, r_I, r_L, r_R, r_V, ii_add, ii_sub, ii_mul, ii_neg, bz_0, bz_1, Bool.true_and, Bool.false_and, Bool.and_true, z00, z11, li_0, li_1, li_1000000, lj_0, lj_1, e_59, gI_47_26, gR_47_27, is_47, pI_47_36, hs, ii_lt, ii_eq]
      · rw [if_neg q3]
        simp (disch := omega) only [qB_s, qC_t, qC_f, qI_T, qI_F, qI_t, qI_f, r_I, r_L, r_R, r_V, ii_add, ii_sub, ii_mul, ii_neg, bz_0, bz_1, Bool.true_and, Bool.false_and, Bool.and_true, z00, z11, li_0, li_1, li_1000000, lj_0, lj_1, e_59, gI_47_26, gR_47_27, is_47, pI_47_36, hs, ii_lt, ii_eq]
    · rw [if_neg (by omega)]
      exact ⟨w, by
        rw [fq_179]
        simp (disch := omega) only [qB_s, qC_t, qC_f, qI_T, qI_F, qI_t, qI_f, r_I, r_L, r_R, r_V, ii_add, ii_sub, ii_mul, ii_neg, bz_0, bz_1, Bool.true_and, Bool.false_and, Bool.and_true, z00, z11, li_0, li_1, li_1000000, lj_0, lj_1, e_59, gI_47_26, gR_47_27, is_47, pI_47_36, ii_lt, ii_eq, ii_jj, jj_neg, h120, ii_jj, d17], fr_r _ _⟩
  · rw [if_neg (by omega)]
    exact ⟨w, by
      rw [fq_179]
      simp (disch := omega) only [qB_s, qC_t, qC_f, qI_T, qI_F, qI_t, qI_f, r_I, r_L, r_R, r_V, ii_add, ii_sub, ii_mul, ii_neg, bz_0, bz_1, Bool.true_and, Bool.false_and, Bool.and_true, z00, z11, li_0, li_1, li_1000000, lj_0, lj_1, e_59, gI_47_26, gR_47_27, is_47, pI_47_36, ii_lt, ii_eq, ii_jj, jj_neg, h120], fr_r _ _⟩

end L39
