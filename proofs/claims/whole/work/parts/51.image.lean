/-! IMAGE, BACK -/
/-- the other's cells are the same -/
def kM (w u : wo) : Prop := ∀ a, 47 ≤ a → a < 77 → (∀ k, wI u a k = wI w a k ∧ wJ u a k = wJ w a k) ∧ wA u a = wA w a ∧ wB u a = wB w a
theorem kM_r (w : wo) : kM w w := fun _ _ _ => ⟨fun _ => ⟨rfl, rfl⟩, rfl, rfl⟩
theorem kM_t {w v u : wo} (h : kM w v) (k : kM v u) : kM w u := fun a h1 h2 => ⟨fun j => ⟨((k a h1 h2).1 j).1.trans ((h a h1 h2).1 j).1, ((k a h1 h2).1 j).2.trans ((h a h1 h2).1 j).2⟩, (k a h1 h2).2.1.trans (h a h1 h2).2.1, (k a h1 h2).2.2.trans (h a h1 h2).2.2⟩
theorem kM_fr {l : List Nat} {w u : wo} (f : fr l w u) (q : (l.all fun c => Nat.blt c 4700) = true) : kM w u := fun a h1 h2 => by
  have hn : ∀ k, fhas l (a * 100 + k) = false := fun k => by
    cases e : fhas l (a * 100 + k) with
    | false => rfl
    | true =>
      have := Nat.le_of_ble_eq_true (List.all_eq_true.mp q _ (fhas_of.mp e))
      omega
  exact ⟨fun k => ⟨fr_I f (hn k), fr_J f (hn k)⟩, fr_A f (hn 99), fr_B f (hn 99)⟩
theorem kM_X {m : Nat} {w u : wo} (h : eX m w u) (hm : 77 ≤ m) : kM w u := fun a _ h2 => ⟨fun k => ⟨((h.1 a (by omega)).1 k).1, ((h.1 a (by omega)).1 k).2.1⟩, (h.1 a (by omega)).2.1, (h.1 a (by omega)).2.2.1⟩
theorem RM_k {w u : wo} {A : ab} (h : RM w A) (k : kM w u) : RM u A := by
  have hI : ∀ j, wI u 47 j = wI w 47 j := fun j => ((k 47 (by decide) (by decide)).1 j).1
  have hA : ∀ a, 47 ≤ a → a < 77 → wA u a = wA w a := fun a h1 h2 => (k a h1 h2).2.1
  unfold RM MS ML MT MV MVo PM MR PM MI MIo at *
  simp only [hI, hA 48 (by decide) (by decide), hA 49 (by decide) (by decide), hA 50 (by decide) (by decide), hA 51 (by decide) (by decide), hA 52 (by decide) (by decide), hA 53 (by decide) (by decide), hA 54 (by decide) (by decide), hA 55 (by decide) (by decide), hA 56 (by decide) (by decide), hA 75 (by decide) (by decide), hA 76 (by decide) (by decide)]
  exact h
theorem fr_mk {l : List Nat} {w u : wo} (hI : ∀ x j, fhas l (x * 100 + j) = false → wI u x j = wI w x j) (hA : ∀ x, fhas l (x * 100 + 99) = false → wA u x = wA w x) (h : wJ u = wJ w ∧ wB u = wB w ∧ wF u = wF w ∧ wR u = wR w ∧ wS u = wS w ∧ wn u = wn w ∧ wl u = wl w) : fr l w u := by
  obtain ⟨h1, h2, h3, h4, h5, h6, h7⟩ := h
  exact ⟨fun x j e => ⟨hI x j e, by rw [h1]⟩, fun x e => ⟨hA x e, by rw [h2]⟩, fun x j => by rw [h3], fun x => by rw [h4], fun x => by rw [h5], h6, h7⟩
/-- the shape of an image -/
def IH (ow : Nat → Nat) (w : wo) (k p : Nat) : Prop := (77 ≤ p ∧ p + 10 ≤ wn w) ∧ (∀ j, j < 10 → ow (p + j) = 10 * k + j) ∧ (wS w p = some (0, 1, 0) ∧ wS w (p + 1) = some (1, 0, 200) ∧ wS w (p + 2) = some (1, 0, 200) ∧ wS w (p + 3) = some (1, 0, 200) ∧ wS w (p + 4) = some (1, 0, 200) ∧ wS w (p + 5) = some (1, 0, 1200) ∧ wS w (p + 6) = some (0, 4, 0) ∧ wS w (p + 7) = some (1, 0, 200) ∧ wS w (p + 8) = some (1, 1, 200) ∧ wS w (p + 9) = some (1, 1, 200)) ∧ (wF w p 0 = some (p + 1) ∧ wF w p 1 = some (p + 2) ∧ wF w p 2 = some (p + 3) ∧ wF w p 3 = some (p + 4) ∧ wF w p 4 = some (p + 5) ∧ wF w (p + 6) 0 = some (p + 7) ∧ wF w (p + 6) 1 = some (p + 8) ∧ wF w (p + 6) 2 = some (p + 9)) ∧ (∀ i, (wA w (p + 8) i = 0 ∨ wA w (p + 8) i = 1) ∧ (wA w (p + 9) i = 0 ∨ wA w (p + 9) i = 1))
theorem IH_of {ow : Nat → Nat} {w : wo} {k p : Nat} {c : cl} (h : CIo ow w k p c) : IH ow w k p := ⟨h.1, h.2.1, h.2.2.1, h.2.2.2.1, h.2.2.2.2.2.2⟩
theorem OB1_p {ow : Nat → Nat} {w : wo} {k p : Nat} (h : IH ow w k p) : OB1 w p (fun i => p + 1 + i) := by
  obtain ⟨⟨h1, h2⟩, h3, ⟨s0, s1, s2, s3, s4, s5, s6, s7, s8, s9⟩, ⟨f0, f1, f2, f3, f4, f5, f6, f7⟩, hb⟩ := h
  unfold OB1
  simp only [ref_hi h1, shp_hi h1, shp_hi (show 77 ≤ p + 1 + 0 by omega), shp_hi (show 77 ≤ p + 1 + 1 by omega), shp_hi (show 77 ≤ p + 1 + 2 by omega), shp_hi (show 77 ≤ p + 1 + 3 by omega), shp_hi (show 77 ≤ p + 1 + 4 by omega)]
  exact ⟨s0, f0, s1, f1, s2, f2, s3, f3, s4, f4, s5⟩
theorem OB4_p {ow : Nat → Nat} {w : wo} {k p : Nat} (h : IH ow w k p) : OB4 w (p + 6) (fun i => p + 7 + i) := by
  obtain ⟨⟨h1, h2⟩, h3, ⟨s0, s1, s2, s3, s4, s5, s6, s7, s8, s9⟩, ⟨f0, f1, f2, f3, f4, f5, f6, f7⟩, hb⟩ := h
  unfold OB4
  simp only [ref_hi (show 77 ≤ p + 6 by omega), shp_hi (show 77 ≤ p + 6 by omega), shp_hi (show 77 ≤ p + 7 + 0 by omega), shp_hi (show 77 ≤ p + 7 + 1 by omega), shp_hi (show 77 ≤ p + 7 + 2 by omega)]
  exact ⟨s6, f5, s7, f6, s8, f7, s9⟩
theorem OB1_1 (w : wo) : OB1 w 1 (fun i => 2 + i) := ⟨rfl, rfl, rfl, rfl, rfl, rfl, rfl, rfl, rfl, rfl, rfl⟩
theorem OB4_7 (w : wo) : OB4 w 7 (fun i => 8 + i) := ⟨rfl, rfl, rfl, rfl, rfl, rfl, rfl⟩
theorem OB4_s {w u : wo} {a : Nat} {d : Nat → Nat} (h : OB4 w a d) (hF : wF u = wF w) (hS : wS u = wS w) : OB4 u a d := by
  unfold OB4 ref shp at *
  rw [hF, hS]
  exact h
/-- the images with one more -/
def imA (A : ab) (k : Nat) : ab := (A.1, A.2.1, A.2.2.1, A.2.2.2.1, fun j => if j = k then some A.1 else A.2.2.2.2 j)
theorem ok_image {A : ab} (hA : okA A) (k : Nat) : okA (imA A k) := by
  obtain ⟨h1, h2, h3, h4, h5⟩ := hA
  refine ⟨h1, h2, h3, h4, fun j c hj hc => ?_⟩
  have hc : (if j = k then some A.1 else A.2.2.2.2 j) = some c := hc
  split at hc
  · rw [← Option.some.inj hc]
    exact h1
  · exact h5 j c hj hc
theorem ok_back {A : ab} (hA : okA A) {k : Nat} {c : cl} (hk : k < 4) (h : A.2.2.2.2 k = some c) : okA (abC A c) := ⟨hA.2.2.2.2 k c hk h, hA.2⟩
def sBk : List Nat := [105, 299, 399, 499, 599, 699, 703, 899, 999, 1099]
section L51
variable {sc : am_X} {w : wo} {A : ab} {ow : Nat → Nat}
theorem x_283 (hC : RC ow w A) (hA : okA A) {k : Nat} (hk : k < 4) {c : cl} (h : A.2.2.2.2 k = some c) : ∃ u, am_F sc 283 [am_R (some 0), am_I (ii k)] (wst w) = some (some (am_I (ii c.1)), wst u) ∧ fr sBk w u ∧ RC ow u (abC A c) := by
  obtain ⟨h1, h2, h3, h4, h5, h6, h7, h8⟩ := hC
  have hc := hA.2.2.2.2 k c hk h
  rcases h7 k hk with ⟨q, -⟩ | ⟨c', p, q, r11, r12, hI⟩
  · rw [h] at q
    cases q
  · have ec : c = c' := Option.some.inj (h.symm.trans q)
    subst ec
    have hH := IH_of hI
    obtain ⟨⟨i1, i2⟩, i3, i4, i5, ⟨i6, i7⟩, ⟨i8, i9⟩, i10⟩ := id hI
    obtain ⟨u1, e1, a0, a1, a2, a3, a4, a5, a6, a7, a8⟩ := c279 (sc := sc) (OB1_1 w) (OB1_p hH) (fun i j _ _ h => by omega) (fun i j _ _ => by omega)
    have f1 : fr sBk w u1 := fr_mk (fun x j e => a7 x j (by
      rintro ⟨rfl, rfl⟩
      exact absurd e (by decide))) (fun x e => a6 x (by rintro rfl; exact absurd e (by decide)) (by rintro rfl; exact absurd e (by decide)) (by rintro rfl; exact absurd e (by decide)) (by rintro rfl; exact absurd e (by decide)) (by rintro rfl; exact absurd e (by decide))) a8
    obtain ⟨b1, b2, b3, b4, b5, b6, b7⟩ := a8
    have hA78 : ∀ x, x ≥ 77 → wA u1 x = wA w x := fun x hx => a6 x (by omega) (by omega) (by omega) (by omega) (by omega)
    obtain ⟨u2, e2, d0, d1, d2, d3, d4, d5, d6⟩ := c280 (sc := sc) (OB4_7 u1) (OB4_s (OB4_p hH) b3 b5) (fun i j _ _ h => by omega) (fun i j _ _ => by omega) (fun i => by
      rw [hA78 _ (by omega), hA78 _ (by omega)]
      exact i10 i)
    have f2 : fr [703, 899, 999, 1099] u1 u2 := fr_mk (fun x j e => d5 x j (by
      rintro ⟨rfl, rfl⟩
      exact absurd e (by decide))) (fun x e => d4 x (by rintro rfl; exact absurd e (by decide)) (by rintro rfl; exact absurd e (by decide)) (by rintro rfl; exact absurd e (by decide))) d6
    have f12 : fr sBk w u2 := fr_t f1 (fr_m f2 rfl)
    have hcs : CS u1 c.1 c.2.1 := by
      refine ⟨a5.trans i6, hc.1, hc.2.1, fun x x0 x1 => ?_⟩
      have hx := hc.2.1
      obtain ⟨y0, y1, y2, y3, y4⟩ := i7 x x0 x1
      refine ⟨?_, ?_, ?_, ?_, fun m m0 m1 => ?_⟩
      · rw [a0, if_pos (by omega)]; exact y0
      · rw [a1, if_pos (by omega)]; exact y1
      · rw [a2, if_pos (by omega)]; exact y2
      · rw [a3, if_pos (by omega)]; exact y3
      · rw [a4, if_pos (by omega)]; exact y4 m m0 m1
    have hcs2 := CS_g hcs f2 rfl
    have g5 : wI u2 1 5 = c.1 := hcs2.1
    have hc0 := hc.1
    have hc2 := hc.2.1
    refine ⟨u2, ?_, f12, hcs2, ⟨?_, fun x x0 x1 => ?_⟩, fun i => ⟨?_, ?_⟩, TS_g h4 f12 rfl, VS_g h5 f12 rfl rfl, RS_g h6 f12 rfl rfl, IS_fr h7 f12 rfl, by rw [fr_n f12]; exact h8⟩
    · rw [fq_283]
      simp (disch := omega) only [qB_s, qC_t, qC_f, qI_T, qI_F, qI_t, qI_f, r_I, r_L, r_R, r_V, ii_add, ii_sub, ii_mul, ii_neg, bz_0, bz_1, Bool.true_and, Bool.false_and, Bool.and_true, z00, z11, li_0, li_1, li_4, e_11, e_12, gI_1_5, gR_0_0, gR_0_1, gR_0_2, gR_0_3, is_1, is_7, ii_lt, r11, r12, Option.isNone_some, e1, e2, g5]
    · rw [d3, a7 _ _ (by omega)]
      exact i8
    · have hx := hc.2.2.2.2.1
      have x1 : x < c.2.2.1 := x1
      obtain ⟨y0, y1, y2⟩ := i9 x x0 x1
      refine ⟨?_, ?_, ?_⟩
      · rw [d0, if_pos (by omega), hA78 _ (by omega)]; exact y0
      · rw [d1, if_pos (by omega), hA78 _ (by omega)]; exact y1
      · rw [d2, if_pos (by omega), hA78 _ (by omega)]; exact y2
    · rw [d1]
      split
      · rw [hA78 _ (by omega)]
        exact (i10 i).1
      · rw [a6 _ (by decide) (by decide) (by decide) (by decide) (by decide)]
        exact (h3 i).1
    · rw [d2]
      split
      · rw [hA78 _ (by omega)]
        exact (i10 i).2
      · rw [a6 _ (by decide) (by decide) (by decide) (by decide) (by decide)]
        exact (h3 i).2
theorem x_283n (hC : RC ow w A) {k : Int} (hk1 : -2147483648 ≤ k) (hk2 : k ≤ 2147483647) (h : ∀ n : Nat, k = n → n < 4 → A.2.2.2.2 n = none) : am_F sc 283 [am_R (some 0), am_I (ii k)] (wst w) = some (some (am_I (ii (-1))), wst w) := by
  rw [fq_283]
  by_cases q : k < 0
  · simp (disch := omega) only [qB_s, qC_t, qC_f, qI_T, qI_F, qI_t, qI_f, r_I, r_L, r_R, r_V, ii_add, ii_sub, ii_mul, ii_neg, bz_0, bz_1, Bool.true_and, Bool.false_and, Bool.and_true, z00, z11, li_0, li_1, li_4, e_11, e_12, gI_1_5, gR_0_0, gR_0_1, gR_0_2, gR_0_3, is_1, is_7, ii_lt]
  · by_cases q2 : k < 4
    · obtain ⟨n, rfl⟩ := Int.eq_ofNat_of_zero_le (show 0 ≤ k by omega)
      have hn := h n rfl (by omega)
      rcases hC.2.2.2.2.2.2.1 n (by omega) with ⟨-, r11, r12⟩ | ⟨c, p, e, -⟩
      · simp (disch := omega) only [qB_s, qC_t, qC_f, qI_T, qI_F, qI_t, qI_f, r_I, r_L, r_R, r_V, ii_add, ii_sub, ii_mul, ii_neg, bz_0, bz_1, Bool.true_and, Bool.false_and, Bool.and_true, z00, z11, li_0, li_1, li_4, e_11, e_12, gI_1_5, gR_0_0, gR_0_1, gR_0_2, gR_0_3, is_1, is_7, ii_lt, r11, r12, Option.isNone_none]
      · rw [hn] at e
        cases e
    · simp (disch := omega) only [qB_s, qC_t, qC_f, qI_T, qI_F, qI_t, qI_f, r_I, r_L, r_R, r_V, ii_add, ii_sub, ii_mul, ii_neg, bz_0, bz_1, Bool.true_and, Bool.false_and, Bool.and_true, z00, z11, li_0, li_1, li_4, e_11, e_12, gI_1_5, gR_0_0, gR_0_1, gR_0_2, gR_0_3, is_1, is_7, ii_lt]
/-- what the other cells keep while an image is taken -/
def kP (p : Nat) (w u : wo) : Prop := (∀ b, (b < p ∨ p + 10 ≤ b) → (∀ k, wI u b k = wI w b k ∧ wJ u b k = wJ w b k ∧ wF u b k = wF w b k) ∧ wA u b = wA w b ∧ wB u b = wB w b ∧ wR u b = wR w b ∧ wS u b = wS w b) ∧ wn u = wn w ∧ wl u = wl w
theorem imC {ow : Nat → Nat} {w : wo} {A : ab} {k p : Nat} (h1 : CS w A.1.1 A.1.2.1) (h2 : LTS w A.1.2.2.1 A.1.2.2.2) (h3 : BS w) (hc : okC A.1) (hH : IH ow w k p) : ∃ u1 u2, am_F sc 279 [am_R (some p), am_R (some 1)] (wst w) = some (none, wst u1) ∧ am_F sc 280 [am_R (some (p + 6)), am_R (some 7)] (wst u1) = some (none, wst u2) ∧ am_is (wst w) p 1 = true ∧ am_is (wst u1) (p + 6) 4 = true ∧ kP p w u1 ∧ kP p w u2 ∧ CIo ow u2 k p A.1 := by
  have hH' := hH
  obtain ⟨⟨i1, i2⟩, i3, i4, i5, i10⟩ := hH
  obtain ⟨u1, e1, a0, a1, a2, a3, a4, a5, a6, a7, a8⟩ := c279 (sc := sc) (OB1_p hH') (OB1_1 w) (fun i j _ _ h => by omega) (fun i j _ _ => by omega)
  obtain ⟨b1, b2, b3, b4, b5, b6, b7⟩ := a8
  obtain ⟨u2, e2, d0, d1, d2, d3, d4, d5, d6⟩ := c280 (sc := sc) (OB4_s (OB4_p hH') b3 b5) (OB4_7 u1) (fun i j _ _ h => by omega) (fun i j _ _ => by omega) (fun i => by
    rw [a6 _ (by omega) (by omega) (by omega) (by omega) (by omega), a6 _ (by omega) (by omega) (by omega) (by omega) (by omega)]
    exact h3 i)
  obtain ⟨g1, g2, g3, g4, g5, g6, g7⟩ := d6
  have hk1 : kP p w u1 := ⟨fun b hb => ⟨fun j => ⟨a7 b j (by omega), by rw [b1], by rw [b3]⟩, a6 b (by omega) (by omega) (by omega) (by omega) (by omega), by rw [b2], by rw [b4], by rw [b5]⟩, b6, b7⟩
  have hk2 : kP p w u2 := ⟨fun b hb => ⟨fun j => ⟨(d5 b j (by omega)).trans (a7 b j (by omega)), by rw [g1, b1], by rw [g3, b3]⟩, (d4 b (by omega) (by omega) (by omega)).trans (a6 b (by omega) (by omega) (by omega) (by omega) (by omega)), by rw [g2, b2], by rw [g4, b4], by rw [g5, b5]⟩, g6.trans b6, g7.trans b7⟩
  have o1 := (OB1_p hH').1
  have o4 := (OB4_s (OB4_p hH') b3 b5).1
  have hc2 := hc.2.1
  have hm0 := hc.2.2.2.1
  have hm2 := hc.2.2.2.2.1
  obtain ⟨h5, -, -, hg⟩ := h1
  refine ⟨u1, u2, e1, e2, is_of o1, is_of o4, hk1, hk2, ⟨i1, by rw [hk2.2.1]; exact i2⟩, i3, by rw [g5, b5]; exact i4, by rw [g3, b3]; exact i5, ⟨?_, fun x x0 x1 => ?_⟩, ⟨?_, fun x x0 x1 => ?_⟩, fun i => ⟨?_, ?_⟩⟩
  · rw [d5 _ _ (by omega), a5]
    exact h5
  · obtain ⟨y0, y1, y2, y3, y4⟩ := hg x x0 x1
    refine ⟨?_, ?_, ?_, ?_, fun m m0 m1 => ?_⟩
    · rw [d4 _ (by omega) (by omega) (by omega), show p + 1 = p + 1 + 0 from rfl, a0, if_pos (by omega)]; exact y0
    · rw [d4 _ (by omega) (by omega) (by omega), show p + 2 = p + 1 + 1 from rfl, a1, if_pos (by omega)]; exact y1
    · rw [d4 _ (by omega) (by omega) (by omega), show p + 3 = p + 1 + 2 from rfl, a2, if_pos (by omega)]; exact y2
    · rw [d4 _ (by omega) (by omega) (by omega), show p + 4 = p + 1 + 3 from rfl, a3, if_pos (by omega)]; exact y3
    · rw [d4 _ (by omega) (by omega) (by omega), show p + 5 = p + 1 + 4 from rfl, a4, if_pos (by omega)]; exact y4 m m0 m1
  · rw [d3, a7 _ _ (by omega)]
    exact h2.1
  · have x1' : x < A.1.2.2.1 := x1
    obtain ⟨y0, y1, y2⟩ := h2.2 x x0 x1
    refine ⟨?_, ?_, ?_⟩
    · rw [show p + 7 = p + 7 + 0 from rfl, d0, if_pos (by omega), a6 _ (by omega) (by omega) (by omega) (by omega) (by omega)]; exact y0
    · rw [show p + 8 = p + 7 + 1 from rfl, d1, if_pos (by omega), a6 _ (by omega) (by omega) (by omega) (by omega) (by omega)]; exact y1
    · rw [show p + 9 = p + 7 + 2 from rfl, d2, if_pos (by omega), a6 _ (by omega) (by omega) (by omega) (by omega) (by omega)]; exact y2
  · rw [show p + 8 = p + 7 + 1 from rfl, d1]
    split
    · rw [a6 _ (by omega) (by omega) (by omega) (by omega) (by omega)]
      exact (h3 i).1
    · rw [a6 _ (by omega) (by omega) (by omega) (by omega) (by omega)]
      exact (i10 i).1
  · rw [show p + 9 = p + 7 + 2 from rfl, d2]
    split
    · rw [a6 _ (by omega) (by omega) (by omega) (by omega) (by omega)]
      exact (h3 i).2
    · rw [a6 _ (by omega) (by omega) (by omega) (by omega) (by omega)]
      exact (i10 i).2
theorem CS_a {w u : wo} {n : Int} {g : Int → Int → Int} (h : CS w n g) (hI : wI u 1 5 = wI w 1 5) (hA : ∀ a, 2 ≤ a → a < 7 → wA u a = wA w a) : CS u n g := by
  unfold CS at h ⊢
  rw [hI, hA 2 (by decide) (by decide), hA 3 (by decide) (by decide), hA 4 (by decide) (by decide), hA 5 (by decide) (by decide), hA 6 (by decide) (by decide)]
  exact h
/-- the state of the class, but for the images, after a change of cells that it doesn't name -/
theorem RC_p {ow ow' : Nat → Nat} {w u : wo} {A : ab} {p : Nat} (hp : 77 ≤ p) (hC : RC ow w A) (hlow : ∀ a, a < 77 → (∀ k, wI u a k = wI w a k) ∧ wA u a = wA w a ∧ (a ≠ 11 → a ≠ 12 → wR u a = wR w a)) (hd : ∀ a, 77 ≤ a → a < wn w → ow a = 100 → (∀ k, wI u a k = wI w a k ∧ wF u a k = wF w a k) ∧ wA u a = wA w a ∧ wS u a = wS w a) (how : ∀ a, a < wn w → ow' a = ow a) (hn : wn w ≤ wn u) : CS u A.1.1 A.1.2.1 ∧ LTS u A.1.2.2.1 A.1.2.2.2 ∧ BS u ∧ TS u A.2.1.1 A.2.1.2 ∧ VS ow' u A.2.2.1.1 A.2.2.1.2 ∧ RS ow' u A.2.2.2.1.1 A.2.2.2.1.2 := by
  obtain ⟨h1, h2, h3, h4, h5, h6, h7, h8⟩ := hC
  have hPT : ∀ a P, PTo ow w a P → PTo ow' u a P := fun a P hP => by
    obtain ⟨⟨g1, g2, g3, g4⟩, ⟨b, g5, ⟨g6, g7, g8, g9⟩, g10⟩, g11, g12⟩ := hP
    obtain ⟨x1, x2, x3⟩ := hd a g1 g2 g3
    obtain ⟨y1, y2, y3⟩ := hd b g6 g7 g8
    refine ⟨⟨g1, by omega, by rw [how a g2]; exact g3, by rw [x3]; exact g4⟩, ⟨b, by rw [(x1 0).2]; exact g5, ⟨g6, by omega, by rw [how b g7]; exact g8, by rw [y3]; exact g9⟩, by rw [y2]; exact g10⟩, ?_⟩
    rw [(x1 1).1]
    exact ⟨g11, g12⟩
  have hCV : ∀ a x, CVo ow w a x → CVo ow' u a x := fun a x hV => by
    obtain ⟨⟨g1, g2, g3, g4⟩, g5, g6, g7, ⟨b, g8, ⟨g9, g10, g11, g12⟩, g13⟩, g14⟩ := hV
    obtain ⟨x1, x2, x3⟩ := hd a g1 g2 g3
    obtain ⟨y1, y2, y3⟩ := hd b g9 g10 g11
    refine ⟨⟨g1, by omega, by rw [how a g2]; exact g3, by rw [x3]; exact g4⟩, ?_, by rw [(x1 1).1]; exact g6, by rw [(x1 2).1]; exact g7, ⟨b, by rw [(x1 3).2]; exact g8, ⟨g9, by omega, by rw [how b g10]; exact g11, by rw [y3]; exact g12⟩, by rw [y2]; exact g13⟩, by rw [(x1 4).1]; exact g14⟩
    rcases g5 with ⟨q1, q2⟩ | ⟨P, t, q1, q2, q3⟩
    · exact .inl ⟨q1, by rw [(x1 0).2]; exact q2⟩
    · exact .inr ⟨P, t, q1, by rw [(x1 0).2]; exact q2, hPT t P q3⟩
  refine ⟨?_, ?_, ?_, ?_, ?_, ?_⟩
  · exact CS_a h1 ((hlow 1 (by decide)).1 5) (fun a _ hx => (hlow a (by omega)).2.1)
  · unfold LTS at h2 ⊢
    rw [(hlow 7 (by decide)).1 3, (hlow 8 (by decide)).2.1, (hlow 9 (by decide)).2.1, (hlow 10 (by decide)).2.1]
    exact h2
  · unfold BS at h3 ⊢
    rw [(hlow 9 (by decide)).2.1, (hlow 10 (by decide)).2.1]
    exact h3
  · unfold TS at h4 ⊢
    rw [(hlow 13 (by decide)).1 1, (hlow 14 (by decide)).2.1]
    exact h4
  · refine ⟨by rw [(hlow 0 (by decide)).1 7]; exact h5.1, fun v v0 v1 => ?_⟩
    obtain ⟨a, q1, q2⟩ := h5.2 v v0 v1
    exact ⟨a, by rw [(hlow 20 (by decide)).2.2 (by decide) (by decide)]; exact q1, hCV a _ q2⟩
  · refine ⟨by rw [(hlow 0 (by decide)).1 8]; exact h6.1, fun v v0 v1 => ?_⟩
    obtain ⟨a, q1, q2⟩ := h6.2 v v0 v1
    exact ⟨a, by rw [(hlow 21 (by decide)).2.2 (by decide) (by decide)]; exact q1, hPT a _ q2⟩
theorem CIo_p {ow ow' : Nat → Nat} {w u : wo} {k p : Nat} {c : cl} (h : CIo ow w k p c) (how : ∀ a, a < wn w → ow' a = ow a) (hn : wn w ≤ wn u) (hd : ∀ a, 77 ≤ a → a < wn w → 10 * k ≤ ow a → ow a < 10 * k + 10 → (∀ j, wI u a j = wI w a j ∧ wF u a j = wF w a j) ∧ wA u a = wA w a ∧ wS u a = wS w a) (hnew : ∀ a, wn w ≤ a → ¬ (10 * k ≤ ow' a ∧ ow' a < 10 * k + 10)) : CIo ow' u k p c := by
  have h' : CIo ow' w k p c := by
    obtain ⟨g1, g2, g3⟩ := h
    exact ⟨g1, fun j hj => by rw [how _ (by omega)]; exact g2 j hj, g3⟩
  refine CIo_d h' ⟨fun a ha1 ha2 => ?_, hn⟩
  by_cases q : a < wn w
  · have ha2' : 10 * k ≤ ow' a ∧ ow' a < 10 * k + 10 := ha2
    rw [how a q] at ha2'
    exact hd a ha1 q ha2'.1 ha2'.2
  · exact absurd ha2 (hnew a (by omega))
/-- image, where there is one -/
theorem x_281r (hC : RC ow w A) (hA : okA A) {k : Nat} (hk : k < 4) {c : cl} (h : A.2.2.2.2 k = some c) : ∃ u, am_F sc 281 [am_R (some 0), am_I (ii k)] (wst w) = some (some (am_I (ii A.1.1)), wst u) ∧ kM w u ∧ RC ow u (imA A k) ∧ wn u = wn w ∧ wl u = wl w := by
  have hC' := hC
  obtain ⟨h1, h2, h3, h4, h5, h6, h7, h8⟩ := hC
  rcases h7 k hk with ⟨q, -⟩ | ⟨c', p, q, r11, r12, hI⟩
  · rw [h] at q
    cases q
  · have hH := IH_of hI
    obtain ⟨u1, u2, e1, e2, i1, i2, k1, k2, hI2⟩ := imC (sc := sc) h1 h2 h3 hA.1 hH
    obtain ⟨kb, kn, kl⟩ := k2
    have hp := hI.1.1
    have hpn := hI.1.2
    have how := hI.2.1
    have hown : ∀ a, p ≤ a → a < p + 10 → ow a = 10 * k + (a - p) := fun a a1 a2 => by
      have := how (a - p) (by omega)
      rw [show p + (a - p) = a by omega] at this
      exact this
    have h15 : wI u2 1 5 = A.1.1 := by rw [((kb 1 (by omega)).1 5).1]; exact h1.1
    obtain ⟨z1, z2, z3, z4, z5, z6⟩ := RC_p (ow' := ow) hp hC' (fun a ha => ⟨fun j => ((kb a (by omega)).1 j).1, (kb a (by omega)).2.1, fun _ _ => (kb a (by omega)).2.2.2.1⟩) (fun a a1 a2 a3 => by
      have : a < p ∨ p + 10 ≤ a := by
        by_cases z : a < p
        · exact .inl z
        · by_cases z2 : a < p + 10
          · have := hown a (by omega) z2
            omega
          · exact .inr (by omega)
      exact ⟨fun j => ⟨((kb a this).1 j).1, ((kb a this).1 j).2.2⟩, (kb a this).2.1, (kb a this).2.2.2.2⟩) (fun _ _ => rfl) (by omega)
    have g1 : wA u1 1 = wA w 1 := (k1.1 1 (by omega)).2.1
    refine ⟨u2, ?_, fun a a1 a2 => ⟨fun j => ⟨((kb a (by omega)).1 j).1, ((kb a (by omega)).1 j).2.1⟩, (kb a (by omega)).2.1, (kb a (by omega)).2.2.1⟩, ⟨z1, z2, z3, z4, z5, z6, fun j hj => ?_, by omega⟩, kn, kl⟩
    · rw [fq_281]
      simp (disch := omega) only [qB_s, qC_t, qC_f, qI_T, qI_F, qI_t, qI_f, r_I, r_L, r_R, r_V, ii_add, ii_sub, ii_mul, ii_neg, bz_0, bz_1, Bool.true_and, Bool.false_and, Bool.and_true, z00, z11, li_0, li_1, li_4, e_11, e_12, gI_1_5, gR_0_0, gR_0_1, gR_0_2, gR_0_3, is_1, is_7, t_11, t_12, ii_lt, r11, r12, Option.isNone_some, i1, e1, i2, e2, h15]
    · have hR11 : wR u2 11 = wR w 11 := (kb 11 (by omega)).2.2.2.1
      have hR12 : wR u2 12 = wR w 12 := (kb 12 (by omega)).2.2.2.1
      rw [hR11, hR12]
      by_cases zj : j = k
      · rw [zj]
        exact .inr ⟨A.1, p, if_pos rfl, r11, r12, hI2⟩
      · rcases h7 j hj with ⟨y1, y2, y3⟩ | ⟨c2, p2, y1, y2, y3, y4⟩
        · exact .inl ⟨(if_neg zj).trans y1, y2, y3⟩
        · refine .inr ⟨c2, p2, (if_neg zj).trans y1, y2, y3, CIo_d y4 ⟨fun a a1 a2 => ?_, by omega⟩⟩
          have a2' : 10 * j ≤ ow a ∧ ow a < 10 * j + 10 := a2
          have : a < p ∨ p + 10 ≤ a := by
            by_cases z : a < p
            · exact .inl z
            · by_cases z2 : a < p + 10
              · have := hown a (by omega) z2
                omega
              · exact .inr (by omega)
          exact ⟨fun j => ⟨((kb a this).1 j).1, ((kb a this).1 j).2.2⟩, (kb a this).2.1, (kb a this).2.2.2.2⟩
theorem wst_n (w : wo) : (wst w).2.1 = wn w := rfl
/-- image, where there is none -/
theorem x_281o (hC : RC ow w A) (hA : okA A) {k : Nat} (hk : k < 4) (h : A.2.2.2.2 k = none) : ∃ u ow', am_F sc 281 [am_R (some 0), am_I (ii k)] (wst w) = some (some (am_I (ii A.1.1)), wst u) ∧ kM w u ∧ RC ow' u (imA A k) ∧ wn u = wn w + 10 ∧ wl u = wl w + 2610 := by
  have hC' := hC
  obtain ⟨h1, h2, h3, h4, h5, h6, h7, h8⟩ := hC
  rcases h7 k hk with ⟨-, r11, r12⟩ | ⟨c', p, q, -⟩
  case inr =>
    rw [h] at q
    cases q
  obtain ⟨p, ep⟩ : ∃ p, p = wn w := ⟨_, rfl⟩
  obtain ⟨w1, hw1⟩ : ∃ v, v = uN w (0, 1, 0) 6 := ⟨_, rfl⟩
  have n1 : wn w1 = p + 1 := by rw [hw1, uN_n, ep]
  have l1 : wl w1 = wl w + 6 := by rw [hw1, uN_l]
  have x1 : eX p w w1 := by rw [hw1]; exact eX_N (by omega) _ _
  have s1 : wS w1 p = some (0, 1, 0) := by rw [hw1, ep, uN_Sn]
  have al1 : am_al (wst w) (.inr (1, am_dfs.getD 1 [])) (am_dfs.getD 1 []).length = wst w1 := by rw [hw1]; exact al_wst h8 rfl
  obtain ⟨v1, e0, x2, n2, l2, -, s2, g2⟩ := c0 (sc := sc) (w := w1) (p := p) (by omega) (by omega) s1
  obtain ⟨w2, hw2⟩ : ∃ v, v = uN v1 (0, 4, 0) 4 := ⟨_, rfl⟩
  have n3 : wn w2 = p + 7 := by rw [hw2, uN_n, n2, n1]
  have l3 : wl w2 = wl w + 2010 := by rw [hw2, uN_l, l2, l1]
  have nv1 : wn v1 = p + 6 := by rw [n2, n1]
  have x3 : eX (p + 6) v1 w2 := by rw [hw2]; exact eX_N (by omega) _ _
  have s3 : wS w2 (p + 6) = some (0, 4, 0) := by rw [hw2, ← nv1, uN_Sn]
  have al2 : am_al (wst v1) (.inr (4, am_dfs.getD 4 [])) (am_dfs.getD 4 []).length = wst w2 := by rw [hw2]; exact al_wst (by omega) rfl
  obtain ⟨v2, e1, x4, n4, l4, s4, g4⟩ := c1 (sc := sc) (w := w2) (p := p + 6) (by omega) (by omega) s3
  have x34 : eX (p + 6) v1 v2 := eX_t x3 x4
  have x14 : eX p w v2 := eX_t (eX_t x1 x2) (eX_le x34 (by omega))
  have nv2 : wn v2 = p + 10 := by rw [n4, n3]
  have sp : ∀ b, b < p + 6 → wS v2 b = wS v1 b := fun b hb => (x34.1 b hb).2.2.2.2
  have fp : ∀ b, b < p + 6 → ∀ j, wF v2 b j = wF v1 b j := fun b hb j => ((x34.1 b hb).1 j).2.2
  obtain ⟨v3, hv3⟩ : ∃ v, v = uR v2 11 (fu (wR v2 11) k (some p)) := ⟨_, rfl⟩
  obtain ⟨v4, hv4⟩ : ∃ v, v = uR v3 12 (fu (wR v3 12) k (some (p + 6))) := ⟨_, rfl⟩
  have t1 : am_tR (wst v2) 11 (ii k) p = some (wst v3) := by
    rw [hv3]
    exact t_11 v2 (by rw [shp_hi (by omega), sp p (by omega)]; exact s2) (by omega) (by omega)
  have t2 : am_tR (wst v3) 12 (ii k) (p + 6) = some (wst v4) := by
    rw [hv4]
    refine t_12 v3 ?_ (by omega) (by omega)
    rw [shp_hi (by omega), hv3]
    exact s4
  have m4 : wI v4 = wI v2 ∧ wJ v4 = wJ v2 ∧ wA v4 = wA v2 ∧ wB v4 = wB v2 ∧ wF v4 = wF v2 ∧ wS v4 = wS v2 ∧ wn v4 = wn v2 ∧ wl v4 = wl v2 := by
    rw [hv4, hv3]
    exact ⟨rfl, rfl, rfl, rfl, rfl, rfl, rfl, rfl⟩
  have R11 : wR v4 11 = fu (wR v2 11) k (some p) := by
    rw [hv4, hv3]
    rfl
  have R12 : wR v4 12 = fu (wR v2 12) k (some (p + 6)) := by
    rw [hv4, hv3]
    rfl
  have Ro : ∀ b, b ≠ 11 → b ≠ 12 → wR v4 b = wR v2 b := fun b b1 b2 => by
    rw [hv4, hv3]
    show (if b = 12 then _ else if b = 11 then _ else wR v2 b) = _
    rw [if_neg b2, if_neg b1]
  obtain ⟨mI, mJ, mA, mB, mF, mS, mn, ml⟩ := m4
  obtain ⟨ow', how'⟩ : ∃ f : Nat → Nat, f = fun b => if b < p then ow b else if b < p + 10 then 10 * k + (b - p) else 1000 := ⟨_, rfl⟩
  have hoS : ∀ a, a < wn w → ow' a = ow a := fun a ha => by
    rw [how']
    exact if_pos (by omega)
  have hH : IH ow' v4 k p := by
    refine ⟨⟨by omega, by omega⟩, fun j hj => ?_, ?_, ?_, fun i => ?_⟩
    · rw [how']
      show (if p + j < p then _ else if p + j < p + 10 then 10 * k + (p + j - p) else 1000) = _
      rw [if_neg (by omega), if_pos (by omega)]
      omega
    · rw [mS]
      have a0 := (g2 0 (by decide)).2
      have a1 := (g2 1 (by decide)).2
      have a2 := (g2 2 (by decide)).2
      have a3 := (g2 3 (by decide)).2
      have a4 := (g2 4 (by decide)).2
      have b0 := (g4 0 (by decide)).2.1
      have b1 := (g4 1 (by decide)).2.1
      have b2 := (g4 2 (by decide)).2.1
      rw [n1] at a0 a1 a2 a3 a4
      rw [n3] at b0 b1 b2
      refine ⟨(sp p (by omega)).trans s2, (sp (p + 1) (by omega)).trans a0, (sp (p + 2) (by omega)).trans a1, (sp (p + 3) (by omega)).trans a2, (sp (p + 4) (by omega)).trans a3, (sp (p + 5) (by omega)).trans a4, s4, b0, b1, b2⟩
    · rw [mF]
      have a0 := (g2 0 (by decide)).1
      have a1 := (g2 1 (by decide)).1
      have a2 := (g2 2 (by decide)).1
      have a3 := (g2 3 (by decide)).1
      have a4 := (g2 4 (by decide)).1
      have b0 := (g4 0 (by decide)).1
      have b1 := (g4 1 (by decide)).1
      have b2 := (g4 2 (by decide)).1
      rw [n1] at a0 a1 a2 a3 a4
      rw [n3] at b0 b1 b2
      exact ⟨(fp p (by omega) 0).trans a0, (fp p (by omega) 1).trans a1, (fp p (by omega) 2).trans a2, (fp p (by omega) 3).trans a3, (fp p (by omega) 4).trans a4, b0, b1, b2⟩
    · rw [mA]
      have b1 := (g4 1 (by decide)).2.2
      have b2 := (g4 2 (by decide)).2.2
      rw [n3] at b1 b2
      rw [show p + 8 = p + 7 + 1 from rfl, show p + 9 = p + 7 + 2 from rfl, b1, b2]
      exact ⟨.inl rfl, .inl rfl⟩
  have lowI : ∀ a, a < p → (∀ j, wI v4 a j = wI w a j ∧ wJ v4 a j = wJ w a j ∧ wF v4 a j = wF w a j) ∧ wA v4 a = wA w a ∧ wB v4 a = wB w a ∧ wS v4 a = wS w a ∧ (a ≠ 11 → a ≠ 12 → wR v4 a = wR w a) := fun a ha => by
    obtain ⟨y1, y2, y3, y4, y5⟩ := x14.1 a ha
    rw [mA, mB, mS, mI, mJ, mF]
    exact ⟨y1, y2, y3, y5, fun z1 z2 => (Ro a z1 z2).trans y4⟩
  obtain ⟨z1, z2, z3, -, -, -⟩ := RC_p (ow' := ow') (p := p) (by omega) hC' (fun a ha => ⟨fun j => ((lowI a (by omega)).1 j).1, (lowI a (by omega)).2.1, (lowI a (by omega)).2.2.2.2⟩) (fun a a1 a2 a3 => ⟨fun j => ⟨((lowI a (by omega)).1 j).1, ((lowI a (by omega)).1 j).2.2⟩, (lowI a (by omega)).2.1, (lowI a (by omega)).2.2.2.1⟩) hoS (by omega)
  obtain ⟨u1, u2, e5, e6, i1, i2, k1, k2, hI2⟩ := imC (sc := sc) z1 z2 z3 hA.1 hH
  obtain ⟨kb, kn, kl⟩ := k2
  have lowU : ∀ a, a < p → (∀ j, wI u2 a j = wI w a j ∧ wJ u2 a j = wJ w a j ∧ wF u2 a j = wF w a j) ∧ wA u2 a = wA w a ∧ wB u2 a = wB w a ∧ wS u2 a = wS w a ∧ (a ≠ 11 → a ≠ 12 → wR u2 a = wR w a) := fun a ha => by
    obtain ⟨y1, y2, y3, y4, y5⟩ := lowI a ha
    obtain ⟨t1, t2, t3, t4, t5⟩ := kb a (.inl ha)
    exact ⟨fun j => ⟨(t1 j).1.trans (y1 j).1, (t1 j).2.1.trans (y1 j).2.1, (t1 j).2.2.trans (y1 j).2.2⟩, t2.trans y2, t3.trans y3, t5.trans y4, fun q1 q2 => t4.trans (y5 q1 q2)⟩
  obtain ⟨y1, y2, y3, y4, y5, y6⟩ := RC_p (ow' := ow') (p := p) (by omega) hC' (fun a ha => ⟨fun j => ((lowU a (by omega)).1 j).1, (lowU a (by omega)).2.1, (lowU a (by omega)).2.2.2.2⟩) (fun a a1 a2 a3 => ⟨fun j => ⟨((lowU a (by omega)).1 j).1, ((lowU a (by omega)).1 j).2.2⟩, (lowU a (by omega)).2.1, (lowU a (by omega)).2.2.2.1⟩) hoS (by omega)
  have h15 : wI u2 1 5 = A.1.1 := y1.1
  refine ⟨u2, ow', ?_, fun a a1 a2 => ⟨fun j => ⟨((lowU a (by omega)).1 j).1, ((lowU a (by omega)).1 j).2.1⟩, (lowU a (by omega)).2.1, (lowU a (by omega)).2.2.1⟩, ⟨y1, y2, y3, y4, y5, y6, fun j hj => ?_, by omega⟩, by omega, by omega⟩
  · rw [ep] at e0 e1 t1 t2 i1 e5 i2 e6
    have nv1' : wn v1 = wn w + 6 := by omega
    rw [fq_281]
    simp (disch := omega) only [qB_s, qC_t, qC_f, qI_T, qI_F, qI_t, qI_f, r_I, r_L, r_R, r_V, ii_add, ii_sub, ii_mul, ii_neg, bz_0, bz_1, Bool.true_and, Bool.false_and, Bool.and_true, z00, z11, li_0, li_1, li_4, e_11, e_12, gI_1_5, gR_0_0, gR_0_1, gR_0_2, gR_0_3, is_1, is_7, t_11, t_12, ii_lt, r11, r12, Option.isNone_none, wst_n, al1, e0, nv1', al2, e1, t1, t2, i1, e5, i2, e6, h15]
  · have hR11 : wR u2 11 = fu (wR v2 11) k (some p) := ((kb 11 (by omega)).2.2.2.1).trans R11
    have hR12 : wR u2 12 = fu (wR v2 12) k (some (p + 6)) := ((kb 12 (by omega)).2.2.2.1).trans R12
    have v11 : wR v2 11 = wR w 11 := (x14.1 11 (by omega)).2.2.2.1
    have v12 : wR v2 12 = wR w 12 := (x14.1 12 (by omega)).2.2.2.1
    rw [hR11, hR12, fu_at, fu_at]
    by_cases zj : j = k
    · rw [zj]
      exact .inr ⟨A.1, p, if_pos rfl, if_pos rfl, if_pos rfl, hI2⟩
    · rw [if_neg (by omega), if_neg (by omega), v11, v12]
      rcases h7 j hj with ⟨q1, q2, q3⟩ | ⟨c2, p2, q1, q2, q3, q4⟩
      · exact .inl ⟨(if_neg zj).trans q1, q2, q3⟩
      · refine .inr ⟨c2, p2, (if_neg zj).trans q1, q2, q3, CIo_p (w := w) q4 hoS (by omega) (fun a a1 a2 a3 a4 => ?_) (fun a ha => ?_)⟩
        · exact ⟨fun j => ⟨((lowU a (by omega)).1 j).1, ((lowU a (by omega)).1 j).2.2⟩, (lowU a (by omega)).2.1, (lowU a (by omega)).2.2.2.1⟩
        · rw [how']
          show ¬ (10 * j ≤ (if a < p then ow a else if a < p + 10 then 10 * k + (a - p) else 1000) ∧ (if a < p then ow a else if a < p + 10 then 10 * k + (a - p) else 1000) < 10 * j + 10)
          rw [if_neg (by omega)]
          split <;> omega
theorem x_281n {k : Int} (hk1 : -2147483648 ≤ k) (hk2 : k ≤ 2147483647) (h : ¬ (0 ≤ k ∧ k < 4)) : am_F sc 281 [am_R (some 0), am_I (ii k)] (wst w) = some (some (am_I (ii (-1))), wst w) := by
  rw [fq_281]
  by_cases q : k < 0
  · simp (disch := omega) only [qB_s, qC_t, qC_f, qI_T, qI_F, qI_t, qI_f, r_I, r_L, r_R, r_V, ii_add, ii_sub, ii_mul, ii_neg, bz_0, bz_1, Bool.true_and, Bool.false_and, Bool.and_true, z00, z11, li_0, li_1, li_4, e_11, e_12, gI_1_5, gR_0_0, gR_0_1, gR_0_2, gR_0_3, is_1, is_7, t_11, t_12, ii_lt]
  · simp (disch := omega) only [qB_s, qC_t, qC_f, qI_T, qI_F, qI_t, qI_f, r_I, r_L, r_R, r_V, ii_add, ii_sub, ii_mul, ii_neg, bz_0, bz_1, Bool.true_and, Bool.false_and, Bool.and_true, z00, z11, li_0, li_1, li_4, e_11, e_12, gI_1_5, gR_0_0, gR_0_1, gR_0_2, gR_0_3, is_1, is_7, t_11, t_12, ii_lt]
end L51
