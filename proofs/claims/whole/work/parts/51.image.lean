/-! IMAGE, BACK -/
/-- the other's cells are the same -/
def kM (w u : wo) : Prop := ∀ a, 47 ≤ a → a < 77 → (∀ k, wI u a k = wI w a k ∧ wJ u a k = wJ w a k) ∧ wA u a = wA w a ∧ wB u a = wB w a
theorem kM_r (w : wo) : kM w w := fun _ _ _ => ⟨fun _ => ⟨rfl, rfl⟩, rfl, rfl⟩
theorem kM_t {w v u : wo} (h : kM w v) (k : kM v u) : kM w u := fun a h1 h2 => ⟨fun j => ⟨((k a h1 h2).1 j).1.trans ((h a h1 h2).1 j).1, ((k a h1 h2).1 j).2.trans ((h a h1 h2).1 j).2⟩, (k a h1 h2).2.1.trans (h a h1 h2).2.1, (k a h1 h2).2.2.trans (h a h1 h2).2.2⟩
theorem kM_fr {l : List Nat} {w u : wo} (f : fr l w u) (q : (l.all fun c => Nat.blt c 4700) = true) : kM w u := fun a h1 h2 => by
  have hn : ∀ k, fhas l (a * 100 + k) = false := fun k => by
    cases e : fhas l (a * 100 + k) with
    | false => rfl
    | true =>
      have := Nat.le_of_ble_eq_true (List.all_eq_true.mp q _ (fhas_of.mp e))
      omega
  exact ⟨fun k => ⟨fr_I f (hn k), fr_J f (hn k)⟩, fr_A f (hn 99), fr_B f (hn 99)⟩
theorem kM_X {m : Nat} {w u : wo} (h : eX m w u) (hm : 77 ≤ m) : kM w u := fun a _ h2 => ⟨fun k => ⟨((h.1 a (by omega)).1 k).1, ((h.1 a (by omega)).1 k).2.1⟩, (h.1 a (by omega)).2.1, (h.1 a (by omega)).2.2.1⟩
theorem RM_k {w u : wo} {A : ab} (h : RM w A) (k : kM w u) : RM u A := by
  have hI : ∀ j, wI u 47 j = wI w 47 j := fun j => ((k 47 (by decide) (by decide)).1 j).1
  have hA : ∀ a, 47 ≤ a → a < 77 → wA u a = wA w a := fun a h1 h2 => (k a h1 h2).2.1
  unfold RM MS ML MT MV MVo PM MR PM MI MIo at *
  simp only [hI, hA 48 (by decide) (by decide), hA 49 (by decide) (by decide), hA 50 (by decide) (by decide), hA 51 (by decide) (by decide), hA 52 (by decide) (by decide), hA 53 (by decide) (by decide), hA 54 (by decide) (by decide), hA 55 (by decide) (by decide), hA 56 (by decide) (by decide), hA 75 (by decide) (by decide), hA 76 (by decide) (by decide)]
  exact h
theorem fr_mk {l : List Nat} {w u : wo} (hI : ∀ x j, fhas l (x * 100 + j) = false → wI u x j = wI w x j) (hA : ∀ x, fhas l (x * 100 + 99) = false → wA u x = wA w x) (h : wJ u = wJ w ∧ wB u = wB w ∧ wF u = wF w ∧ wR u = wR w ∧ wS u = wS w ∧ wn u = wn w ∧ wl u = wl w) : fr l w u := by
  obtain ⟨h1, h2, h3, h4, h5, h6, h7⟩ := h
  exact ⟨fun x j e => ⟨hI x j e, by rw [h1]⟩, fun x e => ⟨hA x e, by rw [h2]⟩, fun x j => by rw [h3], fun x => by rw [h4], fun x => by rw [h5], h6, h7⟩
/-- the shape of an image -/
def IH (ow : Nat → Nat) (w : wo) (k p : Nat) : Prop := (77 ≤ p ∧ p + 10 ≤ wn w) ∧ (∀ j, j < 10 → ow (p + j) = 10 * k + j) ∧ (wS w p = some (0, 1, 0) ∧ wS w (p + 1) = some (1, 0, 200) ∧ wS w (p + 2) = some (1, 0, 200) ∧ wS w (p + 3) = some (1, 0, 200) ∧ wS w (p + 4) = some (1, 0, 200) ∧ wS w (p + 5) = some (1, 0, 1200) ∧ wS w (p + 6) = some (0, 4, 0) ∧ wS w (p + 7) = some (1, 0, 200) ∧ wS w (p + 8) = some (1, 1, 200) ∧ wS w (p + 9) = some (1, 1, 200)) ∧ (wF w p 0 = some (p + 1) ∧ wF w p 1 = some (p + 2) ∧ wF w p 2 = some (p + 3) ∧ wF w p 3 = some (p + 4) ∧ wF w p 4 = some (p + 5) ∧ wF w (p + 6) 0 = some (p + 7) ∧ wF w (p + 6) 1 = some (p + 8) ∧ wF w (p + 6) 2 = some (p + 9)) ∧ (∀ i, (wA w (p + 8) i = 0 ∨ wA w (p + 8) i = 1) ∧ (wA w (p + 9) i = 0 ∨ wA w (p + 9) i = 1))
theorem IH_of {ow : Nat → Nat} {w : wo} {k p : Nat} {c : cl} (h : CIo ow w k p c) : IH ow w k p := ⟨h.1, h.2.1, h.2.2.1, h.2.2.2.1, h.2.2.2.2.2.2⟩
theorem OB1_p {ow : Nat → Nat} {w : wo} {k p : Nat} (h : IH ow w k p) : OB1 w p (fun i => p + 1 + i) := by
  obtain ⟨⟨h1, h2⟩, h3, ⟨s0, s1, s2, s3, s4, s5, s6, s7, s8, s9⟩, ⟨f0, f1, f2, f3, f4, f5, f6, f7⟩, hb⟩ := h
  unfold OB1
  simp only [ref_hi h1, shp_hi h1, shp_hi (show 77 ≤ p + 1 + 0 by omega), shp_hi (show 77 ≤ p + 1 + 1 by omega), shp_hi (show 77 ≤ p + 1 + 2 by omega), shp_hi (show 77 ≤ p + 1 + 3 by omega), shp_hi (show 77 ≤ p + 1 + 4 by omega)]
  exact ⟨s0, f0, s1, f1, s2, f2, s3, f3, s4, f4, s5⟩
theorem OB4_p {ow : Nat → Nat} {w : wo} {k p : Nat} (h : IH ow w k p) : OB4 w (p + 6) (fun i => p + 7 + i) := by
  obtain ⟨⟨h1, h2⟩, h3, ⟨s0, s1, s2, s3, s4, s5, s6, s7, s8, s9⟩, ⟨f0, f1, f2, f3, f4, f5, f6, f7⟩, hb⟩ := h
  unfold OB4
  simp only [ref_hi (show 77 ≤ p + 6 by omega), shp_hi (show 77 ≤ p + 6 by omega), shp_hi (show 77 ≤ p + 7 + 0 by omega), shp_hi (show 77 ≤ p + 7 + 1 by omega), shp_hi (show 77 ≤ p + 7 + 2 by omega)]
  exact ⟨s6, f5, s7, f6, s8, f7, s9⟩
theorem OB1_1 (w : wo) : OB1 w 1 (fun i => 2 + i) := ⟨rfl, rfl, rfl, rfl, rfl, rfl, rfl, rfl, rfl, rfl, rfl⟩
theorem OB4_7 (w : wo) : OB4 w 7 (fun i => 8 + i) := ⟨rfl, rfl, rfl, rfl, rfl, rfl, rfl⟩
theorem OB4_s {w u : wo} {a : Nat} {d : Nat → Nat} (h : OB4 w a d) (hF : wF u = wF w) (hS : wS u = wS w) : OB4 u a d := by
  unfold OB4 ref shp at *
  rw [hF, hS]
  exact h
/-- the images with one more -/
def imA (A : ab) (k : Nat) : ab := (A.1, A.2.1, A.2.2.1, A.2.2.2.1, fun j => if j = k then some A.1 else A.2.2.2.2 j)
theorem ok_image {A : ab} (hA : okA A) (k : Nat) : okA (imA A k) := by
  obtain ⟨h1, h2, h3, h4, h5⟩ := hA
  refine ⟨h1, h2, h3, h4, fun j c hj hc => ?_⟩
  have hc : (if j = k then some A.1 else A.2.2.2.2 j) = some c := hc
  split at hc
  · rw [← Option.some.inj hc]
    exact h1
  · exact h5 j c hj hc
theorem ok_back {A : ab} (hA : okA A) {k : Nat} {c : cl} (hk : k < 4) (h : A.2.2.2.2 k = some c) : okA (abC A c) := ⟨hA.2.2.2.2 k c hk h, hA.2⟩
def sBk : List Nat := [105, 299, 399, 499, 599, 699, 703, 899, 999, 1099]
section L51
variable {sc : am_X} {w : wo} {A : ab} {ow : Nat → Nat}
theorem x_283 (hC : RC ow w A) (hA : okA A) {k : Nat} (hk : k < 4) {c : cl} (h : A.2.2.2.2 k = some c) : ∃ u, am_F sc 283 [am_R (some 0), am_I (ii k)] (wst w) = some (some (am_I (ii c.1)), wst u) ∧ fr sBk w u ∧ RC ow u (abC A c) := by
  obtain ⟨h1, h2, h3, h4, h5, h6, h7, h8⟩ := hC
  have hc := hA.2.2.2.2 k c hk h
  rcases h7 k hk with ⟨q, -⟩ | ⟨c', p, q, r11, r12, hI⟩
  · rw [h] at q
    cases q
  · have ec : c = c' := Option.some.inj (h.symm.trans q)
    subst ec
    have hH := IH_of hI
    obtain ⟨⟨i1, i2⟩, i3, i4, i5, ⟨i6, i7⟩, ⟨i8, i9⟩, i10⟩ := id hI
    obtain ⟨u1, e1, a0, a1, a2, a3, a4, a5, a6, a7, a8⟩ := c279 (sc := sc) (OB1_1 w) (OB1_p hH) (fun i j _ _ h => by omega) (fun i j _ _ => by omega)
    have f1 : fr sBk w u1 := fr_mk (fun x j e => a7 x j (by
      rintro ⟨rfl, rfl⟩
      exact absurd e (by decide))) (fun x e => a6 x (by rintro rfl; exact absurd e (by decide)) (by rintro rfl; exact absurd e (by decide)) (by rintro rfl; exact absurd e (by decide)) (by rintro rfl; exact absurd e (by decide)) (by rintro rfl; exact absurd e (by decide))) a8
    obtain ⟨b1, b2, b3, b4, b5, b6, b7⟩ := a8
    have hA78 : ∀ x, x ≥ 77 → wA u1 x = wA w x := fun x hx => a6 x (by omega) (by omega) (by omega) (by omega) (by omega)
    obtain ⟨u2, e2, d0, d1, d2, d3, d4, d5, d6⟩ := c280 (sc := sc) (OB4_7 u1) (OB4_s (OB4_p hH) b3 b5) (fun i j _ _ h => by omega) (fun i j _ _ => by omega) (fun i => by
      rw [hA78 _ (by omega), hA78 _ (by omega)]
      exact i10 i)
    have f2 : fr [703, 899, 999, 1099] u1 u2 := fr_mk (fun x j e => d5 x j (by
      rintro ⟨rfl, rfl⟩
      exact absurd e (by decide))) (fun x e => d4 x (by rintro rfl; exact absurd e (by decide)) (by rintro rfl; exact absurd e (by decide)) (by rintro rfl; exact absurd e (by decide))) d6
    have f12 : fr sBk w u2 := fr_t f1 (fr_m f2 rfl)
    have hcs : CS u1 c.1 c.2.1 := by
      refine ⟨a5.trans i6, hc.1, hc.2.1, fun x x0 x1 => ?_⟩
      have hx := hc.2.1
      obtain ⟨y0, y1, y2, y3, y4⟩ := i7 x x0 x1
      refine ⟨?_, ?_, ?_, ?_, fun m m0 m1 => ?_⟩
      · rw [a0, if_pos (by omega)]; exact y0
      · rw [a1, if_pos (by omega)]; exact y1
      · rw [a2, if_pos (by omega)]; exact y2
      · rw [a3, if_pos (by omega)]; exact y3
      · rw [a4, if_pos (by omega)]; exact y4 m m0 m1
    have hcs2 := CS_g hcs f2 rfl
    have g5 : wI u2 1 5 = c.1 := hcs2.1
    have hc0 := hc.1
    have hc2 := hc.2.1
    refine ⟨u2, ?_, f12, hcs2, ⟨?_, fun x x0 x1 => ?_⟩, fun i => ⟨?_, ?_⟩, TS_g h4 f12 rfl, VS_g h5 f12 rfl rfl, RS_g h6 f12 rfl rfl, IS_fr h7 f12 rfl, by rw [fr_n f12]; exact h8⟩
    · rw [fq_283]
      simp (disch := omega) only [qB_s, qC_t, qC_f, qI_T, qI_F, qI_t, qI_f, r_I, r_L, r_R, r_V, ii_add, ii_sub, ii_mul, ii_neg, bz_0, bz_1, Bool.true_and, Bool.false_and, Bool.and_true, z00, z11, li_0, li_1, li_4, e_11, e_12, gI_1_5, gR_0_0, gR_0_1, gR_0_2, gR_0_3, is_1, is_7, ii_lt, r11, r12, Option.isNone_some, e1, e2, g5]
    · rw [d3, a7 _ _ (by omega)]
      exact i8
    · have hx := hc.2.2.2.2.1
      have x1 : x < c.2.2.1 := x1
      obtain ⟨y0, y1, y2⟩ := i9 x x0 x1
      refine ⟨?_, ?_, ?_⟩
      · rw [d0, if_pos (by omega), hA78 _ (by omega)]; exact y0
      · rw [d1, if_pos (by omega), hA78 _ (by omega)]; exact y1
      · rw [d2, if_pos (by omega), hA78 _ (by omega)]; exact y2
    · rw [d1]
      split
      · rw [hA78 _ (by omega)]
        exact (i10 i).1
      · rw [a6 _ (by decide) (by decide) (by decide) (by decide) (by decide)]
        exact (h3 i).1
    · rw [d2]
      split
      · rw [hA78 _ (by omega)]
        exact (i10 i).2
      · rw [a6 _ (by decide) (by decide) (by decide) (by decide) (by decide)]
        exact (h3 i).2
theorem x_283n (hC : RC ow w A) {k : Int} (hk1 : -2147483648 ≤ k) (hk2 : k ≤ 2147483647) (h : ∀ n : Nat, k = n → n < 4 → A.2.2.2.2 n = none) : am_F sc 283 [am_R (some 0), am_I (ii k)] (wst w) = some (some (am_I (ii (-1))), wst w) := by
  rw [fq_283]
  by_cases q : k < 0
  · simp (disch := omega) only [qB_s, qC_t, qC_f, qI_T, qI_F, qI_t, qI_f, r_I, r_L, r_R, r_V, ii_add, ii_sub, ii_mul, ii_neg, bz_0, bz_1, Bool.true_and, Bool.false_and, Bool.and_true, z00, z11, li_0, li_1, li_4, e_11, e_12, gI_1_5, gR_0_0, gR_0_1, gR_0_2, gR_0_3, is_1, is_7, ii_lt]
  · by_cases q2 : k < 4
    · obtain ⟨n, rfl⟩ := Int.eq_ofNat_of_zero_le (show 0 ≤ k by omega)
      have hn := h n rfl (by omega)
      rcases hC.2.2.2.2.2.2.1 n (by omega) with ⟨-, r11, r12⟩ | ⟨c, p, e, -⟩
      · simp (disch := omega) only [qB_s, qC_t, qC_f, qI_T, qI_F, qI_t, qI_f, r_I, r_L, r_R, r_V, ii_add, ii_sub, ii_mul, ii_neg, bz_0, bz_1, Bool.true_and, Bool.false_and, Bool.and_true, z00, z11, li_0, li_1, li_4, e_11, e_12, gI_1_5, gR_0_0, gR_0_1, gR_0_2, gR_0_3, is_1, is_7, ii_lt, r11, r12, Option.isNone_none]
      · rw [hn] at e
        cases e
    · simp (disch := omega) only [qB_s, qC_t, qC_f, qI_T, qI_F, qI_t, qI_f, r_I, r_L, r_R, r_V, ii_add, ii_sub, ii_mul, ii_neg, bz_0, bz_1, Bool.true_and, Bool.false_and, Bool.and_true, z00, z11, li_0, li_1, li_4, e_11, e_12, gI_1_5, gR_0_0, gR_0_1, gR_0_2, gR_0_3, is_1, is_7, ii_lt]
end L51
