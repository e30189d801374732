/-! IMAGE, BACK: COPIES -/
section L50
variable {sc : am_X}
/-- an object of that class with its rows -/
def OB1 (w : wo) (a : Nat) (d : Nat → Nat) : Prop := shp w a = some (0, 1, 0) ∧ ref w a 0 = some (d 0) ∧ shp w (d 0) = some (1, 0, 200) ∧ ref w a 1 = some (d 1) ∧ shp w (d 1) = some (1, 0, 200) ∧ ref w a 2 = some (d 2) ∧ shp w (d 2) = some (1, 0, 200) ∧ ref w a 3 = some (d 3) ∧ shp w (d 3) = some (1, 0, 200) ∧ ref w a 4 = some (d 4) ∧ shp w (d 4) = some (1, 0, 1200)
theorem c279 {w : wo} {a b : Nat} {d s : Nat → Nat} (hD : OB1 w a d) (hS : OB1 w b s) (hi : ∀ i j, i < 5 → j < 5 → i ≠ j → d i ≠ d j) (hs : ∀ i j, i < 5 → j < 5 → d i ≠ s j) : ∃ u, am_F sc 279 [am_R (some a), am_R (some b)] (wst w) = some (none, wst u) ∧ (∀ j : Int, wA u (d 0) j = if 0 ≤ j ∧ j < 200 then wA w (s 0) j else wA w (d 0) j) ∧ (∀ j : Int, wA u (d 1) j = if 0 ≤ j ∧ j < 200 then wA w (s 1) j else wA w (d 1) j) ∧ (∀ j : Int, wA u (d 2) j = if 0 ≤ j ∧ j < 200 then wA w (s 2) j else wA w (d 2) j) ∧ (∀ j : Int, wA u (d 3) j = if 0 ≤ j ∧ j < 200 then wA w (s 3) j else wA w (d 3) j) ∧ (∀ j : Int, wA u (d 4) j = if 0 ≤ j ∧ j < 1200 then wA w (s 4) j else wA w (d 4) j) ∧ wI u a 5 = wI w b 5 ∧ (∀ x, x ≠ d 0 → x ≠ d 1 → x ≠ d 2 → x ≠ d 3 → x ≠ d 4 → wA u x = wA w x) ∧ (∀ x j, ¬ (x = a ∧ j = 5) → wI u x j = wI w x j) ∧ (wJ u = wJ w ∧ wB u = wB w ∧ wF u = wF w ∧ wR u = wR w ∧ wS u = wS w ∧ wn u = wn w ∧ wl u = wl w) := by
  obtain ⟨D, D0, T0, D1, T1, D2, T2, D3, T3, D4, T4⟩ := hD
  obtain ⟨S, E0, U0, E1, U1, E2, U2, E3, U3, E4, U4⟩ := hS
  obtain ⟨w1, h1⟩ : ∃ v, v = uA w (d 0) (fun j => if 0 ≤ j ∧ j < ((200 : Nat) : Int) then wA w (s 0) j else wA w (d 0) j) := ⟨_, rfl⟩
  obtain ⟨w2, h2⟩ : ∃ v, v = uA w1 (d 1) (fun j => if 0 ≤ j ∧ j < ((200 : Nat) : Int) then wA w1 (s 1) j else wA w1 (d 1) j) := ⟨_, rfl⟩
  obtain ⟨w3, h3⟩ : ∃ v, v = uA w2 (d 2) (fun j => if 0 ≤ j ∧ j < ((200 : Nat) : Int) then wA w2 (s 2) j else wA w2 (d 2) j) := ⟨_, rfl⟩
  obtain ⟨w4, h4⟩ : ∃ v, v = uA w3 (d 3) (fun j => if 0 ≤ j ∧ j < ((200 : Nat) : Int) then wA w3 (s 3) j else wA w3 (d 3) j) := ⟨_, rfl⟩
  obtain ⟨w5, h5⟩ : ∃ v, v = uA w4 (d 4) (fun j => if 0 ≤ j ∧ j < ((1200 : Nat) : Int) then wA w4 (s 4) j else wA w4 (d 4) j) := ⟨_, rfl⟩
  have s0 : ∀ x, shp w x = shp w x := fun x => by rfl
  have r0 : ∀ x j, ref w x j = ref w x j := fun x j => by rfl
  have a0 : ∀ x, x = x → wA w x = wA w x := fun x _ => by rfl
  have s1 : ∀ x, shp w1 x = shp w x := fun x => by rw [h1]; exact s0 x
  have r1 : ∀ x j, ref w1 x j = ref w x j := fun x j => by rw [h1]; exact r0 x j
  have a1 : ∀ x, x = x → x ≠ d 0 → wA w1 x = wA w x := fun x _ z0 => by rw [h1, uA_A, if_neg z0]; try exact a0 x rfl
  have s2 : ∀ x, shp w2 x = shp w x := fun x => by rw [h2]; exact s1 x
  have r2 : ∀ x j, ref w2 x j = ref w x j := fun x j => by rw [h2]; exact r1 x j
  have a2 : ∀ x, x = x → x ≠ d 0 → x ≠ d 1 → wA w2 x = wA w x := fun x _ z0 z1 => by rw [h2, uA_A, if_neg z1]; try exact a1 x rfl z0
  have s3 : ∀ x, shp w3 x = shp w x := fun x => by rw [h3]; exact s2 x
  have r3 : ∀ x j, ref w3 x j = ref w x j := fun x j => by rw [h3]; exact r2 x j
  have a3 : ∀ x, x = x → x ≠ d 0 → x ≠ d 1 → x ≠ d 2 → wA w3 x = wA w x := fun x _ z0 z1 z2 => by rw [h3, uA_A, if_neg z2]; try exact a2 x rfl z0 z1
  have s4 : ∀ x, shp w4 x = shp w x := fun x => by rw [h4]; exact s3 x
  have r4 : ∀ x j, ref w4 x j = ref w x j := fun x j => by rw [h4]; exact r3 x j
  have a4 : ∀ x, x = x → x ≠ d 0 → x ≠ d 1 → x ≠ d 2 → x ≠ d 3 → wA w4 x = wA w x := fun x _ z0 z1 z2 z3 => by rw [h4, uA_A, if_neg z3]; try exact a3 x rfl z0 z1 z2
  have c0 := cp_wst (w := w) (a0 := s 0) (a := d 0) (t := 0) (n0 := 200) (n1 := 200) (n := 200) (by rw [s0]; exact U0) (by rw [s0]; exact T0) (by decide) (by decide) (by decide) (by decide) (.inl rfl)
  rw [← h1] at c0
  have c0' : am_cp (wst w) (s 0) (ii 0) (d 0) (ii 0) (ii 200) = some (wst w1) := c0
  have g0 : am_gR (wst w) b 1 0 = some (some (s 0)) := by rw [gR_of (by rw [s0]; exact S) rfl, r0, E0]
  have k0 : am_gR (wst w) a 1 0 = some (some (d 0)) := by rw [gR_of (by rw [s0]; exact D) rfl, r0, D0]
  have c1 := cp_wst (w := w1) (a0 := s 1) (a := d 1) (t := 0) (n0 := 200) (n1 := 200) (n := 200) (by rw [s1]; exact U1) (by rw [s1]; exact T1) (by decide) (by decide) (by decide) (by decide) (.inl rfl)
  rw [← h2] at c1
  have c1' : am_cp (wst w1) (s 1) (ii 0) (d 1) (ii 0) (ii 200) = some (wst w2) := c1
  have g1 : am_gR (wst w1) b 1 1 = some (some (s 1)) := by rw [gR_of (by rw [s1]; exact S) rfl, r1, E1]
  have k1 : am_gR (wst w1) a 1 1 = some (some (d 1)) := by rw [gR_of (by rw [s1]; exact D) rfl, r1, D1]
  have c2 := cp_wst (w := w2) (a0 := s 2) (a := d 2) (t := 0) (n0 := 200) (n1 := 200) (n := 200) (by rw [s2]; exact U2) (by rw [s2]; exact T2) (by decide) (by decide) (by decide) (by decide) (.inl rfl)
  rw [← h3] at c2
  have c2' : am_cp (wst w2) (s 2) (ii 0) (d 2) (ii 0) (ii 200) = some (wst w3) := c2
  have g2 : am_gR (wst w2) b 1 2 = some (some (s 2)) := by rw [gR_of (by rw [s2]; exact S) rfl, r2, E2]
  have k2 : am_gR (wst w2) a 1 2 = some (some (d 2)) := by rw [gR_of (by rw [s2]; exact D) rfl, r2, D2]
  have c3 := cp_wst (w := w3) (a0 := s 3) (a := d 3) (t := 0) (n0 := 200) (n1 := 200) (n := 200) (by rw [s3]; exact U3) (by rw [s3]; exact T3) (by decide) (by decide) (by decide) (by decide) (.inl rfl)
  rw [← h4] at c3
  have c3' : am_cp (wst w3) (s 3) (ii 0) (d 3) (ii 0) (ii 200) = some (wst w4) := c3
  have g3 : am_gR (wst w3) b 1 3 = some (some (s 3)) := by rw [gR_of (by rw [s3]; exact S) rfl, r3, E3]
  have k3 : am_gR (wst w3) a 1 3 = some (some (d 3)) := by rw [gR_of (by rw [s3]; exact D) rfl, r3, D3]
  have c4 := cp_wst (w := w4) (a0 := s 4) (a := d 4) (t := 0) (n0 := 1200) (n1 := 1200) (n := 1200) (by rw [s4]; exact U4) (by rw [s4]; exact T4) (by decide) (by decide) (by decide) (by decide) (.inl rfl)
  rw [← h5] at c4
  have c4' : am_cp (wst w4) (s 4) (ii 0) (d 4) (ii 0) (ii 1200) = some (wst w5) := c4
  have g4 : am_gR (wst w4) b 1 4 = some (some (s 4)) := by rw [gR_of (by rw [s4]; exact S) rfl, r4, E4]
  have k4 : am_gR (wst w4) a 1 4 = some (some (d 4)) := by rw [gR_of (by rw [s4]; exact D) rfl, r4, D4]
  have sn : ∀ x, shp w5 x = shp w x := fun x => by rw [h5]; exact s4 x
  have iI : ∀ x j, wI w5 x j = wI w x j := fun x j => by rw [h5, h4, h3, h2, h1]; rfl
  have gi : am_gI (wst w5) b 1 5 = some (ii (wI w b 5)) := by rw [gI_of (by rw [sn]; exact S) rfl, iI]
  have pi : am_pf (wst w5) a 1 5 (am_I (ii (wI w b 5))) = some (wst (uI w5 a 5 (wI w b 5))) := pI_of (by rw [sn]; exact D) rfl
  refine ⟨uI w5 a 5 (wI w b 5), ?_, ?_, ?_, ?_, ?_, ?_, rI _ _ _ _, ?_, fun x j z => ?_, ?_⟩
  · rw [fq_279]
    simp only [qB_s, qC_t, qC_f, qI_T, qI_F, qI_t, qI_f, r_I, r_L, r_R, r_V, ii_add, ii_sub, ii_mul, ii_neg, bz_0, bz_1, Bool.true_and, Bool.false_and, Bool.and_true, z00, z11, li_0, li_1200, li_200, gI_1_5, gR_1_0, gR_1_1, gR_1_2, gR_1_3, gR_1_4, pI_1_5, g0, k0, c0', g1, k1, c1', g2, k2, c2', g3, k3, c3', g4, k4, c4', gi, pi]
  · intro j
    rw [uI_A, h5, uA_A, if_neg (hi 0 4 (by decide) (by decide) (by decide)), h4, uA_A, if_neg (hi 0 3 (by decide) (by decide) (by decide)), h3, uA_A, if_neg (hi 0 2 (by decide) (by decide) (by decide)), h2, uA_A, if_neg (hi 0 1 (by decide) (by decide) (by decide)), h1, rA]
    rw [a0 (s 0) rfl, a0 (d 0) rfl]
    rfl
  · intro j
    rw [uI_A, h5, uA_A, if_neg (hi 1 4 (by decide) (by decide) (by decide)), h4, uA_A, if_neg (hi 1 3 (by decide) (by decide) (by decide)), h3, uA_A, if_neg (hi 1 2 (by decide) (by decide) (by decide)), h2, rA]
    rw [a1 (s 1) rfl (fun z => hs 0 1 (by decide) (by decide) z.symm), a1 (d 1) rfl (hi 1 0 (by decide) (by decide) (by decide))]
    rfl
  · intro j
    rw [uI_A, h5, uA_A, if_neg (hi 2 4 (by decide) (by decide) (by decide)), h4, uA_A, if_neg (hi 2 3 (by decide) (by decide) (by decide)), h3, rA]
    rw [a2 (s 2) rfl (fun z => hs 0 2 (by decide) (by decide) z.symm) (fun z => hs 1 2 (by decide) (by decide) z.symm), a2 (d 2) rfl (hi 2 0 (by decide) (by decide) (by decide)) (hi 2 1 (by decide) (by decide) (by decide))]
    rfl
  · intro j
    rw [uI_A, h5, uA_A, if_neg (hi 3 4 (by decide) (by decide) (by decide)), h4, rA]
    rw [a3 (s 3) rfl (fun z => hs 0 3 (by decide) (by decide) z.symm) (fun z => hs 1 3 (by decide) (by decide) z.symm) (fun z => hs 2 3 (by decide) (by decide) z.symm), a3 (d 3) rfl (hi 3 0 (by decide) (by decide) (by decide)) (hi 3 1 (by decide) (by decide) (by decide)) (hi 3 2 (by decide) (by decide) (by decide))]
    rfl
  · intro j
    rw [uI_A, h5, rA]
    rw [a4 (s 4) rfl (fun z => hs 0 4 (by decide) (by decide) z.symm) (fun z => hs 1 4 (by decide) (by decide) z.symm) (fun z => hs 2 4 (by decide) (by decide) z.symm) (fun z => hs 3 4 (by decide) (by decide) z.symm), a4 (d 4) rfl (hi 4 0 (by decide) (by decide) (by decide)) (hi 4 1 (by decide) (by decide) (by decide)) (hi 4 2 (by decide) (by decide) (by decide)) (hi 4 3 (by decide) (by decide) (by decide))]
    rfl
  · intro x z0 z1 z2 z3 z4
    rw [uI_A, h5, uA_A, if_neg z4]
    exact a4 x rfl z0 z1 z2 z3
  · rw [uI_I, if_neg z, iI]
  · rw [h5, h4, h3, h2, h1]
    exact ⟨rfl, rfl, rfl, rfl, rfl, rfl, rfl⟩
/-- an object of that class with its rows -/
def OB4 (w : wo) (a : Nat) (d : Nat → Nat) : Prop := shp w a = some (0, 4, 0) ∧ ref w a 0 = some (d 0) ∧ shp w (d 0) = some (1, 0, 200) ∧ ref w a 1 = some (d 1) ∧ shp w (d 1) = some (1, 1, 200) ∧ ref w a 2 = some (d 2) ∧ shp w (d 2) = some (1, 1, 200)
theorem c280 {w : wo} {a b : Nat} {d s : Nat → Nat} (hD : OB4 w a d) (hS : OB4 w b s) (hi : ∀ i j, i < 3 → j < 3 → i ≠ j → d i ≠ d j) (hs : ∀ i j, i < 3 → j < 3 → d i ≠ s j) (hb : ∀ i : Int, (wA w (s 1) i = 0 ∨ wA w (s 1) i = 1) ∧ (wA w (s 2) i = 0 ∨ wA w (s 2) i = 1)) : ∃ u, am_F sc 280 [am_R (some a), am_R (some b)] (wst w) = some (none, wst u) ∧ (∀ j : Int, wA u (d 0) j = if 0 ≤ j ∧ j < 200 then wA w (s 0) j else wA w (d 0) j) ∧ (∀ j : Int, wA u (d 1) j = if 0 ≤ j ∧ j < 200 then wA w (s 1) j else wA w (d 1) j) ∧ (∀ j : Int, wA u (d 2) j = if 0 ≤ j ∧ j < 200 then wA w (s 2) j else wA w (d 2) j) ∧ wI u a 3 = wI w b 3 ∧ (∀ x, x ≠ d 0 → x ≠ d 1 → x ≠ d 2 → wA u x = wA w x) ∧ (∀ x j, ¬ (x = a ∧ j = 3) → wI u x j = wI w x j) ∧ (wJ u = wJ w ∧ wB u = wB w ∧ wF u = wF w ∧ wR u = wR w ∧ wS u = wS w ∧ wn u = wn w ∧ wl u = wl w) := by
  obtain ⟨D, D0, T0, D1, T1, D2, T2⟩ := hD
  obtain ⟨S, E0, U0, E1, U1, E2, U2⟩ := hS
  obtain ⟨w1, h1⟩ : ∃ v, v = uA w (d 0) (fun j => if 0 ≤ j ∧ j < ((200 : Nat) : Int) then wA w (s 0) j else wA w (d 0) j) := ⟨_, rfl⟩
  obtain ⟨w2, h2⟩ : ∃ v, v = uA w1 (d 1) (fun j => if 0 ≤ j ∧ j < ((200 : Nat) : Int) then wA w1 (s 1) j else wA w1 (d 1) j) := ⟨_, rfl⟩
  obtain ⟨w3, h3⟩ : ∃ v, v = uA w2 (d 2) (fun j => if 0 ≤ j ∧ j < ((200 : Nat) : Int) then wA w2 (s 2) j else wA w2 (d 2) j) := ⟨_, rfl⟩
  have s0 : ∀ x, shp w x = shp w x := fun x => by rfl
  have r0 : ∀ x j, ref w x j = ref w x j := fun x j => by rfl
  have a0 : ∀ x, x = x → wA w x = wA w x := fun x _ => by rfl
  have s1 : ∀ x, shp w1 x = shp w x := fun x => by rw [h1]; exact s0 x
  have r1 : ∀ x j, ref w1 x j = ref w x j := fun x j => by rw [h1]; exact r0 x j
  have a1 : ∀ x, x = x → x ≠ d 0 → wA w1 x = wA w x := fun x _ z0 => by rw [h1, uA_A, if_neg z0]; try exact a0 x rfl
  have s2 : ∀ x, shp w2 x = shp w x := fun x => by rw [h2]; exact s1 x
  have r2 : ∀ x j, ref w2 x j = ref w x j := fun x j => by rw [h2]; exact r1 x j
  have a2 : ∀ x, x = x → x ≠ d 0 → x ≠ d 1 → wA w2 x = wA w x := fun x _ z0 z1 => by rw [h2, uA_A, if_neg z1]; try exact a1 x rfl z0
  have c0 := cp_wst (w := w) (a0 := s 0) (a := d 0) (t := 0) (n0 := 200) (n1 := 200) (n := 200) (by rw [s0]; exact U0) (by rw [s0]; exact T0) (by decide) (by decide) (by decide) (by decide) (.inl rfl)
  rw [← h1] at c0
  have c0' : am_cp (wst w) (s 0) (ii 0) (d 0) (ii 0) (ii 200) = some (wst w1) := c0
  have g0 : am_gR (wst w) b 4 0 = some (some (s 0)) := by rw [gR_of (by rw [s0]; exact S) rfl, r0, E0]
  have k0 : am_gR (wst w) a 4 0 = some (some (d 0)) := by rw [gR_of (by rw [s0]; exact D) rfl, r0, D0]
  have c1 := cp_wst (w := w1) (a0 := s 1) (a := d 1) (t := 1) (n0 := 200) (n1 := 200) (n := 200) (by rw [s1]; exact U1) (by rw [s1]; exact T1) (by decide) (by decide) (by decide) (by decide) (.inr (fun i => by rw [a1 (s 1) rfl (fun z => hs 0 1 (by decide) (by decide) z.symm)]; exact (hb i).1))
  rw [← h2] at c1
  have c1' : am_cp (wst w1) (s 1) (ii 0) (d 1) (ii 0) (ii 200) = some (wst w2) := c1
  have g1 : am_gR (wst w1) b 4 1 = some (some (s 1)) := by rw [gR_of (by rw [s1]; exact S) rfl, r1, E1]
  have k1 : am_gR (wst w1) a 4 1 = some (some (d 1)) := by rw [gR_of (by rw [s1]; exact D) rfl, r1, D1]
  have c2 := cp_wst (w := w2) (a0 := s 2) (a := d 2) (t := 1) (n0 := 200) (n1 := 200) (n := 200) (by rw [s2]; exact U2) (by rw [s2]; exact T2) (by decide) (by decide) (by decide) (by decide) (.inr (fun i => by rw [a2 (s 2) rfl (fun z => hs 0 2 (by decide) (by decide) z.symm) (fun z => hs 1 2 (by decide) (by decide) z.symm)]; exact (hb i).2))
  rw [← h3] at c2
  have c2' : am_cp (wst w2) (s 2) (ii 0) (d 2) (ii 0) (ii 200) = some (wst w3) := c2
  have g2 : am_gR (wst w2) b 4 2 = some (some (s 2)) := by rw [gR_of (by rw [s2]; exact S) rfl, r2, E2]
  have k2 : am_gR (wst w2) a 4 2 = some (some (d 2)) := by rw [gR_of (by rw [s2]; exact D) rfl, r2, D2]
  have sn : ∀ x, shp w3 x = shp w x := fun x => by rw [h3]; exact s2 x
  have iI : ∀ x j, wI w3 x j = wI w x j := fun x j => by rw [h3, h2, h1]; rfl
  have gi : am_gI (wst w3) b 4 3 = some (ii (wI w b 3)) := by rw [gI_of (by rw [sn]; exact S) rfl, iI]
  have pi : am_pf (wst w3) a 4 3 (am_I (ii (wI w b 3))) = some (wst (uI w3 a 3 (wI w b 3))) := pI_of (by rw [sn]; exact D) rfl
  refine ⟨uI w3 a 3 (wI w b 3), ?_, ?_, ?_, ?_, rI _ _ _ _, ?_, fun x j z => ?_, ?_⟩
  · rw [fq_280]
    simp only [qB_s, qC_t, qC_f, qI_T, qI_F, qI_t, qI_f, r_I, r_L, r_R, r_V, ii_add, ii_sub, ii_mul, ii_neg, bz_0, bz_1, Bool.true_and, Bool.false_and, Bool.and_true, z00, z11, li_0, li_200, gI_7_3, gR_7_0, gR_7_1, gR_7_2, pI_7_3, g0, k0, c0', g1, k1, c1', g2, k2, c2', gi, pi]
  · intro j
    rw [uI_A, h3, uA_A, if_neg (hi 0 2 (by decide) (by decide) (by decide)), h2, uA_A, if_neg (hi 0 1 (by decide) (by decide) (by decide)), h1, rA]
    rw [a0 (s 0) rfl, a0 (d 0) rfl]
    rfl
  · intro j
    rw [uI_A, h3, uA_A, if_neg (hi 1 2 (by decide) (by decide) (by decide)), h2, rA]
    rw [a1 (s 1) rfl (fun z => hs 0 1 (by decide) (by decide) z.symm), a1 (d 1) rfl (hi 1 0 (by decide) (by decide) (by decide))]
    rfl
  · intro j
    rw [uI_A, h3, rA]
    rw [a2 (s 2) rfl (fun z => hs 0 2 (by decide) (by decide) z.symm) (fun z => hs 1 2 (by decide) (by decide) z.symm), a2 (d 2) rfl (hi 2 0 (by decide) (by decide) (by decide)) (hi 2 1 (by decide) (by decide) (by decide))]
    rfl
  · intro x z0 z1 z2
    rw [uI_A, h3, uA_A, if_neg z2]
    exact a2 x rfl z0 z1
  · rw [uI_I, if_neg z, iI]
  · rw [h3, h2, h1]
    exact ⟨rfl, rfl, rfl, rfl, rfl, rfl, rfl⟩
end L50
