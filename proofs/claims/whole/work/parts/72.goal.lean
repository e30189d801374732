/-! THE LAW'S RUN -/
/-- nothing told yet -/
def A00 : ab := ((0, fun _ _ => 0, 0, fun _ _ => 0), (0, fun _ => 0), (0, fun _ => (none, 0, fun _ => 0, -1)), (0, fun _ => (0, fun _ => 0, fun _ => 0)), fun _ => none)
theorem v0 {k : Int} (h0 : 0 ≤ k) (h1 : k < 0) : False := by omega
theorem RC_00 : RC (fun _ => 0) w00 A00 := by
  refine ⟨⟨rfl, by decide, by decide, fun k h0 h1 => (v0 h0 h1).elim⟩, ⟨rfl, fun k h0 h1 => (v0 h0 h1).elim⟩, fun i => ⟨.inl rfl, .inl rfl⟩, ⟨rfl, fun k h0 h1 => (v0 h0 h1).elim⟩, ⟨rfl, fun k h0 h1 => (v0 h0 h1).elim⟩, ⟨rfl, fun k h0 h1 => (v0 h0 h1).elim⟩, fun k hk => .inl ⟨rfl, rfl, rfl⟩, Nat.le_refl _⟩
theorem RM_00 : RM w00 A00 := by
  refine ⟨⟨rfl, by decide, by decide, fun k j h0 h1 => (v0 h0 h1).elim⟩, ⟨rfl, fun k j h0 h1 => (v0 h0 h1).elim⟩, ⟨rfl, fun k h0 h1 => (v0 h0 h1).elim⟩, ⟨rfl, fun k h0 h1 => (v0 h0 h1).elim⟩, ⟨rfl, fun k h0 h1 => (v0 h0 h1).elim⟩, fun k hk => .inl ⟨rfl, rfl⟩⟩
theorem ok_00 : okA A00 := by
  refine ⟨⟨by decide, by decide, fun k h0 h1 => (v0 h0 h1).elim, by decide, by decide, fun k h0 h1 => (v0 h0 h1).elim⟩, ⟨by decide, by decide, fun k h0 h1 => (v0 h0 h1).elim⟩, ⟨by decide, by decide, fun k h0 h1 => (v0 h0 h1).elim⟩, ⟨by decide, by decide, fun k h0 h1 => (v0 h0 h1).elim⟩, fun k c hk h => by cases h⟩
theorem LI_00 : LI w00 77 34053 := ⟨_, A00, RC_00, RM_00, ok_00, rfl, .inl rfl, Nat.le_refl _, Nat.le_refl _⟩
theorem lw_goal (L : Nat) (xs : Nat → Int32) (hL : L ≤ 3072) : ∃ s' : am_S, am_F (L, xs) 289 [am_O 0] am_s0 = some (some (am_I 1), s') ∧ s'.2.1 ≤ room_1.cells ∧ s'.2.2 ≤ room_1.slots := by
  obtain ⟨u, e, ow, A, h1, h2, h3, h4, h5, h6, h7⟩ := lw_all (sc := (L, xs)) hL (L / 6) 0 w00 77 34053 LI_00 (Nat.zero_add _)
  have h6' : wn u ≤ 10317 := by omega
  have h7' : wl u ≤ 1570053 := by omega
  refine ⟨wst u, ?_, Nat.le_trans h6' (by decide), Nat.le_trans h7' (by decide)⟩
  rw [i_run, ← e]
  rfl
