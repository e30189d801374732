/-! cells and slots only grow -/
def am_le (a b : am_S) : Prop := a.2.1 ≤ b.2.1 ∧ a.2.2 ≤ b.2.2
theorem am_le.rf (a : am_S) : am_le a a := ⟨Nat.le_refl _, Nat.le_refl _⟩
theorem am_le.tr {a b c : am_S} (h : am_le a b) (k : am_le b c) : am_le a c := ⟨Nat.le_trans h.1 k.1, Nat.le_trans h.2 k.2⟩
theorem am_le.al {s S : am_S} {c : am_C} {n : Nat} (h : am_le (am_al s c n) S) : am_le s S := am_le.tr (b := am_al s c n) ⟨Nat.le_succ _, Nat.le_add_right _ _⟩ h
theorem am_le.pf {s s' S : am_S} {a ci k : Nat} {v : am_V} (e : am_pf s a ci k v = some s') (h : am_le s' S) : am_le s S := by
  unfold am_pf at e
  split at e
  · rw [Bool.cond_eq_ite] at e
    split at e
    · obtain rfl := Option.some.inj e
      exact h
    · cases e
  · cases e
theorem am_le.tI {s s' S : am_S} {a : Nat} {i x : Int32} (e : am_tI s a i x = some s') (h : am_le s' S) : am_le s S := by
  unfold am_tI at e
  split at e
  · rw [Bool.cond_eq_ite] at e
    split at e
    · split at e
      · cases e
      · obtain rfl := Option.some.inj e
        exact h
    · cases e
  · cases e
theorem am_le.tB {s s' S : am_S} {a : Nat} {i x : Int32} (e : am_tB s a i x = some s') (h : am_le s' S) : am_le s S := by
  unfold am_tB at e
  split at e
  · rw [Bool.cond_eq_ite] at e
    split at e
    · split at e
      · cases e
      · obtain rfl := Option.some.inj e
        exact h
    · cases e
  · cases e
theorem am_le.tL {s s' S : am_S} {a : Nat} {i : Int32} {x : Int64} (e : am_tL s a i x = some s') (h : am_le s' S) : am_le s S := by
  unfold am_tL at e
  split at e
  · rw [Bool.cond_eq_ite] at e
    split at e
    · split at e
      · cases e
      · obtain rfl := Option.some.inj e
        exact h
    · cases e
  · cases e
theorem am_le.tR {s s' S : am_S} {a : Nat} {i : Int32} {v : Nat} (e : am_tR s a i v = some s') (h : am_le s' S) : am_le s S := by
  unfold am_tR at e
  split at e
  · rw [Bool.cond_eq_ite] at e
    split at e
    · split at e
      · cases e
      · obtain rfl := Option.some.inj e
        exact h
    · cases e
  · cases e
theorem am_le.cp {s s' S : am_S} {a0 a : Nat} {sp dp n : Int32} (e : am_cp s a0 sp a dp n = some s') (h : am_le s' S) : am_le s S := by
  unfold am_cp at e
  split at e
  · split at e
    · obtain rfl := Option.some.inj e
      exact h
    · cases e
  · cases e
theorem am_le.nw {s S : am_S} {t : Nat} {n : Int32} {p : Nat × am_S} (e : am_nwA s t n = some p) (h : am_le p.2 S) : am_le s S := by
  unfold am_nwA at e
  split at e
  · cases e
  · split at e
    · obtain rfl := Option.some.inj e
      exact am_le.al h
    · cases e
section AmMo
variable {O : Type} {ov : O} {k : am_T → Option O} {kr : am_Y → Option O} {E : Nat → List am_V → am_S → Option am_Y} {S : am_S}
theorem am_le.bk {y : Option am_Y} {rk pc : Nat} {ls : List (Option am_V)} {r : List am_V} (hk : ∀ t', k t' = some ov → am_le t'.2.2.2 S) {s : am_S} (hE : ∀ rv s', y = some (rv, s') → am_le s s') (hex : am_bk rk y pc ls r k = some ov) : am_le s S := by
  unfold am_bk at hex
  split at hex
  · obtain ⟨q, hq, hx⟩ := Option.bind_eq_some_iff.mp hex
    unfold am_rV at hq
    split at hq
    · obtain rfl := Option.some.inj hq
      exact am_le.tr (hE _ _ rfl) (hk _ hx)
    · cases hq
  · obtain ⟨q, hq, hx⟩ := Option.bind_eq_some_iff.mp hex
    unfold am_rI at hq
    split at hq
    · obtain rfl := Option.some.inj hq
      exact am_le.tr (hE _ _ rfl) (hk _ hx)
    · cases hq
  · obtain ⟨q, hq, hx⟩ := Option.bind_eq_some_iff.mp hex
    unfold am_rL at hq
    split at hq
    · obtain rfl := Option.some.inj hq
      exact am_le.tr (hE _ _ rfl) (hk _ hx)
    · cases hq
  · obtain ⟨q, hq, hx⟩ := Option.bind_eq_some_iff.mp hex
    unfold am_rR at hq
    split at hq
    · obtain rfl := Option.some.inj hq
      exact am_le.tr (hE _ _ rfl) (hk _ hx)
    · cases hq
  · cases hex
theorem am_le.cl {x pc : Nat} {st : Bool} {ls : List (Option am_V)} {stk : List am_V} {s : am_S} (hk : ∀ t', k t' = some ov → am_le t'.2.2.2 S) (hE : ∀ c as s rv s', E c as s = some (rv, s') → am_le s s') (hex : am_cl E x st pc ls stk s k = some ov) : am_le s S := by
  unfold am_cl at hex
  obtain ⟨as, rest, q1, q0, hx⟩ := am_spl_to _ _ _ hex
  rw [Bool.cond_eq_ite] at hx
  split at hx
  · cases st with
    | true => exact am_le.bk hk (hE _ _ _) hx
    | false =>
      rw [cond_false] at hx
      split at hx
      · obtain ⟨a, ha, hx⟩ := Option.bind_eq_some_iff.mp hx
        rw [Bool.cond_eq_ite] at hx
        split at hx
        · exact am_le.bk hk (hE _ _ _) hx
        · cases hx
      · rw [Bool.cond_eq_ite] at hx
        split at hx
        · exact am_le.bk hk (hE _ _ _) hx
        · cases hx
      · cases hx
  · cases hx
theorem am_le.swT {a : Int32} {pc : Nat} {d : Int} {s : am_S} {kk : Nat → Option O} (hk : ∀ p, kk p = some ov → am_le s S) : ∀ (os : List Int) (lo : Int), am_swT a pc d lo os kk = some ov → am_le s S
  | [], lo, h => hk _ h
  | off :: r, lo, h => by
    unfold am_swT at h
    split at h
    · exact hk _ h
    · exact am_le.swT hk r _ h
theorem am_le.swL {a : Int32} {pc : Nat} {d : Int} {s : am_S} {kk : Nat → Option O} (hk : ∀ p, kk p = some ov → am_le s S) : ∀ (os : List (Int × Int)), am_swL a pc d os kk = some ov → am_le s S
  | [], h => hk _ h
  | (q, off) :: r, h => by
    unfold am_swL at h
    split at h
    · exact hk _ h
    · exact am_le.swL hk r h
theorem mo_math {x pc : Nat} {ls : List (Option am_V)} {stk : List am_V} {s : am_S} (hk : ∀ t', k t' = some ov → am_le t'.2.2.2 S) (hex : am_x_math x pc ls stk s k = some ov) : am_le s S := by
  unfold am_x_math at hex
  repeat' (first
    | exact hk _ hex
    | exact absurd hex (fun z => by cases z)
    | split at hex
    | (rw [am_frc_eq] at hex)
    | (rw [Bool.cond_eq_ite] at hex; split at hex)
    )
theorem mo_iconst {z0} {sc : am_X} {len x pc : Nat} {ls : List (Option am_V)} {stk : List am_V} {s : am_S} (hE : ∀ c as s rv s', E c as s = some (rv, s') → am_le s s') (hk : ∀ t', k t' = some ov → am_le t'.2.2.2 S) (hr : ∀ r, kr r = some ov → am_le r.2 S) (hex : am_ex E sc (.iconst z0) len x pc ls stk s k kr = some ov) : am_le s S := by
  change am_x_iconst _ _ _ _ _ _ = _ at hex
  unfold am_x_iconst at hex
  repeat' (first
    | exact hk _ hex
    | exact hr _ hex
    | exact absurd hex (fun z => by cases z)
    | (rw [Option.bind_eq_some_iff] at hex; obtain ⟨_, hq, hex⟩ := hex)
    | split at hex
    | (rw [am_frc_eq] at hex)
    | (rw [Bool.cond_eq_ite] at hex; split at hex)
    )
theorem mo_bipush {z0} {sc : am_X} {len x pc : Nat} {ls : List (Option am_V)} {stk : List am_V} {s : am_S} (hE : ∀ c as s rv s', E c as s = some (rv, s') → am_le s s') (hk : ∀ t', k t' = some ov → am_le t'.2.2.2 S) (hr : ∀ r, kr r = some ov → am_le r.2 S) (hex : am_ex E sc (.bipush z0) len x pc ls stk s k kr = some ov) : am_le s S := by
  change am_x_bipush _ _ _ _ _ _ = _ at hex
  unfold am_x_bipush at hex
  repeat' (first
    | exact hk _ hex
    | exact hr _ hex
    | exact absurd hex (fun z => by cases z)
    | (rw [Option.bind_eq_some_iff] at hex; obtain ⟨_, hq, hex⟩ := hex)
    | split at hex
    | (rw [am_frc_eq] at hex)
    | (rw [Bool.cond_eq_ite] at hex; split at hex)
    )
theorem mo_sipush {z0} {sc : am_X} {len x pc : Nat} {ls : List (Option am_V)} {stk : List am_V} {s : am_S} (hE : ∀ c as s rv s', E c as s = some (rv, s') → am_le s s') (hk : ∀ t', k t' = some ov → am_le t'.2.2.2 S) (hr : ∀ r, kr r = some ov → am_le r.2 S) (hex : am_ex E sc (.sipush z0) len x pc ls stk s k kr = some ov) : am_le s S := by
  change am_x_sipush _ _ _ _ _ _ = _ at hex
  unfold am_x_sipush at hex
  repeat' (first
    | exact hk _ hex
    | exact hr _ hex
    | exact absurd hex (fun z => by cases z)
    | (rw [Option.bind_eq_some_iff] at hex; obtain ⟨_, hq, hex⟩ := hex)
    | split at hex
    | (rw [am_frc_eq] at hex)
    | (rw [Bool.cond_eq_ite] at hex; split at hex)
    )
theorem mo_lconst {z0} {sc : am_X} {len x pc : Nat} {ls : List (Option am_V)} {stk : List am_V} {s : am_S} (hE : ∀ c as s rv s', E c as s = some (rv, s') → am_le s s') (hk : ∀ t', k t' = some ov → am_le t'.2.2.2 S) (hr : ∀ r, kr r = some ov → am_le r.2 S) (hex : am_ex E sc (.lconst z0) len x pc ls stk s k kr = some ov) : am_le s S := by
  change am_x_lconst _ _ _ _ _ _ = _ at hex
  unfold am_x_lconst at hex
  repeat' (first
    | exact hk _ hex
    | exact hr _ hex
    | exact absurd hex (fun z => by cases z)
    | (rw [Option.bind_eq_some_iff] at hex; obtain ⟨_, hq, hex⟩ := hex)
    | split at hex
    | (rw [am_frc_eq] at hex)
    | (rw [Bool.cond_eq_ite] at hex; split at hex)
    )
theorem mo_ldc {z0} {sc : am_X} {len x pc : Nat} {ls : List (Option am_V)} {stk : List am_V} {s : am_S} (hE : ∀ c as s rv s', E c as s = some (rv, s') → am_le s s') (hk : ∀ t', k t' = some ov → am_le t'.2.2.2 S) (hr : ∀ r, kr r = some ov → am_le r.2 S) (hex : am_ex E sc (.ldc z0) len x pc ls stk s k kr = some ov) : am_le s S := by
  change am_x_ldc _ _ _ _ _ _ = _ at hex
  unfold am_x_ldc at hex
  repeat' (first
    | exact hk _ hex
    | exact hr _ hex
    | exact absurd hex (fun z => by cases z)
    | (rw [Option.bind_eq_some_iff] at hex; obtain ⟨_, hq, hex⟩ := hex)
    | split at hex
    | (rw [am_frc_eq] at hex)
    | (rw [Bool.cond_eq_ite] at hex; split at hex)
    )
theorem mo_ldc_w {z0} {sc : am_X} {len x pc : Nat} {ls : List (Option am_V)} {stk : List am_V} {s : am_S} (hE : ∀ c as s rv s', E c as s = some (rv, s') → am_le s s') (hk : ∀ t', k t' = some ov → am_le t'.2.2.2 S) (hr : ∀ r, kr r = some ov → am_le r.2 S) (hex : am_ex E sc (.ldc_w z0) len x pc ls stk s k kr = some ov) : am_le s S := by
  change am_x_ldc_w _ _ _ _ _ _ = _ at hex
  unfold am_x_ldc_w at hex
  repeat' (first
    | exact hk _ hex
    | exact hr _ hex
    | exact absurd hex (fun z => by cases z)
    | (rw [Option.bind_eq_some_iff] at hex; obtain ⟨_, hq, hex⟩ := hex)
    | split at hex
    | (rw [am_frc_eq] at hex)
    | (rw [Bool.cond_eq_ite] at hex; split at hex)
    )
theorem mo_ldc2_w {z0} {sc : am_X} {len x pc : Nat} {ls : List (Option am_V)} {stk : List am_V} {s : am_S} (hE : ∀ c as s rv s', E c as s = some (rv, s') → am_le s s') (hk : ∀ t', k t' = some ov → am_le t'.2.2.2 S) (hr : ∀ r, kr r = some ov → am_le r.2 S) (hex : am_ex E sc (.ldc2_w z0) len x pc ls stk s k kr = some ov) : am_le s S := by
  change am_x_ldc2_w _ _ _ _ _ _ = _ at hex
  unfold am_x_ldc2_w at hex
  repeat' (first
    | exact hk _ hex
    | exact hr _ hex
    | exact absurd hex (fun z => by cases z)
    | (rw [Option.bind_eq_some_iff] at hex; obtain ⟨_, hq, hex⟩ := hex)
    | split at hex
    | (rw [am_frc_eq] at hex)
    | (rw [Bool.cond_eq_ite] at hex; split at hex)
    )
theorem mo_aconst_null {sc : am_X} {len x pc : Nat} {ls : List (Option am_V)} {stk : List am_V} {s : am_S} (hE : ∀ c as s rv s', E c as s = some (rv, s') → am_le s s') (hk : ∀ t', k t' = some ov → am_le t'.2.2.2 S) (hr : ∀ r, kr r = some ov → am_le r.2 S) (hex : am_ex E sc .aconst_null len x pc ls stk s k kr = some ov) : am_le s S := by
  change am_x_aconst_null _ _ _ _ _ = _ at hex
  unfold am_x_aconst_null at hex
  repeat' (first
    | exact hk _ hex
    | exact hr _ hex
    | exact absurd hex (fun z => by cases z)
    | (rw [Option.bind_eq_some_iff] at hex; obtain ⟨_, hq, hex⟩ := hex)
    | split at hex
    | (rw [am_frc_eq] at hex)
    | (rw [Bool.cond_eq_ite] at hex; split at hex)
    )
theorem mo_iload_n {z0} {sc : am_X} {len x pc : Nat} {ls : List (Option am_V)} {stk : List am_V} {s : am_S} (hE : ∀ c as s rv s', E c as s = some (rv, s') → am_le s s') (hk : ∀ t', k t' = some ov → am_le t'.2.2.2 S) (hr : ∀ r, kr r = some ov → am_le r.2 S) (hex : am_ex E sc (.iload_n z0) len x pc ls stk s k kr = some ov) : am_le s S := by
  change am_x_iload_n _ _ _ _ _ _ = _ at hex
  unfold am_x_iload_n at hex
  repeat' (first
    | exact hk _ hex
    | exact hr _ hex
    | exact absurd hex (fun z => by cases z)
    | (rw [Option.bind_eq_some_iff] at hex; obtain ⟨_, hq, hex⟩ := hex)
    | split at hex
    | (rw [am_frc_eq] at hex)
    | (rw [Bool.cond_eq_ite] at hex; split at hex)
    )
theorem mo_iload {z0} {sc : am_X} {len x pc : Nat} {ls : List (Option am_V)} {stk : List am_V} {s : am_S} (hE : ∀ c as s rv s', E c as s = some (rv, s') → am_le s s') (hk : ∀ t', k t' = some ov → am_le t'.2.2.2 S) (hr : ∀ r, kr r = some ov → am_le r.2 S) (hex : am_ex E sc (.iload z0) len x pc ls stk s k kr = some ov) : am_le s S := by
  change am_x_iload _ _ _ _ _ _ = _ at hex
  unfold am_x_iload at hex
  repeat' (first
    | exact hk _ hex
    | exact hr _ hex
    | exact absurd hex (fun z => by cases z)
    | (rw [Option.bind_eq_some_iff] at hex; obtain ⟨_, hq, hex⟩ := hex)
    | split at hex
    | (rw [am_frc_eq] at hex)
    | (rw [Bool.cond_eq_ite] at hex; split at hex)
    )
theorem mo_lload_n {z0} {sc : am_X} {len x pc : Nat} {ls : List (Option am_V)} {stk : List am_V} {s : am_S} (hE : ∀ c as s rv s', E c as s = some (rv, s') → am_le s s') (hk : ∀ t', k t' = some ov → am_le t'.2.2.2 S) (hr : ∀ r, kr r = some ov → am_le r.2 S) (hex : am_ex E sc (.lload_n z0) len x pc ls stk s k kr = some ov) : am_le s S := by
  change am_x_lload_n _ _ _ _ _ _ = _ at hex
  unfold am_x_lload_n at hex
  repeat' (first
    | exact hk _ hex
    | exact hr _ hex
    | exact absurd hex (fun z => by cases z)
    | (rw [Option.bind_eq_some_iff] at hex; obtain ⟨_, hq, hex⟩ := hex)
    | split at hex
    | (rw [am_frc_eq] at hex)
    | (rw [Bool.cond_eq_ite] at hex; split at hex)
    )
theorem mo_lload {z0} {sc : am_X} {len x pc : Nat} {ls : List (Option am_V)} {stk : List am_V} {s : am_S} (hE : ∀ c as s rv s', E c as s = some (rv, s') → am_le s s') (hk : ∀ t', k t' = some ov → am_le t'.2.2.2 S) (hr : ∀ r, kr r = some ov → am_le r.2 S) (hex : am_ex E sc (.lload z0) len x pc ls stk s k kr = some ov) : am_le s S := by
  change am_x_lload _ _ _ _ _ _ = _ at hex
  unfold am_x_lload at hex
  repeat' (first
    | exact hk _ hex
    | exact hr _ hex
    | exact absurd hex (fun z => by cases z)
    | (rw [Option.bind_eq_some_iff] at hex; obtain ⟨_, hq, hex⟩ := hex)
    | split at hex
    | (rw [am_frc_eq] at hex)
    | (rw [Bool.cond_eq_ite] at hex; split at hex)
    )
theorem mo_aload_n {z0} {sc : am_X} {len x pc : Nat} {ls : List (Option am_V)} {stk : List am_V} {s : am_S} (hE : ∀ c as s rv s', E c as s = some (rv, s') → am_le s s') (hk : ∀ t', k t' = some ov → am_le t'.2.2.2 S) (hr : ∀ r, kr r = some ov → am_le r.2 S) (hex : am_ex E sc (.aload_n z0) len x pc ls stk s k kr = some ov) : am_le s S := by
  change am_x_aload_n _ _ _ _ _ _ = _ at hex
  unfold am_x_aload_n at hex
  repeat' (first
    | exact hk _ hex
    | exact hr _ hex
    | exact absurd hex (fun z => by cases z)
    | (rw [Option.bind_eq_some_iff] at hex; obtain ⟨_, hq, hex⟩ := hex)
    | split at hex
    | (rw [am_frc_eq] at hex)
    | (rw [Bool.cond_eq_ite] at hex; split at hex)
    )
theorem mo_aload {z0} {sc : am_X} {len x pc : Nat} {ls : List (Option am_V)} {stk : List am_V} {s : am_S} (hE : ∀ c as s rv s', E c as s = some (rv, s') → am_le s s') (hk : ∀ t', k t' = some ov → am_le t'.2.2.2 S) (hr : ∀ r, kr r = some ov → am_le r.2 S) (hex : am_ex E sc (.aload z0) len x pc ls stk s k kr = some ov) : am_le s S := by
  change am_x_aload _ _ _ _ _ _ = _ at hex
  unfold am_x_aload at hex
  repeat' (first
    | exact hk _ hex
    | exact hr _ hex
    | exact absurd hex (fun z => by cases z)
    | (rw [Option.bind_eq_some_iff] at hex; obtain ⟨_, hq, hex⟩ := hex)
    | split at hex
    | (rw [am_frc_eq] at hex)
    | (rw [Bool.cond_eq_ite] at hex; split at hex)
    )
theorem mo_istore_n {z0} {sc : am_X} {len x pc : Nat} {ls : List (Option am_V)} {stk : List am_V} {s : am_S} (hE : ∀ c as s rv s', E c as s = some (rv, s') → am_le s s') (hk : ∀ t', k t' = some ov → am_le t'.2.2.2 S) (hr : ∀ r, kr r = some ov → am_le r.2 S) (hex : am_ex E sc (.istore_n z0) len x pc ls stk s k kr = some ov) : am_le s S := by
  change am_x_istore_n _ _ _ _ _ _ = _ at hex
  unfold am_x_istore_n at hex
  repeat' (first
    | exact hk _ hex
    | exact hr _ hex
    | exact absurd hex (fun z => by cases z)
    | (rw [Option.bind_eq_some_iff] at hex; obtain ⟨_, hq, hex⟩ := hex)
    | split at hex
    | (rw [am_frc_eq] at hex)
    | (rw [Bool.cond_eq_ite] at hex; split at hex)
    )
theorem mo_istore {z0} {sc : am_X} {len x pc : Nat} {ls : List (Option am_V)} {stk : List am_V} {s : am_S} (hE : ∀ c as s rv s', E c as s = some (rv, s') → am_le s s') (hk : ∀ t', k t' = some ov → am_le t'.2.2.2 S) (hr : ∀ r, kr r = some ov → am_le r.2 S) (hex : am_ex E sc (.istore z0) len x pc ls stk s k kr = some ov) : am_le s S := by
  change am_x_istore _ _ _ _ _ _ = _ at hex
  unfold am_x_istore at hex
  repeat' (first
    | exact hk _ hex
    | exact hr _ hex
    | exact absurd hex (fun z => by cases z)
    | (rw [Option.bind_eq_some_iff] at hex; obtain ⟨_, hq, hex⟩ := hex)
    | split at hex
    | (rw [am_frc_eq] at hex)
    | (rw [Bool.cond_eq_ite] at hex; split at hex)
    )
theorem mo_lstore_n {z0} {sc : am_X} {len x pc : Nat} {ls : List (Option am_V)} {stk : List am_V} {s : am_S} (hE : ∀ c as s rv s', E c as s = some (rv, s') → am_le s s') (hk : ∀ t', k t' = some ov → am_le t'.2.2.2 S) (hr : ∀ r, kr r = some ov → am_le r.2 S) (hex : am_ex E sc (.lstore_n z0) len x pc ls stk s k kr = some ov) : am_le s S := by
  change am_x_lstore_n _ _ _ _ _ _ = _ at hex
  unfold am_x_lstore_n at hex
  repeat' (first
    | exact hk _ hex
    | exact hr _ hex
    | exact absurd hex (fun z => by cases z)
    | (rw [Option.bind_eq_some_iff] at hex; obtain ⟨_, hq, hex⟩ := hex)
    | split at hex
    | (rw [am_frc_eq] at hex)
    | (rw [Bool.cond_eq_ite] at hex; split at hex)
    )
theorem mo_lstore {z0} {sc : am_X} {len x pc : Nat} {ls : List (Option am_V)} {stk : List am_V} {s : am_S} (hE : ∀ c as s rv s', E c as s = some (rv, s') → am_le s s') (hk : ∀ t', k t' = some ov → am_le t'.2.2.2 S) (hr : ∀ r, kr r = some ov → am_le r.2 S) (hex : am_ex E sc (.lstore z0) len x pc ls stk s k kr = some ov) : am_le s S := by
  change am_x_lstore _ _ _ _ _ _ = _ at hex
  unfold am_x_lstore at hex
  repeat' (first
    | exact hk _ hex
    | exact hr _ hex
    | exact absurd hex (fun z => by cases z)
    | (rw [Option.bind_eq_some_iff] at hex; obtain ⟨_, hq, hex⟩ := hex)
    | split at hex
    | (rw [am_frc_eq] at hex)
    | (rw [Bool.cond_eq_ite] at hex; split at hex)
    )
theorem mo_astore_n {z0} {sc : am_X} {len x pc : Nat} {ls : List (Option am_V)} {stk : List am_V} {s : am_S} (hE : ∀ c as s rv s', E c as s = some (rv, s') → am_le s s') (hk : ∀ t', k t' = some ov → am_le t'.2.2.2 S) (hr : ∀ r, kr r = some ov → am_le r.2 S) (hex : am_ex E sc (.astore_n z0) len x pc ls stk s k kr = some ov) : am_le s S := by
  change am_x_astore_n _ _ _ _ _ _ = _ at hex
  unfold am_x_astore_n at hex
  repeat' (first
    | exact hk _ hex
    | exact hr _ hex
    | exact absurd hex (fun z => by cases z)
    | (rw [Option.bind_eq_some_iff] at hex; obtain ⟨_, hq, hex⟩ := hex)
    | split at hex
    | (rw [am_frc_eq] at hex)
    | (rw [Bool.cond_eq_ite] at hex; split at hex)
    )
theorem mo_astore {z0} {sc : am_X} {len x pc : Nat} {ls : List (Option am_V)} {stk : List am_V} {s : am_S} (hE : ∀ c as s rv s', E c as s = some (rv, s') → am_le s s') (hk : ∀ t', k t' = some ov → am_le t'.2.2.2 S) (hr : ∀ r, kr r = some ov → am_le r.2 S) (hex : am_ex E sc (.astore z0) len x pc ls stk s k kr = some ov) : am_le s S := by
  change am_x_astore _ _ _ _ _ _ = _ at hex
  unfold am_x_astore at hex
  repeat' (first
    | exact hk _ hex
    | exact hr _ hex
    | exact absurd hex (fun z => by cases z)
    | (rw [Option.bind_eq_some_iff] at hex; obtain ⟨_, hq, hex⟩ := hex)
    | split at hex
    | (rw [am_frc_eq] at hex)
    | (rw [Bool.cond_eq_ite] at hex; split at hex)
    )
theorem mo_iinc {z0} {z1} {sc : am_X} {len x pc : Nat} {ls : List (Option am_V)} {stk : List am_V} {s : am_S} (hE : ∀ c as s rv s', E c as s = some (rv, s') → am_le s s') (hk : ∀ t', k t' = some ov → am_le t'.2.2.2 S) (hr : ∀ r, kr r = some ov → am_le r.2 S) (hex : am_ex E sc (.iinc z0 z1) len x pc ls stk s k kr = some ov) : am_le s S := by
  change am_x_iinc _ _ _ _ _ _ _ _ = _ at hex
  unfold am_x_iinc at hex
  repeat' (first
    | exact hk _ hex
    | exact hr _ hex
    | exact absurd hex (fun z => by cases z)
    | (rw [Option.bind_eq_some_iff] at hex; obtain ⟨_, hq, hex⟩ := hex)
    | split at hex
    | (rw [am_frc_eq] at hex)
    | (rw [Bool.cond_eq_ite] at hex; split at hex)
    )
theorem mo_pop {sc : am_X} {len x pc : Nat} {ls : List (Option am_V)} {stk : List am_V} {s : am_S} (hE : ∀ c as s rv s', E c as s = some (rv, s') → am_le s s') (hk : ∀ t', k t' = some ov → am_le t'.2.2.2 S) (hr : ∀ r, kr r = some ov → am_le r.2 S) (hex : am_ex E sc .pop len x pc ls stk s k kr = some ov) : am_le s S := by
  change am_x_pop _ _ _ _ _ = _ at hex
  unfold am_x_pop at hex
  repeat' (first
    | exact hk _ hex
    | exact hr _ hex
    | exact absurd hex (fun z => by cases z)
    | (rw [Option.bind_eq_some_iff] at hex; obtain ⟨_, hq, hex⟩ := hex)
    | split at hex
    | (rw [am_frc_eq] at hex)
    | (rw [Bool.cond_eq_ite] at hex; split at hex)
    )
theorem mo_dup {sc : am_X} {len x pc : Nat} {ls : List (Option am_V)} {stk : List am_V} {s : am_S} (hE : ∀ c as s rv s', E c as s = some (rv, s') → am_le s s') (hk : ∀ t', k t' = some ov → am_le t'.2.2.2 S) (hr : ∀ r, kr r = some ov → am_le r.2 S) (hex : am_ex E sc .dup len x pc ls stk s k kr = some ov) : am_le s S := by
  change am_x_dup _ _ _ _ _ = _ at hex
  unfold am_x_dup at hex
  repeat' (first
    | exact hk _ hex
    | exact hr _ hex
    | exact absurd hex (fun z => by cases z)
    | (rw [Option.bind_eq_some_iff] at hex; obtain ⟨_, hq, hex⟩ := hex)
    | split at hex
    | (rw [am_frc_eq] at hex)
    | (rw [Bool.cond_eq_ite] at hex; split at hex)
    )
theorem mo_dup2 {sc : am_X} {len x pc : Nat} {ls : List (Option am_V)} {stk : List am_V} {s : am_S} (hE : ∀ c as s rv s', E c as s = some (rv, s') → am_le s s') (hk : ∀ t', k t' = some ov → am_le t'.2.2.2 S) (hr : ∀ r, kr r = some ov → am_le r.2 S) (hex : am_ex E sc .dup2 len x pc ls stk s k kr = some ov) : am_le s S := by
  change am_x_dup2 _ _ _ _ _ = _ at hex
  unfold am_x_dup2 at hex
  repeat' (first
    | exact hk _ hex
    | exact hr _ hex
    | exact absurd hex (fun z => by cases z)
    | (rw [Option.bind_eq_some_iff] at hex; obtain ⟨_, hq, hex⟩ := hex)
    | split at hex
    | (rw [am_frc_eq] at hex)
    | (rw [Bool.cond_eq_ite] at hex; split at hex)
    )
theorem mo_iadd {sc : am_X} {len x pc : Nat} {ls : List (Option am_V)} {stk : List am_V} {s : am_S} (hE : ∀ c as s rv s', E c as s = some (rv, s') → am_le s s') (hk : ∀ t', k t' = some ov → am_le t'.2.2.2 S) (hr : ∀ r, kr r = some ov → am_le r.2 S) (hex : am_ex E sc .iadd len x pc ls stk s k kr = some ov) : am_le s S := by
  change am_x_iadd _ _ _ _ _ = _ at hex
  unfold am_x_iadd at hex
  repeat' (first
    | exact hk _ hex
    | exact hr _ hex
    | exact absurd hex (fun z => by cases z)
    | (rw [Option.bind_eq_some_iff] at hex; obtain ⟨_, hq, hex⟩ := hex)
    | split at hex
    | (rw [am_frc_eq] at hex)
    | (rw [Bool.cond_eq_ite] at hex; split at hex)
    )
theorem mo_isub {sc : am_X} {len x pc : Nat} {ls : List (Option am_V)} {stk : List am_V} {s : am_S} (hE : ∀ c as s rv s', E c as s = some (rv, s') → am_le s s') (hk : ∀ t', k t' = some ov → am_le t'.2.2.2 S) (hr : ∀ r, kr r = some ov → am_le r.2 S) (hex : am_ex E sc .isub len x pc ls stk s k kr = some ov) : am_le s S := by
  change am_x_isub _ _ _ _ _ = _ at hex
  unfold am_x_isub at hex
  repeat' (first
    | exact hk _ hex
    | exact hr _ hex
    | exact absurd hex (fun z => by cases z)
    | (rw [Option.bind_eq_some_iff] at hex; obtain ⟨_, hq, hex⟩ := hex)
    | split at hex
    | (rw [am_frc_eq] at hex)
    | (rw [Bool.cond_eq_ite] at hex; split at hex)
    )
theorem mo_imul {sc : am_X} {len x pc : Nat} {ls : List (Option am_V)} {stk : List am_V} {s : am_S} (hE : ∀ c as s rv s', E c as s = some (rv, s') → am_le s s') (hk : ∀ t', k t' = some ov → am_le t'.2.2.2 S) (hr : ∀ r, kr r = some ov → am_le r.2 S) (hex : am_ex E sc .imul len x pc ls stk s k kr = some ov) : am_le s S := by
  change am_x_imul _ _ _ _ _ = _ at hex
  unfold am_x_imul at hex
  repeat' (first
    | exact hk _ hex
    | exact hr _ hex
    | exact absurd hex (fun z => by cases z)
    | (rw [Option.bind_eq_some_iff] at hex; obtain ⟨_, hq, hex⟩ := hex)
    | split at hex
    | (rw [am_frc_eq] at hex)
    | (rw [Bool.cond_eq_ite] at hex; split at hex)
    )
theorem mo_idiv {sc : am_X} {len x pc : Nat} {ls : List (Option am_V)} {stk : List am_V} {s : am_S} (hE : ∀ c as s rv s', E c as s = some (rv, s') → am_le s s') (hk : ∀ t', k t' = some ov → am_le t'.2.2.2 S) (hr : ∀ r, kr r = some ov → am_le r.2 S) (hex : am_ex E sc .idiv len x pc ls stk s k kr = some ov) : am_le s S := by
  change am_x_idiv _ _ _ _ _ = _ at hex
  unfold am_x_idiv at hex
  repeat' (first
    | exact hk _ hex
    | exact hr _ hex
    | exact absurd hex (fun z => by cases z)
    | (rw [Option.bind_eq_some_iff] at hex; obtain ⟨_, hq, hex⟩ := hex)
    | split at hex
    | (rw [am_frc_eq] at hex)
    | (rw [Bool.cond_eq_ite] at hex; split at hex)
    )
theorem mo_irem {sc : am_X} {len x pc : Nat} {ls : List (Option am_V)} {stk : List am_V} {s : am_S} (hE : ∀ c as s rv s', E c as s = some (rv, s') → am_le s s') (hk : ∀ t', k t' = some ov → am_le t'.2.2.2 S) (hr : ∀ r, kr r = some ov → am_le r.2 S) (hex : am_ex E sc .irem len x pc ls stk s k kr = some ov) : am_le s S := by
  change am_x_irem _ _ _ _ _ = _ at hex
  unfold am_x_irem at hex
  repeat' (first
    | exact hk _ hex
    | exact hr _ hex
    | exact absurd hex (fun z => by cases z)
    | (rw [Option.bind_eq_some_iff] at hex; obtain ⟨_, hq, hex⟩ := hex)
    | split at hex
    | (rw [am_frc_eq] at hex)
    | (rw [Bool.cond_eq_ite] at hex; split at hex)
    )
theorem mo_ineg {sc : am_X} {len x pc : Nat} {ls : List (Option am_V)} {stk : List am_V} {s : am_S} (hE : ∀ c as s rv s', E c as s = some (rv, s') → am_le s s') (hk : ∀ t', k t' = some ov → am_le t'.2.2.2 S) (hr : ∀ r, kr r = some ov → am_le r.2 S) (hex : am_ex E sc .ineg len x pc ls stk s k kr = some ov) : am_le s S := by
  change am_x_ineg _ _ _ _ _ = _ at hex
  unfold am_x_ineg at hex
  repeat' (first
    | exact hk _ hex
    | exact hr _ hex
    | exact absurd hex (fun z => by cases z)
    | (rw [Option.bind_eq_some_iff] at hex; obtain ⟨_, hq, hex⟩ := hex)
    | split at hex
    | (rw [am_frc_eq] at hex)
    | (rw [Bool.cond_eq_ite] at hex; split at hex)
    )
theorem mo_iand {sc : am_X} {len x pc : Nat} {ls : List (Option am_V)} {stk : List am_V} {s : am_S} (hE : ∀ c as s rv s', E c as s = some (rv, s') → am_le s s') (hk : ∀ t', k t' = some ov → am_le t'.2.2.2 S) (hr : ∀ r, kr r = some ov → am_le r.2 S) (hex : am_ex E sc .iand len x pc ls stk s k kr = some ov) : am_le s S := by
  change am_x_iand _ _ _ _ _ = _ at hex
  unfold am_x_iand at hex
  repeat' (first
    | exact hk _ hex
    | exact hr _ hex
    | exact absurd hex (fun z => by cases z)
    | (rw [Option.bind_eq_some_iff] at hex; obtain ⟨_, hq, hex⟩ := hex)
    | split at hex
    | (rw [am_frc_eq] at hex)
    | (rw [Bool.cond_eq_ite] at hex; split at hex)
    )
theorem mo_ior {sc : am_X} {len x pc : Nat} {ls : List (Option am_V)} {stk : List am_V} {s : am_S} (hE : ∀ c as s rv s', E c as s = some (rv, s') → am_le s s') (hk : ∀ t', k t' = some ov → am_le t'.2.2.2 S) (hr : ∀ r, kr r = some ov → am_le r.2 S) (hex : am_ex E sc .ior len x pc ls stk s k kr = some ov) : am_le s S := by
  change am_x_ior _ _ _ _ _ = _ at hex
  unfold am_x_ior at hex
  repeat' (first
    | exact hk _ hex
    | exact hr _ hex
    | exact absurd hex (fun z => by cases z)
    | (rw [Option.bind_eq_some_iff] at hex; obtain ⟨_, hq, hex⟩ := hex)
    | split at hex
    | (rw [am_frc_eq] at hex)
    | (rw [Bool.cond_eq_ite] at hex; split at hex)
    )
theorem mo_ixor {sc : am_X} {len x pc : Nat} {ls : List (Option am_V)} {stk : List am_V} {s : am_S} (hE : ∀ c as s rv s', E c as s = some (rv, s') → am_le s s') (hk : ∀ t', k t' = some ov → am_le t'.2.2.2 S) (hr : ∀ r, kr r = some ov → am_le r.2 S) (hex : am_ex E sc .ixor len x pc ls stk s k kr = some ov) : am_le s S := by
  change am_x_ixor _ _ _ _ _ = _ at hex
  unfold am_x_ixor at hex
  repeat' (first
    | exact hk _ hex
    | exact hr _ hex
    | exact absurd hex (fun z => by cases z)
    | (rw [Option.bind_eq_some_iff] at hex; obtain ⟨_, hq, hex⟩ := hex)
    | split at hex
    | (rw [am_frc_eq] at hex)
    | (rw [Bool.cond_eq_ite] at hex; split at hex)
    )
theorem mo_ishl {sc : am_X} {len x pc : Nat} {ls : List (Option am_V)} {stk : List am_V} {s : am_S} (hE : ∀ c as s rv s', E c as s = some (rv, s') → am_le s s') (hk : ∀ t', k t' = some ov → am_le t'.2.2.2 S) (hr : ∀ r, kr r = some ov → am_le r.2 S) (hex : am_ex E sc .ishl len x pc ls stk s k kr = some ov) : am_le s S := by
  change am_x_ishl _ _ _ _ _ = _ at hex
  unfold am_x_ishl at hex
  repeat' (first
    | exact hk _ hex
    | exact hr _ hex
    | exact absurd hex (fun z => by cases z)
    | (rw [Option.bind_eq_some_iff] at hex; obtain ⟨_, hq, hex⟩ := hex)
    | split at hex
    | (rw [am_frc_eq] at hex)
    | (rw [Bool.cond_eq_ite] at hex; split at hex)
    )
theorem mo_ishr {sc : am_X} {len x pc : Nat} {ls : List (Option am_V)} {stk : List am_V} {s : am_S} (hE : ∀ c as s rv s', E c as s = some (rv, s') → am_le s s') (hk : ∀ t', k t' = some ov → am_le t'.2.2.2 S) (hr : ∀ r, kr r = some ov → am_le r.2 S) (hex : am_ex E sc .ishr len x pc ls stk s k kr = some ov) : am_le s S := by
  change am_x_ishr _ _ _ _ _ = _ at hex
  unfold am_x_ishr at hex
  repeat' (first
    | exact hk _ hex
    | exact hr _ hex
    | exact absurd hex (fun z => by cases z)
    | (rw [Option.bind_eq_some_iff] at hex; obtain ⟨_, hq, hex⟩ := hex)
    | split at hex
    | (rw [am_frc_eq] at hex)
    | (rw [Bool.cond_eq_ite] at hex; split at hex)
    )
theorem mo_iushr {sc : am_X} {len x pc : Nat} {ls : List (Option am_V)} {stk : List am_V} {s : am_S} (hE : ∀ c as s rv s', E c as s = some (rv, s') → am_le s s') (hk : ∀ t', k t' = some ov → am_le t'.2.2.2 S) (hr : ∀ r, kr r = some ov → am_le r.2 S) (hex : am_ex E sc .iushr len x pc ls stk s k kr = some ov) : am_le s S := by
  change am_x_iushr _ _ _ _ _ = _ at hex
  unfold am_x_iushr at hex
  repeat' (first
    | exact hk _ hex
    | exact hr _ hex
    | exact absurd hex (fun z => by cases z)
    | (rw [Option.bind_eq_some_iff] at hex; obtain ⟨_, hq, hex⟩ := hex)
    | split at hex
    | (rw [am_frc_eq] at hex)
    | (rw [Bool.cond_eq_ite] at hex; split at hex)
    )
theorem mo_ladd {sc : am_X} {len x pc : Nat} {ls : List (Option am_V)} {stk : List am_V} {s : am_S} (hE : ∀ c as s rv s', E c as s = some (rv, s') → am_le s s') (hk : ∀ t', k t' = some ov → am_le t'.2.2.2 S) (hr : ∀ r, kr r = some ov → am_le r.2 S) (hex : am_ex E sc .ladd len x pc ls stk s k kr = some ov) : am_le s S := by
  change am_x_ladd _ _ _ _ _ = _ at hex
  unfold am_x_ladd at hex
  repeat' (first
    | exact hk _ hex
    | exact hr _ hex
    | exact absurd hex (fun z => by cases z)
    | (rw [Option.bind_eq_some_iff] at hex; obtain ⟨_, hq, hex⟩ := hex)
    | split at hex
    | (rw [am_frc_eq] at hex)
    | (rw [Bool.cond_eq_ite] at hex; split at hex)
    )
theorem mo_lsub {sc : am_X} {len x pc : Nat} {ls : List (Option am_V)} {stk : List am_V} {s : am_S} (hE : ∀ c as s rv s', E c as s = some (rv, s') → am_le s s') (hk : ∀ t', k t' = some ov → am_le t'.2.2.2 S) (hr : ∀ r, kr r = some ov → am_le r.2 S) (hex : am_ex E sc .lsub len x pc ls stk s k kr = some ov) : am_le s S := by
  change am_x_lsub _ _ _ _ _ = _ at hex
  unfold am_x_lsub at hex
  repeat' (first
    | exact hk _ hex
    | exact hr _ hex
    | exact absurd hex (fun z => by cases z)
    | (rw [Option.bind_eq_some_iff] at hex; obtain ⟨_, hq, hex⟩ := hex)
    | split at hex
    | (rw [am_frc_eq] at hex)
    | (rw [Bool.cond_eq_ite] at hex; split at hex)
    )
theorem mo_lmul {sc : am_X} {len x pc : Nat} {ls : List (Option am_V)} {stk : List am_V} {s : am_S} (hE : ∀ c as s rv s', E c as s = some (rv, s') → am_le s s') (hk : ∀ t', k t' = some ov → am_le t'.2.2.2 S) (hr : ∀ r, kr r = some ov → am_le r.2 S) (hex : am_ex E sc .lmul len x pc ls stk s k kr = some ov) : am_le s S := by
  change am_x_lmul _ _ _ _ _ = _ at hex
  unfold am_x_lmul at hex
  repeat' (first
    | exact hk _ hex
    | exact hr _ hex
    | exact absurd hex (fun z => by cases z)
    | (rw [Option.bind_eq_some_iff] at hex; obtain ⟨_, hq, hex⟩ := hex)
    | split at hex
    | (rw [am_frc_eq] at hex)
    | (rw [Bool.cond_eq_ite] at hex; split at hex)
    )
theorem mo_ldiv {sc : am_X} {len x pc : Nat} {ls : List (Option am_V)} {stk : List am_V} {s : am_S} (hE : ∀ c as s rv s', E c as s = some (rv, s') → am_le s s') (hk : ∀ t', k t' = some ov → am_le t'.2.2.2 S) (hr : ∀ r, kr r = some ov → am_le r.2 S) (hex : am_ex E sc .ldiv len x pc ls stk s k kr = some ov) : am_le s S := by
  change am_x_ldiv _ _ _ _ _ = _ at hex
  unfold am_x_ldiv at hex
  repeat' (first
    | exact hk _ hex
    | exact hr _ hex
    | exact absurd hex (fun z => by cases z)
    | (rw [Option.bind_eq_some_iff] at hex; obtain ⟨_, hq, hex⟩ := hex)
    | split at hex
    | (rw [am_frc_eq] at hex)
    | (rw [Bool.cond_eq_ite] at hex; split at hex)
    )
theorem mo_lrem {sc : am_X} {len x pc : Nat} {ls : List (Option am_V)} {stk : List am_V} {s : am_S} (hE : ∀ c as s rv s', E c as s = some (rv, s') → am_le s s') (hk : ∀ t', k t' = some ov → am_le t'.2.2.2 S) (hr : ∀ r, kr r = some ov → am_le r.2 S) (hex : am_ex E sc .lrem len x pc ls stk s k kr = some ov) : am_le s S := by
  change am_x_lrem _ _ _ _ _ = _ at hex
  unfold am_x_lrem at hex
  repeat' (first
    | exact hk _ hex
    | exact hr _ hex
    | exact absurd hex (fun z => by cases z)
    | (rw [Option.bind_eq_some_iff] at hex; obtain ⟨_, hq, hex⟩ := hex)
    | split at hex
    | (rw [am_frc_eq] at hex)
    | (rw [Bool.cond_eq_ite] at hex; split at hex)
    )
theorem mo_lneg {sc : am_X} {len x pc : Nat} {ls : List (Option am_V)} {stk : List am_V} {s : am_S} (hE : ∀ c as s rv s', E c as s = some (rv, s') → am_le s s') (hk : ∀ t', k t' = some ov → am_le t'.2.2.2 S) (hr : ∀ r, kr r = some ov → am_le r.2 S) (hex : am_ex E sc .lneg len x pc ls stk s k kr = some ov) : am_le s S := by
  change am_x_lneg _ _ _ _ _ = _ at hex
  unfold am_x_lneg at hex
  repeat' (first
    | exact hk _ hex
    | exact hr _ hex
    | exact absurd hex (fun z => by cases z)
    | (rw [Option.bind_eq_some_iff] at hex; obtain ⟨_, hq, hex⟩ := hex)
    | split at hex
    | (rw [am_frc_eq] at hex)
    | (rw [Bool.cond_eq_ite] at hex; split at hex)
    )
theorem mo_land {sc : am_X} {len x pc : Nat} {ls : List (Option am_V)} {stk : List am_V} {s : am_S} (hE : ∀ c as s rv s', E c as s = some (rv, s') → am_le s s') (hk : ∀ t', k t' = some ov → am_le t'.2.2.2 S) (hr : ∀ r, kr r = some ov → am_le r.2 S) (hex : am_ex E sc .land len x pc ls stk s k kr = some ov) : am_le s S := by
  change am_x_land _ _ _ _ _ = _ at hex
  unfold am_x_land at hex
  repeat' (first
    | exact hk _ hex
    | exact hr _ hex
    | exact absurd hex (fun z => by cases z)
    | (rw [Option.bind_eq_some_iff] at hex; obtain ⟨_, hq, hex⟩ := hex)
    | split at hex
    | (rw [am_frc_eq] at hex)
    | (rw [Bool.cond_eq_ite] at hex; split at hex)
    )
theorem mo_lor {sc : am_X} {len x pc : Nat} {ls : List (Option am_V)} {stk : List am_V} {s : am_S} (hE : ∀ c as s rv s', E c as s = some (rv, s') → am_le s s') (hk : ∀ t', k t' = some ov → am_le t'.2.2.2 S) (hr : ∀ r, kr r = some ov → am_le r.2 S) (hex : am_ex E sc .lor len x pc ls stk s k kr = some ov) : am_le s S := by
  change am_x_lor _ _ _ _ _ = _ at hex
  unfold am_x_lor at hex
  repeat' (first
    | exact hk _ hex
    | exact hr _ hex
    | exact absurd hex (fun z => by cases z)
    | (rw [Option.bind_eq_some_iff] at hex; obtain ⟨_, hq, hex⟩ := hex)
    | split at hex
    | (rw [am_frc_eq] at hex)
    | (rw [Bool.cond_eq_ite] at hex; split at hex)
    )
theorem mo_lxor {sc : am_X} {len x pc : Nat} {ls : List (Option am_V)} {stk : List am_V} {s : am_S} (hE : ∀ c as s rv s', E c as s = some (rv, s') → am_le s s') (hk : ∀ t', k t' = some ov → am_le t'.2.2.2 S) (hr : ∀ r, kr r = some ov → am_le r.2 S) (hex : am_ex E sc .lxor len x pc ls stk s k kr = some ov) : am_le s S := by
  change am_x_lxor _ _ _ _ _ = _ at hex
  unfold am_x_lxor at hex
  repeat' (first
    | exact hk _ hex
    | exact hr _ hex
    | exact absurd hex (fun z => by cases z)
    | (rw [Option.bind_eq_some_iff] at hex; obtain ⟨_, hq, hex⟩ := hex)
    | split at hex
    | (rw [am_frc_eq] at hex)
    | (rw [Bool.cond_eq_ite] at hex; split at hex)
    )
theorem mo_lshl {sc : am_X} {len x pc : Nat} {ls : List (Option am_V)} {stk : List am_V} {s : am_S} (hE : ∀ c as s rv s', E c as s = some (rv, s') → am_le s s') (hk : ∀ t', k t' = some ov → am_le t'.2.2.2 S) (hr : ∀ r, kr r = some ov → am_le r.2 S) (hex : am_ex E sc .lshl len x pc ls stk s k kr = some ov) : am_le s S := by
  change am_x_lshl _ _ _ _ _ = _ at hex
  unfold am_x_lshl at hex
  repeat' (first
    | exact hk _ hex
    | exact hr _ hex
    | exact absurd hex (fun z => by cases z)
    | (rw [Option.bind_eq_some_iff] at hex; obtain ⟨_, hq, hex⟩ := hex)
    | split at hex
    | (rw [am_frc_eq] at hex)
    | (rw [Bool.cond_eq_ite] at hex; split at hex)
    )
theorem mo_lshr {sc : am_X} {len x pc : Nat} {ls : List (Option am_V)} {stk : List am_V} {s : am_S} (hE : ∀ c as s rv s', E c as s = some (rv, s') → am_le s s') (hk : ∀ t', k t' = some ov → am_le t'.2.2.2 S) (hr : ∀ r, kr r = some ov → am_le r.2 S) (hex : am_ex E sc .lshr len x pc ls stk s k kr = some ov) : am_le s S := by
  change am_x_lshr _ _ _ _ _ = _ at hex
  unfold am_x_lshr at hex
  repeat' (first
    | exact hk _ hex
    | exact hr _ hex
    | exact absurd hex (fun z => by cases z)
    | (rw [Option.bind_eq_some_iff] at hex; obtain ⟨_, hq, hex⟩ := hex)
    | split at hex
    | (rw [am_frc_eq] at hex)
    | (rw [Bool.cond_eq_ite] at hex; split at hex)
    )
theorem mo_lushr {sc : am_X} {len x pc : Nat} {ls : List (Option am_V)} {stk : List am_V} {s : am_S} (hE : ∀ c as s rv s', E c as s = some (rv, s') → am_le s s') (hk : ∀ t', k t' = some ov → am_le t'.2.2.2 S) (hr : ∀ r, kr r = some ov → am_le r.2 S) (hex : am_ex E sc .lushr len x pc ls stk s k kr = some ov) : am_le s S := by
  change am_x_lushr _ _ _ _ _ = _ at hex
  unfold am_x_lushr at hex
  repeat' (first
    | exact hk _ hex
    | exact hr _ hex
    | exact absurd hex (fun z => by cases z)
    | (rw [Option.bind_eq_some_iff] at hex; obtain ⟨_, hq, hex⟩ := hex)
    | split at hex
    | (rw [am_frc_eq] at hex)
    | (rw [Bool.cond_eq_ite] at hex; split at hex)
    )
theorem mo_lcmp {sc : am_X} {len x pc : Nat} {ls : List (Option am_V)} {stk : List am_V} {s : am_S} (hE : ∀ c as s rv s', E c as s = some (rv, s') → am_le s s') (hk : ∀ t', k t' = some ov → am_le t'.2.2.2 S) (hr : ∀ r, kr r = some ov → am_le r.2 S) (hex : am_ex E sc .lcmp len x pc ls stk s k kr = some ov) : am_le s S := by
  change am_x_lcmp _ _ _ _ _ = _ at hex
  unfold am_x_lcmp at hex
  repeat' (first
    | exact hk _ hex
    | exact hr _ hex
    | exact absurd hex (fun z => by cases z)
    | (rw [Option.bind_eq_some_iff] at hex; obtain ⟨_, hq, hex⟩ := hex)
    | split at hex
    | (rw [am_frc_eq] at hex)
    | (rw [Bool.cond_eq_ite] at hex; split at hex)
    )
theorem mo_i2l {sc : am_X} {len x pc : Nat} {ls : List (Option am_V)} {stk : List am_V} {s : am_S} (hE : ∀ c as s rv s', E c as s = some (rv, s') → am_le s s') (hk : ∀ t', k t' = some ov → am_le t'.2.2.2 S) (hr : ∀ r, kr r = some ov → am_le r.2 S) (hex : am_ex E sc .i2l len x pc ls stk s k kr = some ov) : am_le s S := by
  change am_x_i2l _ _ _ _ _ = _ at hex
  unfold am_x_i2l at hex
  repeat' (first
    | exact hk _ hex
    | exact hr _ hex
    | exact absurd hex (fun z => by cases z)
    | (rw [Option.bind_eq_some_iff] at hex; obtain ⟨_, hq, hex⟩ := hex)
    | split at hex
    | (rw [am_frc_eq] at hex)
    | (rw [Bool.cond_eq_ite] at hex; split at hex)
    )
theorem mo_l2i {sc : am_X} {len x pc : Nat} {ls : List (Option am_V)} {stk : List am_V} {s : am_S} (hE : ∀ c as s rv s', E c as s = some (rv, s') → am_le s s') (hk : ∀ t', k t' = some ov → am_le t'.2.2.2 S) (hr : ∀ r, kr r = some ov → am_le r.2 S) (hex : am_ex E sc .l2i len x pc ls stk s k kr = some ov) : am_le s S := by
  change am_x_l2i _ _ _ _ _ = _ at hex
  unfold am_x_l2i at hex
  repeat' (first
    | exact hk _ hex
    | exact hr _ hex
    | exact absurd hex (fun z => by cases z)
    | (rw [Option.bind_eq_some_iff] at hex; obtain ⟨_, hq, hex⟩ := hex)
    | split at hex
    | (rw [am_frc_eq] at hex)
    | (rw [Bool.cond_eq_ite] at hex; split at hex)
    )
theorem mo_i2b {sc : am_X} {len x pc : Nat} {ls : List (Option am_V)} {stk : List am_V} {s : am_S} (hE : ∀ c as s rv s', E c as s = some (rv, s') → am_le s s') (hk : ∀ t', k t' = some ov → am_le t'.2.2.2 S) (hr : ∀ r, kr r = some ov → am_le r.2 S) (hex : am_ex E sc .i2b len x pc ls stk s k kr = some ov) : am_le s S := by
  change am_x_i2b _ _ _ _ _ = _ at hex
  unfold am_x_i2b at hex
  repeat' (first
    | exact hk _ hex
    | exact hr _ hex
    | exact absurd hex (fun z => by cases z)
    | (rw [Option.bind_eq_some_iff] at hex; obtain ⟨_, hq, hex⟩ := hex)
    | split at hex
    | (rw [am_frc_eq] at hex)
    | (rw [Bool.cond_eq_ite] at hex; split at hex)
    )
theorem mo_i2c {sc : am_X} {len x pc : Nat} {ls : List (Option am_V)} {stk : List am_V} {s : am_S} (hE : ∀ c as s rv s', E c as s = some (rv, s') → am_le s s') (hk : ∀ t', k t' = some ov → am_le t'.2.2.2 S) (hr : ∀ r, kr r = some ov → am_le r.2 S) (hex : am_ex E sc .i2c len x pc ls stk s k kr = some ov) : am_le s S := by
  change am_x_i2c _ _ _ _ _ = _ at hex
  unfold am_x_i2c at hex
  repeat' (first
    | exact hk _ hex
    | exact hr _ hex
    | exact absurd hex (fun z => by cases z)
    | (rw [Option.bind_eq_some_iff] at hex; obtain ⟨_, hq, hex⟩ := hex)
    | split at hex
    | (rw [am_frc_eq] at hex)
    | (rw [Bool.cond_eq_ite] at hex; split at hex)
    )
theorem mo_ifCond {z0} {z1} {sc : am_X} {len x pc : Nat} {ls : List (Option am_V)} {stk : List am_V} {s : am_S} (hE : ∀ c as s rv s', E c as s = some (rv, s') → am_le s s') (hk : ∀ t', k t' = some ov → am_le t'.2.2.2 S) (hr : ∀ r, kr r = some ov → am_le r.2 S) (hex : am_ex E sc (.ifCond z0 z1) len x pc ls stk s k kr = some ov) : am_le s S := by
  change am_x_ifCond _ _ _ _ _ _ _ = _ at hex
  unfold am_x_ifCond at hex
  try unfold am_cmp at hex
  repeat' (first
    | exact hk _ hex
    | exact hr _ hex
    | exact absurd hex (fun z => by cases z)
    | (rw [Option.bind_eq_some_iff] at hex; obtain ⟨_, hq, hex⟩ := hex)
    | split at hex
    | (rw [am_frc_eq] at hex)
    | (rw [Bool.cond_eq_ite] at hex; split at hex)
    )
theorem mo_if_icmp {z0} {z1} {sc : am_X} {len x pc : Nat} {ls : List (Option am_V)} {stk : List am_V} {s : am_S} (hE : ∀ c as s rv s', E c as s = some (rv, s') → am_le s s') (hk : ∀ t', k t' = some ov → am_le t'.2.2.2 S) (hr : ∀ r, kr r = some ov → am_le r.2 S) (hex : am_ex E sc (.if_icmp z0 z1) len x pc ls stk s k kr = some ov) : am_le s S := by
  change am_x_if_icmp _ _ _ _ _ _ _ = _ at hex
  unfold am_x_if_icmp at hex
  try unfold am_cmp at hex
  repeat' (first
    | exact hk _ hex
    | exact hr _ hex
    | exact absurd hex (fun z => by cases z)
    | (rw [Option.bind_eq_some_iff] at hex; obtain ⟨_, hq, hex⟩ := hex)
    | split at hex
    | (rw [am_frc_eq] at hex)
    | (rw [Bool.cond_eq_ite] at hex; split at hex)
    )
theorem mo_ifnull {z0} {sc : am_X} {len x pc : Nat} {ls : List (Option am_V)} {stk : List am_V} {s : am_S} (hE : ∀ c as s rv s', E c as s = some (rv, s') → am_le s s') (hk : ∀ t', k t' = some ov → am_le t'.2.2.2 S) (hr : ∀ r, kr r = some ov → am_le r.2 S) (hex : am_ex E sc (.ifnull z0) len x pc ls stk s k kr = some ov) : am_le s S := by
  change am_x_ifnull _ _ _ _ _ _ = _ at hex
  unfold am_x_ifnull at hex
  repeat' (first
    | exact hk _ hex
    | exact hr _ hex
    | exact absurd hex (fun z => by cases z)
    | (rw [Option.bind_eq_some_iff] at hex; obtain ⟨_, hq, hex⟩ := hex)
    | split at hex
    | (rw [am_frc_eq] at hex)
    | (rw [Bool.cond_eq_ite] at hex; split at hex)
    )
theorem mo_ifnonnull {z0} {sc : am_X} {len x pc : Nat} {ls : List (Option am_V)} {stk : List am_V} {s : am_S} (hE : ∀ c as s rv s', E c as s = some (rv, s') → am_le s s') (hk : ∀ t', k t' = some ov → am_le t'.2.2.2 S) (hr : ∀ r, kr r = some ov → am_le r.2 S) (hex : am_ex E sc (.ifnonnull z0) len x pc ls stk s k kr = some ov) : am_le s S := by
  change am_x_ifnonnull _ _ _ _ _ _ = _ at hex
  unfold am_x_ifnonnull at hex
  repeat' (first
    | exact hk _ hex
    | exact hr _ hex
    | exact absurd hex (fun z => by cases z)
    | (rw [Option.bind_eq_some_iff] at hex; obtain ⟨_, hq, hex⟩ := hex)
    | split at hex
    | (rw [am_frc_eq] at hex)
    | (rw [Bool.cond_eq_ite] at hex; split at hex)
    )
theorem mo_goto {z0} {sc : am_X} {len x pc : Nat} {ls : List (Option am_V)} {stk : List am_V} {s : am_S} (hE : ∀ c as s rv s', E c as s = some (rv, s') → am_le s s') (hk : ∀ t', k t' = some ov → am_le t'.2.2.2 S) (hr : ∀ r, kr r = some ov → am_le r.2 S) (hex : am_ex E sc (.goto z0) len x pc ls stk s k kr = some ov) : am_le s S := by
  change am_x_goto _ _ _ _ _ = _ at hex
  unfold am_x_goto at hex
  repeat' (first
    | exact hk _ hex
    | exact hr _ hex
    | exact absurd hex (fun z => by cases z)
    | (rw [Option.bind_eq_some_iff] at hex; obtain ⟨_, hq, hex⟩ := hex)
    | split at hex
    | (rw [am_frc_eq] at hex)
    | (rw [Bool.cond_eq_ite] at hex; split at hex)
    )
theorem mo_tableswitch {z0} {z1} {z2} {z3} {sc : am_X} {len x pc : Nat} {ls : List (Option am_V)} {stk : List am_V} {s : am_S} (hE : ∀ c as s rv s', E c as s = some (rv, s') → am_le s s') (hk : ∀ t', k t' = some ov → am_le t'.2.2.2 S) (hr : ∀ r, kr r = some ov → am_le r.2 S) (hex : am_ex E sc (.tableswitch z0 z1 z2 z3) len x pc ls stk s k kr = some ov) : am_le s S := by
  change am_x_tableswitch _ _ _ _ _ _ _ _ = _ at hex
  unfold am_x_tableswitch at hex
  split at hex
  · exact am_le.swT (fun p h => hk _ h) _ _ hex
  · cases hex
theorem mo_lookupswitch {z0} {z1} {sc : am_X} {len x pc : Nat} {ls : List (Option am_V)} {stk : List am_V} {s : am_S} (hE : ∀ c as s rv s', E c as s = some (rv, s') → am_le s s') (hk : ∀ t', k t' = some ov → am_le t'.2.2.2 S) (hr : ∀ r, kr r = some ov → am_le r.2 S) (hex : am_ex E sc (.lookupswitch z0 z1) len x pc ls stk s k kr = some ov) : am_le s S := by
  change am_x_lookupswitch _ _ _ _ _ _ _ = _ at hex
  unfold am_x_lookupswitch at hex
  split at hex
  · exact am_le.swL (fun p h => hk _ h) _ hex
  · cases hex
theorem mo_getstatic {z0} {sc : am_X} {len x pc : Nat} {ls : List (Option am_V)} {stk : List am_V} {s : am_S} (hE : ∀ c as s rv s', E c as s = some (rv, s') → am_le s s') (hk : ∀ t', k t' = some ov → am_le t'.2.2.2 S) (hr : ∀ r, kr r = some ov → am_le r.2 S) (hex : am_ex E sc (.getstatic z0) len x pc ls stk s k kr = some ov) : am_le s S := by
  change am_x_getstatic _ _ _ _ _ _ = _ at hex
  unfold am_x_getstatic at hex
  repeat' (first
    | exact hk _ hex
    | exact hr _ hex
    | exact absurd hex (fun z => by cases z)
    | (rw [Option.bind_eq_some_iff] at hex; obtain ⟨_, hq, hex⟩ := hex)
    | split at hex
    | (rw [am_frc_eq] at hex)
    | (rw [Bool.cond_eq_ite] at hex; split at hex)
    )
theorem mo_getfield {z0} {sc : am_X} {len x pc : Nat} {ls : List (Option am_V)} {stk : List am_V} {s : am_S} (hE : ∀ c as s rv s', E c as s = some (rv, s') → am_le s s') (hk : ∀ t', k t' = some ov → am_le t'.2.2.2 S) (hr : ∀ r, kr r = some ov → am_le r.2 S) (hex : am_ex E sc (.getfield z0) len x pc ls stk s k kr = some ov) : am_le s S := by
  change am_x_getfield _ _ _ _ _ _ = _ at hex
  unfold am_x_getfield at hex
  repeat' (first
    | exact hk _ hex
    | exact hr _ hex
    | exact absurd hex (fun z => by cases z)
    | (rw [Option.bind_eq_some_iff] at hex; obtain ⟨_, hq, hex⟩ := hex)
    | split at hex
    | (rw [am_frc_eq] at hex)
    | (rw [Bool.cond_eq_ite] at hex; split at hex)
    )
theorem mo_putfield {z0} {sc : am_X} {len x pc : Nat} {ls : List (Option am_V)} {stk : List am_V} {s : am_S} (hE : ∀ c as s rv s', E c as s = some (rv, s') → am_le s s') (hk : ∀ t', k t' = some ov → am_le t'.2.2.2 S) (hr : ∀ r, kr r = some ov → am_le r.2 S) (hex : am_ex E sc (.putfield z0) len x pc ls stk s k kr = some ov) : am_le s S := by
  change am_x_putfield _ _ _ _ _ _ = _ at hex
  unfold am_x_putfield at hex
  repeat' (first
    | exact am_le.pf hq (hk _ hex)
    | exact hk _ hex
    | exact hr _ hex
    | exact absurd hex (fun z => by cases z)
    | (rw [Option.bind_eq_some_iff] at hex; obtain ⟨_, hq, hex⟩ := hex)
    | split at hex
    | (rw [am_frc_eq] at hex)
    | (rw [Bool.cond_eq_ite] at hex; split at hex)
    )
theorem mo_new {z0} {sc : am_X} {len x pc : Nat} {ls : List (Option am_V)} {stk : List am_V} {s : am_S} (hE : ∀ c as s rv s', E c as s = some (rv, s') → am_le s s') (hk : ∀ t', k t' = some ov → am_le t'.2.2.2 S) (hr : ∀ r, kr r = some ov → am_le r.2 S) (hex : am_ex E sc (.new z0) len x pc ls stk s k kr = some ov) : am_le s S := by
  change am_x_new _ _ _ _ _ _ = _ at hex
  unfold am_x_new at hex
  repeat' (first
    | exact am_le.al (hk _ hex)
    | exact hr _ hex
    | exact absurd hex (fun z => by cases z)
    | (rw [Option.bind_eq_some_iff] at hex; obtain ⟨_, hq, hex⟩ := hex)
    | split at hex
    | (rw [am_frc_eq] at hex)
    | (rw [Bool.cond_eq_ite] at hex; split at hex)
    )
theorem mo_newarray {z0} {sc : am_X} {len x pc : Nat} {ls : List (Option am_V)} {stk : List am_V} {s : am_S} (hE : ∀ c as s rv s', E c as s = some (rv, s') → am_le s s') (hk : ∀ t', k t' = some ov → am_le t'.2.2.2 S) (hr : ∀ r, kr r = some ov → am_le r.2 S) (hex : am_ex E sc (.newarray z0) len x pc ls stk s k kr = some ov) : am_le s S := by
  change am_x_newarray _ _ _ _ _ _ = _ at hex
  unfold am_x_newarray at hex
  repeat' (first
    | exact am_le.nw hq (hk _ hex)
    | exact hr _ hex
    | exact absurd hex (fun z => by cases z)
    | (rw [Option.bind_eq_some_iff] at hex; obtain ⟨_, hq, hex⟩ := hex)
    | split at hex
    | (rw [am_frc_eq] at hex)
    | (rw [Bool.cond_eq_ite] at hex; split at hex)
    )
theorem mo_anewarray {z0} {sc : am_X} {len x pc : Nat} {ls : List (Option am_V)} {stk : List am_V} {s : am_S} (hE : ∀ c as s rv s', E c as s = some (rv, s') → am_le s s') (hk : ∀ t', k t' = some ov → am_le t'.2.2.2 S) (hr : ∀ r, kr r = some ov → am_le r.2 S) (hex : am_ex E sc (.anewarray z0) len x pc ls stk s k kr = some ov) : am_le s S := by
  change am_x_anewarray _ _ _ _ _ _ = _ at hex
  unfold am_x_anewarray at hex
  repeat' (first
    | exact am_le.nw hq (hk _ hex)
    | exact hr _ hex
    | exact absurd hex (fun z => by cases z)
    | (rw [Option.bind_eq_some_iff] at hex; obtain ⟨_, hq, hex⟩ := hex)
    | split at hex
    | (rw [am_frc_eq] at hex)
    | (rw [Bool.cond_eq_ite] at hex; split at hex)
    )
theorem mo_arraylength {sc : am_X} {len x pc : Nat} {ls : List (Option am_V)} {stk : List am_V} {s : am_S} (hE : ∀ c as s rv s', E c as s = some (rv, s') → am_le s s') (hk : ∀ t', k t' = some ov → am_le t'.2.2.2 S) (hr : ∀ r, kr r = some ov → am_le r.2 S) (hex : am_ex E sc .arraylength len x pc ls stk s k kr = some ov) : am_le s S := by
  change am_x_arraylength _ _ _ _ _ _ = _ at hex
  unfold am_x_arraylength at hex
  repeat' (first
    | exact hk _ hex
    | exact hr _ hex
    | exact absurd hex (fun z => by cases z)
    | (rw [Option.bind_eq_some_iff] at hex; obtain ⟨_, hq, hex⟩ := hex)
    | split at hex
    | (rw [am_frc_eq] at hex)
    | (rw [Bool.cond_eq_ite] at hex; split at hex)
    )
theorem mo_iaload {sc : am_X} {len x pc : Nat} {ls : List (Option am_V)} {stk : List am_V} {s : am_S} (hE : ∀ c as s rv s', E c as s = some (rv, s') → am_le s s') (hk : ∀ t', k t' = some ov → am_le t'.2.2.2 S) (hr : ∀ r, kr r = some ov → am_le r.2 S) (hex : am_ex E sc .iaload len x pc ls stk s k kr = some ov) : am_le s S := by
  change am_x_iaload _ _ _ _ _ _ = _ at hex
  unfold am_x_iaload at hex
  repeat' (first
    | exact hk _ hex
    | exact hr _ hex
    | exact absurd hex (fun z => by cases z)
    | (rw [Option.bind_eq_some_iff] at hex; obtain ⟨_, hq, hex⟩ := hex)
    | split at hex
    | (rw [am_frc_eq] at hex)
    | (rw [Bool.cond_eq_ite] at hex; split at hex)
    )
theorem mo_baload {sc : am_X} {len x pc : Nat} {ls : List (Option am_V)} {stk : List am_V} {s : am_S} (hE : ∀ c as s rv s', E c as s = some (rv, s') → am_le s s') (hk : ∀ t', k t' = some ov → am_le t'.2.2.2 S) (hr : ∀ r, kr r = some ov → am_le r.2 S) (hex : am_ex E sc .baload len x pc ls stk s k kr = some ov) : am_le s S := by
  change am_x_baload _ _ _ _ _ = _ at hex
  unfold am_x_baload at hex
  repeat' (first
    | exact hk _ hex
    | exact hr _ hex
    | exact absurd hex (fun z => by cases z)
    | (rw [Option.bind_eq_some_iff] at hex; obtain ⟨_, hq, hex⟩ := hex)
    | split at hex
    | (rw [am_frc_eq] at hex)
    | (rw [Bool.cond_eq_ite] at hex; split at hex)
    )
theorem mo_laload {sc : am_X} {len x pc : Nat} {ls : List (Option am_V)} {stk : List am_V} {s : am_S} (hE : ∀ c as s rv s', E c as s = some (rv, s') → am_le s s') (hk : ∀ t', k t' = some ov → am_le t'.2.2.2 S) (hr : ∀ r, kr r = some ov → am_le r.2 S) (hex : am_ex E sc .laload len x pc ls stk s k kr = some ov) : am_le s S := by
  change am_x_laload _ _ _ _ _ = _ at hex
  unfold am_x_laload at hex
  repeat' (first
    | exact hk _ hex
    | exact hr _ hex
    | exact absurd hex (fun z => by cases z)
    | (rw [Option.bind_eq_some_iff] at hex; obtain ⟨_, hq, hex⟩ := hex)
    | split at hex
    | (rw [am_frc_eq] at hex)
    | (rw [Bool.cond_eq_ite] at hex; split at hex)
    )
theorem mo_aaload {sc : am_X} {len x pc : Nat} {ls : List (Option am_V)} {stk : List am_V} {s : am_S} (hE : ∀ c as s rv s', E c as s = some (rv, s') → am_le s s') (hk : ∀ t', k t' = some ov → am_le t'.2.2.2 S) (hr : ∀ r, kr r = some ov → am_le r.2 S) (hex : am_ex E sc .aaload len x pc ls stk s k kr = some ov) : am_le s S := by
  change am_x_aaload _ _ _ _ _ = _ at hex
  unfold am_x_aaload at hex
  repeat' (first
    | exact hk _ hex
    | exact hr _ hex
    | exact absurd hex (fun z => by cases z)
    | (rw [Option.bind_eq_some_iff] at hex; obtain ⟨_, hq, hex⟩ := hex)
    | split at hex
    | (rw [am_frc_eq] at hex)
    | (rw [Bool.cond_eq_ite] at hex; split at hex)
    )
theorem mo_iastore {sc : am_X} {len x pc : Nat} {ls : List (Option am_V)} {stk : List am_V} {s : am_S} (hE : ∀ c as s rv s', E c as s = some (rv, s') → am_le s s') (hk : ∀ t', k t' = some ov → am_le t'.2.2.2 S) (hr : ∀ r, kr r = some ov → am_le r.2 S) (hex : am_ex E sc .iastore len x pc ls stk s k kr = some ov) : am_le s S := by
  change am_x_iastore _ _ _ _ _ = _ at hex
  unfold am_x_iastore at hex
  repeat' (first
    | exact am_le.tI hq (hk _ hex)
    | exact hk _ hex
    | exact hr _ hex
    | exact absurd hex (fun z => by cases z)
    | (rw [Option.bind_eq_some_iff] at hex; obtain ⟨_, hq, hex⟩ := hex)
    | split at hex
    | (rw [am_frc_eq] at hex)
    | (rw [Bool.cond_eq_ite] at hex; split at hex)
    )
theorem mo_bastore {sc : am_X} {len x pc : Nat} {ls : List (Option am_V)} {stk : List am_V} {s : am_S} (hE : ∀ c as s rv s', E c as s = some (rv, s') → am_le s s') (hk : ∀ t', k t' = some ov → am_le t'.2.2.2 S) (hr : ∀ r, kr r = some ov → am_le r.2 S) (hex : am_ex E sc .bastore len x pc ls stk s k kr = some ov) : am_le s S := by
  change am_x_bastore _ _ _ _ _ = _ at hex
  unfold am_x_bastore at hex
  repeat' (first
    | exact am_le.tB hq (hk _ hex)
    | exact hk _ hex
    | exact hr _ hex
    | exact absurd hex (fun z => by cases z)
    | (rw [Option.bind_eq_some_iff] at hex; obtain ⟨_, hq, hex⟩ := hex)
    | split at hex
    | (rw [am_frc_eq] at hex)
    | (rw [Bool.cond_eq_ite] at hex; split at hex)
    )
theorem mo_lastore {sc : am_X} {len x pc : Nat} {ls : List (Option am_V)} {stk : List am_V} {s : am_S} (hE : ∀ c as s rv s', E c as s = some (rv, s') → am_le s s') (hk : ∀ t', k t' = some ov → am_le t'.2.2.2 S) (hr : ∀ r, kr r = some ov → am_le r.2 S) (hex : am_ex E sc .lastore len x pc ls stk s k kr = some ov) : am_le s S := by
  change am_x_lastore _ _ _ _ _ = _ at hex
  unfold am_x_lastore at hex
  repeat' (first
    | exact am_le.tL hq (hk _ hex)
    | exact hk _ hex
    | exact hr _ hex
    | exact absurd hex (fun z => by cases z)
    | (rw [Option.bind_eq_some_iff] at hex; obtain ⟨_, hq, hex⟩ := hex)
    | split at hex
    | (rw [am_frc_eq] at hex)
    | (rw [Bool.cond_eq_ite] at hex; split at hex)
    )
theorem mo_aastore {sc : am_X} {len x pc : Nat} {ls : List (Option am_V)} {stk : List am_V} {s : am_S} (hE : ∀ c as s rv s', E c as s = some (rv, s') → am_le s s') (hk : ∀ t', k t' = some ov → am_le t'.2.2.2 S) (hr : ∀ r, kr r = some ov → am_le r.2 S) (hex : am_ex E sc .aastore len x pc ls stk s k kr = some ov) : am_le s S := by
  change am_x_aastore _ _ _ _ _ = _ at hex
  unfold am_x_aastore at hex
  repeat' (first
    | exact am_le.tR hq (hk _ hex)
    | exact hk _ hex
    | exact hr _ hex
    | exact absurd hex (fun z => by cases z)
    | (rw [Option.bind_eq_some_iff] at hex; obtain ⟨_, hq, hex⟩ := hex)
    | split at hex
    | (rw [am_frc_eq] at hex)
    | (rw [Bool.cond_eq_ite] at hex; split at hex)
    )
theorem mo_invokestatic {z0} {sc : am_X} {len x pc : Nat} {ls : List (Option am_V)} {stk : List am_V} {s : am_S} (hE : ∀ c as s rv s', E c as s = some (rv, s') → am_le s s') (hk : ∀ t', k t' = some ov → am_le t'.2.2.2 S) (hr : ∀ r, kr r = some ov → am_le r.2 S) (hex : am_ex E sc (.invokestatic z0) len x pc ls stk s k kr = some ov) : am_le s S := by
  change am_x_invokestatic _ _ _ _ _ _ _ = _ at hex
  unfold am_x_invokestatic at hex
  repeat' (first
    | exact am_le.cp hq (hk _ hex)
    | exact am_le.cl hk hE hex
    | exact mo_math hk hex
    | exact hk _ hex
    | exact hr _ hex
    | exact absurd hex (fun z => by cases z)
    | (rw [Option.bind_eq_some_iff] at hex; obtain ⟨_, hq, hex⟩ := hex)
    | split at hex
    | (rw [am_frc_eq] at hex)
    | (rw [Bool.cond_eq_ite] at hex; split at hex)
    )
theorem mo_invokevirtual {z0} {sc : am_X} {len x pc : Nat} {ls : List (Option am_V)} {stk : List am_V} {s : am_S} (hE : ∀ c as s rv s', E c as s = some (rv, s') → am_le s s') (hk : ∀ t', k t' = some ov → am_le t'.2.2.2 S) (hr : ∀ r, kr r = some ov → am_le r.2 S) (hex : am_ex E sc (.invokevirtual z0) len x pc ls stk s k kr = some ov) : am_le s S := by
  change am_x_invokevirtual _ _ _ _ _ _ _ = _ at hex
  unfold am_x_invokevirtual at hex
  repeat' (first
    | exact am_le.cl hk hE hex
    | exact hk _ hex
    | exact hr _ hex
    | exact absurd hex (fun z => by cases z)
    | (rw [Option.bind_eq_some_iff] at hex; obtain ⟨_, hq, hex⟩ := hex)
    | split at hex
    | (rw [am_frc_eq] at hex)
    | (rw [Bool.cond_eq_ite] at hex; split at hex)
    )
theorem mo_invokespecial {z0} {sc : am_X} {len x pc : Nat} {ls : List (Option am_V)} {stk : List am_V} {s : am_S} (hE : ∀ c as s rv s', E c as s = some (rv, s') → am_le s s') (hk : ∀ t', k t' = some ov → am_le t'.2.2.2 S) (hr : ∀ r, kr r = some ov → am_le r.2 S) (hex : am_ex E sc (.invokespecial z0) len x pc ls stk s k kr = some ov) : am_le s S := by
  change am_x_invokespecial _ _ _ _ _ _ _ = _ at hex
  unfold am_x_invokespecial at hex
  repeat' (first
    | exact am_le.cl hk hE hex
    | exact hk _ hex
    | exact hr _ hex
    | exact absurd hex (fun z => by cases z)
    | (rw [Option.bind_eq_some_iff] at hex; obtain ⟨_, hq, hex⟩ := hex)
    | split at hex
    | (rw [am_frc_eq] at hex)
    | (rw [Bool.cond_eq_ite] at hex; split at hex)
    )
theorem mo_ireturn {sc : am_X} {len x pc : Nat} {ls : List (Option am_V)} {stk : List am_V} {s : am_S} (hE : ∀ c as s rv s', E c as s = some (rv, s') → am_le s s') (hk : ∀ t', k t' = some ov → am_le t'.2.2.2 S) (hr : ∀ r, kr r = some ov → am_le r.2 S) (hex : am_ex E sc .ireturn len x pc ls stk s k kr = some ov) : am_le s S := by
  change am_x_ireturn _ _ _ _ = _ at hex
  unfold am_x_ireturn at hex
  repeat' (first
    | exact hk _ hex
    | exact hr _ hex
    | exact absurd hex (fun z => by cases z)
    | (rw [Option.bind_eq_some_iff] at hex; obtain ⟨_, hq, hex⟩ := hex)
    | split at hex
    | (rw [am_frc_eq] at hex)
    | (rw [Bool.cond_eq_ite] at hex; split at hex)
    )
theorem mo_lreturn {sc : am_X} {len x pc : Nat} {ls : List (Option am_V)} {stk : List am_V} {s : am_S} (hE : ∀ c as s rv s', E c as s = some (rv, s') → am_le s s') (hk : ∀ t', k t' = some ov → am_le t'.2.2.2 S) (hr : ∀ r, kr r = some ov → am_le r.2 S) (hex : am_ex E sc .lreturn len x pc ls stk s k kr = some ov) : am_le s S := by
  change am_x_lreturn _ _ _ = _ at hex
  unfold am_x_lreturn at hex
  repeat' (first
    | exact hk _ hex
    | exact hr _ hex
    | exact absurd hex (fun z => by cases z)
    | (rw [Option.bind_eq_some_iff] at hex; obtain ⟨_, hq, hex⟩ := hex)
    | split at hex
    | (rw [am_frc_eq] at hex)
    | (rw [Bool.cond_eq_ite] at hex; split at hex)
    )
theorem mo_areturn {sc : am_X} {len x pc : Nat} {ls : List (Option am_V)} {stk : List am_V} {s : am_S} (hE : ∀ c as s rv s', E c as s = some (rv, s') → am_le s s') (hk : ∀ t', k t' = some ov → am_le t'.2.2.2 S) (hr : ∀ r, kr r = some ov → am_le r.2 S) (hex : am_ex E sc .areturn len x pc ls stk s k kr = some ov) : am_le s S := by
  change am_x_areturn _ _ _ = _ at hex
  unfold am_x_areturn at hex
  repeat' (first
    | exact hk _ hex
    | exact hr _ hex
    | exact absurd hex (fun z => by cases z)
    | (rw [Option.bind_eq_some_iff] at hex; obtain ⟨_, hq, hex⟩ := hex)
    | split at hex
    | (rw [am_frc_eq] at hex)
    | (rw [Bool.cond_eq_ite] at hex; split at hex)
    )
theorem mo_return_ {sc : am_X} {len x pc : Nat} {ls : List (Option am_V)} {stk : List am_V} {s : am_S} (hE : ∀ c as s rv s', E c as s = some (rv, s') → am_le s s') (hk : ∀ t', k t' = some ov → am_le t'.2.2.2 S) (hr : ∀ r, kr r = some ov → am_le r.2 S) (hex : am_ex E sc .return_ len x pc ls stk s k kr = some ov) : am_le s S := by
  change am_x_return_ _ _ _ = _ at hex
  unfold am_x_return_ at hex
  repeat' (first
    | exact hk _ hex
    | exact hr _ hex
    | exact absurd hex (fun z => by cases z)
    | (rw [Option.bind_eq_some_iff] at hex; obtain ⟨_, hq, hex⟩ := hex)
    | split at hex
    | (rw [am_frc_eq] at hex)
    | (rw [Bool.cond_eq_ite] at hex; split at hex)
    )
theorem am_ex_mo {i : Instr} {sc : am_X} {len x pc : Nat} {ls : List (Option am_V)} {stk : List am_V} {s : am_S} (hE : ∀ c as s rv s', E c as s = some (rv, s') → am_le s s') (hk : ∀ t', k t' = some ov → am_le t'.2.2.2 S) (hr : ∀ r, kr r = some ov → am_le r.2 S) (hex : am_ex E sc i len x pc ls stk s k kr = some ov) : am_le s S := by
  cases i
  case iconst z0 => exact mo_iconst hE hk hr hex
  case bipush z0 => exact mo_bipush hE hk hr hex
  case sipush z0 => exact mo_sipush hE hk hr hex
  case lconst z0 => exact mo_lconst hE hk hr hex
  case ldc z0 => exact mo_ldc hE hk hr hex
  case ldc_w z0 => exact mo_ldc_w hE hk hr hex
  case ldc2_w z0 => exact mo_ldc2_w hE hk hr hex
  case aconst_null => exact mo_aconst_null hE hk hr hex
  case iload_n z0 => exact mo_iload_n hE hk hr hex
  case iload z0 => exact mo_iload hE hk hr hex
  case lload_n z0 => exact mo_lload_n hE hk hr hex
  case lload z0 => exact mo_lload hE hk hr hex
  case aload_n z0 => exact mo_aload_n hE hk hr hex
  case aload z0 => exact mo_aload hE hk hr hex
  case istore_n z0 => exact mo_istore_n hE hk hr hex
  case istore z0 => exact mo_istore hE hk hr hex
  case lstore_n z0 => exact mo_lstore_n hE hk hr hex
  case lstore z0 => exact mo_lstore hE hk hr hex
  case astore_n z0 => exact mo_astore_n hE hk hr hex
  case astore z0 => exact mo_astore hE hk hr hex
  case iinc z0 z1 => exact mo_iinc hE hk hr hex
  case pop => exact mo_pop hE hk hr hex
  case dup => exact mo_dup hE hk hr hex
  case dup2 => exact mo_dup2 hE hk hr hex
  case iadd => exact mo_iadd hE hk hr hex
  case isub => exact mo_isub hE hk hr hex
  case imul => exact mo_imul hE hk hr hex
  case idiv => exact mo_idiv hE hk hr hex
  case irem => exact mo_irem hE hk hr hex
  case ineg => exact mo_ineg hE hk hr hex
  case iand => exact mo_iand hE hk hr hex
  case ior => exact mo_ior hE hk hr hex
  case ixor => exact mo_ixor hE hk hr hex
  case ishl => exact mo_ishl hE hk hr hex
  case ishr => exact mo_ishr hE hk hr hex
  case iushr => exact mo_iushr hE hk hr hex
  case ladd => exact mo_ladd hE hk hr hex
  case lsub => exact mo_lsub hE hk hr hex
  case lmul => exact mo_lmul hE hk hr hex
  case ldiv => exact mo_ldiv hE hk hr hex
  case lrem => exact mo_lrem hE hk hr hex
  case lneg => exact mo_lneg hE hk hr hex
  case land => exact mo_land hE hk hr hex
  case lor => exact mo_lor hE hk hr hex
  case lxor => exact mo_lxor hE hk hr hex
  case lshl => exact mo_lshl hE hk hr hex
  case lshr => exact mo_lshr hE hk hr hex
  case lushr => exact mo_lushr hE hk hr hex
  case lcmp => exact mo_lcmp hE hk hr hex
  case i2l => exact mo_i2l hE hk hr hex
  case l2i => exact mo_l2i hE hk hr hex
  case i2b => exact mo_i2b hE hk hr hex
  case i2c => exact mo_i2c hE hk hr hex
  case ifCond z0 z1 => exact mo_ifCond hE hk hr hex
  case if_icmp z0 z1 => exact mo_if_icmp hE hk hr hex
  case ifnull z0 => exact mo_ifnull hE hk hr hex
  case ifnonnull z0 => exact mo_ifnonnull hE hk hr hex
  case goto z0 => exact mo_goto hE hk hr hex
  case tableswitch z0 z1 z2 z3 => exact mo_tableswitch hE hk hr hex
  case lookupswitch z0 z1 => exact mo_lookupswitch hE hk hr hex
  case getstatic z0 => exact mo_getstatic hE hk hr hex
  case getfield z0 => exact mo_getfield hE hk hr hex
  case putfield z0 => exact mo_putfield hE hk hr hex
  case new z0 => exact mo_new hE hk hr hex
  case newarray z0 => exact mo_newarray hE hk hr hex
  case anewarray z0 => exact mo_anewarray hE hk hr hex
  case arraylength => exact mo_arraylength hE hk hr hex
  case iaload => exact mo_iaload hE hk hr hex
  case baload => exact mo_baload hE hk hr hex
  case laload => exact mo_laload hE hk hr hex
  case aaload => exact mo_aaload hE hk hr hex
  case iastore => exact mo_iastore hE hk hr hex
  case bastore => exact mo_bastore hE hk hr hex
  case lastore => exact mo_lastore hE hk hr hex
  case aastore => exact mo_aastore hE hk hr hex
  case invokestatic z0 => exact mo_invokestatic hE hk hr hex
  case invokevirtual z0 => exact mo_invokevirtual hE hk hr hex
  case invokespecial z0 => exact mo_invokespecial hE hk hr hex
  case ireturn => exact mo_ireturn hE hk hr hex
  case lreturn => exact mo_lreturn hE hk hr hex
  case areturn => exact mo_areturn hE hk hr hex
  case return_ => exact mo_return_ hE hk hr hex
  all_goals exact absurd (show (none : Option O) = some ov from hex) (fun z => by cases z)
theorem am_ev_mo {sc : am_X} {cd : am_P} {cu : List (Nat × List Nat)} (hE : ∀ c as s rv s', E c as s = some (rv, s') → am_le s s') (hk : ∀ t', k t' = some ov → am_le t'.2.2.2 S) (hr : ∀ r, kr r = some ov → am_le r.2 S) : ∀ (n : Nat) (t : am_T), am_ev E sc cd cu n t k kr = some ov → am_le t.2.2.2 S
  | 0, t, h => by simp [am_ev] at h
  | n + 1, (pc, ls, stk, s), h => by
    unfold am_ev am_step at h
    dsimp only at h
    split at h
    · refine am_ex_mo hE (fun t' ht' => ?_) hr h
      obtain ⟨pc3, ls3, stk3, s3⟩ := t'
      dsimp only at ht'
      split at ht'
      · have g := hk _ ht'
        exact g
      · exact am_ev_mo hE hk hr n _ ht'
    · cases h
end AmMo
theorem am_F_mo (sc : am_X) : ∀ (y : Nat) (as : List am_V) (s : am_S) (rv : Option am_V) (s' : am_S), y < am_nm → am_F sc y as s = some (rv, s') → am_le s s' := by
  intro y
  induction y using Nat.strongRecOn with
  | _ y ih =>
    intro as s rv s' hy h
    rw [am_F_eq sc y hy, Bool.cond_eq_ite] at h
    split at h
    · unfold am_W at h
      obtain ⟨n, h⟩ := am_wh_to h
      have hG : ∀ c as s rv s', am_G sc y c as s = some (rv, s') → am_le s s' := by
        intro c as s rv s' hc
        unfold am_G at hc
        rw [Bool.cond_eq_ite] at hc
        split at hc
        · rename_i hb
          have hb : c < y := Nat.le_of_ble_eq_true hb
          exact ih c hb as s rv s' (Nat.lt_trans hb hy) hc
        · cases hc
      have key : ∀ (n : Nat) (t : am_T), am_it (am_body (am_G sc y) sc y) n t = some (rv, s') → am_le t.2.2.2 s' := by
        intro n
        induction n with
        | zero => intro t h; simp [am_it] at h
        | succ n ihn =>
          intro t h
          rw [am_it] at h
          cases e : am_body (am_G sc y) sc y t with
          | none => rw [e] at h; simp at h
          | some q =>
            rw [e] at h
            cases q with
            | inl t' =>
              have h' := ihn t' h
              unfold am_body at e
              exact am_ev_mo (ov := Sum.inl t') hG (fun t2 e2 => by obtain rfl := Sum.inl.inj (Option.some.inj e2); exact h') (fun r e2 => by cases e2) 1000 t e
            | inr r =>
              obtain rfl : r = (rv, s') := Option.some.inj h
              unfold am_body at e
              exact am_ev_mo (ov := Sum.inr (rv, s')) hG (fun t2 e2 => by cases e2) (fun r e2 => by obtain rfl := Sum.inr.inj (Option.some.inj e2); exact am_le.rf _) 1000 t e
      exact key n _ h
    · cases h
