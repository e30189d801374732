/-! ARRAYS, CALLS, ANSWERS; then any instruction, a stretch, a run, a method -/
section AmEx2
variable {G : am_Gt} {p : Program} {l : Launch} {e : Env} {R : Room} {s0 : State} {m : MethodId} {args : Array Value} {below : List Frame} {meth : Method} {c : Code} {Q : State → Prop} {cc : ByteArray} {nL o : Nat} {init : Bool} {sF : am_S} {n0 l0 : Nat} {pc len x rt fr lo : Nat} {ls : List (Option am_V)} {stk : List am_V} {s : am_S} {O : Type} {ov : O} {k : am_T → Option O} {kr : am_Y → Option O} {E : Nat → List am_V → am_S → Option am_Y}
theorem am_iteN {α : Type} {q : Prop} [Decidable q] {y : α} {v : α} (h : (if q then none else some y) = some v) : ¬ q ∧ y = v := by
  split at h
  · cases h
  · exact ⟨by assumption, Option.some.inj h⟩
theorem am_eI_to {s : am_S} {a t : Nat} {i v : Int32} (h : am_eI s a t i = some v) : ∃ (u n : Nat) (f : Nat → Int32), s.1 a = some (.inl (u, n, .inl f)) ∧ ((t = 0 ∧ u = 0) ∨ (t ≠ 0 ∧ (u = 1 ∨ u = 2))) ∧ ¬ (i < 0 ∨ n ≤ i.toNatClampNeg) ∧ v = f i.toNatClampNeg := by
  unfold am_eI at h
  split at h
  next u n f e0 =>
    rcases am_cdT h with ⟨hb, h⟩ | ⟨_, h⟩
    · obtain ⟨h1, h2⟩ := am_iteN h
      refine ⟨u, n, f, e0, ?_, h1, h2.symm⟩
      cases ht : Nat.beq t 0 with
      | true =>
        rw [ht] at hb
        exact Or.inl ⟨am_beq ht, am_beq hb⟩
      | false =>
        rw [ht] at hb
        simp only [cond_false, Bool.or_eq_true] at hb
        refine Or.inr ⟨fun q => (by rw [q] at ht; cases ht), ?_⟩
        rcases hb with hb | hb
        · exact Or.inl (am_beq hb)
        · exact Or.inr (am_beq hb)
    · cases h
  next => cases h
theorem am_eL_to {s : am_S} {a : Nat} {i : Int32} {v : Int64} (h : am_eL s a i = some v) : ∃ (n : Nat) (f : Nat → Int64), s.1 a = some (.inl (3, n, .inr (.inl f))) ∧ ¬ (i < 0 ∨ n ≤ i.toNatClampNeg) ∧ v = f i.toNatClampNeg := by
  unfold am_eL at h
  split at h
  next u n f e0 =>
    rcases am_cdT h with ⟨hb, h⟩ | ⟨_, h⟩
    · obtain ⟨h1, h2⟩ := am_iteN h
      rw [am_beq hb] at e0
      exact ⟨n, f, e0, h1, h2.symm⟩
    · cases h
  next => cases h
theorem am_eR_to {s : am_S} {a : Nat} {i : Int32} {v : Option Nat} (h : am_eR s a i = some v) : ∃ (u n : Nat) (f : Nat → Option Nat), s.1 a = some (.inl (u, n, .inr (.inr f))) ∧ 3 < u ∧ ¬ (i < 0 ∨ n ≤ i.toNatClampNeg) ∧ v = f i.toNatClampNeg := by
  unfold am_eR at h
  split at h
  next u n f e0 =>
    rcases am_cdT h with ⟨hb, h⟩ | ⟨_, h⟩
    · obtain ⟨h1, h2⟩ := am_iteN h
      exact ⟨u, n, f, e0, am_ble hb, h1, h2.symm⟩
    · cases h
  next => cases h
theorem am_tI_to {s s' : am_S} {a : Nat} {i v : Int32} (h : am_tI s a i v = some s') : ∃ (n : Nat) (f : Nat → Int32), s.1 a = some (.inl (0, n, .inl f)) ∧ ¬ (i < 0 ∨ n ≤ i.toNatClampNeg) ∧ s' = (am_w s.1 a (.inl (0, n, .inl (am_up f i.toNatClampNeg v))), s.2) := by
  unfold am_tI at h
  split at h
  next u n f e0 =>
    rcases am_cdT h with ⟨hb, h⟩ | ⟨_, h⟩
    · obtain ⟨h1, h2⟩ := am_iteN h
      have hu := am_beq hb
      subst hu
      exact ⟨n, f, e0, h1, h2.symm⟩
    · cases h
  next => cases h
theorem am_tB_to {s s' : am_S} {a : Nat} {i v : Int32} (h : am_tB s a i v = some s') : ∃ (n : Nat) (f : Nat → Int32), ¬ (i < 0 ∨ n ≤ i.toNatClampNeg) ∧ ((s.1 a = some (.inl (1, n, .inl f)) ∧ s' = (am_w s.1 a (.inl (1, n, .inl (am_up f i.toNatClampNeg (v &&& 1)))), s.2)) ∨ (s.1 a = some (.inl (2, n, .inl f)) ∧ s' = (am_w s.1 a (.inl (2, n, .inl (am_up f i.toNatClampNeg v.toInt8.toInt32))), s.2))) := by
  unfold am_tB at h
  split at h
  next u n f e0 =>
    rcases am_cdT h with ⟨hb, h⟩ | ⟨_, h⟩
    · obtain ⟨h1, h2⟩ := am_iteN h
      refine ⟨n, f, h1, ?_⟩
      rw [Bool.or_eq_true] at hb
      rcases hb with hb | hb
      · have hu := am_beq hb
        subst hu
        exact Or.inl ⟨e0, h2.symm⟩
      · have hu := am_beq hb
        subst hu
        exact Or.inr ⟨e0, h2.symm⟩
    · cases h
  next => cases h
theorem am_tL_to {s s' : am_S} {a : Nat} {i : Int32} {v : Int64} (h : am_tL s a i v = some s') : ∃ (n : Nat) (f : Nat → Int64), s.1 a = some (.inl (3, n, .inr (.inl f))) ∧ ¬ (i < 0 ∨ n ≤ i.toNatClampNeg) ∧ s' = (am_w s.1 a (.inl (3, n, .inr (.inl (am_up f i.toNatClampNeg v)))), s.2) := by
  unfold am_tL at h
  split at h
  next u n f e0 =>
    rcases am_cdT h with ⟨hb, h⟩ | ⟨_, h⟩
    · obtain ⟨h1, h2⟩ := am_iteN h
      have hu := am_beq hb
      subst hu
      exact ⟨n, f, e0, h1, h2.symm⟩
    · cases h
  next => cases h
theorem am_is_to {s : am_S} {a ci : Nat} (h : am_is s a ci = true) : ∃ fs, s.1 a = some (.inr (ci, fs)) := by
  unfold am_is at h
  split at h
  next c fs e0 => rw [am_beq h] at e0; exact ⟨fs, e0⟩
  next => cases h
theorem am_tR_to {s s' : am_S} {a b : Nat} {i : Int32} (h : am_tR s a i b = some s') : ∃ (u n : Nat) (f : Nat → Option Nat) (fs : List am_V), s.1 a = some (.inl (u, n, .inr (.inr f))) ∧ 3 < u ∧ s.1 b = some (.inr (am_et u, fs)) ∧ ¬ (i < 0 ∨ n ≤ i.toNatClampNeg) ∧ s' = (am_w s.1 a (.inl (u, n, .inr (.inr (am_up f i.toNatClampNeg (some b))))), s.2) := by
  unfold am_tR at h
  split at h
  next u n f e0 =>
    rcases am_cdT h with ⟨hb, h⟩ | ⟨_, h⟩
    · obtain ⟨h1, h2⟩ := am_iteN h
      rw [Bool.and_eq_true] at hb
      obtain ⟨fs, hfs⟩ := am_is_to hb.2
      exact ⟨u, n, f, fs, e0, am_ble hb.1, hfs, h1, h2.symm⟩
    · cases h
  next => cases h
theorem am_cp_to {s s' : am_S} {a0 a : Nat} {sp dp n : Int32} (h : am_cp s a0 sp a dp n = some s') : ∃ (t m0 m1 : Nat) (f g : Nat → Int32), s.1 a0 = some (.inl (t, m0, .inl f)) ∧ s.1 a = some (.inl (t, m1, .inl g)) ∧ t ≤ 1 ∧ ¬ sp < 0 ∧ ¬ dp < 0 ∧ ¬ n < 0 ∧ sp.toNatClampNeg + n.toNatClampNeg ≤ m0 ∧ dp.toNatClampNeg + n.toNatClampNeg ≤ m1 ∧ (t = 0 ∨ ∀ i, i < n.toNatClampNeg → f (sp.toNatClampNeg + i) &&& 1 = f (sp.toNatClampNeg + i)) ∧ s' = (am_w s.1 a (.inl (t, m1, .inl (am_cpy f g sp.toNatClampNeg dp.toNatClampNeg n.toNatClampNeg))), s.2) := by
  unfold am_cp at h
  split at h
  next u0 m0 f u1 m1 g e0 e1 =>
    split at h
    · rename_i hc
      obtain ⟨h1, h2, h3, h4, h5, h6, h7, h8⟩ := hc
      subst h1
      exact ⟨u0, m0, m1, f, g, e0, e1, h2, h3, h4, h5, h6, h7, h8, (Option.some.inj h).symm⟩
    · cases h
  next => cases h
theorem ax_arraylength (X : am_Cx G p R s0 m args meth c cc nL o init sF n0 l0) (hd : decode cc pc = .ok (.arraylength, len)) (hok : am_okx o init fr lo rt (.arraylength) len x pc = true) (hk : ∀ t', k t' = some ov → am_Go G p l e R s0 m args below meth c Q nL sF n0 l0 t') {sc : am_X} (hsc : sc = gX G) (hex : am_x_arraylength sc pc ls stk s k = some ov) : am_Go G p l e R s0 m args below meth c Q nL sF n0 l0 (pc, ls, stk, s) := by
  obtain rfl := am_beq hok
  unfold am_x_arraylength at hex
  subst hsc
  split at hex
  · obtain ⟨a, e1, hx1⟩ := Option.bind_eq_some_iff.mp hex
    clear hex
    subst e1
    obtain ⟨n, e2, hx2⟩ := Option.bind_eq_some_iff.mp hx1
    unfold am_len at e2
    split at e2
    next t n2 y e3 =>
      obtain rfl := Option.some.inj e2
      exact am_Go_wd (hk _ hx2).1 (hk _ hx2).2.1 (fun H hW => ao_len X hd (hW.2 _ _ e3).2 e3 (hk _ hx2))
    next => cases e2
  · rename_i j r
    rcases am_cdT hex with ⟨hj, hex⟩ | ⟨_, hex⟩
    · obtain rfl := am_beq hj
      exact ao_len0 X hd (hk _ hex)
    · rcases am_cdT hex with ⟨hj, hex⟩ | ⟨_, hex⟩
      · obtain rfl := am_beq hj
        exact ao_len2 X hd (hk _ hex)
      · cases hex
  · cases hex
theorem ax_iaload (X : am_Cx G p R s0 m args meth c cc nL o init sF n0 l0) (hd : decode cc pc = .ok (.iaload, len)) (hok : am_okx o init fr lo rt (.iaload) len x pc = true) (hk : ∀ t', k t' = some ov → am_Go G p l e R s0 m args below meth c Q nL sF n0 l0 t') {sc : am_X} (hsc : sc = gX G) (hex : am_x_iaload sc pc ls stk s k = some ov) : am_Go G p l e R s0 m args below meth c Q nL sF n0 l0 (pc, ls, stk, s) := by
  obtain rfl := am_beq hok
  unfold am_x_iaload at hex
  subst hsc
  split at hex
  · obtain ⟨a, e1, hx1⟩ := Option.bind_eq_some_iff.mp hex
    clear hex
    subst e1
    obtain ⟨v, e2, hx2⟩ := Option.bind_eq_some_iff.mp hx1
    obtain ⟨u, n, f, g1, g2, g3, rfl⟩ := am_eI_to e2
    rcases g2 with ⟨_, rfl⟩ | ⟨g2, _⟩
    · exact ao_eI0 X hd g1 g3 (hk _ hx2)
    · exact absurd rfl g2
  · rename_i i j r
    rcases am_cdT hex with ⟨hj, hex⟩ | ⟨_, hex⟩
    · obtain rfl := am_beq hj
      split at hex
      · cases hex
      · rename_i hi
        exact ao_ia0 X hd hi (hk _ hex)
    · cases hex
  · cases hex
theorem ax_baload (X : am_Cx G p R s0 m args meth c cc nL o init sF n0 l0) (hd : decode cc pc = .ok (.baload, len)) (hok : am_okx o init fr lo rt (.baload) len x pc = true) (hk : ∀ t', k t' = some ov → am_Go G p l e R s0 m args below meth c Q nL sF n0 l0 t') (hex : am_x_baload pc ls stk s k = some ov) : am_Go G p l e R s0 m args below meth c Q nL sF n0 l0 (pc, ls, stk, s) := by
  obtain rfl := am_beq hok
  unfold am_x_baload at hex
  split at hex
  · obtain ⟨a, e1, hx1⟩ := Option.bind_eq_some_iff.mp hex
    clear hex
    subst e1
    obtain ⟨v, e2, hx2⟩ := Option.bind_eq_some_iff.mp hx1
    obtain ⟨u, n, f, g1, g2, g3, rfl⟩ := am_eI_to e2
    rcases g2 with ⟨g2, _⟩ | ⟨_, rfl | rfl⟩
    · exact absurd g2 (by decide)
    · exact ao_eZ X hd g1 g3 (hk _ hx2)
    · exact ao_eB X hd g1 g3 (hk _ hx2)
  · rename_i i j r
    rcases am_cdT hex with ⟨hj, hex⟩ | ⟨_, hex⟩
    · obtain rfl := am_beq hj
      split at hex
      · cases hex
      · rename_i hi
        exact ao_ba2 X hd hi (hk _ hex)
    · cases hex
  · cases hex
theorem ax_laload (X : am_Cx G p R s0 m args meth c cc nL o init sF n0 l0) (hd : decode cc pc = .ok (.laload, len)) (hok : am_okx o init fr lo rt (.laload) len x pc = true) (hk : ∀ t', k t' = some ov → am_Go G p l e R s0 m args below meth c Q nL sF n0 l0 t') (hex : am_x_laload pc ls stk s k = some ov) : am_Go G p l e R s0 m args below meth c Q nL sF n0 l0 (pc, ls, stk, s) := by
  obtain rfl := am_beq hok
  unfold am_x_laload at hex
  split at hex
  · obtain ⟨a, e1, hx1⟩ := Option.bind_eq_some_iff.mp hex
    clear hex
    subst e1
    obtain ⟨v, e2, hx2⟩ := Option.bind_eq_some_iff.mp hx1
    obtain ⟨n, f, g1, g3, rfl⟩ := am_eL_to e2
    exact ao_eL X hd g1 g3 (hk _ hx2)
  · cases hex
theorem ax_aaload (X : am_Cx G p R s0 m args meth c cc nL o init sF n0 l0) (hd : decode cc pc = .ok (.aaload, len)) (hok : am_okx o init fr lo rt (.aaload) len x pc = true) (hk : ∀ t', k t' = some ov → am_Go G p l e R s0 m args below meth c Q nL sF n0 l0 t') (hex : am_x_aaload pc ls stk s k = some ov) : am_Go G p l e R s0 m args below meth c Q nL sF n0 l0 (pc, ls, stk, s) := by
  obtain rfl := am_beq hok
  unfold am_x_aaload at hex
  split at hex
  · obtain ⟨a, e1, hx1⟩ := Option.bind_eq_some_iff.mp hex
    clear hex
    subst e1
    obtain ⟨v, e2, hx2⟩ := Option.bind_eq_some_iff.mp hx1
    obtain ⟨u, n, f, g1, g2, g3, rfl⟩ := am_eR_to e2
    exact am_Go_wd (hk _ hx2).1 (hk _ hx2).2.1 (fun H hW => ao_eR X hd g2 (hW.2 _ _ g1).2 g1 g3 (hk _ hx2))
  · cases hex
theorem ax_iastore (X : am_Cx G p R s0 m args meth c cc nL o init sF n0 l0) (hd : decode cc pc = .ok (.iastore, len)) (hok : am_okx o init fr lo rt (.iastore) len x pc = true) (hk : ∀ t', k t' = some ov → am_Go G p l e R s0 m args below meth c Q nL sF n0 l0 t') (hex : am_x_iastore pc ls stk s k = some ov) : am_Go G p l e R s0 m args below meth c Q nL sF n0 l0 (pc, ls, stk, s) := by
  obtain rfl := am_beq hok
  unfold am_x_iastore at hex
  split at hex
  · obtain ⟨a, e1, hx1⟩ := Option.bind_eq_some_iff.mp hex
    clear hex
    subst e1
    obtain ⟨s2, e2, hx2⟩ := Option.bind_eq_some_iff.mp hx1
    obtain ⟨n, f, g1, g3, rfl⟩ := am_tI_to e2
    exact ao_tI X hd g1 g3 (hk _ hx2)
  · cases hex
theorem ax_bastore (X : am_Cx G p R s0 m args meth c cc nL o init sF n0 l0) (hd : decode cc pc = .ok (.bastore, len)) (hok : am_okx o init fr lo rt (.bastore) len x pc = true) (hk : ∀ t', k t' = some ov → am_Go G p l e R s0 m args below meth c Q nL sF n0 l0 t') (hex : am_x_bastore pc ls stk s k = some ov) : am_Go G p l e R s0 m args below meth c Q nL sF n0 l0 (pc, ls, stk, s) := by
  obtain rfl := am_beq hok
  unfold am_x_bastore at hex
  split at hex
  · obtain ⟨a, e1, hx1⟩ := Option.bind_eq_some_iff.mp hex
    clear hex
    subst e1
    obtain ⟨s2, e2, hx2⟩ := Option.bind_eq_some_iff.mp hx1
    obtain ⟨n, f, g3, ⟨g1, rfl⟩ | ⟨g1, rfl⟩⟩ := am_tB_to e2
    · exact ao_tZ X hd g1 g3 (hk _ hx2)
    · exact ao_tB X hd g1 g3 (hk _ hx2)
  · cases hex
theorem ax_lastore (X : am_Cx G p R s0 m args meth c cc nL o init sF n0 l0) (hd : decode cc pc = .ok (.lastore, len)) (hok : am_okx o init fr lo rt (.lastore) len x pc = true) (hk : ∀ t', k t' = some ov → am_Go G p l e R s0 m args below meth c Q nL sF n0 l0 t') (hex : am_x_lastore pc ls stk s k = some ov) : am_Go G p l e R s0 m args below meth c Q nL sF n0 l0 (pc, ls, stk, s) := by
  obtain rfl := am_beq hok
  unfold am_x_lastore at hex
  split at hex
  · obtain ⟨a, e1, hx1⟩ := Option.bind_eq_some_iff.mp hex
    clear hex
    subst e1
    obtain ⟨s2, e2, hx2⟩ := Option.bind_eq_some_iff.mp hx1
    obtain ⟨n, f, g1, g3, rfl⟩ := am_tL_to e2
    exact ao_tL X hd g1 g3 (hk _ hx2)
  · cases hex
theorem am_et_cls {t : Nat} (h3 : 3 < t) (h8 : t < 8) : ∃ q : vw_C, am_cls[am_et t]? = some q := by
  match t, h3, h8 with
  | 4, _, _ => exact ⟨_, rfl⟩
  | 5, _, _ => exact ⟨_, rfl⟩
  | 6, _, _ => exact ⟨_, rfl⟩
  | 7, _, _ => exact ⟨_, rfl⟩
theorem ax_aastore (X : am_Cx G p R s0 m args meth c cc nL o init sF n0 l0) (hd : decode cc pc = .ok (.aastore, len)) (hok : am_okx o init fr lo rt (.aastore) len x pc = true) (hk : ∀ t', k t' = some ov → am_Go G p l e R s0 m args below meth c Q nL sF n0 l0 t') (hex : am_x_aastore pc ls stk s k = some ov) : am_Go G p l e R s0 m args below meth c Q nL sF n0 l0 (pc, ls, stk, s) := by
  obtain rfl := am_beq hok
  unfold am_x_aastore at hex
  split at hex
  · obtain ⟨a, e1, hx1⟩ := Option.bind_eq_some_iff.mp hex
    clear hex
    subst e1
    obtain ⟨b, e2, hx2⟩ := Option.bind_eq_some_iff.mp hx1
    subst e2
    obtain ⟨s2, e3, hx3⟩ := Option.bind_eq_some_iff.mp hx2
    obtain ⟨u, n, f, fs, g1, g2, g4, g3, rfl⟩ := am_tR_to e3
    refine am_Go_wd (hk _ hx3).1 (hk _ hx3).2.1 (fun H hW => ?_)
    obtain ⟨q, hq⟩ := am_et_cls g2 (hW.2 _ _ g1).2
    exact ao_tR X hd g2 (hW.2 _ _ g1).2 hq g1 g4 g3 (hk _ hx3)
  · cases hex
theorem am_bk_to {rk p2 : Nat} {y : Option am_Y} {rest : List am_V} (h : am_bk rk y p2 ls rest k = some ov) : ∃ (rv : Option am_V) (s' : am_S), y = some (rv, s') ∧ k (p2, ls, rv.toList ++ rest, s') = some ov := by
  unfold am_bk at h
  split at h
  · obtain ⟨s', e1, h⟩ := Option.bind_eq_some_iff.mp h
    unfold am_rV at e1
    split at e1
    next s2 => obtain rfl := Option.some.inj e1; exact ⟨none, _, rfl, h⟩
    next => cases e1
  · obtain ⟨q, e1, h⟩ := Option.bind_eq_some_iff.mp h
    unfold am_rI at e1
    split at e1
    next v s2 => obtain rfl := Option.some.inj e1; exact ⟨some (am_I v), _, rfl, h⟩
    next => cases e1
  · obtain ⟨q, e1, h⟩ := Option.bind_eq_some_iff.mp h
    unfold am_rL at e1
    split at e1
    next v s2 => obtain rfl := Option.some.inj e1; exact ⟨some (am_L v), _, rfl, h⟩
    next => cases e1
  · obtain ⟨q, e1, h⟩ := Option.bind_eq_some_iff.mp h
    unfold am_rR at e1
    split at e1
    next v s2 => obtain rfl := Option.some.inj e1; exact ⟨some (am_R v), _, rfl, h⟩
    next => cases e1
  · cases h
theorem am_lok_to {z kd : Nat} (h : am_lok o fr lo z x kd = true) : ∃ y : am_Me, am_mt[x / 4096]? = some y ∧ y.2.2.2.1 = kd ∧ y.2.2.1 = x / 256 % 16 ∧ y.2.2.2.2.1 + 1 ≤ fr ∧ 8 + (y.1.2.2.1 + 11) + y.2.2.2.2.2.1 ≤ lo
    ∧ (Jvm.Cond.methodLink (am_on o) z y.1.1 ∈ am_Ts ∨ (kd = 0 ∧ ∃ q ∈ am_nst, am_nsw q = Jvm.Cond.methodLinkNest (am_on o) z y.1.1 (am_on q.2.2.2)))
    ∧ (kd = 1 → (x % 32 = 30 ∧ y.1.1.cls = "java/lang/String") ∨ (x % 32 ≠ 30 ∧ ∃ q : vw_C, am_cls[x % 32]? = some q ∧ q.1 = y.1.1.cls)) ∧ (kd ≠ 1 → x % 32 = 31) := by
  unfold am_lok at h
  split at h
  next y hy =>
    simp only [Bool.and_eq_true] at h
    obtain ⟨⟨⟨⟨⟨h1, h2⟩, h3⟩, h4⟩, h5⟩, h6⟩ := h
    have hnme : am_nme (x / 4096) = y.1.1 := by unfold am_nme; rw [hy]
    refine ⟨y, hy, am_beq h1, am_beq h2, am_ble h3, am_ble h4, ?_, ?_, ?_⟩
    · rw [Bool.or_eq_true] at h5
      rcases h5 with h5 | h5
      · obtain ⟨q, hq, hh⟩ := am_anyQ h5
        simp only [Bool.and_eq_true] at hh
        have hw := am_hs_in (List.all_eq_true.mp am_lk_ok q hq)
        rw [am_beq hh.1.1, am_beq hh.1.2, am_beq hh.2, hnme] at hw
        exact Or.inl hw
      · rw [Bool.and_eq_true] at h5
        obtain ⟨q, hq, hh⟩ := am_anyQ h5.2
        simp only [Bool.and_eq_true] at hh
        refine Or.inr ⟨am_beq h5.1, q, hq, ?_⟩
        unfold am_nsw
        rw [am_beq hh.1.1, am_beq hh.1.2, am_beq hh.2, hnme]
    · intro hkd
      subst hkd
      simp only [show Nat.beq 1 1 = true from rfl, cond_true] at h6
      cases h30 : Nat.beq (x % 32) 30 with
      | true =>
        rw [h30] at h6
        exact Or.inl ⟨am_beq h30, of_decide_eq_true h6⟩
      | false =>
        rw [h30] at h6
        refine Or.inr ⟨fun q => (by rw [q] at h30; cases h30), ?_⟩
        simp only [cond_false] at h6
        split at h6
        next q hq => exact ⟨q, hq, of_decide_eq_true h6⟩
        next => cases h6
    · intro hkd
      rw [show Nat.beq kd 1 = false from by
        cases hb : Nat.beq kd 1 with
        | false => rfl
        | true => exact absurd (am_beq hb) hkd] at h6
      exact am_beq h6
  next => cases h
theorem ax_invokestatic {z : Nat} (X : am_Cx G p R s0 m args meth c cc nL o init sF n0 l0) (hd : decode cc pc = .ok (.invokestatic z, len)) (hok : am_okx o init fr lo rt (.invokestatic z) len x pc = true) (hk : ∀ t', k t' = some ov → am_Go G p l e R s0 m args below meth c Q nL sF n0 l0 t') (hE : ∀ (cN : Nat) (as : List am_V) (s : am_S) (rv : Option am_V) (s' : am_S), E cN as s = some (rv, s') → am_Mt G l cN as s rv s') (hRf : fr = R.frames) (hRl : lo = R.locals) (hex : am_x_invokestatic E x pc ls stk s k = some ov) : am_Go G p l e R s0 m args below meth c Q nL sF n0 l0 (pc, ls, stk, s) := by
  subst hRf hRl
  rw [show am_okx o init R.frames R.locals rt (.invokestatic z) len x pc = (Nat.beq len 3 && (bif Nat.beq x 998 then am_ac.any (fun e => Nat.beq e.1 o && Nat.beq e.2.1 z) && Nat.ble 1 R.frames && Nat.ble 26 R.locals else bif Nat.blt 990 x && Nat.blt x 995 then am_mk.any (fun e => Nat.beq e.1 o && Nat.beq e.2.1 z && Nat.beq e.2.2.1 x) && Nat.ble 1 R.frames && Nat.ble 24 R.locals else am_lok o R.frames R.locals z x 0)) from rfl, Bool.and_eq_true] at hok
  obtain ⟨h1, h2⟩ := hok
  obtain rfl := am_beq h1
  unfold am_x_invokestatic at hex
  cases h998 : Nat.beq x 998 with
  | true =>
    rw [h998] at hex h2
    simp only [cond_true, Bool.and_eq_true] at h2 hex
    split at hex
    · rename_i n dp d sp ob r
      rcases am_cdT hex with ⟨hc, hex⟩ | ⟨_, hex⟩
      · obtain ⟨a0, e1, hx1⟩ := Option.bind_eq_some_iff.mp hex
        obtain ⟨a, e2, hx2⟩ := Option.bind_eq_some_iff.mp hx1
        obtain ⟨s2, e3, hx3⟩ := Option.bind_eq_some_iff.mp hx2
        clear hex hx1 hx2
        subst e1 e2
        obtain ⟨t, m0, m1, f, g, g1, g2, g3, g4, g5, g6, g7, g8, g9, rfl⟩ := am_cp_to e3
        obtain ⟨q, hq, hh⟩ := am_anyQ h2.1.1
        rw [Bool.and_eq_true] at hh
        have hw := am_hs_in (List.all_eq_true.mp am_ac_ok q hq)
        rw [am_beq hh.1, am_beq hh.2] at hw
        exact ao_cp X hd hw ⟨am_ble h2.1.2, am_ble h2.2⟩ (am_ble hc) g3 g1 g2 g4 g5 g6 g7 g8 g9 (hk _ hx3)
      · cases hex
    · cases hex
  | false =>
    rw [h998] at hex h2
    simp only [cond_false] at h2 hex
    cases hm : (Nat.blt 990 x && Nat.blt x 995) with
    | true =>
      rw [hm] at hex h2
      simp only [cond_true, Bool.and_eq_true] at h2 hex
      obtain ⟨q, hq, hh⟩ := am_anyQ h2.1.1
      simp only [Bool.and_eq_true] at hh
      have hw := am_hs_in (List.all_eq_true.mp am_mk_ok q hq)
      rw [am_beq hh.1.1, am_beq hh.1.2, am_beq hh.2] at hw
      have hR : 1 ≤ R.frames ∧ 24 ≤ R.locals := ⟨am_ble h2.1.2, am_ble h2.2⟩
      unfold am_x_math at hex
      split at hex
      · split at hex
        · rcases am_cdT hex with ⟨hc, hex⟩ | ⟨_, hex⟩
          · exact ao_mabs X hd hw hR (am_ble hc) (hk _ hex)
          · cases hex
        · cases hex
      · split at hex
        · rcases am_cdT hex with ⟨hc, hex⟩ | ⟨_, hex⟩
          · exact ao_mabsl X hd hw hR (am_ble hc) (hk _ hex)
          · cases hex
        · cases hex
      · split at hex
        · rcases am_cdT hex with ⟨hc, hex⟩ | ⟨_, hex⟩
          · exact ao_mmax X hd hw hR (am_ble hc) (hk _ hex)
          · cases hex
        · cases hex
      · split at hex
        · rcases am_cdT hex with ⟨hc, hex⟩ | ⟨_, hex⟩
          · exact ao_mmin X hd hw hR (am_ble hc) (hk _ hex)
          · cases hex
        · cases hex
      · cases hex
    | false =>
      rw [hm] at hex h2
      simp only [cond_false] at h2 hex
      obtain ⟨y, hy, g1, g2, g3, g4, g5, -, -⟩ := am_lok_to h2
      unfold am_cl at hex
      obtain ⟨as, rest, q1, q0, hx0⟩ := am_spl_to _ _ _ hex
      clear hex
      subst q0
      have hex := hx0
      clear hx0
      simp only [List.append_nil] at hex
      rcases am_cdT hex with ⟨hc, hex⟩ | ⟨_, hex⟩
      · obtain ⟨rv, s', e1, hex⟩ := am_bk_to hex
        have hM := hE _ _ _ _ _ e1
        rcases g5 with g5 | ⟨_, q, hq, g5⟩
        · exact ao_cS X hd hy g1 g5 ⟨g3, g4⟩ (am_ble hc) (by rw [q1, g2]) hM (hk _ hex)
        · have hn := X.2.2.2.2.2.1.2.1 q hq
          rw [g5] at hn
          exact ao_cN X hd hy g1 hn ⟨g3, g4⟩ (am_ble hc) (by rw [q1, g2]) hM (hk _ hex)
      · cases hex
theorem ax_invokevirtual {z : Nat} (X : am_Cx G p R s0 m args meth c cc nL o init sF n0 l0) (hd : decode cc pc = .ok (.invokevirtual z, len)) (hok : am_okx o init fr lo rt (.invokevirtual z) len x pc = true) (hk : ∀ t', k t' = some ov → am_Go G p l e R s0 m args below meth c Q nL sF n0 l0 t') (hE : ∀ (cN : Nat) (as : List am_V) (s : am_S) (rv : Option am_V) (s' : am_S), E cN as s = some (rv, s') → am_Mt G l cN as s rv s') (hRf : fr = R.frames) (hRl : lo = R.locals) (hex : am_x_invokevirtual E x pc ls stk s k = some ov) : am_Go G p l e R s0 m args below meth c Q nL sF n0 l0 (pc, ls, stk, s) := by
  subst hRf hRl
  rw [show am_okx o init R.frames R.locals rt (.invokevirtual z) len x pc = (Nat.beq len 3 && am_lok o R.frames R.locals z x 1) from rfl, Bool.and_eq_true] at hok
  obtain ⟨h1, h2⟩ := hok
  obtain rfl := am_beq h1
  obtain ⟨y, hy, g1, g2, g3, g4, g5, g6, -⟩ := am_lok_to h2
  have g5 := g5.resolve_right (fun q => absurd q.1 (by decide))
  have g6 := g6 rfl
  unfold am_x_invokevirtual am_cl at hex
  obtain ⟨as, rest, q1, q0, hx0⟩ := am_spl_to _ _ _ hex
  clear hex
  subst q0
  have hex := hx0
  clear hx0
  simp only [List.append_nil] at hex
  rcases am_cdT hex with ⟨hc, hex⟩ | ⟨_, hex⟩
  · simp only [cond_false] at hex
    split at hex
    · rename_i ob as2
      obtain ⟨a, e1, hx1⟩ := Option.bind_eq_some_iff.mp hex
      clear hex
      subst e1
      rcases am_cdT hx1 with ⟨hb, hx2⟩ | ⟨_, hx2⟩
      · obtain ⟨rv, s', e1, hx3⟩ := am_bk_to hx2
        have hM := hE _ _ _ _ _ e1
        rw [Bool.or_eq_true] at hb
        refine am_Go_wd (Nat.le_trans hM.1 (hk _ hx3).1) (Nat.le_trans hM.2.1 (hk _ hx3).2.1) (fun H0 hW0 => ?_)
        have hci : ∃ q : vw_C, am_cls[x % 32]? = some q ∧ q.1 = y.1.1.cls ∧ am_is s a (x % 32) = true := by
          rcases g6 with ⟨g6, _⟩ | ⟨_, q, g6, g7⟩
          · rcases hb with hb | hb
            · have := am_beq hb
              omega
            · obtain ⟨fs, hfs⟩ := am_is_to hb
              have hlt : x % 32 < 13 := (hW0.2 _ _ hfs).2
              omega
          · rcases hb with hb | hb
            · have e31 := am_beq hb
              rw [e31] at g6
              simp [am_cls] at g6
            · exact ⟨q, g6, g7, hb⟩
        obtain ⟨q, q2, q3, q4⟩ := hci
        obtain ⟨fs, hfs⟩ := am_is_to q4
        rw [List.reverse_cons, List.append_assoc]
        exact ao_cV (w0 := am_R (some a)) X hd hy g1 g5 ⟨g3, g4⟩ (am_ble hc) (by rw [← g2] at q1; exact q1) (fun H locs hW hS => by rw [← q3]; exact am_rc_own X.2.2.2.2.2.1 hW q2 hfs) hM (hk _ hx3)
      · cases hx2
    · rename_i j as2
      rcases am_cdT hex with ⟨hb, hx2⟩ | ⟨_, hx2⟩
      · rw [Bool.and_eq_true] at hb
        have hj := am_beq hb.1
        have h30 := am_beq hb.2
        subst hj
        obtain ⟨rv, s', e1, hx3⟩ := am_bk_to hx2
        have hM := hE _ _ _ _ _ e1
        have hstr : y.1.1.cls = "java/lang/String" := by
          rcases g6 with ⟨_, g6⟩ | ⟨g6, _⟩
          · exact g6
          · exact absurd h30 g6
        rw [List.reverse_cons, List.append_assoc]
        exact ao_cV (w0 := am_O 1) X hd hy g1 g5 ⟨g3, g4⟩ (am_ble hc) (by rw [← g2] at q1; exact q1) (fun H locs hW hS => by rw [hstr]; exact am_rc_str X.2.2.2.2.2.2.1 hS) hM (hk _ hx3)
      · cases hx2
    · cases hex
  · cases hex
theorem ax_invokespecial {z : Nat} (X : am_Cx G p R s0 m args meth c cc nL o init sF n0 l0) (hd : decode cc pc = .ok (.invokespecial z, len)) (hok : am_okx o init fr lo rt (.invokespecial z) len x pc = true) (hk : ∀ t', k t' = some ov → am_Go G p l e R s0 m args below meth c Q nL sF n0 l0 t') (hE : ∀ (cN : Nat) (as : List am_V) (s : am_S) (rv : Option am_V) (s' : am_S), E cN as s = some (rv, s') → am_Mt G l cN as s rv s') (hRf : fr = R.frames) (hRl : lo = R.locals) (hex : am_x_invokespecial E x pc ls stk s k = some ov) : am_Go G p l e R s0 m args below meth c Q nL sF n0 l0 (pc, ls, stk, s) := by
  subst hRf hRl
  rw [show am_okx o init R.frames R.locals rt (.invokespecial z) len x pc = (Nat.beq len 3 && (bif Nat.beq x 999 then am_oi.any (fun e => Nat.beq e.1 o && Nat.beq e.2.1 z) && Nat.ble 1 R.frames && Nat.ble 20 R.locals else am_lok o R.frames R.locals z x 2)) from rfl, Bool.and_eq_true] at hok
  obtain ⟨h1, h2⟩ := hok
  obtain rfl := am_beq h1
  unfold am_x_invokespecial at hex
  cases h999 : Nat.beq x 999 with
  | true =>
    rw [h999] at hex h2
    simp only [cond_true, Bool.and_eq_true] at h2 hex
    split at hex
    · rename_i ob r
      rcases am_cdT hex with ⟨hc, hex⟩ | ⟨_, hex⟩
      · obtain ⟨a, e1, hx1⟩ := Option.bind_eq_some_iff.mp hex
        clear hex
        subst e1
        obtain ⟨q, hq, hh⟩ := am_anyQ h2.1.1
        rw [Bool.and_eq_true] at hh
        have hw := am_hs_in (List.all_eq_true.mp am_oi_ok q hq)
        rw [am_beq hh.1, am_beq hh.2] at hw
        exact ao_obj X hd hw ⟨am_ble h2.1.2, am_ble h2.2⟩ (am_ble hc) (hk _ hx1)
      · cases hex
    · cases hex
  | false =>
    rw [h999] at hex h2
    simp only [cond_false] at h2 hex
    obtain ⟨y, hy, g1, g2, g3, g4, g5, -, g6⟩ := am_lok_to h2
    have g5 := g5.resolve_right (fun q => absurd q.1 (by decide))
    have g6 := g6 (by decide)
    unfold am_cl at hex
    obtain ⟨as, rest, q1, q0, hx0⟩ := am_spl_to _ _ _ hex
    clear hex
    subst q0
    have hex := hx0
    clear hx0
    simp only [List.append_nil] at hex
    rcases am_cdT hex with ⟨hc, hex⟩ | ⟨_, hex⟩
    · simp only [cond_false] at hex
      split at hex
      · rename_i ob as2
        obtain ⟨a, e1, hx1⟩ := Option.bind_eq_some_iff.mp hex
        clear hex
        subst e1
        rcases am_cdT hx1 with ⟨hb, hx2⟩ | ⟨_, hx2⟩
        · obtain ⟨rv, s', e1, hx3⟩ := am_bk_to hx2
          have hM := hE _ _ _ _ _ e1
          rw [List.reverse_cons, List.append_assoc]
          exact ao_cI X hd hy g1 g5 ⟨g3, g4⟩ (am_ble hc) (by rw [← g2] at q1; exact q1) hM (hk _ hx3)
        · cases hx2
      · rename_i j as2
        rw [g6] at hex
        rcases am_cdT hex with ⟨hb, hx2⟩ | ⟨_, hx2⟩
        · rw [Bool.and_eq_true] at hb
          exact absurd hb.2 (by decide)
        · cases hx2
      · cases hex
    · cases hex
end AmEx2
