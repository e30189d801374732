/-! ANSWERS, SWITCHES, any instruction, a stretch -/
section AmMain
variable {G : am_Gt} {p : Program} {l : Launch} {e : Env} {R : Room} {s0 : State} {m : MethodId} {args : Array Value} {below : List Frame} {meth : Method} {c : Code} {Q : State → Prop} {cc : ByteArray} {nL o : Nat} {init : Bool} {sF : am_S} {n0 l0 : Nat} {pc len x rt fr lo : Nat} {ls : List (Option am_V)} {stk : List am_V} {s : am_S} {O : Type} {ov : O} {k : am_T → Option O} {kr : am_Y → Option O} {E : Nat → List am_V → am_S → Option am_Y}
theorem ax_ireturn (hd : decode cc pc = .ok (.ireturn, len)) (hok : am_okx o init fr lo rt .ireturn len x pc = true) (hend : ∀ (i : Instr) (pc : Nat) (ls : List (Option am_V)) (stk : List am_V) (rv : Option am_V) (s : am_S), decode cc pc = .ok (i, 1) → am_ret rt i stk rv → kr (rv, s) = some ov → am_Go G p l e R s0 m args below meth c Q nL sF n0 l0 (pc, ls, stk, s)) (hex : am_x_ireturn x stk s kr = some ov) : am_Go G p l e R s0 m args below meth c Q nL sF n0 l0 (pc, ls, stk, s) := by
  rw [show am_okx o init fr lo rt .ireturn len x pc = (Nat.beq len 1 && Nat.beq rt (x + 1)) from rfl, Bool.and_eq_true] at hok
  obtain ⟨h1, h2⟩ := hok
  obtain rfl := am_beq h1
  have h2 := am_beq h2
  unfold am_x_ireturn at hex
  split at hex
  · rename_i v
    split at hex
    · exact hend _ _ _ _ _ _ hd (Or.inl ⟨rfl, v, rfl, rfl, Or.inl h2⟩) hex
    · split at hex
      · rename_i hv
        exact hend _ _ _ _ _ _ hd (Or.inl ⟨rfl, v, rfl, rfl, Or.inr (Or.inl ⟨h2, hv⟩)⟩) hex
      · cases hex
    · split at hex
      · rename_i hv
        exact hend _ _ _ _ _ _ hd (Or.inl ⟨rfl, v, rfl, rfl, Or.inr (Or.inr (Or.inl ⟨h2, hv⟩))⟩) hex
      · cases hex
    · split at hex
      · rename_i hv
        exact hend _ _ _ _ _ _ hd (Or.inl ⟨rfl, v, rfl, rfl, Or.inr (Or.inr (Or.inr ⟨h2, hv⟩))⟩) hex
      · cases hex
    · cases hex
  · cases hex
theorem ax_lreturn (hd : decode cc pc = .ok (.lreturn, len)) (hok : am_okx o init fr lo rt .lreturn len x pc = true) (hend : ∀ (i : Instr) (pc : Nat) (ls : List (Option am_V)) (stk : List am_V) (rv : Option am_V) (s : am_S), decode cc pc = .ok (i, 1) → am_ret rt i stk rv → kr (rv, s) = some ov → am_Go G p l e R s0 m args below meth c Q nL sF n0 l0 (pc, ls, stk, s)) (hex : am_x_lreturn stk s kr = some ov) : am_Go G p l e R s0 m args below meth c Q nL sF n0 l0 (pc, ls, stk, s) := by
  rw [show am_okx o init fr lo rt .lreturn len x pc = (Nat.beq len 1 && Nat.beq rt 5) from rfl, Bool.and_eq_true] at hok
  obtain ⟨h1, h2⟩ := hok
  obtain rfl := am_beq h1
  unfold am_x_lreturn at hex
  split at hex
  · rename_i v
    exact hend _ _ _ _ _ _ hd (Or.inr (Or.inl ⟨rfl, v, rfl, rfl, am_beq h2⟩)) hex
  · cases hex
theorem ax_areturn (hd : decode cc pc = .ok (.areturn, len)) (hok : am_okx o init fr lo rt .areturn len x pc = true) (hend : ∀ (i : Instr) (pc : Nat) (ls : List (Option am_V)) (stk : List am_V) (rv : Option am_V) (s : am_S), decode cc pc = .ok (i, 1) → am_ret rt i stk rv → kr (rv, s) = some ov → am_Go G p l e R s0 m args below meth c Q nL sF n0 l0 (pc, ls, stk, s)) (hex : am_x_areturn stk s kr = some ov) : am_Go G p l e R s0 m args below meth c Q nL sF n0 l0 (pc, ls, stk, s) := by
  rw [show am_okx o init fr lo rt .areturn len x pc = (Nat.beq len 1 && Nat.beq rt 6) from rfl, Bool.and_eq_true] at hok
  obtain ⟨h1, h2⟩ := hok
  obtain rfl := am_beq h1
  unfold am_x_areturn at hex
  split at hex
  · rename_i v
    exact hend _ _ _ _ _ _ hd (Or.inr (Or.inr (Or.inl ⟨rfl, v, rfl, rfl, am_beq h2⟩))) hex
  · cases hex
theorem ax_return_ (hd : decode cc pc = .ok (.return_, len)) (hok : am_okx o init fr lo rt .return_ len x pc = true) (hend : ∀ (i : Instr) (pc : Nat) (ls : List (Option am_V)) (stk : List am_V) (rv : Option am_V) (s : am_S), decode cc pc = .ok (i, 1) → am_ret rt i stk rv → kr (rv, s) = some ov → am_Go G p l e R s0 m args below meth c Q nL sF n0 l0 (pc, ls, stk, s)) (hex : am_x_return_ stk s kr = some ov) : am_Go G p l e R s0 m args below meth c Q nL sF n0 l0 (pc, ls, stk, s) := by
  rw [show am_okx o init fr lo rt .return_ len x pc = (Nat.beq len 1 && Nat.beq rt 0) from rfl, Bool.and_eq_true] at hok
  obtain ⟨h1, h2⟩ := hok
  obtain rfl := am_beq h1
  unfold am_x_return_ at hex
  split at hex
  · exact hend _ _ _ _ _ _ hd (Or.inr (Or.inr (Or.inr ⟨rfl, rfl, rfl, am_beq h2⟩))) hex
  · cases hex
theorem am_ofI {z : Int} (h1 : -2147483648 ≤ z) (h2 : z ≤ 2147483647) : (Int32.ofInt z).toInt = z := by
  rw [Int32.toInt_ofInt]
  rw [show Int32.size = 4294967296 from rfl, Int.bmod_eq_of_le (by omega) (by omega)]
theorem am_swT_to {a : Int32} {d : Int} {kk : Nat → Option O} : ∀ (os : List Int) (lo : Int), am_swT a pc d lo os kk = some ov → (∃ (j : Nat) (off : Int), os[j]? = some off ∧ a = Int32.ofInt (lo + j) ∧ kk ((pc : Int) + off).toNat = some ov) ∨ ((∀ j : Nat, j < os.length → a ≠ Int32.ofInt (lo + j)) ∧ kk ((pc : Int) + d).toNat = some ov)
  | [], lo, h => Or.inr ⟨fun j hj => absurd hj (Nat.not_lt_zero _), h⟩
  | off :: r, lo, h => by
    unfold am_swT at h
    split at h
    · rename_i ha
      exact Or.inl ⟨0, off, rfl, by rw [ha]; simp, h⟩
    · rename_i ha
      rcases am_swT_to r (lo + 1) h with ⟨j, off2, h1, h2, h3⟩ | ⟨h1, h2⟩
      · exact Or.inl ⟨j + 1, off2, h1, by rw [h2]; congr 1; omega, h3⟩
      · refine Or.inr ⟨fun j hj => ?_, h2⟩
        cases j with
        | zero => simpa using ha
        | succ j =>
          have := h1 j (by simpa using hj)
          intro q
          apply this
          rw [q]
          congr 1
          omega
theorem am_swL_to {a : Int32} {d : Int} {kk : Nat → Option O} : ∀ (os : List (Int × Int)), os.all (fun q => decide (-2147483648 ≤ q.1) && decide (q.1 ≤ 2147483647)) = true → am_swL a pc d os kk = kk ((pc : Int) + Op.lookupswitch.offset os d a.toInt).toNat
  | [], _ => rfl
  | (q, off) :: r, h => by
    simp only [List.all_cons, Bool.and_eq_true, decide_eq_true_eq] at h
    unfold am_swL
    rw [Op.lookupswitch.offset_cons]
    by_cases ha : a = Int32.ofInt q
    · rw [if_pos ha, if_pos (by rw [ha, am_ofI h.1.1 h.1.2])]
    · rw [if_neg ha, if_neg (fun z => ha (Int32.toInt_inj.mp (by rw [am_ofI h.1.1 h.1.2]; exact z.symm)))]
      exact am_swL_to r h.2
theorem am_swok_nn {d : Int} {os : List Int} (h : am_swok pc d os = true) : 0 ≤ (pc : Int) + d ∧ ∀ q ∈ os, 0 ≤ (pc : Int) + q := by
  unfold am_swok at h
  rw [Bool.and_eq_true, decide_eq_true_eq, List.all_eq_true] at h
  exact ⟨h.1, fun q hq => of_decide_eq_true (h.2 q hq)⟩
theorem am_off_in {d x : Int} : ∀ (os : List (Int × Int)), Op.lookupswitch.offset os d x = d ∨ Op.lookupswitch.offset os d x ∈ os.map Prod.snd
  | [] => Or.inl rfl
  | (q, off) :: r => by
    rw [Op.lookupswitch.offset_cons]
    split
    · exact Or.inr (by simp)
    · rcases am_off_in (d := d) (x := x) r with h | h
      · exact Or.inl h
      · exact Or.inr (List.mem_cons_of_mem _ h)
theorem ax_tableswitch {d lo' hi : Int} {os : Array Int} (X : am_Cx G p R s0 m args meth c cc nL o init sF n0 l0) (hd : decode cc pc = .ok (.tableswitch d lo' hi os, len)) (hok : am_okx o init fr lo rt (.tableswitch d lo' hi os) len x pc = true) (hk : ∀ t', k t' = some ov → am_Go G p l e R s0 m args below meth c Q nL sF n0 l0 t') (hex : am_x_tableswitch d lo' os pc ls stk s k = some ov) : am_Go G p l e R s0 m args below meth c Q nL sF n0 l0 (pc, ls, stk, s) := by
  rw [show am_okx o init fr lo rt (.tableswitch d lo' hi os) len x pc = (am_swok pc d os.toList && decide (hi + 1 = lo' + os.size) && decide (-2147483648 ≤ lo') && decide (hi ≤ 2147483647)) from rfl] at hok
  simp only [Bool.and_eq_true, decide_eq_true_eq] at hok
  obtain ⟨⟨⟨h1, h2⟩, h3⟩, h4⟩ := hok
  obtain ⟨g1, g2⟩ := am_swok_nn h1
  unfold am_x_tableswitch at hex
  split at hex
  · rename_i a r
    rcases am_swT_to _ _ hex with ⟨j, off, q1, q2, q3⟩ | ⟨q1, q2⟩
    · have hq1 : os[j]? = some off := by rw [← Array.getElem?_toList]; exact q1
      have hj : j < os.size := (Array.getElem?_eq_some_iff.mp hq1).1
      have hnn := g2 off (List.mem_of_getElem? q1)
      have ha : a.toInt = lo' + j := by rw [q2]; exact am_ofI (by omega) (by omega)
      have hgo := hk _ q3
      refine ao_swT X hd h2 hgo.1 hgo.2.1 (fun j2 off2 hj2 e2 => ?_) (fun hno => absurd ha (hno j hj))
      have : j2 = j := by omega
      subst this
      obtain rfl := Option.some.inj (hq1.symm.trans hj2)
      exact ⟨((pc : Int) + off).toNat, by omega, hgo⟩
    · have hgo := hk _ q2
      refine ao_swT X hd h2 hgo.1 hgo.2.1 (fun j2 off2 hj2 e2 => ?_) (fun _ => ⟨((pc : Int) + d).toNat, by omega, hgo⟩)
      have hj : j2 < os.size := (Array.getElem?_eq_some_iff.mp hj2).1
      refine absurd ?_ (q1 j2 (by simpa using hj))
      apply Int32.toInt_inj.mp
      rw [e2, am_ofI (by omega) (by omega)]
  · cases hex
theorem ax_lookupswitch {d : Int} {ps : Array (Int × Int)} (X : am_Cx G p R s0 m args meth c cc nL o init sF n0 l0) (hd : decode cc pc = .ok (.lookupswitch d ps, len)) (hok : am_okx o init fr lo rt (.lookupswitch d ps) len x pc = true) (hk : ∀ t', k t' = some ov → am_Go G p l e R s0 m args below meth c Q nL sF n0 l0 t') (hex : am_x_lookupswitch d ps pc ls stk s k = some ov) : am_Go G p l e R s0 m args below meth c Q nL sF n0 l0 (pc, ls, stk, s) := by
  rw [show am_okx o init fr lo rt (.lookupswitch d ps) len x pc = (am_swok pc d (ps.toList.map Prod.snd) && (ps.toList.zip (ps.toList.drop 1)).all (fun (a, next) => a.1 < next.1) && ps.toList.all (fun q => decide (-2147483648 ≤ q.1) && decide (q.1 ≤ 2147483647))) from rfl, Bool.and_eq_true, Bool.and_eq_true] at hok
  obtain ⟨⟨h1, h2⟩, h3⟩ := hok
  obtain ⟨g1, g2⟩ := am_swok_nn h1
  unfold am_x_lookupswitch at hex
  split at hex
  · rename_i a r
    rw [am_swL_to _ h3] at hex
    have hgo := hk _ hex
    refine ao_swL X hd h2 hgo.1 hgo.2.1 rfl ?_ hgo
    have hnn : 0 ≤ (pc : Int) + Op.lookupswitch.offset ps.toList d a.toInt := by
      rcases am_off_in (d := d) (x := a.toInt) ps.toList with h | h
      · rw [h]; exact g1
      · exact g2 _ h
    omega
  · cases hex
set_option maxHeartbeats 4000000 in
theorem am_ex_ok {i : Instr} {sc : am_X} (X : am_Cx G p R s0 m args meth c cc nL o init sF n0 l0) (hE : ∀ (cN : Nat) (as : List am_V) (s : am_S) (rv : Option am_V) (s' : am_S), E cN as s = some (rv, s') → am_Mt G l cN as s rv s') (hRf : fr = R.frames) (hRl : lo = R.locals) (hsc : sc = gX G) (hd : decode cc pc = .ok (i, len)) (hok : am_okx o init fr lo rt i len x pc = true) (hk : ∀ t', k t' = some ov → am_Go G p l e R s0 m args below meth c Q nL sF n0 l0 t') (hend : ∀ (i : Instr) (pc : Nat) (ls : List (Option am_V)) (stk : List am_V) (rv : Option am_V) (s : am_S), decode cc pc = .ok (i, 1) → am_ret rt i stk rv → kr (rv, s) = some ov → am_Go G p l e R s0 m args below meth c Q nL sF n0 l0 (pc, ls, stk, s)) (hex : am_ex E sc i len x pc ls stk s k kr = some ov) : am_Go G p l e R s0 m args below meth c Q nL sF n0 l0 (pc, ls, stk, s) := by
  cases i
  case iconst z0 => exact ax_iconst X hd hok hk hex
  case bipush z0 => exact ax_bipush X hd hok hk hex
  case sipush z0 => exact ax_sipush X hd hok hk hex
  case lconst z0 => exact ax_lconst X hd hok hk hex
  case ldc z0 => exact ax_ldc X hd hok hk hex
  case ldc_w z0 => exact ax_ldc_w X hd hok hk hex
  case ldc2_w z0 => exact ax_ldc2_w X hd hok hk hex
  case aconst_null => exact ax_aconst_null X hd hok hk hex
  case iload_n z0 => exact ax_iload_n X hd hok hk hex
  case iload z0 => exact ax_iload X hd hok hk hex
  case lload_n z0 => exact ax_lload_n X hd hok hk hex
  case lload z0 => exact ax_lload X hd hok hk hex
  case aload_n z0 => exact ax_aload_n X hd hok hk hex
  case aload z0 => exact ax_aload X hd hok hk hex
  case istore_n z0 => exact ax_istore_n X hd hok hk hex
  case istore z0 => exact ax_istore X hd hok hk hex
  case lstore_n z0 => exact ax_lstore_n X hd hok hk hex
  case lstore z0 => exact ax_lstore X hd hok hk hex
  case astore_n z0 => exact ax_astore_n X hd hok hk hex
  case astore z0 => exact ax_astore X hd hok hk hex
  case iinc z0 z1 => exact ax_iinc X hd hk hex
  case pop => exact ax_pop X hd hok hk hex
  case dup => exact ax_dup X hd hok hk hex
  case dup2 => exact ax_dup2 X hd hok hk hex
  case iadd => exact ax_iadd X hd hok hk hex
  case isub => exact ax_isub X hd hok hk hex
  case imul => exact ax_imul X hd hok hk hex
  case idiv => exact ax_idiv X hd hok hk hex
  case irem => exact ax_irem X hd hok hk hex
  case ineg => exact ax_ineg X hd hok hk hex
  case iand => exact ax_iand X hd hok hk hex
  case ior => exact ax_ior X hd hok hk hex
  case ixor => exact ax_ixor X hd hok hk hex
  case ishl => exact ax_ishl X hd hok hk hex
  case ishr => exact ax_ishr X hd hok hk hex
  case iushr => exact ax_iushr X hd hok hk hex
  case ladd => exact ax_ladd X hd hok hk hex
  case lsub => exact ax_lsub X hd hok hk hex
  case lmul => exact ax_lmul X hd hok hk hex
  case ldiv => exact ax_ldiv X hd hok hk hex
  case lrem => exact ax_lrem X hd hok hk hex
  case lneg => exact ax_lneg X hd hok hk hex
  case land => exact ax_land X hd hok hk hex
  case lor => exact ax_lor X hd hok hk hex
  case lxor => exact ax_lxor X hd hok hk hex
  case lshl => exact ax_lshl X hd hok hk hex
  case lshr => exact ax_lshr X hd hok hk hex
  case lushr => exact ax_lushr X hd hok hk hex
  case lcmp => exact ax_lcmp X hd hok hk hex
  case i2l => exact ax_i2l X hd hok hk hex
  case l2i => exact ax_l2i X hd hok hk hex
  case i2b => exact ax_i2b X hd hok hk hex
  case i2c => exact ax_i2c X hd hok hk hex
  case ifCond z0 z1 => exact ax_ifCond X hd hok hk hex
  case if_icmp z0 z1 => exact ax_if_icmp X hd hok hk hex
  case ifnull z0 => exact ax_ifnull X hd hok hk hex
  case ifnonnull z0 => exact ax_ifnonnull X hd hok hk hex
  case goto z0 => exact ax_goto X hd hok hk hex
  case tableswitch z0 z1 z2 z3 => exact ax_tableswitch X hd hok hk hex
  case lookupswitch z0 z1 => exact ax_lookupswitch X hd hok hk hex
  case getstatic z0 => exact ax_getstatic X hd hok hk hex
  case getfield z0 => exact ax_getfield X hd hok hk hex
  case putfield z0 => exact ax_putfield X hd hok hk hex
  case new z0 => exact ax_new X hd hok hk hex
  case newarray z0 => exact ax_newarray X hd hok hk hex
  case anewarray z0 => exact ax_anewarray X hd hok hk hex
  case arraylength => exact ax_arraylength X hd hok hk hsc hex
  case iaload => exact ax_iaload X hd hok hk hsc hex
  case baload => exact ax_baload X hd hok hk hex
  case laload => exact ax_laload X hd hok hk hex
  case aaload => exact ax_aaload X hd hok hk hex
  case iastore => exact ax_iastore X hd hok hk hex
  case bastore => exact ax_bastore X hd hok hk hex
  case lastore => exact ax_lastore X hd hok hk hex
  case aastore => exact ax_aastore X hd hok hk hex
  case invokestatic z0 => exact ax_invokestatic X hd hok hk hE hRf hRl hex
  case invokevirtual z0 => exact ax_invokevirtual X hd hok hk hE hRf hRl hex
  case invokespecial z0 => exact ax_invokespecial X hd hok hk hE hRf hRl hex
  case ireturn => exact ax_ireturn hd hok hend hex
  case lreturn => exact ax_lreturn hd hok hend hex
  case areturn => exact ax_areturn hd hok hend hex
  case return_ => exact ax_return_ hd hok hend hex
  all_goals exact absurd (show (none : Option O) = some ov from hex) (fun z => by cases z)
/-- every entry of a code table has passed -/
def am_oka (o : Nat) (init : Bool) (fr lo rt : Nat) (cd : am_P) : Bool := cd.all fun ch => ch.all fun q => am_okx o init fr lo rt q.2.1 q.2.2.1 q.2.2.2 q.1
theorem am_at_to {cd : am_P} {q : Nat × Instr × Nat × Nat} (h : am_at cd pc = some q) : q.1 = pc ∧ ∃ ch ∈ cd, q ∈ ch := by
  unfold am_at at h
  have h0 := List.find?_some h
  have h1 : q.1 = pc := am_beq h0
  have h2 := List.mem_of_find?_eq_some h
  refine ⟨h1, cd.getD (pc / 64) [], ?_, h2⟩
  rw [List.getD_eq_getElem?_getD] at h2 ⊢
  cases e0 : cd[pc / 64]? with
  | none => rw [e0] at h2; cases h2
  | some ch => exact List.mem_of_getElem? e0
theorem am_ev_ok {sc : am_X} {cd : am_P} {cu : List (Nat × List Nat)} (X : am_Cx G p R s0 m args meth c cc nL o init sF n0 l0) (hE : ∀ (cN : Nat) (as : List am_V) (s : am_S) (rv : Option am_V) (s' : am_S), E cN as s = some (rv, s') → am_Mt G l cN as s rv s') (hRf : fr = R.frames) (hRl : lo = R.locals) (hsc : sc = gX G) (hcd : am_okd cc cd = true) (hoa : am_oka o init fr lo rt cd = true) (hend : ∀ (i : Instr) (pc : Nat) (ls : List (Option am_V)) (stk : List am_V) (rv : Option am_V) (s : am_S), decode cc pc = .ok (i, 1) → am_ret rt i stk rv → kr (rv, s) = some ov → am_Go G p l e R s0 m args below meth c Q nL sF n0 l0 (pc, ls, stk, s)) : ∀ (n : Nat) (t : am_T), am_ev E sc cd cu n t k kr = some ov → (∀ t', k t' = some ov → am_Go G p l e R s0 m args below meth c Q nL sF n0 l0 t') → am_Go G p l e R s0 m args below meth c Q nL sF n0 l0 t
  | 0, t, h, _ => by simp [am_ev] at h
  | n + 1, (pc, ls, stk, s), h, hk => by
    unfold am_ev am_step at h
    dsimp only at h
    split at h
    next pc2 i len x hat =>
      obtain ⟨h1, ch, h2, h3⟩ := am_at_to hat
      have h1 : pc2 = pc := h1
      subst h1
      have hd := of_decide_eq_true (List.all_eq_true.mp (List.all_eq_true.mp hcd ch h2) _ h3)
      have ho := List.all_eq_true.mp (List.all_eq_true.mp hoa ch h2) _ h3
      refine am_ex_ok X hE hRf hRl hsc hd ho (fun t' ht' => ?_) hend h
      obtain ⟨pc3, ls3, stk3, s3⟩ := t'
      dsimp only at ht'
      split at ht'
      next pc4 d hcu =>
        have h0 := List.find?_some hcu
        have h4 : pc4 = pc3 := am_beq h0
        subst h4
        have g := hk _ ht'
        exact ⟨g.1, g.2.1, fun hn hs H locs lz hW hS hl => g.2.2 hn hs H locs lz hW hS (am_lv_clr _ _ hl d)⟩
      next => exact am_ev_ok X hE hRf hRl hsc hcd hoa hend n _ ht' hk
    next => cases h
end AmMain
