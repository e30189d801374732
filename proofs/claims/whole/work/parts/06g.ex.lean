/-! ANY INSTRUCTION that the check of the tables has passed -/
/-- the kind of a field: 0 int, 1 long, 2 a reference, 3 a boolean -/
def am_kd (t : FieldType) : Nat := match t with
  | .int => 0
  | .long => 1
  | .boolean => 3
  | .object _ => 2
  | .array _ => 2
  | _ => 9
/-- the class, slot and kind that x says of a field -/
def am_fok (o z x : Nat) : Bool := am_ft.any fun e => Nat.beq e.1 o && Nat.beq e.2.1 z && Nat.beq e.2.2.1 (x / 1000) && Nat.beq e.2.2.2.1 (x / 10 % 100)
def am_pok (o : Nat) (init : Bool) (x : Nat) : Bool := match am_cls[x / 1000]? with
  | some q => Nat.beq (am_kd (am_ftyo (x / 1000) (x / 10 % 100))) (x % 10) && (!(q.2.1 (x / 10 % 100)).2.2.2 || (init && decide ((q.2.1 (x / 10 % 100)).1 = am_on o)))
  | none => false
/-- a call: who is called, how many arguments, kind of answer, receiver's class, and the rooms -/
def am_lok (o fr lo z x kd : Nat) : Bool := match am_mt[x / 4096]? with
  | some e => Nat.beq e.2.2.2.1 kd && Nat.beq e.2.2.1 (x / 256 % 16) && Nat.ble (e.2.2.2.2.1 + 1) fr && Nat.ble (8 + (e.1.2.2.1 + 11) + e.2.2.2.2.2.1) lo
      && (am_lk.any (fun q => Nat.beq q.1 o && Nat.beq q.2.1 z && Nat.beq q.2.2.1 (x / 4096)) || (Nat.beq kd 0 && am_nst.any (fun q => Nat.beq q.1 o && Nat.beq q.2.1 z && Nat.beq q.2.2.1 (x / 4096))))
      && (bif Nat.beq kd 1 then (bif Nat.beq (x % 32) 30 then decide (e.1.1.cls = "java/lang/String") else match am_cls[x % 32]? with
        | some q => decide (q.1 = e.1.1.cls)
        | none => false) else Nat.beq (x % 32) 31)
  | none => false
def am_swok (pc : Nat) (d : Int) (os : List Int) : Bool := decide (0 ≤ (pc : Int) + d) && os.all fun q => decide (0 ≤ (pc : Int) + q)
def am_okx (o : Nat) (init : Bool) (fr lo rt : Nat) (i : Instr) (len x pc : Nat) : Bool := match i with
  | .bipush _ | .iload _ | .lload _ | .aload _ | .istore _ | .lstore _ | .astore _ => Nat.beq len 2
  | .sipush _ => Nat.beq len 3
  | .iinc _ _ => true
  | .ldc z => Nat.beq len 2 && (bif Nat.blt x 4294967296 then am_kt.any (fun e => Nat.beq e.1 o && Nat.beq e.2.1 z && Nat.beq e.2.2.1 x) else Nat.beq x 4294967297 && Nat.beq o am_txo && Nat.beq z am_txi)
  | .ldc_w z => Nat.beq len 3 && am_kt.any (fun e => Nat.beq e.1 o && Nat.beq e.2.1 z && Nat.beq e.2.2.1 x)
  | .ldc2_w z => Nat.beq len 3 && am_lt.any (fun e => Nat.beq e.1 o && Nat.beq e.2.1 z && Nat.beq e.2.2.1 x)
  | .ifCond _ z | .if_icmp _ z => Nat.beq len 3 && decide ((pc : Int) + z = (x : Int))
  | .ifnull z | .ifnonnull z | .goto z => Nat.beq len 3 && decide ((pc : Int) + z = (x : Int))
  | .tableswitch d lo' hi os => am_swok pc d os.toList && decide (hi + 1 = lo' + os.size) && decide (-2147483648 ≤ lo') && decide (hi ≤ 2147483647)
  | .lookupswitch d ps => am_swok pc d (ps.toList.map Prod.snd) && (ps.toList.zip (ps.toList.drop 1)).all (fun (a, next) => a.1 < next.1) && ps.toList.all (fun q => decide (-2147483648 ≤ q.1) && decide (q.1 ≤ 2147483647))
  | .getstatic z => Nat.beq len 3 && decide (am_on o = "java/lang/String") && ((Nat.beq x 1 && Nat.beq z 38) || (Nat.beq x 103 && Nat.beq z 1053))
  | .getfield z => Nat.beq len 3 && (bif Nat.beq x 5 then decide (am_on o = "java/lang/String") && Nat.beq z 9 else bif Nat.beq x 6 then decide (am_on o = "java/lang/String") && Nat.beq z 15 else am_fok o z x && Nat.ble (x % 10) 2)
  | .putfield z => Nat.beq len 3 && am_fok o z x && am_pok o init x
  | .new z => Nat.beq len 3 && am_nt.any (fun e => Nat.beq e.1 o && Nat.beq e.2.1 z && Nat.beq e.2.2.1 x)
  | .newarray z => Nat.beq len 2 && Nat.beq (am_aty z) x && Nat.blt x 4
  | .anewarray z => Nat.beq len 3 && am_at2.any (fun e => Nat.beq e.1 o && Nat.beq e.2.1 z && Nat.beq e.2.2.1 x)
  | .invokestatic z => Nat.beq len 3 && (bif Nat.beq x 998 then am_ac.any (fun e => Nat.beq e.1 o && Nat.beq e.2.1 z) && Nat.ble 1 fr && Nat.ble 26 lo else bif Nat.blt 990 x && Nat.blt x 995 then am_mk.any (fun e => Nat.beq e.1 o && Nat.beq e.2.1 z && Nat.beq e.2.2.1 x) && Nat.ble 1 fr && Nat.ble 24 lo else am_lok o fr lo z x 0)
  | .invokevirtual z => Nat.beq len 3 && am_lok o fr lo z x 1
  | .invokespecial z => Nat.beq len 3 && (bif Nat.beq x 999 then am_oi.any (fun e => Nat.beq e.1 o && Nat.beq e.2.1 z) && Nat.ble 1 fr && Nat.ble 20 lo else am_lok o fr lo z x 2)
  | .ireturn => Nat.beq len 1 && Nat.beq rt (x + 1)
  | .lreturn => Nat.beq len 1 && Nat.beq rt 5
  | .areturn => Nat.beq len 1 && Nat.beq rt 6
  | .return_ => Nat.beq len 1 && Nat.beq rt 0
  | _ => Nat.beq len 1
theorem am_beq {a b : Nat} (h : Nat.beq a b = true) : a = b := Nat.eq_of_beq_eq_true h
theorem am_ble {a b : Nat} (h : Nat.ble a b = true) : a ≤ b := Nat.le_of_ble_eq_true h
def am_ret (rt : Nat) (i : Instr) (stk : List am_V) (rv : Option am_V) : Prop :=
  (i = .ireturn ∧ ∃ v : Int32, stk = [am_I v] ∧ rv = some (am_I v) ∧ (rt = 1 ∨ (rt = 2 ∧ v &&& 1 = v) ∨ (rt = 3 ∧ v.toInt8.toInt32 = v) ∨ (rt = 4 ∧ v.toUInt32.toUInt16.toUInt32.toInt32 = v)))
  ∨ (i = .lreturn ∧ ∃ v : Int64, stk = [am_L v] ∧ rv = some (am_L v) ∧ rt = 5) ∨ (i = .areturn ∧ ∃ v : Option Nat, stk = [am_R v] ∧ rv = some (am_R v) ∧ rt = 6) ∨ (i = .return_ ∧ stk = [] ∧ rv = none ∧ rt = 0)
section AmEx
variable {G : am_Gt} {p : Program} {l : Launch} {e : Env} {R : Room} {s0 : State} {m : MethodId} {args : Array Value} {below : List Frame} {meth : Method} {c : Code} {Q : State → Prop} {cc : ByteArray} {nL o : Nat} {init : Bool} {sF : am_S} {n0 l0 : Nat} {pc len x rt fr lo : Nat} {ls : List (Option am_V)} {stk : List am_V} {s : am_S} {O : Type} {ov : O} {k : am_T → Option O} {kr : am_Y → Option O} {E : Nat → List am_V → am_S → Option am_Y}
theorem ax_iconst {z : Int} (X : am_Cx G p R s0 m args meth c cc nL o init sF n0 l0) (hd : decode cc pc = .ok (.iconst z, len)) (hok : am_okx o init fr lo rt (.iconst z) len x pc = true) (hk : ∀ t', k t' = some ov → am_Go G p l e R s0 m args below meth c Q nL sF n0 l0 t') (hex : am_x_iconst z pc ls stk s k = some ov) : am_Go G p l e R s0 m args below meth c Q nL sF n0 l0 (pc, ls, stk, s) := by
  obtain rfl := am_beq hok
  unfold am_x_iconst at hex
  exact ao_iconst X hd (hk _ hex)
theorem ax_bipush {z : Int} (X : am_Cx G p R s0 m args meth c cc nL o init sF n0 l0) (hd : decode cc pc = .ok (.bipush z, len)) (hok : am_okx o init fr lo rt (.bipush z) len x pc = true) (hk : ∀ t', k t' = some ov → am_Go G p l e R s0 m args below meth c Q nL sF n0 l0 t') (hex : am_x_bipush z pc ls stk s k = some ov) : am_Go G p l e R s0 m args below meth c Q nL sF n0 l0 (pc, ls, stk, s) := by
  obtain rfl := am_beq hok
  unfold am_x_bipush at hex
  exact ao_bipush X hd (hk _ hex)
theorem ax_sipush {z : Int} (X : am_Cx G p R s0 m args meth c cc nL o init sF n0 l0) (hd : decode cc pc = .ok (.sipush z, len)) (hok : am_okx o init fr lo rt (.sipush z) len x pc = true) (hk : ∀ t', k t' = some ov → am_Go G p l e R s0 m args below meth c Q nL sF n0 l0 t') (hex : am_x_sipush z pc ls stk s k = some ov) : am_Go G p l e R s0 m args below meth c Q nL sF n0 l0 (pc, ls, stk, s) := by
  obtain rfl := am_beq hok
  unfold am_x_sipush at hex
  exact ao_sipush X hd (hk _ hex)
theorem ax_lconst {z : Fin 2} (X : am_Cx G p R s0 m args meth c cc nL o init sF n0 l0) (hd : decode cc pc = .ok (.lconst z, len)) (hok : am_okx o init fr lo rt (.lconst z) len x pc = true) (hk : ∀ t', k t' = some ov → am_Go G p l e R s0 m args below meth c Q nL sF n0 l0 t') (hex : am_x_lconst z pc ls stk s k = some ov) : am_Go G p l e R s0 m args below meth c Q nL sF n0 l0 (pc, ls, stk, s) := by
  obtain rfl := am_beq hok
  unfold am_x_lconst at hex
  exact ao_lconst X hd (hk _ hex)
theorem ax_aconst_null (X : am_Cx G p R s0 m args meth c cc nL o init sF n0 l0) (hd : decode cc pc = .ok (.aconst_null, len)) (hok : am_okx o init fr lo rt (.aconst_null) len x pc = true) (hk : ∀ t', k t' = some ov → am_Go G p l e R s0 m args below meth c Q nL sF n0 l0 t') (hex : am_x_aconst_null pc ls stk s k = some ov) : am_Go G p l e R s0 m args below meth c Q nL sF n0 l0 (pc, ls, stk, s) := by
  obtain rfl := am_beq hok
  unfold am_x_aconst_null at hex
  exact ao_null X hd (hk _ hex)
theorem ax_iload_n {z : Fin 4} (X : am_Cx G p R s0 m args meth c cc nL o init sF n0 l0) (hd : decode cc pc = .ok (.iload_n z, len)) (hok : am_okx o init fr lo rt (.iload_n z) len x pc = true) (hk : ∀ t', k t' = some ov → am_Go G p l e R s0 m args below meth c Q nL sF n0 l0 t') (hex : am_x_iload_n z pc ls stk s k = some ov) : am_Go G p l e R s0 m args below meth c Q nL sF n0 l0 (pc, ls, stk, s) := by
  obtain rfl := am_beq hok
  unfold am_x_iload_n at hex
  obtain ⟨v, h1, h2⟩ := Option.bind_eq_some_iff.mp hex
  exact ao_iload_n X hd h1 (hk _ h2)
theorem ax_iload {z : Nat} (X : am_Cx G p R s0 m args meth c cc nL o init sF n0 l0) (hd : decode cc pc = .ok (.iload z, len)) (hok : am_okx o init fr lo rt (.iload z) len x pc = true) (hk : ∀ t', k t' = some ov → am_Go G p l e R s0 m args below meth c Q nL sF n0 l0 t') (hex : am_x_iload z pc ls stk s k = some ov) : am_Go G p l e R s0 m args below meth c Q nL sF n0 l0 (pc, ls, stk, s) := by
  obtain rfl := am_beq hok
  unfold am_x_iload at hex
  obtain ⟨v, h1, h2⟩ := Option.bind_eq_some_iff.mp hex
  exact ao_iload X hd h1 (hk _ h2)
theorem ax_lload_n {z : Fin 4} (X : am_Cx G p R s0 m args meth c cc nL o init sF n0 l0) (hd : decode cc pc = .ok (.lload_n z, len)) (hok : am_okx o init fr lo rt (.lload_n z) len x pc = true) (hk : ∀ t', k t' = some ov → am_Go G p l e R s0 m args below meth c Q nL sF n0 l0 t') (hex : am_x_lload_n z pc ls stk s k = some ov) : am_Go G p l e R s0 m args below meth c Q nL sF n0 l0 (pc, ls, stk, s) := by
  obtain rfl := am_beq hok
  unfold am_x_lload_n at hex
  obtain ⟨v, h1, h2⟩ := Option.bind_eq_some_iff.mp hex
  exact ao_lload_n X hd h1 (hk _ h2)
theorem ax_lload {z : Nat} (X : am_Cx G p R s0 m args meth c cc nL o init sF n0 l0) (hd : decode cc pc = .ok (.lload z, len)) (hok : am_okx o init fr lo rt (.lload z) len x pc = true) (hk : ∀ t', k t' = some ov → am_Go G p l e R s0 m args below meth c Q nL sF n0 l0 t') (hex : am_x_lload z pc ls stk s k = some ov) : am_Go G p l e R s0 m args below meth c Q nL sF n0 l0 (pc, ls, stk, s) := by
  obtain rfl := am_beq hok
  unfold am_x_lload at hex
  obtain ⟨v, h1, h2⟩ := Option.bind_eq_some_iff.mp hex
  exact ao_lload X hd h1 (hk _ h2)
theorem ax_aload_n {z : Fin 4} (X : am_Cx G p R s0 m args meth c cc nL o init sF n0 l0) (hd : decode cc pc = .ok (.aload_n z, len)) (hok : am_okx o init fr lo rt (.aload_n z) len x pc = true) (hk : ∀ t', k t' = some ov → am_Go G p l e R s0 m args below meth c Q nL sF n0 l0 t') (hex : am_x_aload_n z pc ls stk s k = some ov) : am_Go G p l e R s0 m args below meth c Q nL sF n0 l0 (pc, ls, stk, s) := by
  obtain rfl := am_beq hok
  unfold am_x_aload_n at hex
  obtain ⟨v, h1, h2⟩ := Option.bind_eq_some_iff.mp hex
  exact ao_aload_n X hd h1 (hk _ h2)
theorem ax_aload {z : Nat} (X : am_Cx G p R s0 m args meth c cc nL o init sF n0 l0) (hd : decode cc pc = .ok (.aload z, len)) (hok : am_okx o init fr lo rt (.aload z) len x pc = true) (hk : ∀ t', k t' = some ov → am_Go G p l e R s0 m args below meth c Q nL sF n0 l0 t') (hex : am_x_aload z pc ls stk s k = some ov) : am_Go G p l e R s0 m args below meth c Q nL sF n0 l0 (pc, ls, stk, s) := by
  obtain rfl := am_beq hok
  unfold am_x_aload at hex
  obtain ⟨v, h1, h2⟩ := Option.bind_eq_some_iff.mp hex
  exact ao_aload X hd h1 (hk _ h2)
theorem ax_istore_n {z : Fin 4} (X : am_Cx G p R s0 m args meth c cc nL o init sF n0 l0) (hd : decode cc pc = .ok (.istore_n z, len)) (hok : am_okx o init fr lo rt (.istore_n z) len x pc = true) (hk : ∀ t', k t' = some ov → am_Go G p l e R s0 m args below meth c Q nL sF n0 l0 t') (hex : am_x_istore_n z pc ls stk s k = some ov) : am_Go G p l e R s0 m args below meth c Q nL sF n0 l0 (pc, ls, stk, s) := by
  obtain rfl := am_beq hok
  unfold am_x_istore_n at hex
  split at hex
  · rename_i v r
    cases hb : Nat.blt (z.val) ls.length with
    | false => rw [hb] at hex; cases hex
    | true =>
      rw [hb] at hex
      rw [cond_true, am_frc_eq] at hex
      exact ao_istore_n X hd hb (hk _ hex)
  · cases hex
theorem ax_istore {z : Nat} (X : am_Cx G p R s0 m args meth c cc nL o init sF n0 l0) (hd : decode cc pc = .ok (.istore z, len)) (hok : am_okx o init fr lo rt (.istore z) len x pc = true) (hk : ∀ t', k t' = some ov → am_Go G p l e R s0 m args below meth c Q nL sF n0 l0 t') (hex : am_x_istore z pc ls stk s k = some ov) : am_Go G p l e R s0 m args below meth c Q nL sF n0 l0 (pc, ls, stk, s) := by
  obtain rfl := am_beq hok
  unfold am_x_istore at hex
  split at hex
  · rename_i v r
    cases hb : Nat.blt (z) ls.length with
    | false => rw [hb] at hex; cases hex
    | true =>
      rw [hb] at hex
      rw [cond_true, am_frc_eq] at hex
      exact ao_istore X hd hb (hk _ hex)
  · cases hex
theorem ax_lstore_n {z : Fin 4} (X : am_Cx G p R s0 m args meth c cc nL o init sF n0 l0) (hd : decode cc pc = .ok (.lstore_n z, len)) (hok : am_okx o init fr lo rt (.lstore_n z) len x pc = true) (hk : ∀ t', k t' = some ov → am_Go G p l e R s0 m args below meth c Q nL sF n0 l0 t') (hex : am_x_lstore_n z pc ls stk s k = some ov) : am_Go G p l e R s0 m args below meth c Q nL sF n0 l0 (pc, ls, stk, s) := by
  obtain rfl := am_beq hok
  unfold am_x_lstore_n at hex
  split at hex
  · rename_i v r
    cases hb : Nat.blt (z.val + 1) ls.length with
    | false => rw [hb] at hex; cases hex
    | true =>
      rw [hb] at hex
      rw [cond_true, am_frc_eq] at hex
      exact ao_lstore_n X hd hb (hk _ hex)
  · cases hex
theorem ax_lstore {z : Nat} (X : am_Cx G p R s0 m args meth c cc nL o init sF n0 l0) (hd : decode cc pc = .ok (.lstore z, len)) (hok : am_okx o init fr lo rt (.lstore z) len x pc = true) (hk : ∀ t', k t' = some ov → am_Go G p l e R s0 m args below meth c Q nL sF n0 l0 t') (hex : am_x_lstore z pc ls stk s k = some ov) : am_Go G p l e R s0 m args below meth c Q nL sF n0 l0 (pc, ls, stk, s) := by
  obtain rfl := am_beq hok
  unfold am_x_lstore at hex
  split at hex
  · rename_i v r
    cases hb : Nat.blt (z + 1) ls.length with
    | false => rw [hb] at hex; cases hex
    | true =>
      rw [hb] at hex
      rw [cond_true, am_frc_eq] at hex
      exact ao_lstore X hd hb (hk _ hex)
  · cases hex
theorem ax_astore_n {z : Fin 4} (X : am_Cx G p R s0 m args meth c cc nL o init sF n0 l0) (hd : decode cc pc = .ok (.astore_n z, len)) (hok : am_okx o init fr lo rt (.astore_n z) len x pc = true) (hk : ∀ t', k t' = some ov → am_Go G p l e R s0 m args below meth c Q nL sF n0 l0 t') (hex : am_x_astore_n z pc ls stk s k = some ov) : am_Go G p l e R s0 m args below meth c Q nL sF n0 l0 (pc, ls, stk, s) := by
  obtain rfl := am_beq hok
  unfold am_x_astore_n at hex
  split at hex
  · rename_i v r
    cases hb : Nat.blt (z.val) ls.length with
    | false => rw [hb] at hex; cases hex
    | true =>
      rw [hb] at hex
      rw [cond_true, am_frc_eq] at hex
      exact ao_astore_n X hd hb (hk _ hex)
  · cases hex
theorem ax_astore {z : Nat} (X : am_Cx G p R s0 m args meth c cc nL o init sF n0 l0) (hd : decode cc pc = .ok (.astore z, len)) (hok : am_okx o init fr lo rt (.astore z) len x pc = true) (hk : ∀ t', k t' = some ov → am_Go G p l e R s0 m args below meth c Q nL sF n0 l0 t') (hex : am_x_astore z pc ls stk s k = some ov) : am_Go G p l e R s0 m args below meth c Q nL sF n0 l0 (pc, ls, stk, s) := by
  obtain rfl := am_beq hok
  unfold am_x_astore at hex
  split at hex
  · rename_i v r
    cases hb : Nat.blt (z) ls.length with
    | false => rw [hb] at hex; cases hex
    | true =>
      rw [hb] at hex
      rw [cond_true, am_frc_eq] at hex
      exact ao_astore X hd hb (hk _ hex)
  · cases hex
theorem ax_iinc {z : Nat} {d : Int} (X : am_Cx G p R s0 m args meth c cc nL o init sF n0 l0) (hd : decode cc pc = .ok (.iinc z d, len)) (hk : ∀ t', k t' = some ov → am_Go G p l e R s0 m args below meth c Q nL sF n0 l0 t') (hex : am_x_iinc z d len pc ls stk s k = some ov) : am_Go G p l e R s0 m args below meth c Q nL sF n0 l0 (pc, ls, stk, s) := by
  unfold am_x_iinc at hex
  cases hb : (Nat.beq len 3 && Nat.blt z ls.length) with
  | false => rw [hb] at hex; cases hex
  | true =>
    rw [hb] at hex
    rw [Bool.and_eq_true] at hb
    obtain rfl := am_beq hb.1
    obtain ⟨v, h1, h2⟩ := Option.bind_eq_some_iff.mp hex
    rw [am_frc_eq] at h2
    exact ao_iinc X hd hb.2 h1 (hk _ h2)
theorem ax_pop (X : am_Cx G p R s0 m args meth c cc nL o init sF n0 l0) (hd : decode cc pc = .ok (.pop, len)) (hok : am_okx o init fr lo rt (.pop) len x pc = true) (hk : ∀ t', k t' = some ov → am_Go G p l e R s0 m args below meth c Q nL sF n0 l0 t') (hex : am_x_pop pc ls stk s k = some ov) : am_Go G p l e R s0 m args below meth c Q nL sF n0 l0 (pc, ls, stk, s) := by
  obtain rfl := am_beq hok
  unfold am_x_pop at hex
  split at hex
  · rename_i v r
    cases hb : am_c1 v with
    | false => rw [hb] at hex; cases hex
    | true => rw [hb] at hex; exact ao_pop X hd hb (hk _ hex)
  · cases hex
theorem ax_dup (X : am_Cx G p R s0 m args meth c cc nL o init sF n0 l0) (hd : decode cc pc = .ok (.dup, len)) (hok : am_okx o init fr lo rt (.dup) len x pc = true) (hk : ∀ t', k t' = some ov → am_Go G p l e R s0 m args below meth c Q nL sF n0 l0 t') (hex : am_x_dup pc ls stk s k = some ov) : am_Go G p l e R s0 m args below meth c Q nL sF n0 l0 (pc, ls, stk, s) := by
  obtain rfl := am_beq hok
  unfold am_x_dup at hex
  split at hex
  · rename_i v r
    cases hb : am_c1 v with
    | false => rw [hb] at hex; cases hex
    | true => rw [hb] at hex; exact ao_dup X hd hb (hk _ hex)
  · cases hex
theorem ax_dup2 (X : am_Cx G p R s0 m args meth c cc nL o init sF n0 l0) (hd : decode cc pc = .ok (.dup2, len)) (hok : am_okx o init fr lo rt (.dup2) len x pc = true) (hk : ∀ t', k t' = some ov → am_Go G p l e R s0 m args below meth c Q nL sF n0 l0 t') (hex : am_x_dup2 pc ls stk s k = some ov) : am_Go G p l e R s0 m args below meth c Q nL sF n0 l0 (pc, ls, stk, s) := by
  obtain rfl := am_beq hok
  unfold am_x_dup2 at hex
  split at hex
  · exact ao_dup2L X hd (hk _ hex)
  · rename_i v w r _
    cases hb : (am_c1 v && am_c1 w) with
    | false => rw [hb] at hex; cases hex
    | true =>
      rw [hb] at hex
      rw [Bool.and_eq_true] at hb
      exact ao_dup2 X hd hb.1 hb.2 (hk _ hex)
  · cases hex
theorem ax_iadd (X : am_Cx G p R s0 m args meth c cc nL o init sF n0 l0) (hd : decode cc pc = .ok (.iadd, len)) (hok : am_okx o init fr lo rt (.iadd) len x pc = true) (hk : ∀ t', k t' = some ov → am_Go G p l e R s0 m args below meth c Q nL sF n0 l0 t') (hex : am_x_iadd pc ls stk s k = some ov) : am_Go G p l e R s0 m args below meth c Q nL sF n0 l0 (pc, ls, stk, s) := by
  obtain rfl := am_beq hok
  unfold am_x_iadd at hex
  split at hex
  · exact ao_iadd X hd (hk _ hex)
  · cases hex
theorem ax_isub (X : am_Cx G p R s0 m args meth c cc nL o init sF n0 l0) (hd : decode cc pc = .ok (.isub, len)) (hok : am_okx o init fr lo rt (.isub) len x pc = true) (hk : ∀ t', k t' = some ov → am_Go G p l e R s0 m args below meth c Q nL sF n0 l0 t') (hex : am_x_isub pc ls stk s k = some ov) : am_Go G p l e R s0 m args below meth c Q nL sF n0 l0 (pc, ls, stk, s) := by
  obtain rfl := am_beq hok
  unfold am_x_isub at hex
  split at hex
  · exact ao_isub X hd (hk _ hex)
  · cases hex
theorem ax_imul (X : am_Cx G p R s0 m args meth c cc nL o init sF n0 l0) (hd : decode cc pc = .ok (.imul, len)) (hok : am_okx o init fr lo rt (.imul) len x pc = true) (hk : ∀ t', k t' = some ov → am_Go G p l e R s0 m args below meth c Q nL sF n0 l0 t') (hex : am_x_imul pc ls stk s k = some ov) : am_Go G p l e R s0 m args below meth c Q nL sF n0 l0 (pc, ls, stk, s) := by
  obtain rfl := am_beq hok
  unfold am_x_imul at hex
  split at hex
  · exact ao_imul X hd (hk _ hex)
  · cases hex
theorem ax_iand (X : am_Cx G p R s0 m args meth c cc nL o init sF n0 l0) (hd : decode cc pc = .ok (.iand, len)) (hok : am_okx o init fr lo rt (.iand) len x pc = true) (hk : ∀ t', k t' = some ov → am_Go G p l e R s0 m args below meth c Q nL sF n0 l0 t') (hex : am_x_iand pc ls stk s k = some ov) : am_Go G p l e R s0 m args below meth c Q nL sF n0 l0 (pc, ls, stk, s) := by
  obtain rfl := am_beq hok
  unfold am_x_iand at hex
  split at hex
  · exact ao_iand X hd (hk _ hex)
  · cases hex
theorem ax_ior (X : am_Cx G p R s0 m args meth c cc nL o init sF n0 l0) (hd : decode cc pc = .ok (.ior, len)) (hok : am_okx o init fr lo rt (.ior) len x pc = true) (hk : ∀ t', k t' = some ov → am_Go G p l e R s0 m args below meth c Q nL sF n0 l0 t') (hex : am_x_ior pc ls stk s k = some ov) : am_Go G p l e R s0 m args below meth c Q nL sF n0 l0 (pc, ls, stk, s) := by
  obtain rfl := am_beq hok
  unfold am_x_ior at hex
  split at hex
  · exact ao_ior X hd (hk _ hex)
  · cases hex
theorem ax_ixor (X : am_Cx G p R s0 m args meth c cc nL o init sF n0 l0) (hd : decode cc pc = .ok (.ixor, len)) (hok : am_okx o init fr lo rt (.ixor) len x pc = true) (hk : ∀ t', k t' = some ov → am_Go G p l e R s0 m args below meth c Q nL sF n0 l0 t') (hex : am_x_ixor pc ls stk s k = some ov) : am_Go G p l e R s0 m args below meth c Q nL sF n0 l0 (pc, ls, stk, s) := by
  obtain rfl := am_beq hok
  unfold am_x_ixor at hex
  split at hex
  · exact ao_ixor X hd (hk _ hex)
  · cases hex
theorem ax_ishl (X : am_Cx G p R s0 m args meth c cc nL o init sF n0 l0) (hd : decode cc pc = .ok (.ishl, len)) (hok : am_okx o init fr lo rt (.ishl) len x pc = true) (hk : ∀ t', k t' = some ov → am_Go G p l e R s0 m args below meth c Q nL sF n0 l0 t') (hex : am_x_ishl pc ls stk s k = some ov) : am_Go G p l e R s0 m args below meth c Q nL sF n0 l0 (pc, ls, stk, s) := by
  obtain rfl := am_beq hok
  unfold am_x_ishl at hex
  split at hex
  · exact ao_ishl X hd (hk _ hex)
  · cases hex
theorem ax_ishr (X : am_Cx G p R s0 m args meth c cc nL o init sF n0 l0) (hd : decode cc pc = .ok (.ishr, len)) (hok : am_okx o init fr lo rt (.ishr) len x pc = true) (hk : ∀ t', k t' = some ov → am_Go G p l e R s0 m args below meth c Q nL sF n0 l0 t') (hex : am_x_ishr pc ls stk s k = some ov) : am_Go G p l e R s0 m args below meth c Q nL sF n0 l0 (pc, ls, stk, s) := by
  obtain rfl := am_beq hok
  unfold am_x_ishr at hex
  split at hex
  · exact ao_ishr X hd (hk _ hex)
  · cases hex
theorem ax_iushr (X : am_Cx G p R s0 m args meth c cc nL o init sF n0 l0) (hd : decode cc pc = .ok (.iushr, len)) (hok : am_okx o init fr lo rt (.iushr) len x pc = true) (hk : ∀ t', k t' = some ov → am_Go G p l e R s0 m args below meth c Q nL sF n0 l0 t') (hex : am_x_iushr pc ls stk s k = some ov) : am_Go G p l e R s0 m args below meth c Q nL sF n0 l0 (pc, ls, stk, s) := by
  obtain rfl := am_beq hok
  unfold am_x_iushr at hex
  split at hex
  · exact ao_iushr X hd (hk _ hex)
  · cases hex
theorem ax_ladd (X : am_Cx G p R s0 m args meth c cc nL o init sF n0 l0) (hd : decode cc pc = .ok (.ladd, len)) (hok : am_okx o init fr lo rt (.ladd) len x pc = true) (hk : ∀ t', k t' = some ov → am_Go G p l e R s0 m args below meth c Q nL sF n0 l0 t') (hex : am_x_ladd pc ls stk s k = some ov) : am_Go G p l e R s0 m args below meth c Q nL sF n0 l0 (pc, ls, stk, s) := by
  obtain rfl := am_beq hok
  unfold am_x_ladd at hex
  split at hex
  · exact ao_ladd X hd (hk _ hex)
  · cases hex
theorem ax_lsub (X : am_Cx G p R s0 m args meth c cc nL o init sF n0 l0) (hd : decode cc pc = .ok (.lsub, len)) (hok : am_okx o init fr lo rt (.lsub) len x pc = true) (hk : ∀ t', k t' = some ov → am_Go G p l e R s0 m args below meth c Q nL sF n0 l0 t') (hex : am_x_lsub pc ls stk s k = some ov) : am_Go G p l e R s0 m args below meth c Q nL sF n0 l0 (pc, ls, stk, s) := by
  obtain rfl := am_beq hok
  unfold am_x_lsub at hex
  split at hex
  · exact ao_lsub X hd (hk _ hex)
  · cases hex
theorem ax_lmul (X : am_Cx G p R s0 m args meth c cc nL o init sF n0 l0) (hd : decode cc pc = .ok (.lmul, len)) (hok : am_okx o init fr lo rt (.lmul) len x pc = true) (hk : ∀ t', k t' = some ov → am_Go G p l e R s0 m args below meth c Q nL sF n0 l0 t') (hex : am_x_lmul pc ls stk s k = some ov) : am_Go G p l e R s0 m args below meth c Q nL sF n0 l0 (pc, ls, stk, s) := by
  obtain rfl := am_beq hok
  unfold am_x_lmul at hex
  split at hex
  · exact ao_lmul X hd (hk _ hex)
  · cases hex
theorem ax_land (X : am_Cx G p R s0 m args meth c cc nL o init sF n0 l0) (hd : decode cc pc = .ok (.land, len)) (hok : am_okx o init fr lo rt (.land) len x pc = true) (hk : ∀ t', k t' = some ov → am_Go G p l e R s0 m args below meth c Q nL sF n0 l0 t') (hex : am_x_land pc ls stk s k = some ov) : am_Go G p l e R s0 m args below meth c Q nL sF n0 l0 (pc, ls, stk, s) := by
  obtain rfl := am_beq hok
  unfold am_x_land at hex
  split at hex
  · exact ao_land X hd (hk _ hex)
  · cases hex
theorem ax_lor (X : am_Cx G p R s0 m args meth c cc nL o init sF n0 l0) (hd : decode cc pc = .ok (.lor, len)) (hok : am_okx o init fr lo rt (.lor) len x pc = true) (hk : ∀ t', k t' = some ov → am_Go G p l e R s0 m args below meth c Q nL sF n0 l0 t') (hex : am_x_lor pc ls stk s k = some ov) : am_Go G p l e R s0 m args below meth c Q nL sF n0 l0 (pc, ls, stk, s) := by
  obtain rfl := am_beq hok
  unfold am_x_lor at hex
  split at hex
  · exact ao_lor X hd (hk _ hex)
  · cases hex
theorem ax_lxor (X : am_Cx G p R s0 m args meth c cc nL o init sF n0 l0) (hd : decode cc pc = .ok (.lxor, len)) (hok : am_okx o init fr lo rt (.lxor) len x pc = true) (hk : ∀ t', k t' = some ov → am_Go G p l e R s0 m args below meth c Q nL sF n0 l0 t') (hex : am_x_lxor pc ls stk s k = some ov) : am_Go G p l e R s0 m args below meth c Q nL sF n0 l0 (pc, ls, stk, s) := by
  obtain rfl := am_beq hok
  unfold am_x_lxor at hex
  split at hex
  · exact ao_lxor X hd (hk _ hex)
  · cases hex
theorem ax_lshl (X : am_Cx G p R s0 m args meth c cc nL o init sF n0 l0) (hd : decode cc pc = .ok (.lshl, len)) (hok : am_okx o init fr lo rt (.lshl) len x pc = true) (hk : ∀ t', k t' = some ov → am_Go G p l e R s0 m args below meth c Q nL sF n0 l0 t') (hex : am_x_lshl pc ls stk s k = some ov) : am_Go G p l e R s0 m args below meth c Q nL sF n0 l0 (pc, ls, stk, s) := by
  obtain rfl := am_beq hok
  unfold am_x_lshl at hex
  split at hex
  · exact ao_lshl X hd (hk _ hex)
  · cases hex
theorem ax_lshr (X : am_Cx G p R s0 m args meth c cc nL o init sF n0 l0) (hd : decode cc pc = .ok (.lshr, len)) (hok : am_okx o init fr lo rt (.lshr) len x pc = true) (hk : ∀ t', k t' = some ov → am_Go G p l e R s0 m args below meth c Q nL sF n0 l0 t') (hex : am_x_lshr pc ls stk s k = some ov) : am_Go G p l e R s0 m args below meth c Q nL sF n0 l0 (pc, ls, stk, s) := by
  obtain rfl := am_beq hok
  unfold am_x_lshr at hex
  split at hex
  · exact ao_lshr X hd (hk _ hex)
  · cases hex
theorem ax_lushr (X : am_Cx G p R s0 m args meth c cc nL o init sF n0 l0) (hd : decode cc pc = .ok (.lushr, len)) (hok : am_okx o init fr lo rt (.lushr) len x pc = true) (hk : ∀ t', k t' = some ov → am_Go G p l e R s0 m args below meth c Q nL sF n0 l0 t') (hex : am_x_lushr pc ls stk s k = some ov) : am_Go G p l e R s0 m args below meth c Q nL sF n0 l0 (pc, ls, stk, s) := by
  obtain rfl := am_beq hok
  unfold am_x_lushr at hex
  split at hex
  · exact ao_lushr X hd (hk _ hex)
  · cases hex
theorem ax_lcmp (X : am_Cx G p R s0 m args meth c cc nL o init sF n0 l0) (hd : decode cc pc = .ok (.lcmp, len)) (hok : am_okx o init fr lo rt (.lcmp) len x pc = true) (hk : ∀ t', k t' = some ov → am_Go G p l e R s0 m args below meth c Q nL sF n0 l0 t') (hex : am_x_lcmp pc ls stk s k = some ov) : am_Go G p l e R s0 m args below meth c Q nL sF n0 l0 (pc, ls, stk, s) := by
  obtain rfl := am_beq hok
  unfold am_x_lcmp at hex
  split at hex
  · exact ao_lcmp X hd (hk _ hex)
  · cases hex
theorem ax_ineg (X : am_Cx G p R s0 m args meth c cc nL o init sF n0 l0) (hd : decode cc pc = .ok (.ineg, len)) (hok : am_okx o init fr lo rt (.ineg) len x pc = true) (hk : ∀ t', k t' = some ov → am_Go G p l e R s0 m args below meth c Q nL sF n0 l0 t') (hex : am_x_ineg pc ls stk s k = some ov) : am_Go G p l e R s0 m args below meth c Q nL sF n0 l0 (pc, ls, stk, s) := by
  obtain rfl := am_beq hok
  unfold am_x_ineg at hex
  split at hex
  · exact ao_ineg X hd (hk _ hex)
  · cases hex
theorem ax_lneg (X : am_Cx G p R s0 m args meth c cc nL o init sF n0 l0) (hd : decode cc pc = .ok (.lneg, len)) (hok : am_okx o init fr lo rt (.lneg) len x pc = true) (hk : ∀ t', k t' = some ov → am_Go G p l e R s0 m args below meth c Q nL sF n0 l0 t') (hex : am_x_lneg pc ls stk s k = some ov) : am_Go G p l e R s0 m args below meth c Q nL sF n0 l0 (pc, ls, stk, s) := by
  obtain rfl := am_beq hok
  unfold am_x_lneg at hex
  split at hex
  · exact ao_lneg X hd (hk _ hex)
  · cases hex
theorem ax_i2l (X : am_Cx G p R s0 m args meth c cc nL o init sF n0 l0) (hd : decode cc pc = .ok (.i2l, len)) (hok : am_okx o init fr lo rt (.i2l) len x pc = true) (hk : ∀ t', k t' = some ov → am_Go G p l e R s0 m args below meth c Q nL sF n0 l0 t') (hex : am_x_i2l pc ls stk s k = some ov) : am_Go G p l e R s0 m args below meth c Q nL sF n0 l0 (pc, ls, stk, s) := by
  obtain rfl := am_beq hok
  unfold am_x_i2l at hex
  split at hex
  · exact ao_i2l X hd (hk _ hex)
  · cases hex
theorem ax_l2i (X : am_Cx G p R s0 m args meth c cc nL o init sF n0 l0) (hd : decode cc pc = .ok (.l2i, len)) (hok : am_okx o init fr lo rt (.l2i) len x pc = true) (hk : ∀ t', k t' = some ov → am_Go G p l e R s0 m args below meth c Q nL sF n0 l0 t') (hex : am_x_l2i pc ls stk s k = some ov) : am_Go G p l e R s0 m args below meth c Q nL sF n0 l0 (pc, ls, stk, s) := by
  obtain rfl := am_beq hok
  unfold am_x_l2i at hex
  split at hex
  · exact ao_l2i X hd (hk _ hex)
  · cases hex
theorem ax_i2b (X : am_Cx G p R s0 m args meth c cc nL o init sF n0 l0) (hd : decode cc pc = .ok (.i2b, len)) (hok : am_okx o init fr lo rt (.i2b) len x pc = true) (hk : ∀ t', k t' = some ov → am_Go G p l e R s0 m args below meth c Q nL sF n0 l0 t') (hex : am_x_i2b pc ls stk s k = some ov) : am_Go G p l e R s0 m args below meth c Q nL sF n0 l0 (pc, ls, stk, s) := by
  obtain rfl := am_beq hok
  unfold am_x_i2b at hex
  split at hex
  · exact ao_i2b X hd (hk _ hex)
  · cases hex
theorem ax_i2c (X : am_Cx G p R s0 m args meth c cc nL o init sF n0 l0) (hd : decode cc pc = .ok (.i2c, len)) (hok : am_okx o init fr lo rt (.i2c) len x pc = true) (hk : ∀ t', k t' = some ov → am_Go G p l e R s0 m args below meth c Q nL sF n0 l0 t') (hex : am_x_i2c pc ls stk s k = some ov) : am_Go G p l e R s0 m args below meth c Q nL sF n0 l0 (pc, ls, stk, s) := by
  obtain rfl := am_beq hok
  unfold am_x_i2c at hex
  split at hex
  · exact ao_i2c X hd (hk _ hex)
  · cases hex
theorem ax_idiv (X : am_Cx G p R s0 m args meth c cc nL o init sF n0 l0) (hd : decode cc pc = .ok (.idiv, len)) (hok : am_okx o init fr lo rt (.idiv) len x pc = true) (hk : ∀ t', k t' = some ov → am_Go G p l e R s0 m args below meth c Q nL sF n0 l0 t') (hex : am_x_idiv pc ls stk s k = some ov) : am_Go G p l e R s0 m args below meth c Q nL sF n0 l0 (pc, ls, stk, s) := by
  obtain rfl := am_beq hok
  unfold am_x_idiv at hex
  split at hex
  · split at hex
    · cases hex
    · rename_i h0
      exact ao_idiv X hd h0 (hk _ hex)
  · cases hex
theorem ax_irem (X : am_Cx G p R s0 m args meth c cc nL o init sF n0 l0) (hd : decode cc pc = .ok (.irem, len)) (hok : am_okx o init fr lo rt (.irem) len x pc = true) (hk : ∀ t', k t' = some ov → am_Go G p l e R s0 m args below meth c Q nL sF n0 l0 t') (hex : am_x_irem pc ls stk s k = some ov) : am_Go G p l e R s0 m args below meth c Q nL sF n0 l0 (pc, ls, stk, s) := by
  obtain rfl := am_beq hok
  unfold am_x_irem at hex
  split at hex
  · split at hex
    · cases hex
    · rename_i h0
      exact ao_irem X hd h0 (hk _ hex)
  · cases hex
theorem ax_ldiv (X : am_Cx G p R s0 m args meth c cc nL o init sF n0 l0) (hd : decode cc pc = .ok (.ldiv, len)) (hok : am_okx o init fr lo rt (.ldiv) len x pc = true) (hk : ∀ t', k t' = some ov → am_Go G p l e R s0 m args below meth c Q nL sF n0 l0 t') (hex : am_x_ldiv pc ls stk s k = some ov) : am_Go G p l e R s0 m args below meth c Q nL sF n0 l0 (pc, ls, stk, s) := by
  obtain rfl := am_beq hok
  unfold am_x_ldiv at hex
  split at hex
  · split at hex
    · cases hex
    · rename_i h0
      exact ao_ldiv X hd h0 (hk _ hex)
  · cases hex
theorem ax_lrem (X : am_Cx G p R s0 m args meth c cc nL o init sF n0 l0) (hd : decode cc pc = .ok (.lrem, len)) (hok : am_okx o init fr lo rt (.lrem) len x pc = true) (hk : ∀ t', k t' = some ov → am_Go G p l e R s0 m args below meth c Q nL sF n0 l0 t') (hex : am_x_lrem pc ls stk s k = some ov) : am_Go G p l e R s0 m args below meth c Q nL sF n0 l0 (pc, ls, stk, s) := by
  obtain rfl := am_beq hok
  unfold am_x_lrem at hex
  split at hex
  · split at hex
    · cases hex
    · rename_i h0
      exact ao_lrem X hd h0 (hk _ hex)
  · cases hex
theorem ax_ifCond {cn : ClassFile.Cond} {z : Int} (X : am_Cx G p R s0 m args meth c cc nL o init sF n0 l0) (hd : decode cc pc = .ok (.ifCond cn z, len)) (hok : am_okx o init fr lo rt (.ifCond cn z) len x pc = true) (hk : ∀ t', k t' = some ov → am_Go G p l e R s0 m args below meth c Q nL sF n0 l0 t') (hex : am_x_ifCond cn x pc ls stk s k = some ov) : am_Go G p l e R s0 m args below meth c Q nL sF n0 l0 (pc, ls, stk, s) := by
  rw [show am_okx o init fr lo rt (.ifCond cn z) len x pc = (Nat.beq len 3 && decide ((pc : Int) + z = (x : Int))) from rfl, Bool.and_eq_true, decide_eq_true_eq] at hok
  obtain ⟨h1, ht⟩ := hok
  obtain rfl := am_beq h1
  unfold am_x_ifCond at hex
  split at hex
  · cases cn
    case eq =>
      unfold am_cmp at hex
      dsimp only at hex
      split at hex
      · rename_i hq
        exact ao_if_eq X hd ht (hk _ hex).1 (hk _ hex).2.1 (fun _ => hk _ hex) (fun q => absurd hq q)
      · rename_i hq
        exact ao_if_eq X hd ht (hk _ hex).1 (hk _ hex).2.1 (fun q => absurd q hq) (fun _ => hk _ hex)
    case ne =>
      unfold am_cmp at hex
      dsimp only at hex
      split at hex
      · rename_i hq
        exact ao_if_ne X hd ht (hk _ hex).1 (hk _ hex).2.1 (fun q => absurd hq q) (fun _ => hk _ hex)
      · rename_i hq
        exact ao_if_ne X hd ht (hk _ hex).1 (hk _ hex).2.1 (fun _ => hk _ hex) (fun q => absurd q hq)
    case lt =>
      unfold am_cmp at hex
      dsimp only at hex
      split at hex
      · rename_i hq
        exact ao_if_lt X hd ht (hk _ hex).1 (hk _ hex).2.1 (fun _ => hk _ hex) (fun q => absurd hq q)
      · rename_i hq
        exact ao_if_lt X hd ht (hk _ hex).1 (hk _ hex).2.1 (fun q => absurd q hq) (fun _ => hk _ hex)
    case ge =>
      unfold am_cmp at hex
      dsimp only at hex
      split at hex
      · rename_i hq
        exact ao_if_ge X hd ht (hk _ hex).1 (hk _ hex).2.1 (fun q => absurd hq q) (fun _ => hk _ hex)
      · rename_i hq
        exact ao_if_ge X hd ht (hk _ hex).1 (hk _ hex).2.1 (fun _ => hk _ hex) (fun q => absurd q hq)
    case gt =>
      unfold am_cmp at hex
      dsimp only at hex
      split at hex
      · rename_i hq
        exact ao_if_gt X hd ht (hk _ hex).1 (hk _ hex).2.1 (fun _ => hk _ hex) (fun q => absurd hq q)
      · rename_i hq
        exact ao_if_gt X hd ht (hk _ hex).1 (hk _ hex).2.1 (fun q => absurd q hq) (fun _ => hk _ hex)
    case le =>
      unfold am_cmp at hex
      dsimp only at hex
      split at hex
      · rename_i hq
        exact ao_if_le X hd ht (hk _ hex).1 (hk _ hex).2.1 (fun q => absurd hq q) (fun _ => hk _ hex)
      · rename_i hq
        exact ao_if_le X hd ht (hk _ hex).1 (hk _ hex).2.1 (fun _ => hk _ hex) (fun q => absurd q hq)
  · cases hex
theorem ax_if_icmp {cn : ClassFile.Cond} {z : Int} (X : am_Cx G p R s0 m args meth c cc nL o init sF n0 l0) (hd : decode cc pc = .ok (.if_icmp cn z, len)) (hok : am_okx o init fr lo rt (.if_icmp cn z) len x pc = true) (hk : ∀ t', k t' = some ov → am_Go G p l e R s0 m args below meth c Q nL sF n0 l0 t') (hex : am_x_if_icmp cn x pc ls stk s k = some ov) : am_Go G p l e R s0 m args below meth c Q nL sF n0 l0 (pc, ls, stk, s) := by
  rw [show am_okx o init fr lo rt (.if_icmp cn z) len x pc = (Nat.beq len 3 && decide ((pc : Int) + z = (x : Int))) from rfl, Bool.and_eq_true, decide_eq_true_eq] at hok
  obtain ⟨h1, ht⟩ := hok
  obtain rfl := am_beq h1
  unfold am_x_if_icmp at hex
  split at hex
  · cases cn
    case eq =>
      unfold am_cmp at hex
      dsimp only at hex
      split at hex
      · rename_i hq
        exact ao_icmp_eq X hd ht (hk _ hex).1 (hk _ hex).2.1 (fun _ => hk _ hex) (fun q => absurd hq q)
      · rename_i hq
        exact ao_icmp_eq X hd ht (hk _ hex).1 (hk _ hex).2.1 (fun q => absurd q hq) (fun _ => hk _ hex)
    case ne =>
      unfold am_cmp at hex
      dsimp only at hex
      split at hex
      · rename_i hq
        exact ao_icmp_ne X hd ht (hk _ hex).1 (hk _ hex).2.1 (fun q => absurd hq q) (fun _ => hk _ hex)
      · rename_i hq
        exact ao_icmp_ne X hd ht (hk _ hex).1 (hk _ hex).2.1 (fun _ => hk _ hex) (fun q => absurd q hq)
    case lt =>
      unfold am_cmp at hex
      dsimp only at hex
      split at hex
      · rename_i hq
        exact ao_icmp_lt X hd ht (hk _ hex).1 (hk _ hex).2.1 (fun _ => hk _ hex) (fun q => absurd hq q)
      · rename_i hq
        exact ao_icmp_lt X hd ht (hk _ hex).1 (hk _ hex).2.1 (fun q => absurd q hq) (fun _ => hk _ hex)
    case ge =>
      unfold am_cmp at hex
      dsimp only at hex
      split at hex
      · rename_i hq
        exact ao_icmp_ge X hd ht (hk _ hex).1 (hk _ hex).2.1 (fun q => absurd hq q) (fun _ => hk _ hex)
      · rename_i hq
        exact ao_icmp_ge X hd ht (hk _ hex).1 (hk _ hex).2.1 (fun _ => hk _ hex) (fun q => absurd q hq)
    case gt =>
      unfold am_cmp at hex
      dsimp only at hex
      split at hex
      · rename_i hq
        exact ao_icmp_gt X hd ht (hk _ hex).1 (hk _ hex).2.1 (fun _ => hk _ hex) (fun q => absurd hq q)
      · rename_i hq
        exact ao_icmp_gt X hd ht (hk _ hex).1 (hk _ hex).2.1 (fun q => absurd q hq) (fun _ => hk _ hex)
    case le =>
      unfold am_cmp at hex
      dsimp only at hex
      split at hex
      · rename_i hq
        exact ao_icmp_le X hd ht (hk _ hex).1 (hk _ hex).2.1 (fun q => absurd hq q) (fun _ => hk _ hex)
      · rename_i hq
        exact ao_icmp_le X hd ht (hk _ hex).1 (hk _ hex).2.1 (fun _ => hk _ hex) (fun q => absurd q hq)
  · cases hex
theorem ax_ifnull {z : Int} (X : am_Cx G p R s0 m args meth c cc nL o init sF n0 l0) (hd : decode cc pc = .ok (.ifnull z, len)) (hok : am_okx o init fr lo rt (.ifnull z) len x pc = true) (hk : ∀ t', k t' = some ov → am_Go G p l e R s0 m args below meth c Q nL sF n0 l0 t') (hex : am_x_ifnull x pc ls stk s k = some ov) : am_Go G p l e R s0 m args below meth c Q nL sF n0 l0 (pc, ls, stk, s) := by
  rw [show am_okx o init fr lo rt (.ifnull z) len x pc = (Nat.beq len 3 && decide ((pc : Int) + z = (x : Int))) from rfl, Bool.and_eq_true, decide_eq_true_eq] at hok
  obtain ⟨h1, ht⟩ := hok
  obtain rfl := am_beq h1
  unfold am_x_ifnull at hex
  split at hex
  · rename_i a r
    cases a with
    | none => exact ao_ifnullN X hd ht (hk _ hex)
    | some a => exact ao_ifnullS X hd ht (hk _ hex)
  · cases hex
theorem ax_ifnonnull {z : Int} (X : am_Cx G p R s0 m args meth c cc nL o init sF n0 l0) (hd : decode cc pc = .ok (.ifnonnull z, len)) (hok : am_okx o init fr lo rt (.ifnonnull z) len x pc = true) (hk : ∀ t', k t' = some ov → am_Go G p l e R s0 m args below meth c Q nL sF n0 l0 t') (hex : am_x_ifnonnull x pc ls stk s k = some ov) : am_Go G p l e R s0 m args below meth c Q nL sF n0 l0 (pc, ls, stk, s) := by
  rw [show am_okx o init fr lo rt (.ifnonnull z) len x pc = (Nat.beq len 3 && decide ((pc : Int) + z = (x : Int))) from rfl, Bool.and_eq_true, decide_eq_true_eq] at hok
  obtain ⟨h1, ht⟩ := hok
  obtain rfl := am_beq h1
  unfold am_x_ifnonnull at hex
  split at hex
  · rename_i a r
    cases a with
    | none => exact ao_ifnonnullN X hd ht (hk _ hex)
    | some a => exact ao_ifnonnullS X hd ht (hk _ hex)
  · cases hex
theorem ax_goto {z : Int} (X : am_Cx G p R s0 m args meth c cc nL o init sF n0 l0) (hd : decode cc pc = .ok (.goto z, len)) (hok : am_okx o init fr lo rt (.goto z) len x pc = true) (hk : ∀ t', k t' = some ov → am_Go G p l e R s0 m args below meth c Q nL sF n0 l0 t') (hex : am_x_goto x ls stk s k = some ov) : am_Go G p l e R s0 m args below meth c Q nL sF n0 l0 (pc, ls, stk, s) := by
  rw [show am_okx o init fr lo rt (.goto z) len x pc = (Nat.beq len 3 && decide ((pc : Int) + z = (x : Int))) from rfl, Bool.and_eq_true, decide_eq_true_eq] at hok
  obtain ⟨h1, ht⟩ := hok
  obtain rfl := am_beq h1
  exact ao_goto X hd ht (hk _ hex)
theorem am_anyQ {α : Type} {l : List α} {f : α → Bool} (h : l.any f = true) : ∃ a ∈ l, f a = true := List.any_eq_true.mp h
theorem ax_ldc {z : Nat} (X : am_Cx G p R s0 m args meth c cc nL o init sF n0 l0) (hd : decode cc pc = .ok (.ldc z, len)) (hok : am_okx o init fr lo rt (.ldc z) len x pc = true) (hk : ∀ t', k t' = some ov → am_Go G p l e R s0 m args below meth c Q nL sF n0 l0 t') (hex : am_x_ldc x pc ls stk s k = some ov) : am_Go G p l e R s0 m args below meth c Q nL sF n0 l0 (pc, ls, stk, s) := by
  rw [show am_okx o init fr lo rt (.ldc z) len x pc = (Nat.beq len 2 && (bif Nat.blt x 4294967296 then am_kt.any (fun e => Nat.beq e.1 o && Nat.beq e.2.1 z && Nat.beq e.2.2.1 x) else Nat.beq x 4294967297 && Nat.beq o am_txo && Nat.beq z am_txi)) from rfl, Bool.and_eq_true] at hok
  obtain ⟨h1, h2⟩ := hok
  obtain rfl := am_beq h1
  unfold am_x_ldc at hex
  cases hb : Nat.blt x 4294967296 with
  | true =>
    rw [hb] at hex h2
    obtain ⟨q, hq, hh⟩ := am_anyQ h2
    simp only [Bool.and_eq_true] at hh
    have hw := am_hs_in (List.all_eq_true.mp am_kt_ok q hq)
    rw [am_beq hh.1.1, am_beq hh.1.2, am_beq hh.2] at hw
    exact ao_ldc X hd hw (hk _ hex)
  | false =>
    rw [hb] at hex h2
    simp only [cond_false, Bool.and_eq_true] at h2
    obtain rfl := am_beq h2.1.1
    obtain rfl := am_beq h2.2
    exact ao_ldcS X hd (am_beq h2.1.2) (hk _ hex)
theorem ax_ldc_w {z : Nat} (X : am_Cx G p R s0 m args meth c cc nL o init sF n0 l0) (hd : decode cc pc = .ok (.ldc_w z, len)) (hok : am_okx o init fr lo rt (.ldc_w z) len x pc = true) (hk : ∀ t', k t' = some ov → am_Go G p l e R s0 m args below meth c Q nL sF n0 l0 t') (hex : am_x_ldc_w x pc ls stk s k = some ov) : am_Go G p l e R s0 m args below meth c Q nL sF n0 l0 (pc, ls, stk, s) := by
  rw [show am_okx o init fr lo rt (.ldc_w z) len x pc = (Nat.beq len 3 && am_kt.any (fun e => Nat.beq e.1 o && Nat.beq e.2.1 z && Nat.beq e.2.2.1 x)) from rfl, Bool.and_eq_true] at hok
  obtain ⟨h1, h2⟩ := hok
  obtain rfl := am_beq h1
  obtain ⟨q, hq, hh⟩ := am_anyQ h2
  simp only [Bool.and_eq_true] at hh
  have hw := am_hs_in (List.all_eq_true.mp am_kt_ok q hq)
  rw [am_beq hh.1.1, am_beq hh.1.2, am_beq hh.2] at hw
  exact ao_ldcw X hd hw (hk _ hex)
theorem ax_ldc2_w {z : Nat} (X : am_Cx G p R s0 m args meth c cc nL o init sF n0 l0) (hd : decode cc pc = .ok (.ldc2_w z, len)) (hok : am_okx o init fr lo rt (.ldc2_w z) len x pc = true) (hk : ∀ t', k t' = some ov → am_Go G p l e R s0 m args below meth c Q nL sF n0 l0 t') (hex : am_x_ldc2_w x pc ls stk s k = some ov) : am_Go G p l e R s0 m args below meth c Q nL sF n0 l0 (pc, ls, stk, s) := by
  rw [show am_okx o init fr lo rt (.ldc2_w z) len x pc = (Nat.beq len 3 && am_lt.any (fun e => Nat.beq e.1 o && Nat.beq e.2.1 z && Nat.beq e.2.2.1 x)) from rfl, Bool.and_eq_true] at hok
  obtain ⟨h1, h2⟩ := hok
  obtain rfl := am_beq h1
  obtain ⟨q, hq, hh⟩ := am_anyQ h2
  simp only [Bool.and_eq_true] at hh
  have hw := am_hs_in (List.all_eq_true.mp am_lt_ok q hq)
  rw [am_beq hh.1.1, am_beq hh.1.2, am_beq hh.2] at hw
  exact ao_ldc2 X hd hw (hk _ hex)
theorem ax_getstatic {z : Nat} (X : am_Cx G p R s0 m args meth c cc nL o init sF n0 l0) (hd : decode cc pc = .ok (.getstatic z, len)) (hok : am_okx o init fr lo rt (.getstatic z) len x pc = true) (hk : ∀ t', k t' = some ov → am_Go G p l e R s0 m args below meth c Q nL sF n0 l0 t') (hex : am_x_getstatic x pc ls stk s k = some ov) : am_Go G p l e R s0 m args below meth c Q nL sF n0 l0 (pc, ls, stk, s) := by
  rw [show am_okx o init fr lo rt (.getstatic z) len x pc = (Nat.beq len 3 && decide (am_on o = "java/lang/String") && ((Nat.beq x 1 && Nat.beq z 38) || (Nat.beq x 103 && Nat.beq z 1053))) from rfl] at hok
  simp only [Bool.and_eq_true, Bool.or_eq_true, decide_eq_true_eq] at hok
  obtain ⟨⟨h1, ho⟩, h2⟩ := hok
  obtain rfl := am_beq h1
  rcases h2 with ⟨h2, h3⟩ | ⟨h2, h3⟩
  · obtain rfl := am_beq h2
    exact ao_gets1 X hd ho (am_beq h3) (hk _ hex)
  · obtain rfl := am_beq h2
    exact ao_gets3 X hd ho (am_beq h3) (hk _ hex)
theorem am_fok_to {o z x : Nat} (h : am_fok o z x = true) : ∃ q : vw_C, am_cls[x / 1000]? = some q ∧ x / 10 % 100 < q.2.2 ∧ Jvm.Cond.fieldLink (am_on o) z (q.2.1 (x / 10 % 100)).1 (q.2.1 (x / 10 % 100)).2.1 (q.2.1 (x / 10 % 100)).2.2.1 ∈ am_Ts := by
  obtain ⟨q, hq, hh⟩ := am_anyQ h
  simp only [Bool.and_eq_true] at hh
  have hw := List.all_eq_true.mp am_ft_ok q hq
  unfold am_fc at hw
  rw [am_beq hh.1.2] at hw
  split at hw
  next y hy =>
    rw [Bool.and_eq_true, am_beq hh.2, am_beq hh.1.1.1, am_beq hh.1.1.2] at hw
    exact ⟨y, hy, am_ble hw.1, am_hs_in hw.2⟩
  next => cases hw
theorem am_cdT {α : Type} {b : Bool} {t u : Option α} {v : α} (h : (bif b then t else u) = some v) : (b = true ∧ t = some v) ∨ (b = false ∧ u = some v) := by
  cases b
  · exact Or.inr ⟨rfl, h⟩
  · exact Or.inl ⟨rfl, h⟩
theorem am_gI_to {s : am_S} {a ci k : Nat} {v : Int32} (h : am_gI s a ci k = some v) : ∃ fs, s.1 a = some (.inr (ci, fs)) ∧ fs[k]? = some (am_I v) := by
  unfold am_gI at h
  split at h
  next c fs e =>
    rcases am_cdT h with ⟨hb, h⟩ | ⟨_, h⟩
    · rw [am_beq hb] at e
      split at h
      next x e2 => exact ⟨fs, e, by rw [e2, Option.some.inj h]⟩
      next => cases h
    · cases h
  next => cases h
theorem am_gL_to {s : am_S} {a ci k : Nat} {v : Int64} (h : am_gL s a ci k = some v) : ∃ fs, s.1 a = some (.inr (ci, fs)) ∧ fs[k]? = some (am_L v) := by
  unfold am_gL at h
  split at h
  next c fs e =>
    rcases am_cdT h with ⟨hb, h⟩ | ⟨_, h⟩
    · rw [am_beq hb] at e
      split at h
      next x e2 => exact ⟨fs, e, by rw [e2, Option.some.inj h]⟩
      next => cases h
    · cases h
  next => cases h
theorem am_gR_to {s : am_S} {a ci k : Nat} {v : Option Nat} (h : am_gR s a ci k = some v) : ∃ fs, s.1 a = some (.inr (ci, fs)) ∧ fs[k]? = some (am_R v) := by
  unfold am_gR at h
  split at h
  next c fs e =>
    rcases am_cdT h with ⟨hb, h⟩ | ⟨_, h⟩
    · rw [am_beq hb] at e
      split at h
      next x e2 => exact ⟨fs, e, by rw [e2, Option.some.inj h]⟩
      next => cases h
    · cases h
  next => cases h
theorem am_pf_to {s s' : am_S} {a ci k : Nat} {v : am_V} (h : am_pf s a ci k v = some s') : ∃ fs, s.1 a = some (.inr (ci, fs)) ∧ k < fs.length ∧ s' = (am_w s.1 a (.inr (ci, fs.set k v)), s.2) := by
  unfold am_pf at h
  split at h
  next c fs e =>
    rcases am_cdT h with ⟨hb, h⟩ | ⟨_, h⟩
    · rw [Bool.and_eq_true] at hb
      rw [am_beq hb.1] at e h
      exact ⟨fs, e, am_ble hb.2, (Option.some.inj h).symm⟩
    · cases h
  next => cases h
theorem ax_getfield {z : Nat} (X : am_Cx G p R s0 m args meth c cc nL o init sF n0 l0) (hd : decode cc pc = .ok (.getfield z, len)) (hok : am_okx o init fr lo rt (.getfield z) len x pc = true) (hk : ∀ t', k t' = some ov → am_Go G p l e R s0 m args below meth c Q nL sF n0 l0 t') (hex : am_x_getfield x pc ls stk s k = some ov) : am_Go G p l e R s0 m args below meth c Q nL sF n0 l0 (pc, ls, stk, s) := by
  rw [show am_okx o init fr lo rt (.getfield z) len x pc = (Nat.beq len 3 && (bif Nat.beq x 5 then decide (am_on o = "java/lang/String") && Nat.beq z 9 else bif Nat.beq x 6 then decide (am_on o = "java/lang/String") && Nat.beq z 15 else am_fok o z x && Nat.ble (x % 10) 2)) from rfl, Bool.and_eq_true] at hok
  obtain ⟨h1, h2⟩ := hok
  obtain rfl := am_beq h1
  unfold am_x_getfield at hex
  split at hex
  · rename_i ob r
    obtain ⟨a, e1, hx1⟩ := Option.bind_eq_some_iff.mp hex
    clear hex
    subst e1
    have hex := hx1
    clear hx1
    have hf : am_fok o z x = true ∧ x % 10 ≤ 2 := by
      cases hb5 : Nat.beq x 5 with
      | true =>
        obtain rfl := am_beq hb5
        cases hex
      | false =>
        cases hb6 : Nat.beq x 6 with
        | true =>
          obtain rfl := am_beq hb6
          cases hex
        | false =>
          rw [hb5, hb6] at h2
          simp only [cond_false, Bool.and_eq_true] at h2
          exact ⟨h2.1, am_ble h2.2⟩
    obtain ⟨q, hc, hlt, hw⟩ := am_fok_to hf.1
    split at hex
    · obtain ⟨v, e2, hex⟩ := Option.bind_eq_some_iff.mp hex
      obtain ⟨fs, g1, g2⟩ := am_gI_to e2
      exact ao_get X hd hc hlt hw g1 g2 (hk _ hex)
    · obtain ⟨v, e2, hex⟩ := Option.bind_eq_some_iff.mp hex
      obtain ⟨fs, g1, g2⟩ := am_gL_to e2
      exact ao_get X hd hc hlt hw g1 g2 (hk _ hex)
    · obtain ⟨v, e2, hex⟩ := Option.bind_eq_some_iff.mp hex
      obtain ⟨fs, g1, g2⟩ := am_gR_to e2
      exact ao_get X hd hc hlt hw g1 g2 (hk _ hex)
    · cases hex
  · rename_i j r
    rcases am_cdT hex with ⟨hj, hex⟩ | ⟨_, hex⟩
    · obtain rfl := am_beq hj
      split at hex
      · rename_i h5
        cases hb5 : Nat.beq x 5 with
        | true =>
          rw [hb5] at h2
          simp only [cond_true, Bool.and_eq_true, decide_eq_true_eq] at h2
          exact ao_getV X hd h2.1 (am_beq h2.2) (hk _ hex)
        | false =>
          rw [hb5] at h2
          cases hb6 : Nat.beq x 6 with
          | true =>
            obtain rfl := am_beq hb6
            exact absurd h5 (by decide)
          | false =>
            rw [hb6] at h2
            simp only [cond_false, Bool.and_eq_true] at h2
            have := am_ble h2.2
            omega
      · rename_i h6
        cases hb5 : Nat.beq x 5 with
        | true =>
          obtain rfl := am_beq hb5
          exact absurd h6 (by decide)
        | false =>
          rw [hb5] at h2
          cases hb6 : Nat.beq x 6 with
          | true =>
            rw [hb6] at h2
            simp only [cond_false, cond_true, Bool.and_eq_true, decide_eq_true_eq] at h2
            exact ao_getC X hd h2.1 (am_beq h2.2) (hk _ hex)
          | false =>
            rw [hb6] at h2
            simp only [cond_false, Bool.and_eq_true] at h2
            have := am_ble h2.2
            omega
      · cases hex
    · cases hex
  · cases hex
theorem am_kd_ref {t : FieldType} (h : am_kd t = 2) (v : Option Nat) (N : Nat) : narrow t (va_rf (am_sh N v)) = va_rf (am_sh N v) ∧ fits t (va_rf (am_sh N v)) = true := by
  cases t <;> first | (exact absurd h (by decide)) | (exact absurd (show (2 : Nat) = _ from h) (by decide)) | (cases v <;> exact ⟨rfl, rfl⟩)
theorem am_kd_int {t : FieldType} (h : am_kd t = 0) (v : Int32) : narrow t (.int v) = .int v ∧ fits t (.int v) = true := by
  cases t <;> first | (exact absurd h (by decide)) | (exact absurd (show (2 : Nat) = _ from h) (by decide)) | exact ⟨rfl, rfl⟩
theorem am_kd_long {t : FieldType} (h : am_kd t = 1) (v : Int64) : narrow t (.long v) = .long v ∧ fits t (.long v) = true := by
  cases t <;> first | (exact absurd h (by decide)) | (exact absurd (show (2 : Nat) = _ from h) (by decide)) | exact ⟨rfl, rfl⟩
theorem am_kd_bool {t : FieldType} (h : am_kd t = 3) {v : Int32} (hv : v &&& 1 = v) : narrow t (.int v) = .int v ∧ fits t (.int v) = true := by
  have e0 := am_and1 v
  rw [hv] at e0
  cases t <;> first | (exact absurd h (by decide)) | (exact absurd (show (2 : Nat) = _ from h) (by decide)) | (rcases e0 with rfl | rfl <;> exact ⟨rfl, rfl⟩)
theorem ax_putfield {z : Nat} (X : am_Cx G p R s0 m args meth c cc nL o init sF n0 l0) (hd : decode cc pc = .ok (.putfield z, len)) (hok : am_okx o init fr lo rt (.putfield z) len x pc = true) (hk : ∀ t', k t' = some ov → am_Go G p l e R s0 m args below meth c Q nL sF n0 l0 t') (hex : am_x_putfield x pc ls stk s k = some ov) : am_Go G p l e R s0 m args below meth c Q nL sF n0 l0 (pc, ls, stk, s) := by
  rw [show am_okx o init fr lo rt (.putfield z) len x pc = (Nat.beq len 3 && am_fok o z x && am_pok o init x) from rfl] at hok
  simp only [Bool.and_eq_true] at hok
  obtain ⟨⟨h1, h2⟩, h3⟩ := hok
  obtain rfl := am_beq h1
  obtain ⟨q, hc, hlt, hw⟩ := am_fok_to h2
  unfold am_pok at h3
  rw [hc] at h3
  simp only [Bool.and_eq_true, Bool.or_eq_true, Bool.not_eq_true', decide_eq_true_eq] at h3
  obtain ⟨hkd, hfin⟩ := h3
  have hkd := am_beq hkd
  unfold am_x_putfield at hex
  split at hex
  · obtain ⟨a, e1, hx1⟩ := Option.bind_eq_some_iff.mp hex
    clear hex
    subst e1
    have hex := hx1
    clear hx1
    split at hex
    · rename_i hx0
      obtain ⟨s2, e2, hex⟩ := Option.bind_eq_some_iff.mp hex
      obtain ⟨fs, g1, g2, rfl⟩ := am_pf_to e2
      exact ao_put X hd hc hlt hw g1 g2 hfin (am_kd_int (by rw [hkd]; exact hx0) _).1 (am_kd_int (by rw [hkd]; exact hx0) _).2 (hk _ hex)
    · rename_i hx0
      split at hex
      · rename_i hv
        obtain ⟨s2, e2, hex⟩ := Option.bind_eq_some_iff.mp hex
        obtain ⟨fs, g1, g2, rfl⟩ := am_pf_to e2
        exact ao_put X hd hc hlt hw g1 g2 hfin (am_kd_bool (by rw [hkd]; exact hx0) hv).1 (am_kd_bool (by rw [hkd]; exact hx0) hv).2 (hk _ hex)
      · cases hex
    · cases hex
  · obtain ⟨a, e1, hx1⟩ := Option.bind_eq_some_iff.mp hex
    clear hex
    subst e1
    have hex := hx1
    clear hx1
    split at hex
    · rename_i hx0
      obtain ⟨s2, e2, hex⟩ := Option.bind_eq_some_iff.mp hex
      obtain ⟨fs, g1, g2, rfl⟩ := am_pf_to e2
      exact ao_put X hd hc hlt hw g1 g2 hfin (am_kd_long (by rw [hkd]; exact hx0) _).1 (am_kd_long (by rw [hkd]; exact hx0) _).2 (hk _ hex)
    · cases hex
  · obtain ⟨a, e1, hx1⟩ := Option.bind_eq_some_iff.mp hex
    clear hex
    subst e1
    have hex := hx1
    clear hx1
    split at hex
    · rename_i hx0
      obtain ⟨s2, e2, hex⟩ := Option.bind_eq_some_iff.mp hex
      obtain ⟨fs, g1, g2, rfl⟩ := am_pf_to e2
      exact ao_put X hd hc hlt hw g1 g2 hfin (am_kd_ref (by rw [hkd]; exact hx0) _ (gN G)).1 (am_kd_ref (by rw [hkd]; exact hx0) _ (gN G)).2 (hk _ hex)
    · cases hex
  · cases hex
theorem ax_new {z : Nat} (X : am_Cx G p R s0 m args meth c cc nL o init sF n0 l0) (hd : decode cc pc = .ok (.new z, len)) (hok : am_okx o init fr lo rt (.new z) len x pc = true) (hk : ∀ t', k t' = some ov → am_Go G p l e R s0 m args below meth c Q nL sF n0 l0 t') (hex : am_x_new x pc ls stk s k = some ov) : am_Go G p l e R s0 m args below meth c Q nL sF n0 l0 (pc, ls, stk, s) := by
  rw [show am_okx o init fr lo rt (.new z) len x pc = (Nat.beq len 3 && am_nt.any (fun e => Nat.beq e.1 o && Nat.beq e.2.1 z && Nat.beq e.2.2.1 x)) from rfl, Bool.and_eq_true] at hok
  obtain ⟨h1, h2⟩ := hok
  obtain rfl := am_beq h1
  obtain ⟨q, hq, hh⟩ := am_anyQ h2
  simp only [Bool.and_eq_true] at hh
  have hw := List.all_eq_true.mp am_nt_ok q hq
  rw [am_beq hh.2, am_beq hh.1.1, am_beq hh.1.2] at hw
  split at hw
  next y hy => exact ao_new X hd hy (am_hs_in hw) (hk _ hex)
  next => cases hw
theorem am_nwA_to {s : am_S} {t : Nat} {n : Int32} {q : Nat × am_S} (h : am_nwA s t n = some q) : ¬ n < 0 ∧ n.toNatClampNeg ≤ 60000 ∧ q = (s.2.1, am_al s (.inl (t, n.toNatClampNeg, am_zero t)) n.toNatClampNeg) := by
  unfold am_nwA at h
  split at h
  · cases h
  · split at h
    · exact ⟨by assumption, by assumption, (Option.some.inj h).symm⟩
    · cases h
theorem ax_newarray {z : ArrayType} (X : am_Cx G p R s0 m args meth c cc nL o init sF n0 l0) (hd : decode cc pc = .ok (.newarray z, len)) (hok : am_okx o init fr lo rt (.newarray z) len x pc = true) (hk : ∀ t', k t' = some ov → am_Go G p l e R s0 m args below meth c Q nL sF n0 l0 t') (hex : am_x_newarray x pc ls stk s k = some ov) : am_Go G p l e R s0 m args below meth c Q nL sF n0 l0 (pc, ls, stk, s) := by
  rw [show am_okx o init fr lo rt (.newarray z) len x pc = (Nat.beq len 2 && Nat.beq (am_aty z) x && Nat.blt x 4) from rfl] at hok
  simp only [Bool.and_eq_true] at hok
  obtain ⟨⟨h1, h2⟩, h3⟩ := hok
  obtain rfl := am_beq h1
  unfold am_x_newarray at hex
  split at hex
  · obtain ⟨q, e1, hex⟩ := Option.bind_eq_some_iff.mp hex
    obtain ⟨g1, g2, rfl⟩ := am_nwA_to e1
    exact ao_newa X hd (am_beq h2) (am_ble h3) g1 g2 (hk _ hex)
  · cases hex
theorem ax_anewarray {z : Nat} (X : am_Cx G p R s0 m args meth c cc nL o init sF n0 l0) (hd : decode cc pc = .ok (.anewarray z, len)) (hok : am_okx o init fr lo rt (.anewarray z) len x pc = true) (hk : ∀ t', k t' = some ov → am_Go G p l e R s0 m args below meth c Q nL sF n0 l0 t') (hex : am_x_anewarray x pc ls stk s k = some ov) : am_Go G p l e R s0 m args below meth c Q nL sF n0 l0 (pc, ls, stk, s) := by
  rw [show am_okx o init fr lo rt (.anewarray z) len x pc = (Nat.beq len 3 && am_at2.any (fun e => Nat.beq e.1 o && Nat.beq e.2.1 z && Nat.beq e.2.2.1 x)) from rfl, Bool.and_eq_true] at hok
  obtain ⟨h1, h2⟩ := hok
  obtain rfl := am_beq h1
  obtain ⟨q, hq, hh⟩ := am_anyQ h2
  simp only [Bool.and_eq_true] at hh
  have hw := List.all_eq_true.mp am_at2_ok q hq
  rw [am_beq hh.2, am_beq hh.1.1, am_beq hh.1.2] at hw
  split at hw
  next y hy =>
    simp only [Bool.and_eq_true] at hw
    have hw2 := am_hs_in hw.1.1
    unfold am_x_anewarray at hex
    split at hex
    · obtain ⟨q, e1, hex⟩ := Option.bind_eq_some_iff.mp hex
      obtain ⟨g1, g2, rfl⟩ := am_nwA_to e1
      exact ao_newq X hd (am_ble hw.1.2) (am_ble hw.2) (by unfold am_cn; rw [hy]; exact hw2) g1 g2 (hk _ hex)
    · cases hex
  next => cases hw
end AmEx
