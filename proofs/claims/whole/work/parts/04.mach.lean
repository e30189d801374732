/-! THE SMALL MACHINE: values, cells, a heap of own cells at small addresses; one step, a stretch to the next cut, a method. Nothing here speaks of the big machine. -/
abbrev am_I (x : Int32) : am_V := Sum.inl x
abbrev am_L (x : Int64) : am_V := Sum.inr (Sum.inl x)
abbrev am_R (r : Option Nat) : am_V := Sum.inr (Sum.inr (Sum.inl r))
abbrev am_O (k : Nat) : am_V := Sum.inr (Sum.inr (Sum.inr k))
/-- what an array holds: ints (and bytes, booleans), longs, references -/
abbrev am_A : Type := (Nat → Int32) ⊕ ((Nat → Int64) ⊕ (Nat → Option Nat))
/-- a cell: an array (its type, how long, what it holds), or an object (its class, its fields) -/
abbrev am_C : Type := (Nat × Nat × am_A) ⊕ (Nat × List am_V)
abbrev am_H : Type := Nat → Option am_C
/-- the heap, the next address, the slots made so far -/
abbrev am_S : Type := am_H × Nat × Nat
/-- where a method stands: pc, locals, stack, heap -/
abbrev am_T : Type := Nat × List (Option am_V) × List am_V × am_S
abbrev am_Y : Type := Option am_V × am_S
abbrev am_X : Type := Nat × (Nat → Int32)
def am_at (cd : am_P) (pc : Nat) : Option (Nat × Instr × Nat × Nat) := (cd.getD (pc / 64) []).find? (fun e => Nat.beq e.1 pc)
-- locals
def am_lI (ls : List (Option am_V)) (i : Nat) : Option Int32 := match ls[i]? with
  | some (some (.inl x)) => some x
  | _ => none
def am_lL (ls : List (Option am_V)) (i : Nat) : Option Int64 := match ls[i]? with
  | some (some (.inr (.inl x))) => some x
  | _ => none
/-- a reference (own or old) out of a local -/
def am_lA (ls : List (Option am_V)) (i : Nat) : Option (Option Nat ⊕ Nat) := match ls[i]? with
  | some (some (.inr (.inr x))) => some x
  | _ => none
def am_kl : Option (Option am_V) → Bool
  | some (some (.inr (.inl _))) => true
  | _ => false
/-- the long whose second half lies at i is gone -/
def am_k0 (ls : List (Option am_V)) (i : Nat) : List (Option am_V) := match i with
  | 0 => ls
  | j + 1 => bif am_kl ls[j]? then ls.set j none else ls
def am_s1 (ls : List (Option am_V)) (i : Nat) (v : am_V) : List (Option am_V) := (am_k0 ls i).set i (some v)
def am_s2 (ls : List (Option am_V)) (i : Nat) (v : am_V) : List (Option am_V) := ((am_k0 ls i).set i (some v)).set (i + 1) none
def am_clr : List Nat → List (Option am_V) → List (Option am_V)
  | [], ls => ls
  | i :: d, ls => am_clr d (ls.set i none)
-- cells
def am_w (h : am_H) (a : Nat) (c : am_C) : am_H := fun b => bif Nat.beq b a then some c else h b
def am_up {α : Type} (f : Nat → α) (k : Nat) (x : α) : Nat → α := fun j => bif Nat.beq j k then x else f j
def am_al (s : am_S) (c : am_C) (n : Nat) : am_S := (am_w s.1 s.2.1 c, s.2.1 + 1, s.2.2 + n)
def am_gI (s : am_S) (a ci k : Nat) : Option Int32 := match s.1 a with
  | some (.inr (c, fs)) => bif Nat.beq c ci then (match fs[k]? with
    | some (.inl x) => some x
    | _ => none) else none
  | _ => none
def am_gL (s : am_S) (a ci k : Nat) : Option Int64 := match s.1 a with
  | some (.inr (c, fs)) => bif Nat.beq c ci then (match fs[k]? with
    | some (.inr (.inl x)) => some x
    | _ => none) else none
  | _ => none
def am_gR (s : am_S) (a ci k : Nat) : Option (Option Nat) := match s.1 a with
  | some (.inr (c, fs)) => bif Nat.beq c ci then (match fs[k]? with
    | some (.inr (.inr (.inl x))) => some x
    | _ => none) else none
  | _ => none
def am_pf (s : am_S) (a ci k : Nat) (v : am_V) : Option am_S := match s.1 a with
  | some (.inr (c, fs)) => bif Nat.beq c ci && Nat.blt k fs.length then some (am_w s.1 a (.inr (c, fs.set k v)), s.2) else none
  | _ => none
def am_is (s : am_S) (a ci : Nat) : Bool := match s.1 a with
  | some (.inr (c, _)) => Nat.beq c ci
  | _ => false
def am_len (s : am_S) (a : Nat) : Option Nat := match s.1 a with
  | some (.inl (_, n, _)) => some n
  | _ => none
/-- an element of an int array (t 0), or of a row of booleans or bytes (t 1: either) -/
def am_eI (s : am_S) (a t : Nat) (i : Int32) : Option Int32 := match s.1 a with
  | some (.inl (u, n, .inl f)) => bif (bif Nat.beq t 0 then Nat.beq u 0 else (Nat.beq u 1 || Nat.beq u 2)) then (if i < 0 ∨ n ≤ i.toNatClampNeg then none else some (f i.toNatClampNeg)) else none
  | _ => none
def am_eL (s : am_S) (a : Nat) (i : Int32) : Option Int64 := match s.1 a with
  | some (.inl (u, n, .inr (.inl f))) => bif Nat.beq u 3 then (if i < 0 ∨ n ≤ i.toNatClampNeg then none else some (f i.toNatClampNeg)) else none
  | _ => none
def am_eR (s : am_S) (a : Nat) (i : Int32) : Option (Option Nat) := match s.1 a with
  | some (.inl (u, n, .inr (.inr f))) => bif Nat.blt 3 u then (if i < 0 ∨ n ≤ i.toNatClampNeg then none else some (f i.toNatClampNeg)) else none
  | _ => none
def am_tI (s : am_S) (a : Nat) (i x : Int32) : Option am_S := match s.1 a with
  | some (.inl (u, n, .inl f)) => bif Nat.beq u 0 then (if i < 0 ∨ n ≤ i.toNatClampNeg then none else some (am_w s.1 a (.inl (u, n, .inl (am_up f i.toNatClampNeg x))), s.2)) else none
  | _ => none
def am_tB (s : am_S) (a : Nat) (i x : Int32) : Option am_S := match s.1 a with
  | some (.inl (u, n, .inl f)) => bif (Nat.beq u 1 || Nat.beq u 2) then (if i < 0 ∨ n ≤ i.toNatClampNeg then none else some (am_w s.1 a (.inl (u, n, .inl (am_up f i.toNatClampNeg (bif Nat.beq u 1 then x &&& 1 else x.toInt8.toInt32)))), s.2)) else none
  | _ => none
def am_tL (s : am_S) (a : Nat) (i : Int32) (x : Int64) : Option am_S := match s.1 a with
  | some (.inl (u, n, .inr (.inl f))) => bif Nat.beq u 3 then (if i < 0 ∨ n ≤ i.toNatClampNeg then none else some (am_w s.1 a (.inl (u, n, .inr (.inl (am_up f i.toNatClampNeg x)))), s.2)) else none
  | _ => none
/-- the class of what a row of type t (4 and more) holds -/
def am_et (t : Nat) : Nat := am_ets.getD (t - 4) 99
def am_tR (s : am_S) (a : Nat) (i : Int32) (v : Nat) : Option am_S := match s.1 a with
  | some (.inl (u, n, .inr (.inr f))) => bif Nat.blt 3 u && am_is s v (am_et u) then (if i < 0 ∨ n ≤ i.toNatClampNeg then none else some (am_w s.1 a (.inl (u, n, .inr (.inr (am_up f i.toNatClampNeg (some v))))), s.2)) else none
  | _ => none
def am_nwA (s : am_S) (t : Nat) (n : Int32) : Option (Nat × am_S) :=
  if n < 0 then none else if n.toNatClampNeg ≤ 60000 then some (s.2.1, am_al s (.inl (t, n.toNatClampNeg, bif Nat.blt t 3 then .inl (fun _ => 0) else bif Nat.beq t 3 then .inr (.inl (fun _ => 0)) else .inr (.inr (fun _ => none)))) n.toNatClampNeg) else none
def am_cpy {α : Type} (f g : Nat → α) (sp dp n : Nat) : Nat → α := fun k => if dp ≤ k ∧ k < dp + n then f (sp + (k - dp)) else g k
/-- System.arraycopy, of ints or of booleans -/
def am_cp (s : am_S) (a0 : Nat) (sp : Int32) (a : Nat) (dp n : Int32) : Option am_S := match s.1 a0, s.1 a with
  | some (.inl (u0, n0, .inl f)), some (.inl (u1, n1, .inl g)) =>
    if u0 = u1 ∧ u0 ≤ 1 ∧ ¬ sp < 0 ∧ ¬ dp < 0 ∧ ¬ n < 0 ∧ sp.toNatClampNeg + n.toNatClampNeg ≤ n0 ∧ dp.toNatClampNeg + n.toNatClampNeg ≤ n1 ∧ (u0 = 0 ∨ ∀ i, i < n.toNatClampNeg → f (sp.toNatClampNeg + i) &&& 1 = f (sp.toNatClampNeg + i)) then
      some (am_w s.1 a (.inl (u1, n1, .inl (am_cpy f g sp.toNatClampNeg dp.toNatClampNeg n.toNatClampNeg))), s.2)
    else none
  | _, _ => none
-- the stack
def am_ct : am_V → Nat
  | .inr (.inl _) => 2
  | _ => 1
def am_cat : List am_V → Nat
  | [] => 0
  | v :: r => am_ct v + am_cat r
def am_c1 : am_V → Bool
  | .inr (.inl _) => false
  | _ => true
-- answers
def am_rI : Option am_Y → Option (Int32 × am_S)
  | some (some (.inl x), s) => some (x, s)
  | _ => none
def am_rL : Option am_Y → Option (Int64 × am_S)
  | some (some (.inr (.inl x)), s) => some (x, s)
  | _ => none
def am_rR : Option am_Y → Option (Option Nat × am_S)
  | some (some (.inr (.inr (.inl x))), s) => some (x, s)
  | _ => none
def am_rV : Option am_Y → Option am_S
  | some (none, s) => some s
  | _ => none
def am_absI (a : Int32) : Int32 := if 0 ≤ a then a else 0 - a
def am_absL (a : Int64) : Int64 := if 0 < a then a else -a
def am_maxI (a b : Int32) : Int32 := if a < b then b else a
def am_minI (a b : Int32) : Int32 := if b < a then b else a
section AmStep
variable {O : Type}
/-- the list, laid open -/
def am_frc : List (Option am_V) → (List (Option am_V) → Option O) → Option O
  | [], k => k []
  | a :: r, k => am_frc r (fun r => k (a :: r))
/-- n values off the stack, the deepest first -/
def am_spl : Nat → List am_V → List am_V → (List am_V → List am_V → Option O) → Option O
  | 0, st, as, k => k as st
  | n + 1, v :: st, as, k => am_spl n st (v :: as) k
  | _ + 1, [], _, _ => none
def am_swT (x : Int32) (pc : Nat) (d : Int) : Int → List Int → (Nat → Option O) → Option O
  | _, [], k => k ((pc : Int) + d).toNat
  | lo, o :: r, k => if x = Int32.ofInt lo then k ((pc : Int) + o).toNat else am_swT x pc d (lo + 1) r k
def am_swL (x : Int32) (pc : Nat) (d : Int) : List (Int × Int) → (Nat → Option O) → Option O
  | [], k => k ((pc : Int) + d).toNat
  | (a, o) :: r, k => if x = Int32.ofInt a then k ((pc : Int) + o).toNat else am_swL x pc d r k
/-- what comes behind a call, by the kind of its answer (0 none, 1 int, 2 long, 3 a reference) -/
def am_bk (rk : Nat) (y : Option am_Y) (pc : Nat) (ls : List (Option am_V)) (rest : List am_V) (k : am_T → Option O) : Option O := match rk with
  | 0 => (am_rV y).bind fun s => k (pc, ls, rest, s)
  | 1 => (am_rI y).bind fun p => k (pc, ls, am_I p.1 :: rest, p.2)
  | 2 => (am_rL y).bind fun p => k (pc, ls, am_L p.1 :: rest, p.2)
  | 3 => (am_rR y).bind fun p => k (pc, ls, am_R p.1 :: rest, p.2)
  | _ => none
/-- a call: x = ((callee * 16 + how many arguments) * 8 + kind of its answer) * 32 + class of the receiver (31: not asked for) -/
def am_cl (E : Nat → List am_V → am_S → Option am_Y) (x : Nat) (st : Bool) (pc : Nat) (ls : List (Option am_V)) (stk : List am_V) (s : am_S) (k : am_T → Option O) : Option O :=
  am_spl (x / 256 % 16) stk [] fun as rest => bif Nat.ble (am_cat rest) 8 then
    (bif st then am_bk (x / 32 % 8) (E (x / 4096) as s) pc ls rest k
     else match as with
      | .inr (.inr (.inl r)) :: as => r.bind fun a => bif Nat.beq (x % 32) 31 || am_is s a (x % 32) then am_bk (x / 32 % 8) (E (x / 4096) (am_R (some a) :: as) s) pc ls rest k else none
      | .inr (.inr (.inr j)) :: as => bif Nat.beq j 1 && Nat.beq (x % 32) 30 then am_bk (x / 32 % 8) (E (x / 4096) (am_O j :: as) s) pc ls rest k else none
      | _ => none)
  else none
def am_cmp (c : ClassFile.Cond) (x y : Int32) (a b : Option O) : Option O := match c with
  | .eq => if x = y then a else b
  | .ne => if x = y then b else a
  | .lt => if x < y then a else b
  | .ge => if x < y then b else a
  | .gt => if y < x then a else b
  | .le => if y < x then b else a
/-! one instruction; x: what the table says of it (a target, a field, a callee, a constant) -/
def am_x_iconst (n : Int) (pc : Nat) (ls : List (Option am_V)) (stk : List am_V) (s : am_S) (k : am_T → Option O) : Option O := k (pc + 1, ls, am_I (Int32.ofInt n) :: stk, s)
def am_x_bipush (n : Int) (pc : Nat) (ls : List (Option am_V)) (stk : List am_V) (s : am_S) (k : am_T → Option O) : Option O := k (pc + 2, ls, am_I (Int8.ofInt n).toInt32 :: stk, s)
def am_x_sipush (n : Int) (pc : Nat) (ls : List (Option am_V)) (stk : List am_V) (s : am_S) (k : am_T → Option O) : Option O := k (pc + 3, ls, am_I (Int16.ofInt n).toInt32 :: stk, s)
def am_x_lconst (n : Fin 2) (pc : Nat) (ls : List (Option am_V)) (stk : List am_V) (s : am_S) (k : am_T → Option O) : Option O := k (pc + 1, ls, am_L (Int64.ofNat n.val) :: stk, s)
def am_x_ldc (x : Nat) (pc : Nat) (ls : List (Option am_V)) (stk : List am_V) (s : am_S) (k : am_T → Option O) : Option O := bif Nat.blt x 4294967296 then k (pc + 2, ls, am_I (Int32.ofNat x) :: stk, s) else k (pc + 2, ls, am_O (x - 4294967296) :: stk, s)
def am_x_ldc_w (x : Nat) (pc : Nat) (ls : List (Option am_V)) (stk : List am_V) (s : am_S) (k : am_T → Option O) : Option O := k (pc + 3, ls, am_I (Int32.ofNat x) :: stk, s)
def am_x_ldc2_w (x : Nat) (pc : Nat) (ls : List (Option am_V)) (stk : List am_V) (s : am_S) (k : am_T → Option O) : Option O := k (pc + 3, ls, am_L (Int64.ofNat x) :: stk, s)
def am_x_aconst_null (pc : Nat) (ls : List (Option am_V)) (stk : List am_V) (s : am_S) (k : am_T → Option O) : Option O := k (pc + 1, ls, am_R none :: stk, s)
def am_x_iload_n (n : Fin 4) (pc : Nat) (ls : List (Option am_V)) (stk : List am_V) (s : am_S) (k : am_T → Option O) : Option O := (am_lI ls n.val).bind fun v => k (pc + 1, ls, am_I v :: stk, s)
def am_x_iload (n : Nat) (pc : Nat) (ls : List (Option am_V)) (stk : List am_V) (s : am_S) (k : am_T → Option O) : Option O := (am_lI ls n).bind fun v => k (pc + 2, ls, am_I v :: stk, s)
def am_x_lload_n (n : Fin 4) (pc : Nat) (ls : List (Option am_V)) (stk : List am_V) (s : am_S) (k : am_T → Option O) : Option O := (am_lL ls n.val).bind fun v => k (pc + 1, ls, am_L v :: stk, s)
def am_x_lload (n : Nat) (pc : Nat) (ls : List (Option am_V)) (stk : List am_V) (s : am_S) (k : am_T → Option O) : Option O := (am_lL ls n).bind fun v => k (pc + 2, ls, am_L v :: stk, s)
def am_x_aload_n (n : Fin 4) (pc : Nat) (ls : List (Option am_V)) (stk : List am_V) (s : am_S) (k : am_T → Option O) : Option O := (am_lA ls n.val).bind fun v => k (pc + 1, ls, Sum.inr (Sum.inr v) :: stk, s)
def am_x_aload (n : Nat) (pc : Nat) (ls : List (Option am_V)) (stk : List am_V) (s : am_S) (k : am_T → Option O) : Option O := (am_lA ls n).bind fun v => k (pc + 2, ls, Sum.inr (Sum.inr v) :: stk, s)
def am_x_istore_n (n : Fin 4) (pc : Nat) (ls : List (Option am_V)) (stk : List am_V) (s : am_S) (k : am_T → Option O) : Option O := (match stk with
    | .inl v :: r => bif Nat.blt n.val ls.length then am_frc (am_s1 ls n.val (am_I v)) (fun ls => k (pc + 1, ls, r, s)) else none
    | _ => none)
def am_x_istore (n : Nat) (pc : Nat) (ls : List (Option am_V)) (stk : List am_V) (s : am_S) (k : am_T → Option O) : Option O := (match stk with
    | .inl v :: r => bif Nat.blt n ls.length then am_frc (am_s1 ls n (am_I v)) (fun ls => k (pc + 2, ls, r, s)) else none
    | _ => none)
def am_x_lstore_n (n : Fin 4) (pc : Nat) (ls : List (Option am_V)) (stk : List am_V) (s : am_S) (k : am_T → Option O) : Option O := (match stk with
    | .inr (.inl v) :: r => bif Nat.blt (n.val + 1) ls.length then am_frc (am_s2 ls n.val (am_L v)) (fun ls => k (pc + 1, ls, r, s)) else none
    | _ => none)
def am_x_lstore (n : Nat) (pc : Nat) (ls : List (Option am_V)) (stk : List am_V) (s : am_S) (k : am_T → Option O) : Option O := (match stk with
    | .inr (.inl v) :: r => bif Nat.blt (n + 1) ls.length then am_frc (am_s2 ls n (am_L v)) (fun ls => k (pc + 2, ls, r, s)) else none
    | _ => none)
def am_x_astore_n (n : Fin 4) (pc : Nat) (ls : List (Option am_V)) (stk : List am_V) (s : am_S) (k : am_T → Option O) : Option O := (match stk with
    | .inr (.inr v) :: r => bif Nat.blt n.val ls.length then am_frc (am_s1 ls n.val (.inr (.inr v))) (fun ls => k (pc + 1, ls, r, s)) else none
    | _ => none)
def am_x_astore (n : Nat) (pc : Nat) (ls : List (Option am_V)) (stk : List am_V) (s : am_S) (k : am_T → Option O) : Option O := (match stk with
    | .inr (.inr v) :: r => bif Nat.blt n ls.length then am_frc (am_s1 ls n (.inr (.inr v))) (fun ls => k (pc + 2, ls, r, s)) else none
    | _ => none)
def am_x_iinc (n : Nat) (d : Int) (len : Nat) (pc : Nat) (ls : List (Option am_V)) (stk : List am_V) (s : am_S) (k : am_T → Option O) : Option O := bif Nat.beq len 3 && Nat.blt n ls.length then (am_lI ls n).bind fun v => am_frc (am_s1 ls n (am_I (v + Int32.ofInt d))) (fun ls => k (pc + 3, ls, stk, s)) else none
def am_x_pop (pc : Nat) (ls : List (Option am_V)) (stk : List am_V) (s : am_S) (k : am_T → Option O) : Option O := (match stk with
    | v :: r => bif am_c1 v then k (pc + 1, ls, r, s) else none
    | _ => none)
def am_x_dup (pc : Nat) (ls : List (Option am_V)) (stk : List am_V) (s : am_S) (k : am_T → Option O) : Option O := (match stk with
    | v :: r => bif am_c1 v then k (pc + 1, ls, v :: v :: r, s) else none
    | _ => none)
def am_x_dup2 (pc : Nat) (ls : List (Option am_V)) (stk : List am_V) (s : am_S) (k : am_T → Option O) : Option O := (match stk with
    | .inr (.inl v) :: r => k (pc + 1, ls, am_L v :: am_L v :: r, s)
    | v :: w :: r => bif am_c1 v && am_c1 w then k (pc + 1, ls, v :: w :: v :: w :: r, s) else none
    | _ => none)
def am_x_iadd (pc : Nat) (ls : List (Option am_V)) (stk : List am_V) (s : am_S) (k : am_T → Option O) : Option O := (match stk with
    | .inl b :: .inl a :: r => k (pc + 1, ls, am_I (a + b) :: r, s)
    | _ => none)
def am_x_isub (pc : Nat) (ls : List (Option am_V)) (stk : List am_V) (s : am_S) (k : am_T → Option O) : Option O := (match stk with
    | .inl b :: .inl a :: r => k (pc + 1, ls, am_I (a - b) :: r, s)
    | _ => none)
def am_x_imul (pc : Nat) (ls : List (Option am_V)) (stk : List am_V) (s : am_S) (k : am_T → Option O) : Option O := (match stk with
    | .inl b :: .inl a :: r => k (pc + 1, ls, am_I (a * b) :: r, s)
    | _ => none)
def am_x_idiv (pc : Nat) (ls : List (Option am_V)) (stk : List am_V) (s : am_S) (k : am_T → Option O) : Option O := (match stk with
    | .inl b :: .inl a :: r => if b = 0 then none else k (pc + 1, ls, am_I (a / b) :: r, s)
    | _ => none)
def am_x_irem (pc : Nat) (ls : List (Option am_V)) (stk : List am_V) (s : am_S) (k : am_T → Option O) : Option O := (match stk with
    | .inl b :: .inl a :: r => if b = 0 then none else k (pc + 1, ls, am_I (a - a / b * b) :: r, s)
    | _ => none)
def am_x_ineg (pc : Nat) (ls : List (Option am_V)) (stk : List am_V) (s : am_S) (k : am_T → Option O) : Option O := (match stk with
    | .inl a :: r => k (pc + 1, ls, am_I (-a) :: r, s)
    | _ => none)
def am_x_iand (pc : Nat) (ls : List (Option am_V)) (stk : List am_V) (s : am_S) (k : am_T → Option O) : Option O := (match stk with
    | .inl b :: .inl a :: r => k (pc + 1, ls, am_I (a &&& b) :: r, s)
    | _ => none)
def am_x_ior (pc : Nat) (ls : List (Option am_V)) (stk : List am_V) (s : am_S) (k : am_T → Option O) : Option O := (match stk with
    | .inl b :: .inl a :: r => k (pc + 1, ls, am_I (a ||| b) :: r, s)
    | _ => none)
def am_x_ixor (pc : Nat) (ls : List (Option am_V)) (stk : List am_V) (s : am_S) (k : am_T → Option O) : Option O := (match stk with
    | .inl b :: .inl a :: r => k (pc + 1, ls, am_I (a ^^^ b) :: r, s)
    | _ => none)
def am_x_ishl (pc : Nat) (ls : List (Option am_V)) (stk : List am_V) (s : am_S) (k : am_T → Option O) : Option O := (match stk with
    | .inl b :: .inl a :: r => k (pc + 1, ls, am_I (a <<< (b &&& 31)) :: r, s)
    | _ => none)
def am_x_ishr (pc : Nat) (ls : List (Option am_V)) (stk : List am_V) (s : am_S) (k : am_T → Option O) : Option O := (match stk with
    | .inl b :: .inl a :: r => k (pc + 1, ls, am_I (a >>> (b &&& 31)) :: r, s)
    | _ => none)
def am_x_iushr (pc : Nat) (ls : List (Option am_V)) (stk : List am_V) (s : am_S) (k : am_T → Option O) : Option O := (match stk with
    | .inl b :: .inl a :: r => k (pc + 1, ls, am_I (a.toUInt32 >>> (b.toUInt32 &&& Int32.toUInt32 31)).toInt32 :: r, s)
    | _ => none)
def am_x_ladd (pc : Nat) (ls : List (Option am_V)) (stk : List am_V) (s : am_S) (k : am_T → Option O) : Option O := (match stk with
    | .inr (.inl b) :: .inr (.inl a) :: r => k (pc + 1, ls, am_L (a + b) :: r, s)
    | _ => none)
def am_x_lsub (pc : Nat) (ls : List (Option am_V)) (stk : List am_V) (s : am_S) (k : am_T → Option O) : Option O := (match stk with
    | .inr (.inl b) :: .inr (.inl a) :: r => k (pc + 1, ls, am_L (a - b) :: r, s)
    | _ => none)
def am_x_lmul (pc : Nat) (ls : List (Option am_V)) (stk : List am_V) (s : am_S) (k : am_T → Option O) : Option O := (match stk with
    | .inr (.inl b) :: .inr (.inl a) :: r => k (pc + 1, ls, am_L (a * b) :: r, s)
    | _ => none)
def am_x_ldiv (pc : Nat) (ls : List (Option am_V)) (stk : List am_V) (s : am_S) (k : am_T → Option O) : Option O := (match stk with
    | .inr (.inl b) :: .inr (.inl a) :: r => if b = 0 then none else k (pc + 1, ls, am_L (a / b) :: r, s)
    | _ => none)
def am_x_lrem (pc : Nat) (ls : List (Option am_V)) (stk : List am_V) (s : am_S) (k : am_T → Option O) : Option O := (match stk with
    | .inr (.inl b) :: .inr (.inl a) :: r => if b = 0 then none else k (pc + 1, ls, am_L (a - a / b * b) :: r, s)
    | _ => none)
def am_x_lneg (pc : Nat) (ls : List (Option am_V)) (stk : List am_V) (s : am_S) (k : am_T → Option O) : Option O := (match stk with
    | .inr (.inl a) :: r => k (pc + 1, ls, am_L (-a) :: r, s)
    | _ => none)
def am_x_land (pc : Nat) (ls : List (Option am_V)) (stk : List am_V) (s : am_S) (k : am_T → Option O) : Option O := (match stk with
    | .inr (.inl b) :: .inr (.inl a) :: r => k (pc + 1, ls, am_L (a &&& b) :: r, s)
    | _ => none)
def am_x_lor (pc : Nat) (ls : List (Option am_V)) (stk : List am_V) (s : am_S) (k : am_T → Option O) : Option O := (match stk with
    | .inr (.inl b) :: .inr (.inl a) :: r => k (pc + 1, ls, am_L (a ||| b) :: r, s)
    | _ => none)
def am_x_lxor (pc : Nat) (ls : List (Option am_V)) (stk : List am_V) (s : am_S) (k : am_T → Option O) : Option O := (match stk with
    | .inr (.inl b) :: .inr (.inl a) :: r => k (pc + 1, ls, am_L (a ^^^ b) :: r, s)
    | _ => none)
def am_x_lshl (pc : Nat) (ls : List (Option am_V)) (stk : List am_V) (s : am_S) (k : am_T → Option O) : Option O := (match stk with
    | .inl b :: .inr (.inl a) :: r => k (pc + 1, ls, am_L (a <<< (b.toInt64 &&& 63)) :: r, s)
    | _ => none)
def am_x_lshr (pc : Nat) (ls : List (Option am_V)) (stk : List am_V) (s : am_S) (k : am_T → Option O) : Option O := (match stk with
    | .inl b :: .inr (.inl a) :: r => k (pc + 1, ls, am_L (a >>> (b.toInt64 &&& 63)) :: r, s)
    | _ => none)
def am_x_lushr (pc : Nat) (ls : List (Option am_V)) (stk : List am_V) (s : am_S) (k : am_T → Option O) : Option O := (match stk with
    | .inl b :: .inr (.inl a) :: r => k (pc + 1, ls, am_L (a.toUInt64 >>> (b.toInt64.toUInt64 &&& Int64.toUInt64 63)).toInt64 :: r, s)
    | _ => none)
def am_x_lcmp (pc : Nat) (ls : List (Option am_V)) (stk : List am_V) (s : am_S) (k : am_T → Option O) : Option O := (match stk with
    | .inr (.inl b) :: .inr (.inl a) :: r => k (pc + 1, ls, am_I (lg_cmp a b) :: r, s)
    | _ => none)
def am_x_i2l (pc : Nat) (ls : List (Option am_V)) (stk : List am_V) (s : am_S) (k : am_T → Option O) : Option O := (match stk with
    | .inl a :: r => k (pc + 1, ls, am_L a.toInt64 :: r, s)
    | _ => none)
def am_x_l2i (pc : Nat) (ls : List (Option am_V)) (stk : List am_V) (s : am_S) (k : am_T → Option O) : Option O := (match stk with
    | .inr (.inl a) :: r => k (pc + 1, ls, am_I a.toInt32 :: r, s)
    | _ => none)
def am_x_i2b (pc : Nat) (ls : List (Option am_V)) (stk : List am_V) (s : am_S) (k : am_T → Option O) : Option O := (match stk with
    | .inl a :: r => k (pc + 1, ls, am_I a.toInt8.toInt32 :: r, s)
    | _ => none)
def am_x_i2c (pc : Nat) (ls : List (Option am_V)) (stk : List am_V) (s : am_S) (k : am_T → Option O) : Option O := (match stk with
    | .inl a :: r => k (pc + 1, ls, am_I (a.toUInt32 % 65536).toInt32 :: r, s)
    | _ => none)
def am_x_ifCond (c : ClassFile.Cond) (x : Nat) (pc : Nat) (ls : List (Option am_V)) (stk : List am_V) (s : am_S) (k : am_T → Option O) : Option O := (match stk with
    | .inl a :: r => am_cmp c a 0 (k (x, ls, r, s)) (k (pc + 3, ls, r, s))
    | _ => none)
def am_x_if_icmp (c : ClassFile.Cond) (x : Nat) (pc : Nat) (ls : List (Option am_V)) (stk : List am_V) (s : am_S) (k : am_T → Option O) : Option O := (match stk with
    | .inl b :: .inl a :: r => am_cmp c a b (k (x, ls, r, s)) (k (pc + 3, ls, r, s))
    | _ => none)
def am_x_ifnull (x : Nat) (pc : Nat) (ls : List (Option am_V)) (stk : List am_V) (s : am_S) (k : am_T → Option O) : Option O := (match stk with
    | .inr (.inr (.inl a)) :: r => bif a.isNone then k (x, ls, r, s) else k (pc + 3, ls, r, s)
    | _ => none)
def am_x_ifnonnull (x : Nat) (pc : Nat) (ls : List (Option am_V)) (stk : List am_V) (s : am_S) (k : am_T → Option O) : Option O := (match stk with
    | .inr (.inr (.inl a)) :: r => bif a.isNone then k (pc + 3, ls, r, s) else k (x, ls, r, s)
    | _ => none)
def am_x_goto (x : Nat) (ls : List (Option am_V)) (stk : List am_V) (s : am_S) (k : am_T → Option O) : Option O := k (x, ls, stk, s)
def am_x_tableswitch (d : Int) (lo : Int) (os : Array Int) (pc : Nat) (ls : List (Option am_V)) (stk : List am_V) (s : am_S) (k : am_T → Option O) : Option O := (match stk with
    | .inl a :: r => am_swT a pc d lo os.toList fun t => k (t, ls, r, s)
    | _ => none)
def am_x_lookupswitch (d : Int) (ps : Array (Int × Int)) (pc : Nat) (ls : List (Option am_V)) (stk : List am_V) (s : am_S) (k : am_T → Option O) : Option O := (match stk with
    | .inl a :: r => am_swL a pc d ps.toList fun t => k (t, ls, r, s)
    | _ => none)
def am_x_getstatic (x : Nat) (pc : Nat) (ls : List (Option am_V)) (stk : List am_V) (s : am_S) (k : am_T → Option O) : Option O := bif Nat.blt x 100 then k (pc + 3, ls, am_I (Int32.ofNat x) :: stk, s) else k (pc + 3, ls, am_O (x - 100) :: stk, s)
def am_x_getfield (x : Nat) (pc : Nat) (ls : List (Option am_V)) (stk : List am_V) (s : am_S) (k : am_T → Option O) : Option O := (match stk with
    | .inr (.inr (.inl o)) :: r => o.bind fun a => (match x % 10 with
      | 0 => (am_gI s a (x / 1000) (x / 10 % 100)).bind fun v => k (pc + 3, ls, am_I v :: r, s)
      | 1 => (am_gL s a (x / 1000) (x / 10 % 100)).bind fun v => k (pc + 3, ls, am_L v :: r, s)
      | 2 => (am_gR s a (x / 1000) (x / 10 % 100)).bind fun v => k (pc + 3, ls, am_R v :: r, s)
      | _ => none)
    | .inr (.inr (.inr j)) :: r => bif Nat.beq j 1 then (match x % 10 with
      | 5 => k (pc + 3, ls, am_O 2 :: r, s)
      | 6 => k (pc + 3, ls, am_I 0 :: r, s)
      | _ => none) else none
    | _ => none)
def am_x_putfield (x : Nat) (pc : Nat) (ls : List (Option am_V)) (stk : List am_V) (s : am_S) (k : am_T → Option O) : Option O := (match stk with
    | .inl v :: .inr (.inr (.inl o)) :: r => o.bind fun a => (match x % 10 with
      | 0 => (am_pf s a (x / 1000) (x / 10 % 100) (am_I v)).bind fun s' => k (pc + 3, ls, r, s')
      | 3 => if v &&& 1 = v then (am_pf s a (x / 1000) (x / 10 % 100) (am_I v)).bind fun s' => k (pc + 3, ls, r, s') else none
      | _ => none)
    | .inr (.inl v) :: .inr (.inr (.inl o)) :: r => o.bind fun a => (match x % 10 with
      | 1 => (am_pf s a (x / 1000) (x / 10 % 100) (am_L v)).bind fun s' => k (pc + 3, ls, r, s')
      | _ => none)
    | .inr (.inr (.inl v)) :: .inr (.inr (.inl o)) :: r => o.bind fun a => (match x % 10 with
      | 2 => (am_pf s a (x / 1000) (x / 10 % 100) (am_R v)).bind fun s' => k (pc + 3, ls, r, s')
      | _ => none)
    | _ => none)
def am_x_new (x : Nat) (pc : Nat) (ls : List (Option am_V)) (stk : List am_V) (s : am_S) (k : am_T → Option O) : Option O := k (pc + 3, ls, am_R (some s.2.1) :: stk, am_al s (.inr (x, am_dfs.getD x [])) (am_dfs.getD x []).length)
def am_x_newarray (x : Nat) (pc : Nat) (ls : List (Option am_V)) (stk : List am_V) (s : am_S) (k : am_T → Option O) : Option O := (match stk with
    | .inl n :: r => (am_nwA s x n).bind fun p => k (pc + 2, ls, am_R (some p.1) :: r, p.2)
    | _ => none)
def am_x_anewarray (x : Nat) (pc : Nat) (ls : List (Option am_V)) (stk : List am_V) (s : am_S) (k : am_T → Option O) : Option O := (match stk with
    | .inl n :: r => (am_nwA s x n).bind fun p => k (pc + 3, ls, am_R (some p.1) :: r, p.2)
    | _ => none)
def am_x_arraylength (sc : am_X) (pc : Nat) (ls : List (Option am_V)) (stk : List am_V) (s : am_S) (k : am_T → Option O) : Option O := (match stk with
    | .inr (.inr (.inl o)) :: r => o.bind fun a => (am_len s a).bind fun n => k (pc + 1, ls, am_I (Int32.ofNat n) :: r, s)
    | .inr (.inr (.inr j)) :: r => bif Nat.beq j 0 then k (pc + 1, ls, am_I (Int32.ofNat sc.1) :: r, s) else bif Nat.beq j 2 then k (pc + 1, ls, am_I (Int32.ofNat am_wls.length) :: r, s) else none
    | _ => none)
def am_x_iaload (sc : am_X) (pc : Nat) (ls : List (Option am_V)) (stk : List am_V) (s : am_S) (k : am_T → Option O) : Option O := (match stk with
    | .inl i :: .inr (.inr (.inl o)) :: r => o.bind fun a => (am_eI s a 0 i).bind fun v => k (pc + 1, ls, am_I v :: r, s)
    | .inl i :: .inr (.inr (.inr j)) :: r => bif Nat.beq j 0 then (if i < 0 ∨ sc.1 ≤ i.toNatClampNeg then none else k (pc + 1, ls, am_I (sc.2 i.toNatClampNeg) :: r, s)) else none
    | _ => none)
def am_x_baload (pc : Nat) (ls : List (Option am_V)) (stk : List am_V) (s : am_S) (k : am_T → Option O) : Option O := (match stk with
    | .inl i :: .inr (.inr (.inl o)) :: r => o.bind fun a => (am_eI s a 1 i).bind fun v => k (pc + 1, ls, am_I v :: r, s)
    | .inl i :: .inr (.inr (.inr j)) :: r => bif Nat.beq j 2 then (if i < 0 ∨ am_wls.length ≤ i.toNatClampNeg then none else k (pc + 1, ls, am_I (am_wls.getD i.toNatClampNeg 0) :: r, s)) else none
    | _ => none)
def am_x_laload (pc : Nat) (ls : List (Option am_V)) (stk : List am_V) (s : am_S) (k : am_T → Option O) : Option O := (match stk with
    | .inl i :: .inr (.inr (.inl o)) :: r => o.bind fun a => (am_eL s a i).bind fun v => k (pc + 1, ls, am_L v :: r, s)
    | _ => none)
def am_x_aaload (pc : Nat) (ls : List (Option am_V)) (stk : List am_V) (s : am_S) (k : am_T → Option O) : Option O := (match stk with
    | .inl i :: .inr (.inr (.inl o)) :: r => o.bind fun a => (am_eR s a i).bind fun v => k (pc + 1, ls, am_R v :: r, s)
    | _ => none)
def am_x_iastore (pc : Nat) (ls : List (Option am_V)) (stk : List am_V) (s : am_S) (k : am_T → Option O) : Option O := (match stk with
    | .inl v :: .inl i :: .inr (.inr (.inl o)) :: r => o.bind fun a => (am_tI s a i v).bind fun s' => k (pc + 1, ls, r, s')
    | _ => none)
def am_x_bastore (pc : Nat) (ls : List (Option am_V)) (stk : List am_V) (s : am_S) (k : am_T → Option O) : Option O := (match stk with
    | .inl v :: .inl i :: .inr (.inr (.inl o)) :: r => o.bind fun a => (am_tB s a i v).bind fun s' => k (pc + 1, ls, r, s')
    | _ => none)
def am_x_lastore (pc : Nat) (ls : List (Option am_V)) (stk : List am_V) (s : am_S) (k : am_T → Option O) : Option O := (match stk with
    | .inr (.inl v) :: .inl i :: .inr (.inr (.inl o)) :: r => o.bind fun a => (am_tL s a i v).bind fun s' => k (pc + 1, ls, r, s')
    | _ => none)
def am_x_aastore (pc : Nat) (ls : List (Option am_V)) (stk : List am_V) (s : am_S) (k : am_T → Option O) : Option O := (match stk with
    | .inr (.inr (.inl v)) :: .inl i :: .inr (.inr (.inl o)) :: r => o.bind fun a => v.bind fun b => (am_tR s a i b).bind fun s' => k (pc + 1, ls, r, s')
    | _ => none)
/-- Math.abs of an int (991), of a long (992), max (993), min (994) -/
def am_x_math (x : Nat) (pc : Nat) (ls : List (Option am_V)) (stk : List am_V) (s : am_S) (k : am_T → Option O) : Option O := match x with
  | 991 => (match stk with
    | .inl a :: r => bif Nat.ble (am_cat r) 8 then k (pc + 3, ls, am_I (am_absI a) :: r, s) else none
    | _ => none)
  | 992 => (match stk with
    | .inr (.inl a) :: r => bif Nat.ble (am_cat r) 8 then k (pc + 3, ls, am_L (am_absL a) :: r, s) else none
    | _ => none)
  | 993 => (match stk with
    | .inl b :: .inl a :: r => bif Nat.ble (am_cat r) 8 then k (pc + 3, ls, am_I (am_maxI a b) :: r, s) else none
    | _ => none)
  | 994 => (match stk with
    | .inl b :: .inl a :: r => bif Nat.ble (am_cat r) 8 then k (pc + 3, ls, am_I (am_minI a b) :: r, s) else none
    | _ => none)
  | _ => none
def am_x_invokestatic (E : Nat → List am_V → am_S → Option am_Y) (x : Nat) (pc : Nat) (ls : List (Option am_V)) (stk : List am_V) (s : am_S) (k : am_T → Option O) : Option O := bif Nat.beq x 998 then (match stk with
    | .inl n :: .inl dp :: .inr (.inr (.inl d)) :: .inl sp :: .inr (.inr (.inl o)) :: r => bif Nat.ble (am_cat r) 8 then o.bind fun a0 => d.bind fun a => (am_cp s a0 sp a dp n).bind fun s' => k (pc + 3, ls, r, s') else none
    | _ => none) else bif Nat.blt 990 x && Nat.blt x 995 then am_x_math x pc ls stk s k else am_cl E x true (pc + 3) ls stk s k
def am_x_invokevirtual (E : Nat → List am_V → am_S → Option am_Y) (x : Nat) (pc : Nat) (ls : List (Option am_V)) (stk : List am_V) (s : am_S) (k : am_T → Option O) : Option O := am_cl E x false (pc + 3) ls stk s k
def am_x_invokespecial (E : Nat → List am_V → am_S → Option am_Y) (x : Nat) (pc : Nat) (ls : List (Option am_V)) (stk : List am_V) (s : am_S) (k : am_T → Option O) : Option O := bif Nat.beq x 999 then (match stk with
    | .inr (.inr (.inl o)) :: r => bif Nat.ble (am_cat r) 8 then o.bind fun _ => k (pc + 3, ls, r, s) else none
    | _ => none) else am_cl E x false (pc + 3) ls stk s k
def am_x_ireturn (x : Nat) (stk : List am_V) (s : am_S) (kr : am_Y → Option O) : Option O := (match stk with
    | [.inl v] => (match x with
      | 0 => kr (some (am_I v), s)
      | 1 => if v &&& 1 = v then kr (some (am_I v), s) else none
      | 2 => if v.toInt8.toInt32 = v then kr (some (am_I v), s) else none
      | 3 => if v.toUInt32.toUInt16.toUInt32.toInt32 = v then kr (some (am_I v), s) else none
      | _ => none)
    | _ => none)
def am_x_lreturn (stk : List am_V) (s : am_S) (kr : am_Y → Option O) : Option O := (match stk with
    | [.inr (.inl v)] => kr (some (am_L v), s)
    | _ => none)
def am_x_areturn (stk : List am_V) (s : am_S) (kr : am_Y → Option O) : Option O := (match stk with
    | [.inr (.inr (.inl v))] => kr (some (am_R v), s)
    | _ => none)
def am_x_return_ (stk : List am_V) (s : am_S) (kr : am_Y → Option O) : Option O := (match stk with
    | [] => kr (none, s)
    | _ => none)
def am_ex (E : Nat → List am_V → am_S → Option am_Y) (sc : am_X) (i : Instr) (len x pc : Nat) (ls : List (Option am_V)) (stk : List am_V) (s : am_S) (k : am_T → Option O) (kr : am_Y → Option O) : Option O := match i with
  | .iconst n => am_x_iconst n pc ls stk s k
  | .bipush n => am_x_bipush n pc ls stk s k
  | .sipush n => am_x_sipush n pc ls stk s k
  | .lconst n => am_x_lconst n pc ls stk s k
  | .ldc _ => am_x_ldc x pc ls stk s k
  | .ldc_w _ => am_x_ldc_w x pc ls stk s k
  | .ldc2_w _ => am_x_ldc2_w x pc ls stk s k
  | .aconst_null => am_x_aconst_null pc ls stk s k
  | .iload_n n => am_x_iload_n n pc ls stk s k
  | .iload n => am_x_iload n pc ls stk s k
  | .lload_n n => am_x_lload_n n pc ls stk s k
  | .lload n => am_x_lload n pc ls stk s k
  | .aload_n n => am_x_aload_n n pc ls stk s k
  | .aload n => am_x_aload n pc ls stk s k
  | .istore_n n => am_x_istore_n n pc ls stk s k
  | .istore n => am_x_istore n pc ls stk s k
  | .lstore_n n => am_x_lstore_n n pc ls stk s k
  | .lstore n => am_x_lstore n pc ls stk s k
  | .astore_n n => am_x_astore_n n pc ls stk s k
  | .astore n => am_x_astore n pc ls stk s k
  | .iinc n d => am_x_iinc n d len pc ls stk s k
  | .pop => am_x_pop pc ls stk s k
  | .dup => am_x_dup pc ls stk s k
  | .dup2 => am_x_dup2 pc ls stk s k
  | .iadd => am_x_iadd pc ls stk s k
  | .isub => am_x_isub pc ls stk s k
  | .imul => am_x_imul pc ls stk s k
  | .idiv => am_x_idiv pc ls stk s k
  | .irem => am_x_irem pc ls stk s k
  | .ineg => am_x_ineg pc ls stk s k
  | .iand => am_x_iand pc ls stk s k
  | .ior => am_x_ior pc ls stk s k
  | .ixor => am_x_ixor pc ls stk s k
  | .ishl => am_x_ishl pc ls stk s k
  | .ishr => am_x_ishr pc ls stk s k
  | .iushr => am_x_iushr pc ls stk s k
  | .ladd => am_x_ladd pc ls stk s k
  | .lsub => am_x_lsub pc ls stk s k
  | .lmul => am_x_lmul pc ls stk s k
  | .ldiv => am_x_ldiv pc ls stk s k
  | .lrem => am_x_lrem pc ls stk s k
  | .lneg => am_x_lneg pc ls stk s k
  | .land => am_x_land pc ls stk s k
  | .lor => am_x_lor pc ls stk s k
  | .lxor => am_x_lxor pc ls stk s k
  | .lshl => am_x_lshl pc ls stk s k
  | .lshr => am_x_lshr pc ls stk s k
  | .lushr => am_x_lushr pc ls stk s k
  | .lcmp => am_x_lcmp pc ls stk s k
  | .i2l => am_x_i2l pc ls stk s k
  | .l2i => am_x_l2i pc ls stk s k
  | .i2b => am_x_i2b pc ls stk s k
  | .i2c => am_x_i2c pc ls stk s k
  | .ifCond c _ => am_x_ifCond c x pc ls stk s k
  | .if_icmp c _ => am_x_if_icmp c x pc ls stk s k
  | .ifnull _ => am_x_ifnull x pc ls stk s k
  | .ifnonnull _ => am_x_ifnonnull x pc ls stk s k
  | .goto _ => am_x_goto x ls stk s k
  | .tableswitch d lo _ os => am_x_tableswitch d lo os pc ls stk s k
  | .lookupswitch d ps => am_x_lookupswitch d ps pc ls stk s k
  | .getstatic _ => am_x_getstatic x pc ls stk s k
  | .getfield _ => am_x_getfield x pc ls stk s k
  | .putfield _ => am_x_putfield x pc ls stk s k
  | .new _ => am_x_new x pc ls stk s k
  | .newarray _ => am_x_newarray x pc ls stk s k
  | .anewarray _ => am_x_anewarray x pc ls stk s k
  | .arraylength => am_x_arraylength sc pc ls stk s k
  | .iaload => am_x_iaload sc pc ls stk s k
  | .baload => am_x_baload pc ls stk s k
  | .laload => am_x_laload pc ls stk s k
  | .aaload => am_x_aaload pc ls stk s k
  | .iastore => am_x_iastore pc ls stk s k
  | .bastore => am_x_bastore pc ls stk s k
  | .lastore => am_x_lastore pc ls stk s k
  | .aastore => am_x_aastore pc ls stk s k
  | .invokestatic _ => am_x_invokestatic E x pc ls stk s k
  | .invokevirtual _ => am_x_invokevirtual E x pc ls stk s k
  | .invokespecial _ => am_x_invokespecial E x pc ls stk s k
  | .ireturn => am_x_ireturn x stk s kr
  | .lreturn => am_x_lreturn stk s kr
  | .areturn => am_x_areturn stk s kr
  | .return_ => am_x_return_ stk s kr
  | _ => none
def am_step (E : Nat → List am_V → am_S → Option am_Y) (sc : am_X) (cd : am_P) : am_T → (am_T → Option O) → (am_Y → Option O) → Option O
  | (pc, ls, stk, s), k, kr => match am_at cd pc with
    | some (pc, i, len, x) => am_ex E sc i len x pc ls stk s k kr
    | none => none
/-- to the next cut (there some locals are forgotten), or to the answer -/
def am_ev (E : Nat → List am_V → am_S → Option am_Y) (sc : am_X) (cd : am_P) (cu : List (Nat × List Nat)) : Nat → am_T → (am_T → Option O) → (am_Y → Option O) → Option O
  | 0, _, _, _ => none
  | n + 1, t, kc, kr => am_step E sc cd t (fun t' => match t' with
    | (pc, ls, q) => (match cu.find? (fun e => Nat.beq e.1 pc) with
      | some (pc, d) => kc (pc, am_clr d ls, q)
      | none => am_ev E sc cd cu n (pc, ls, q) kc kr)) kr
end AmStep
