/-! ONE INSTRUCTION, as an equation: the proofs of the trees are made of these -/
section AmPf
variable {O : Type} {E : Nat → List am_V → am_S → Option am_Y} {sc : am_X} {cd : am_P} {cu : List (Nat × List Nat)} {n pc p x len : Nat} {ls ls2 : List (Option am_V)} {r : List am_V} {s : am_S} {kc : am_T → Option O} {kr : am_Y → Option O} {T T2 : Option O}
def am_cq (cu : List (Nat × List Nat)) (pc : Nat) : Option (Nat × List Nat) := cu.find? (fun e => Nat.beq e.1 pc)
def am_nx (E : Nat → List am_V → am_S → Option am_Y) (sc : am_X) (cd : am_P) (cu : List (Nat × List Nat)) (n : Nat) (kc : am_T → Option O) (kr : am_Y → Option O) : am_T → Option O := fun t => match t with
  | (pc, ls, q) => (match am_cq cu pc with
    | some (pc, d) => kc (pc, am_clr d ls, q)
    | none => am_ev E sc cd cu n (pc, ls, q) kc kr)
theorem am_ev_at {i : Instr} {st : List am_V} (hat : am_at cd pc = some (pc, i, len, x)) : am_ev E sc cd cu (n + 1) (pc, ls, st, s) kc kr = am_ex E sc i len x pc ls st s (am_nx E sc cd cu n kc kr) kr := by
  conv => lhs; unfold am_ev am_step
  dsimp only
  rw [hat]
  rfl
theorem pf_nx {st : List am_V} (hc : am_cq cu pc = none) (h : am_ev E sc cd cu n (pc, ls, st, s) kc kr = T) : am_nx E sc cd cu n kc kr (pc, ls, st, s) = T := by
  unfold am_nx
  dsimp only
  rw [hc]
  exact h
theorem pf_cut {st : List am_V} {d : List Nat} (hc : am_cq cu pc = some (p, d)) (hd : am_clr d ls = ls2) : am_nx E sc cd cu n kc kr (pc, ls, st, s) = kc (p, ls2, st, s) := by
  unfold am_nx
  dsimp only
  rw [hc, ← hd]
theorem pf_iconst {z : Int} {v : Int32} (hat : am_at cd pc = some (pc, .iconst z, len, x)) (hv : Int32.ofInt z = v) (hp : pc + 1 = p) (h : am_nx E sc cd cu n kc kr (p, ls, am_I v :: r, s) = T) : am_ev E sc cd cu (n + 1) (pc, ls, r, s) kc kr = T := by
  subst hp
  subst hv
  rw [am_ev_at hat]
  exact h
theorem pf_bipush {z : Int} {v : Int32} (hat : am_at cd pc = some (pc, .bipush z, len, x)) (hv : (Int8.ofInt z).toInt32 = v) (hp : pc + 2 = p) (h : am_nx E sc cd cu n kc kr (p, ls, am_I v :: r, s) = T) : am_ev E sc cd cu (n + 1) (pc, ls, r, s) kc kr = T := by
  subst hp
  subst hv
  rw [am_ev_at hat]
  exact h
theorem pf_sipush {z : Int} {v : Int32} (hat : am_at cd pc = some (pc, .sipush z, len, x)) (hv : (Int16.ofInt z).toInt32 = v) (hp : pc + 3 = p) (h : am_nx E sc cd cu n kc kr (p, ls, am_I v :: r, s) = T) : am_ev E sc cd cu (n + 1) (pc, ls, r, s) kc kr = T := by
  subst hp
  subst hv
  rw [am_ev_at hat]
  exact h
theorem pf_lconst {z : Fin 2} {v : Int64} (hat : am_at cd pc = some (pc, .lconst z, len, x)) (hv : Int64.ofNat z.val = v) (hp : pc + 1 = p) (h : am_nx E sc cd cu n kc kr (p, ls, am_L v :: r, s) = T) : am_ev E sc cd cu (n + 1) (pc, ls, r, s) kc kr = T := by
  subst hp
  subst hv
  rw [am_ev_at hat]
  exact h
theorem pf_ldc {z : Nat} {v : Int32} (hat : am_at cd pc = some (pc, .ldc z, len, x)) (hb : Nat.blt x 4294967296 = true) (hv : Int32.ofNat x = v) (hp : pc + 2 = p) (h : am_nx E sc cd cu n kc kr (p, ls, am_I v :: r, s) = T) : am_ev E sc cd cu (n + 1) (pc, ls, r, s) kc kr = T := by
  subst hp
  subst hv
  rw [am_ev_at hat]
  show am_x_ldc x pc ls r s _ = T
  unfold am_x_ldc
  rw [hb]
  exact h
theorem pf_ldcS {z j : Nat} (hat : am_at cd pc = some (pc, .ldc z, len, x)) (hb : Nat.blt x 4294967296 = false) (hv : x - 4294967296 = j) (hp : pc + 2 = p) (h : am_nx E sc cd cu n kc kr (p, ls, am_O j :: r, s) = T) : am_ev E sc cd cu (n + 1) (pc, ls, r, s) kc kr = T := by
  subst hp
  subst hv
  rw [am_ev_at hat]
  show am_x_ldc x pc ls r s _ = T
  unfold am_x_ldc
  rw [hb]
  exact h
theorem pf_ldcw {z : Nat} {v : Int32} (hat : am_at cd pc = some (pc, .ldc_w z, len, x)) (hv : Int32.ofNat x = v) (hp : pc + 3 = p) (h : am_nx E sc cd cu n kc kr (p, ls, am_I v :: r, s) = T) : am_ev E sc cd cu (n + 1) (pc, ls, r, s) kc kr = T := by
  subst hp
  subst hv
  rw [am_ev_at hat]
  exact h
theorem pf_ldc2 {z : Nat} {v : Int64} (hat : am_at cd pc = some (pc, .ldc2_w z, len, x)) (hv : Int64.ofNat x = v) (hp : pc + 3 = p) (h : am_nx E sc cd cu n kc kr (p, ls, am_L v :: r, s) = T) : am_ev E sc cd cu (n + 1) (pc, ls, r, s) kc kr = T := by
  subst hp
  subst hv
  rw [am_ev_at hat]
  exact h
theorem pf_null (hat : am_at cd pc = some (pc, .aconst_null, len, x)) (hp : pc + 1 = p) (h : am_nx E sc cd cu n kc kr (p, ls, am_R none :: r, s) = T) : am_ev E sc cd cu (n + 1) (pc, ls, r, s) kc kr = T := by
  subst hp
  rw [am_ev_at hat]
  exact h
theorem pf_iload_n {z : Fin 4} {v : Int32} (hat : am_at cd pc = some (pc, .iload_n z, len, x)) (hl : am_lI ls z.val = some v) (hp : pc + 1 = p) (h : am_nx E sc cd cu n kc kr (p, ls, am_I v :: r, s) = T) : am_ev E sc cd cu (n + 1) (pc, ls, r, s) kc kr = T := by
  subst hp
  rw [am_ev_at hat]
  show am_x_iload_n z pc ls r s _ = T
  unfold am_x_iload_n
  rw [hl]
  exact h
theorem pf_iload {z : Nat} {v : Int32} (hat : am_at cd pc = some (pc, .iload z, len, x)) (hl : am_lI ls z = some v) (hp : pc + 2 = p) (h : am_nx E sc cd cu n kc kr (p, ls, am_I v :: r, s) = T) : am_ev E sc cd cu (n + 1) (pc, ls, r, s) kc kr = T := by
  subst hp
  rw [am_ev_at hat]
  show am_x_iload z pc ls r s _ = T
  unfold am_x_iload
  rw [hl]
  exact h
theorem pf_lload_n {z : Fin 4} {v : Int64} (hat : am_at cd pc = some (pc, .lload_n z, len, x)) (hl : am_lL ls z.val = some v) (hp : pc + 1 = p) (h : am_nx E sc cd cu n kc kr (p, ls, am_L v :: r, s) = T) : am_ev E sc cd cu (n + 1) (pc, ls, r, s) kc kr = T := by
  subst hp
  rw [am_ev_at hat]
  show am_x_lload_n z pc ls r s _ = T
  unfold am_x_lload_n
  rw [hl]
  exact h
theorem pf_lload {z : Nat} {v : Int64} (hat : am_at cd pc = some (pc, .lload z, len, x)) (hl : am_lL ls z = some v) (hp : pc + 2 = p) (h : am_nx E sc cd cu n kc kr (p, ls, am_L v :: r, s) = T) : am_ev E sc cd cu (n + 1) (pc, ls, r, s) kc kr = T := by
  subst hp
  rw [am_ev_at hat]
  show am_x_lload z pc ls r s _ = T
  unfold am_x_lload
  rw [hl]
  exact h
theorem pf_aload_n {z : Fin 4} {v : Option Nat ⊕ Nat} (hat : am_at cd pc = some (pc, .aload_n z, len, x)) (hl : am_lA ls z.val = some v) (hp : pc + 1 = p) (h : am_nx E sc cd cu n kc kr (p, ls, Sum.inr (Sum.inr v) :: r, s) = T) : am_ev E sc cd cu (n + 1) (pc, ls, r, s) kc kr = T := by
  subst hp
  rw [am_ev_at hat]
  show am_x_aload_n z pc ls r s _ = T
  unfold am_x_aload_n
  rw [hl]
  exact h
theorem pf_aload {z : Nat} {v : Option Nat ⊕ Nat} (hat : am_at cd pc = some (pc, .aload z, len, x)) (hl : am_lA ls z = some v) (hp : pc + 2 = p) (h : am_nx E sc cd cu n kc kr (p, ls, Sum.inr (Sum.inr v) :: r, s) = T) : am_ev E sc cd cu (n + 1) (pc, ls, r, s) kc kr = T := by
  subst hp
  rw [am_ev_at hat]
  show am_x_aload z pc ls r s _ = T
  unfold am_x_aload
  rw [hl]
  exact h
theorem pf_istore_n {z : Fin 4} {v : Int32} (hat : am_at cd pc = some (pc, .istore_n z, len, x)) (hb : Nat.blt z.val ls.length = true) (hl : am_s1 ls z.val (am_I v) = ls2) (hp : pc + 1 = p) (h : am_nx E sc cd cu n kc kr (p, ls2, r, s) = T) : am_ev E sc cd cu (n + 1) (pc, ls, am_I v :: r, s) kc kr = T := by
  subst hp
  subst hl
  rw [am_ev_at hat]
  show am_x_istore_n z pc ls (am_I v :: r) s _ = T
  unfold am_x_istore_n
  dsimp only
  rw [hb]
  exact (am_frc_eq _ _).trans h
theorem pf_istore {z : Nat} {v : Int32} (hat : am_at cd pc = some (pc, .istore z, len, x)) (hb : Nat.blt z ls.length = true) (hl : am_s1 ls z (am_I v) = ls2) (hp : pc + 2 = p) (h : am_nx E sc cd cu n kc kr (p, ls2, r, s) = T) : am_ev E sc cd cu (n + 1) (pc, ls, am_I v :: r, s) kc kr = T := by
  subst hp
  subst hl
  rw [am_ev_at hat]
  show am_x_istore z pc ls (am_I v :: r) s _ = T
  unfold am_x_istore
  dsimp only
  rw [hb]
  exact (am_frc_eq _ _).trans h
theorem pf_lstore_n {z : Fin 4} {v : Int64} (hat : am_at cd pc = some (pc, .lstore_n z, len, x)) (hb : Nat.blt (z.val + 1) ls.length = true) (hl : am_s2 ls z.val (am_L v) = ls2) (hp : pc + 1 = p) (h : am_nx E sc cd cu n kc kr (p, ls2, r, s) = T) : am_ev E sc cd cu (n + 1) (pc, ls, am_L v :: r, s) kc kr = T := by
  subst hp
  subst hl
  rw [am_ev_at hat]
  show am_x_lstore_n z pc ls (am_L v :: r) s _ = T
  unfold am_x_lstore_n
  dsimp only
  rw [hb]
  exact (am_frc_eq _ _).trans h
theorem pf_lstore {z : Nat} {v : Int64} (hat : am_at cd pc = some (pc, .lstore z, len, x)) (hb : Nat.blt (z + 1) ls.length = true) (hl : am_s2 ls z (am_L v) = ls2) (hp : pc + 2 = p) (h : am_nx E sc cd cu n kc kr (p, ls2, r, s) = T) : am_ev E sc cd cu (n + 1) (pc, ls, am_L v :: r, s) kc kr = T := by
  subst hp
  subst hl
  rw [am_ev_at hat]
  show am_x_lstore z pc ls (am_L v :: r) s _ = T
  unfold am_x_lstore
  dsimp only
  rw [hb]
  exact (am_frc_eq _ _).trans h
theorem pf_astore_n {z : Fin 4} {v : Option Nat ⊕ Nat} (hat : am_at cd pc = some (pc, .astore_n z, len, x)) (hb : Nat.blt z.val ls.length = true) (hl : am_s1 ls z.val (Sum.inr (Sum.inr v)) = ls2) (hp : pc + 1 = p) (h : am_nx E sc cd cu n kc kr (p, ls2, r, s) = T) : am_ev E sc cd cu (n + 1) (pc, ls, (Sum.inr (Sum.inr v)) :: r, s) kc kr = T := by
  subst hp
  subst hl
  rw [am_ev_at hat]
  show am_x_astore_n z pc ls ((Sum.inr (Sum.inr v)) :: r) s _ = T
  unfold am_x_astore_n
  dsimp only
  rw [hb]
  exact (am_frc_eq _ _).trans h
theorem pf_astore {z : Nat} {v : Option Nat ⊕ Nat} (hat : am_at cd pc = some (pc, .astore z, len, x)) (hb : Nat.blt z ls.length = true) (hl : am_s1 ls z (Sum.inr (Sum.inr v)) = ls2) (hp : pc + 2 = p) (h : am_nx E sc cd cu n kc kr (p, ls2, r, s) = T) : am_ev E sc cd cu (n + 1) (pc, ls, (Sum.inr (Sum.inr v)) :: r, s) kc kr = T := by
  subst hp
  subst hl
  rw [am_ev_at hat]
  show am_x_astore z pc ls ((Sum.inr (Sum.inr v)) :: r) s _ = T
  unfold am_x_astore
  dsimp only
  rw [hb]
  exact (am_frc_eq _ _).trans h
theorem pf_iinc {z : Nat} {d : Int} {v w : Int32} (hat : am_at cd pc = some (pc, .iinc z d, 3, x)) (hb : Nat.blt z ls.length = true) (hv : am_lI ls z = some v) (hd : Int32.ofInt d = w) (hl : am_s1 ls z (am_I (v + w)) = ls2) (hp : pc + 3 = p) (h : am_nx E sc cd cu n kc kr (p, ls2, r, s) = T) : am_ev E sc cd cu (n + 1) (pc, ls, r, s) kc kr = T := by
  subst hp
  subst hl
  subst hd
  rw [am_ev_at hat]
  show am_x_iinc z d 3 pc ls r s _ = T
  unfold am_x_iinc
  rw [hb, hv]
  exact (am_frc_eq _ _).trans h
theorem pf_popI {v : Int32} (hat : am_at cd pc = some (pc, .pop, len, x)) (hp : pc + 1 = p) (h : am_nx E sc cd cu n kc kr (p, ls, r, s) = T) : am_ev E sc cd cu (n + 1) (pc, ls, (am_I v) :: r, s) kc kr = T := by
  subst hp
  rw [am_ev_at hat]
  exact h
theorem pf_dupI {v : Int32} (hat : am_at cd pc = some (pc, .dup, len, x)) (hp : pc + 1 = p) (h : am_nx E sc cd cu n kc kr (p, ls, (am_I v) :: (am_I v) :: r, s) = T) : am_ev E sc cd cu (n + 1) (pc, ls, (am_I v) :: r, s) kc kr = T := by
  subst hp
  rw [am_ev_at hat]
  exact h
theorem pf_popA {v : Option Nat ⊕ Nat} (hat : am_at cd pc = some (pc, .pop, len, x)) (hp : pc + 1 = p) (h : am_nx E sc cd cu n kc kr (p, ls, r, s) = T) : am_ev E sc cd cu (n + 1) (pc, ls, (Sum.inr (Sum.inr v)) :: r, s) kc kr = T := by
  subst hp
  rw [am_ev_at hat]
  exact h
theorem pf_dupA {v : Option Nat ⊕ Nat} (hat : am_at cd pc = some (pc, .dup, len, x)) (hp : pc + 1 = p) (h : am_nx E sc cd cu n kc kr (p, ls, (Sum.inr (Sum.inr v)) :: (Sum.inr (Sum.inr v)) :: r, s) = T) : am_ev E sc cd cu (n + 1) (pc, ls, (Sum.inr (Sum.inr v)) :: r, s) kc kr = T := by
  subst hp
  rw [am_ev_at hat]
  exact h
theorem pf_dup2L {v : Int64} (hat : am_at cd pc = some (pc, .dup2, len, x)) (hp : pc + 1 = p) (h : am_nx E sc cd cu n kc kr (p, ls, am_L v :: am_L v :: r, s) = T) : am_ev E sc cd cu (n + 1) (pc, ls, am_L v :: r, s) kc kr = T := by
  subst hp
  rw [am_ev_at hat]
  exact h
theorem pf_dup2IA {v : Int32} {w : Option Nat ⊕ Nat} (hat : am_at cd pc = some (pc, .dup2, len, x)) (hp : pc + 1 = p) (h : am_nx E sc cd cu n kc kr (p, ls, am_I v :: Sum.inr (Sum.inr w) :: am_I v :: Sum.inr (Sum.inr w) :: r, s) = T) : am_ev E sc cd cu (n + 1) (pc, ls, am_I v :: Sum.inr (Sum.inr w) :: r, s) kc kr = T := by
  subst hp
  rw [am_ev_at hat]
  exact h
theorem pf_dup2II {v w : Int32} (hat : am_at cd pc = some (pc, .dup2, len, x)) (hp : pc + 1 = p) (h : am_nx E sc cd cu n kc kr (p, ls, am_I v :: am_I w :: am_I v :: am_I w :: r, s) = T) : am_ev E sc cd cu (n + 1) (pc, ls, am_I v :: am_I w :: r, s) kc kr = T := by
  subst hp
  rw [am_ev_at hat]
  exact h
theorem pf_iadd {a b : Int32} (hat : am_at cd pc = some (pc, .iadd, len, x)) (hp : pc + 1 = p) (h : am_nx E sc cd cu n kc kr (p, ls, am_I (a + b) :: r, s) = T) : am_ev E sc cd cu (n + 1) (pc, ls, am_I b :: am_I a :: r, s) kc kr = T := by
  subst hp
  rw [am_ev_at hat]
  exact h
theorem pf_isub {a b : Int32} (hat : am_at cd pc = some (pc, .isub, len, x)) (hp : pc + 1 = p) (h : am_nx E sc cd cu n kc kr (p, ls, am_I (a - b) :: r, s) = T) : am_ev E sc cd cu (n + 1) (pc, ls, am_I b :: am_I a :: r, s) kc kr = T := by
  subst hp
  rw [am_ev_at hat]
  exact h
theorem pf_imul {a b : Int32} (hat : am_at cd pc = some (pc, .imul, len, x)) (hp : pc + 1 = p) (h : am_nx E sc cd cu n kc kr (p, ls, am_I (a * b) :: r, s) = T) : am_ev E sc cd cu (n + 1) (pc, ls, am_I b :: am_I a :: r, s) kc kr = T := by
  subst hp
  rw [am_ev_at hat]
  exact h
theorem pf_iand {a b : Int32} (hat : am_at cd pc = some (pc, .iand, len, x)) (hp : pc + 1 = p) (h : am_nx E sc cd cu n kc kr (p, ls, am_I (a &&& b) :: r, s) = T) : am_ev E sc cd cu (n + 1) (pc, ls, am_I b :: am_I a :: r, s) kc kr = T := by
  subst hp
  rw [am_ev_at hat]
  exact h
theorem pf_ior {a b : Int32} (hat : am_at cd pc = some (pc, .ior, len, x)) (hp : pc + 1 = p) (h : am_nx E sc cd cu n kc kr (p, ls, am_I (a ||| b) :: r, s) = T) : am_ev E sc cd cu (n + 1) (pc, ls, am_I b :: am_I a :: r, s) kc kr = T := by
  subst hp
  rw [am_ev_at hat]
  exact h
theorem pf_ixor {a b : Int32} (hat : am_at cd pc = some (pc, .ixor, len, x)) (hp : pc + 1 = p) (h : am_nx E sc cd cu n kc kr (p, ls, am_I (a ^^^ b) :: r, s) = T) : am_ev E sc cd cu (n + 1) (pc, ls, am_I b :: am_I a :: r, s) kc kr = T := by
  subst hp
  rw [am_ev_at hat]
  exact h
theorem pf_ishl {a b : Int32} (hat : am_at cd pc = some (pc, .ishl, len, x)) (hp : pc + 1 = p) (h : am_nx E sc cd cu n kc kr (p, ls, am_I (a <<< (b &&& 31)) :: r, s) = T) : am_ev E sc cd cu (n + 1) (pc, ls, am_I b :: am_I a :: r, s) kc kr = T := by
  subst hp
  rw [am_ev_at hat]
  exact h
theorem pf_ishr {a b : Int32} (hat : am_at cd pc = some (pc, .ishr, len, x)) (hp : pc + 1 = p) (h : am_nx E sc cd cu n kc kr (p, ls, am_I (a >>> (b &&& 31)) :: r, s) = T) : am_ev E sc cd cu (n + 1) (pc, ls, am_I b :: am_I a :: r, s) kc kr = T := by
  subst hp
  rw [am_ev_at hat]
  exact h
theorem pf_iushr {a b : Int32} (hat : am_at cd pc = some (pc, .iushr, len, x)) (hp : pc + 1 = p) (h : am_nx E sc cd cu n kc kr (p, ls, am_I (a.toUInt32 >>> (b.toUInt32 &&& Int32.toUInt32 31)).toInt32 :: r, s) = T) : am_ev E sc cd cu (n + 1) (pc, ls, am_I b :: am_I a :: r, s) kc kr = T := by
  subst hp
  rw [am_ev_at hat]
  exact h
theorem pf_ladd {a b : Int64} (hat : am_at cd pc = some (pc, .ladd, len, x)) (hp : pc + 1 = p) (h : am_nx E sc cd cu n kc kr (p, ls, am_L (a + b) :: r, s) = T) : am_ev E sc cd cu (n + 1) (pc, ls, am_L b :: am_L a :: r, s) kc kr = T := by
  subst hp
  rw [am_ev_at hat]
  exact h
theorem pf_lsub {a b : Int64} (hat : am_at cd pc = some (pc, .lsub, len, x)) (hp : pc + 1 = p) (h : am_nx E sc cd cu n kc kr (p, ls, am_L (a - b) :: r, s) = T) : am_ev E sc cd cu (n + 1) (pc, ls, am_L b :: am_L a :: r, s) kc kr = T := by
  subst hp
  rw [am_ev_at hat]
  exact h
theorem pf_lmul {a b : Int64} (hat : am_at cd pc = some (pc, .lmul, len, x)) (hp : pc + 1 = p) (h : am_nx E sc cd cu n kc kr (p, ls, am_L (a * b) :: r, s) = T) : am_ev E sc cd cu (n + 1) (pc, ls, am_L b :: am_L a :: r, s) kc kr = T := by
  subst hp
  rw [am_ev_at hat]
  exact h
theorem pf_land {a b : Int64} (hat : am_at cd pc = some (pc, .land, len, x)) (hp : pc + 1 = p) (h : am_nx E sc cd cu n kc kr (p, ls, am_L (a &&& b) :: r, s) = T) : am_ev E sc cd cu (n + 1) (pc, ls, am_L b :: am_L a :: r, s) kc kr = T := by
  subst hp
  rw [am_ev_at hat]
  exact h
theorem pf_lor {a b : Int64} (hat : am_at cd pc = some (pc, .lor, len, x)) (hp : pc + 1 = p) (h : am_nx E sc cd cu n kc kr (p, ls, am_L (a ||| b) :: r, s) = T) : am_ev E sc cd cu (n + 1) (pc, ls, am_L b :: am_L a :: r, s) kc kr = T := by
  subst hp
  rw [am_ev_at hat]
  exact h
theorem pf_lxor {a b : Int64} (hat : am_at cd pc = some (pc, .lxor, len, x)) (hp : pc + 1 = p) (h : am_nx E sc cd cu n kc kr (p, ls, am_L (a ^^^ b) :: r, s) = T) : am_ev E sc cd cu (n + 1) (pc, ls, am_L b :: am_L a :: r, s) kc kr = T := by
  subst hp
  rw [am_ev_at hat]
  exact h
theorem pf_lshl {a : Int64} {b : Int32} (hat : am_at cd pc = some (pc, .lshl, len, x)) (hp : pc + 1 = p) (h : am_nx E sc cd cu n kc kr (p, ls, am_L (a <<< (b.toInt64 &&& 63)) :: r, s) = T) : am_ev E sc cd cu (n + 1) (pc, ls, am_I b :: am_L a :: r, s) kc kr = T := by
  subst hp
  rw [am_ev_at hat]
  exact h
theorem pf_lshr {a : Int64} {b : Int32} (hat : am_at cd pc = some (pc, .lshr, len, x)) (hp : pc + 1 = p) (h : am_nx E sc cd cu n kc kr (p, ls, am_L (a >>> (b.toInt64 &&& 63)) :: r, s) = T) : am_ev E sc cd cu (n + 1) (pc, ls, am_I b :: am_L a :: r, s) kc kr = T := by
  subst hp
  rw [am_ev_at hat]
  exact h
theorem pf_lushr {a : Int64} {b : Int32} (hat : am_at cd pc = some (pc, .lushr, len, x)) (hp : pc + 1 = p) (h : am_nx E sc cd cu n kc kr (p, ls, am_L ((a.toUInt64 >>> (b.toInt64.toUInt64 &&& Int64.toUInt64 63)).toInt64) :: r, s) = T) : am_ev E sc cd cu (n + 1) (pc, ls, am_I b :: am_L a :: r, s) kc kr = T := by
  subst hp
  rw [am_ev_at hat]
  exact h
theorem pf_lcmp {a b : Int64} (hat : am_at cd pc = some (pc, .lcmp, len, x)) (hp : pc + 1 = p) (h : am_nx E sc cd cu n kc kr (p, ls, am_I (lg_cmp a b) :: r, s) = T) : am_ev E sc cd cu (n + 1) (pc, ls, am_L b :: am_L a :: r, s) kc kr = T := by
  subst hp
  rw [am_ev_at hat]
  exact h
theorem pf_ineg {a : Int32} (hat : am_at cd pc = some (pc, .ineg, len, x)) (hp : pc + 1 = p) (h : am_nx E sc cd cu n kc kr (p, ls, am_I (-a) :: r, s) = T) : am_ev E sc cd cu (n + 1) (pc, ls, am_I a :: r, s) kc kr = T := by
  subst hp
  rw [am_ev_at hat]
  exact h
theorem pf_lneg {a : Int64} (hat : am_at cd pc = some (pc, .lneg, len, x)) (hp : pc + 1 = p) (h : am_nx E sc cd cu n kc kr (p, ls, am_L (-a) :: r, s) = T) : am_ev E sc cd cu (n + 1) (pc, ls, am_L a :: r, s) kc kr = T := by
  subst hp
  rw [am_ev_at hat]
  exact h
theorem pf_i2l {a : Int32} (hat : am_at cd pc = some (pc, .i2l, len, x)) (hp : pc + 1 = p) (h : am_nx E sc cd cu n kc kr (p, ls, am_L a.toInt64 :: r, s) = T) : am_ev E sc cd cu (n + 1) (pc, ls, am_I a :: r, s) kc kr = T := by
  subst hp
  rw [am_ev_at hat]
  exact h
theorem pf_l2i {a : Int64} (hat : am_at cd pc = some (pc, .l2i, len, x)) (hp : pc + 1 = p) (h : am_nx E sc cd cu n kc kr (p, ls, am_I a.toInt32 :: r, s) = T) : am_ev E sc cd cu (n + 1) (pc, ls, am_L a :: r, s) kc kr = T := by
  subst hp
  rw [am_ev_at hat]
  exact h
theorem pf_i2b {a : Int32} (hat : am_at cd pc = some (pc, .i2b, len, x)) (hp : pc + 1 = p) (h : am_nx E sc cd cu n kc kr (p, ls, am_I a.toInt8.toInt32 :: r, s) = T) : am_ev E sc cd cu (n + 1) (pc, ls, am_I a :: r, s) kc kr = T := by
  subst hp
  rw [am_ev_at hat]
  exact h
theorem pf_i2c {a : Int32} (hat : am_at cd pc = some (pc, .i2c, len, x)) (hp : pc + 1 = p) (h : am_nx E sc cd cu n kc kr (p, ls, am_I (a.toUInt32 % 65536).toInt32 :: r, s) = T) : am_ev E sc cd cu (n + 1) (pc, ls, am_I a :: r, s) kc kr = T := by
  subst hp
  rw [am_ev_at hat]
  exact h
theorem pf_idiv {a b : Int32} (hat : am_at cd pc = some (pc, .idiv, len, x)) (hp : pc + 1 = p) (h : am_nx E sc cd cu n kc kr (p, ls, am_I (a / b) :: r, s) = T) : am_ev E sc cd cu (n + 1) (pc, ls, am_I b :: am_I a :: r, s) kc kr = if b = 0 then none else T := by
  subst hp
  rw [am_ev_at hat, ← h]
  rfl
theorem pf_irem {a b : Int32} (hat : am_at cd pc = some (pc, .irem, len, x)) (hp : pc + 1 = p) (h : am_nx E sc cd cu n kc kr (p, ls, am_I (a - a / b * b) :: r, s) = T) : am_ev E sc cd cu (n + 1) (pc, ls, am_I b :: am_I a :: r, s) kc kr = if b = 0 then none else T := by
  subst hp
  rw [am_ev_at hat, ← h]
  rfl
theorem pf_ldiv {a b : Int64} (hat : am_at cd pc = some (pc, .ldiv, len, x)) (hp : pc + 1 = p) (h : am_nx E sc cd cu n kc kr (p, ls, am_L (a / b) :: r, s) = T) : am_ev E sc cd cu (n + 1) (pc, ls, am_L b :: am_L a :: r, s) kc kr = if b = 0 then none else T := by
  subst hp
  rw [am_ev_at hat, ← h]
  rfl
theorem pf_lrem {a b : Int64} (hat : am_at cd pc = some (pc, .lrem, len, x)) (hp : pc + 1 = p) (h : am_nx E sc cd cu n kc kr (p, ls, am_L (a - a / b * b) :: r, s) = T) : am_ev E sc cd cu (n + 1) (pc, ls, am_L b :: am_L a :: r, s) kc kr = if b = 0 then none else T := by
  subst hp
  rw [am_ev_at hat, ← h]
  rfl
theorem pf_icmp_eq {z : Int} {a b : Int32} (hat : am_at cd pc = some (pc, .if_icmp .eq z, len, x)) (hp : pc + 3 = p) (h1 : am_nx E sc cd cu n kc kr (x, ls, r, s) = T) (h2 : am_nx E sc cd cu n kc kr (p, ls, r, s) = T2) : am_ev E sc cd cu (n + 1) (pc, ls, am_I b :: am_I a :: r, s) kc kr = if a = b then T else T2 := by
  subst hp
  rw [am_ev_at hat, ← h1, ← h2]
  rfl
theorem pf_if_eq {z : Int} {a : Int32} (hat : am_at cd pc = some (pc, .ifCond .eq z, len, x)) (hp : pc + 3 = p) (h1 : am_nx E sc cd cu n kc kr (x, ls, r, s) = T) (h2 : am_nx E sc cd cu n kc kr (p, ls, r, s) = T2) : am_ev E sc cd cu (n + 1) (pc, ls, am_I a :: r, s) kc kr = if a = (0 : Int32) then T else T2 := by
  subst hp
  rw [am_ev_at hat, ← h1, ← h2]
  rfl
theorem pf_icmp_ne {z : Int} {a b : Int32} (hat : am_at cd pc = some (pc, .if_icmp .ne z, len, x)) (hp : pc + 3 = p) (h1 : am_nx E sc cd cu n kc kr (p, ls, r, s) = T) (h2 : am_nx E sc cd cu n kc kr (x, ls, r, s) = T2) : am_ev E sc cd cu (n + 1) (pc, ls, am_I b :: am_I a :: r, s) kc kr = if a = b then T else T2 := by
  subst hp
  rw [am_ev_at hat, ← h1, ← h2]
  rfl
theorem pf_if_ne {z : Int} {a : Int32} (hat : am_at cd pc = some (pc, .ifCond .ne z, len, x)) (hp : pc + 3 = p) (h1 : am_nx E sc cd cu n kc kr (p, ls, r, s) = T) (h2 : am_nx E sc cd cu n kc kr (x, ls, r, s) = T2) : am_ev E sc cd cu (n + 1) (pc, ls, am_I a :: r, s) kc kr = if a = (0 : Int32) then T else T2 := by
  subst hp
  rw [am_ev_at hat, ← h1, ← h2]
  rfl
theorem pf_icmp_lt {z : Int} {a b : Int32} (hat : am_at cd pc = some (pc, .if_icmp .lt z, len, x)) (hp : pc + 3 = p) (h1 : am_nx E sc cd cu n kc kr (x, ls, r, s) = T) (h2 : am_nx E sc cd cu n kc kr (p, ls, r, s) = T2) : am_ev E sc cd cu (n + 1) (pc, ls, am_I b :: am_I a :: r, s) kc kr = if a < b then T else T2 := by
  subst hp
  rw [am_ev_at hat, ← h1, ← h2]
  rfl
theorem pf_if_lt {z : Int} {a : Int32} (hat : am_at cd pc = some (pc, .ifCond .lt z, len, x)) (hp : pc + 3 = p) (h1 : am_nx E sc cd cu n kc kr (x, ls, r, s) = T) (h2 : am_nx E sc cd cu n kc kr (p, ls, r, s) = T2) : am_ev E sc cd cu (n + 1) (pc, ls, am_I a :: r, s) kc kr = if a < (0 : Int32) then T else T2 := by
  subst hp
  rw [am_ev_at hat, ← h1, ← h2]
  rfl
theorem pf_icmp_ge {z : Int} {a b : Int32} (hat : am_at cd pc = some (pc, .if_icmp .ge z, len, x)) (hp : pc + 3 = p) (h1 : am_nx E sc cd cu n kc kr (p, ls, r, s) = T) (h2 : am_nx E sc cd cu n kc kr (x, ls, r, s) = T2) : am_ev E sc cd cu (n + 1) (pc, ls, am_I b :: am_I a :: r, s) kc kr = if a < b then T else T2 := by
  subst hp
  rw [am_ev_at hat, ← h1, ← h2]
  rfl
theorem pf_if_ge {z : Int} {a : Int32} (hat : am_at cd pc = some (pc, .ifCond .ge z, len, x)) (hp : pc + 3 = p) (h1 : am_nx E sc cd cu n kc kr (p, ls, r, s) = T) (h2 : am_nx E sc cd cu n kc kr (x, ls, r, s) = T2) : am_ev E sc cd cu (n + 1) (pc, ls, am_I a :: r, s) kc kr = if a < (0 : Int32) then T else T2 := by
  subst hp
  rw [am_ev_at hat, ← h1, ← h2]
  rfl
theorem pf_icmp_gt {z : Int} {a b : Int32} (hat : am_at cd pc = some (pc, .if_icmp .gt z, len, x)) (hp : pc + 3 = p) (h1 : am_nx E sc cd cu n kc kr (x, ls, r, s) = T) (h2 : am_nx E sc cd cu n kc kr (p, ls, r, s) = T2) : am_ev E sc cd cu (n + 1) (pc, ls, am_I b :: am_I a :: r, s) kc kr = if b < a then T else T2 := by
  subst hp
  rw [am_ev_at hat, ← h1, ← h2]
  rfl
theorem pf_if_gt {z : Int} {a : Int32} (hat : am_at cd pc = some (pc, .ifCond .gt z, len, x)) (hp : pc + 3 = p) (h1 : am_nx E sc cd cu n kc kr (x, ls, r, s) = T) (h2 : am_nx E sc cd cu n kc kr (p, ls, r, s) = T2) : am_ev E sc cd cu (n + 1) (pc, ls, am_I a :: r, s) kc kr = if (0 : Int32) < a then T else T2 := by
  subst hp
  rw [am_ev_at hat, ← h1, ← h2]
  rfl
theorem pf_icmp_le {z : Int} {a b : Int32} (hat : am_at cd pc = some (pc, .if_icmp .le z, len, x)) (hp : pc + 3 = p) (h1 : am_nx E sc cd cu n kc kr (p, ls, r, s) = T) (h2 : am_nx E sc cd cu n kc kr (x, ls, r, s) = T2) : am_ev E sc cd cu (n + 1) (pc, ls, am_I b :: am_I a :: r, s) kc kr = if b < a then T else T2 := by
  subst hp
  rw [am_ev_at hat, ← h1, ← h2]
  rfl
theorem pf_if_le {z : Int} {a : Int32} (hat : am_at cd pc = some (pc, .ifCond .le z, len, x)) (hp : pc + 3 = p) (h1 : am_nx E sc cd cu n kc kr (p, ls, r, s) = T) (h2 : am_nx E sc cd cu n kc kr (x, ls, r, s) = T2) : am_ev E sc cd cu (n + 1) (pc, ls, am_I a :: r, s) kc kr = if (0 : Int32) < a then T else T2 := by
  subst hp
  rw [am_ev_at hat, ← h1, ← h2]
  rfl
theorem pf_ifnull {z : Int} {o : Option Nat} (hat : am_at cd pc = some (pc, .ifnull z, len, x)) (hp : pc + 3 = p) (h1 : am_nx E sc cd cu n kc kr (x, ls, r, s) = T) (h2 : am_nx E sc cd cu n kc kr (p, ls, r, s) = T2) : am_ev E sc cd cu (n + 1) (pc, ls, am_R o :: r, s) kc kr = bif o.isNone then T else T2 := by
  subst hp
  rw [am_ev_at hat, ← h1, ← h2]
  rfl
theorem pf_ifnullS {z : Int} {a : Nat} (hat : am_at cd pc = some (pc, .ifnull z, len, x)) (hp : pc + 3 = p) (h2 : am_nx E sc cd cu n kc kr (p, ls, r, s) = T2) : am_ev E sc cd cu (n + 1) (pc, ls, am_R (some a) :: r, s) kc kr = T2 := by
  subst hp
  rw [am_ev_at hat, ← h2]
  rfl
theorem pf_ifnullN {z : Int} (hat : am_at cd pc = some (pc, .ifnull z, len, x)) (hp : pc + 3 = p) (h1 : am_nx E sc cd cu n kc kr (x, ls, r, s) = T) : am_ev E sc cd cu (n + 1) (pc, ls, am_R none :: r, s) kc kr = T := by
  subst hp
  rw [am_ev_at hat, ← h1]
  rfl
theorem pf_ifnonnull {z : Int} {o : Option Nat} (hat : am_at cd pc = some (pc, .ifnonnull z, len, x)) (hp : pc + 3 = p) (h1 : am_nx E sc cd cu n kc kr (p, ls, r, s) = T) (h2 : am_nx E sc cd cu n kc kr (x, ls, r, s) = T2) : am_ev E sc cd cu (n + 1) (pc, ls, am_R o :: r, s) kc kr = bif o.isNone then T else T2 := by
  subst hp
  rw [am_ev_at hat, ← h1, ← h2]
  rfl
theorem pf_ifnonnullS {z : Int} {a : Nat} (hat : am_at cd pc = some (pc, .ifnonnull z, len, x)) (hp : pc + 3 = p) (h2 : am_nx E sc cd cu n kc kr (x, ls, r, s) = T2) : am_ev E sc cd cu (n + 1) (pc, ls, am_R (some a) :: r, s) kc kr = T2 := by
  subst hp
  rw [am_ev_at hat, ← h2]
  rfl
theorem pf_ifnonnullN {z : Int} (hat : am_at cd pc = some (pc, .ifnonnull z, len, x)) (hp : pc + 3 = p) (h1 : am_nx E sc cd cu n kc kr (p, ls, r, s) = T) : am_ev E sc cd cu (n + 1) (pc, ls, am_R none :: r, s) kc kr = T := by
  subst hp
  rw [am_ev_at hat, ← h1]
  rfl
theorem pf_goto {z : Int} (hat : am_at cd pc = some (pc, .goto z, len, x)) (h : am_nx E sc cd cu n kc kr (x, ls, r, s) = T) : am_ev E sc cd cu (n + 1) (pc, ls, r, s) kc kr = T := by
  rw [am_ev_at hat, ← h]
  rfl
theorem pf_swT {d lo hi : Int} {os : Array Int} {a : Int32} (hat : am_at cd pc = some (pc, .tableswitch d lo hi os, len, x)) (h : am_swT a pc d lo os.toList (fun t => am_nx E sc cd cu n kc kr (t, ls, r, s)) = T) : am_ev E sc cd cu (n + 1) (pc, ls, am_I a :: r, s) kc kr = T := by
  rw [am_ev_at hat, ← h]
  rfl
theorem pf_swL {d : Int} {ps : Array (Int × Int)} {a : Int32} (hat : am_at cd pc = some (pc, .lookupswitch d ps, len, x)) (h : am_swL a pc d ps.toList (fun t => am_nx E sc cd cu n kc kr (t, ls, r, s)) = T) : am_ev E sc cd cu (n + 1) (pc, ls, am_I a :: r, s) kc kr = T := by
  rw [am_ev_at hat, ← h]
  rfl
theorem pf_tc {a v : Int32} {d lo lo2 o : Int} {os : List Int} {k : Nat → Option O} (hv : Int32.ofInt lo = v) (ho : ((pc : Int) + o).toNat = p) (hl : lo + 1 = lo2) (h1 : k p = T) (h2 : am_swT a pc d lo2 os k = T2) : am_swT a pc d lo (o :: os) k = if a = v then T else T2 := by
  subst hv
  subst ho
  subst hl
  rw [← h1, ← h2]
  rfl
theorem pf_te {a : Int32} {d lo : Int} {k : Nat → Option O} (ho : ((pc : Int) + d).toNat = p) (h1 : k p = T) : am_swT a pc d lo [] k = T := by
  subst ho
  rw [← h1]
  rfl
theorem pf_lc {a v : Int32} {d q o : Int} {os : List (Int × Int)} {k : Nat → Option O} (hv : Int32.ofInt q = v) (ho : ((pc : Int) + o).toNat = p) (h1 : k p = T) (h2 : am_swL a pc d os k = T2) : am_swL a pc d ((q, o) :: os) k = if a = v then T else T2 := by
  subst hv
  subst ho
  rw [← h1, ← h2]
  rfl
theorem pf_le {a : Int32} {d : Int} {k : Nat → Option O} (ho : ((pc : Int) + d).toNat = p) (h1 : k p = T) : am_swL a pc d [] k = T := by
  subst ho
  rw [← h1]
  rfl
theorem pf_getsI {z : Nat} {v : Int32} (hat : am_at cd pc = some (pc, .getstatic z, len, x)) (hb : Nat.blt x 100 = true) (hv : Int32.ofNat x = v) (hp : pc + 3 = p) (h : am_nx E sc cd cu n kc kr (p, ls, am_I v :: r, s) = T) : am_ev E sc cd cu (n + 1) (pc, ls, r, s) kc kr = T := by
  subst hp
  subst hv
  rw [am_ev_at hat]
  show am_x_getstatic x pc ls r s _ = T
  unfold am_x_getstatic
  rw [hb]
  exact h
theorem pf_getsO {z j : Nat} (hat : am_at cd pc = some (pc, .getstatic z, len, x)) (hb : Nat.blt x 100 = false) (hv : x - 100 = j) (hp : pc + 3 = p) (h : am_nx E sc cd cu n kc kr (p, ls, am_O j :: r, s) = T) : am_ev E sc cd cu (n + 1) (pc, ls, r, s) kc kr = T := by
  subst hp
  subst hv
  rw [am_ev_at hat]
  show am_x_getstatic x pc ls r s _ = T
  unfold am_x_getstatic
  rw [hb]
  exact h
theorem pf_getI {z ci k a : Nat} {T : Int32 → Option O} (hat : am_at cd pc = some (pc, .getfield z, len, x)) (hp : pc + 3 = p) (h1 : x % 10 = 0) (h2 : x / 1000 = ci) (h3 : x / 10 % 100 = k) (h : ∀ v, am_nx E sc cd cu n kc kr (p, ls, am_I v :: r, s) = T v) : am_ev E sc cd cu (n + 1) (pc, ls, am_R (some a) :: r, s) kc kr = (am_gI s a ci k).bind T := by
  subst hp h2 h3
  rw [am_ev_at hat]
  show am_x_getfield x pc ls (am_R (some a) :: r) s _ = _
  unfold am_x_getfield
  dsimp only
  rw [h1]
  obtain rfl := (funext h : (fun _ => _) = T)
  rfl
theorem pf_getIO {z ci k : Nat} {o : Option Nat} {T : Nat → Int32 → Option O} (hat : am_at cd pc = some (pc, .getfield z, len, x)) (hp : pc + 3 = p) (h1 : x % 10 = 0) (h2 : x / 1000 = ci) (h3 : x / 10 % 100 = k) (h : ∀ a v, am_nx E sc cd cu n kc kr (p, ls, am_I v :: r, s) = T a v) : am_ev E sc cd cu (n + 1) (pc, ls, am_R o :: r, s) kc kr = o.bind fun a => (am_gI s a ci k).bind (T a) := by
  subst hp h2 h3
  rw [am_ev_at hat]
  show am_x_getfield x pc ls (am_R o :: r) s _ = _
  unfold am_x_getfield
  dsimp only
  rw [h1]
  obtain rfl := (funext fun a => funext (h a) : (fun _ _ => _) = T)
  rfl
theorem pf_getL {z ci k a : Nat} {T : Int64 → Option O} (hat : am_at cd pc = some (pc, .getfield z, len, x)) (hp : pc + 3 = p) (h1 : x % 10 = 1) (h2 : x / 1000 = ci) (h3 : x / 10 % 100 = k) (h : ∀ v, am_nx E sc cd cu n kc kr (p, ls, am_L v :: r, s) = T v) : am_ev E sc cd cu (n + 1) (pc, ls, am_R (some a) :: r, s) kc kr = (am_gL s a ci k).bind T := by
  subst hp h2 h3
  rw [am_ev_at hat]
  show am_x_getfield x pc ls (am_R (some a) :: r) s _ = _
  unfold am_x_getfield
  dsimp only
  rw [h1]
  obtain rfl := (funext h : (fun _ => _) = T)
  rfl
theorem pf_getLO {z ci k : Nat} {o : Option Nat} {T : Nat → Int64 → Option O} (hat : am_at cd pc = some (pc, .getfield z, len, x)) (hp : pc + 3 = p) (h1 : x % 10 = 1) (h2 : x / 1000 = ci) (h3 : x / 10 % 100 = k) (h : ∀ a v, am_nx E sc cd cu n kc kr (p, ls, am_L v :: r, s) = T a v) : am_ev E sc cd cu (n + 1) (pc, ls, am_R o :: r, s) kc kr = o.bind fun a => (am_gL s a ci k).bind (T a) := by
  subst hp h2 h3
  rw [am_ev_at hat]
  show am_x_getfield x pc ls (am_R o :: r) s _ = _
  unfold am_x_getfield
  dsimp only
  rw [h1]
  obtain rfl := (funext fun a => funext (h a) : (fun _ _ => _) = T)
  rfl
theorem pf_getR {z ci k a : Nat} {T : Option Nat → Option O} (hat : am_at cd pc = some (pc, .getfield z, len, x)) (hp : pc + 3 = p) (h1 : x % 10 = 2) (h2 : x / 1000 = ci) (h3 : x / 10 % 100 = k) (h : ∀ v, am_nx E sc cd cu n kc kr (p, ls, am_R v :: r, s) = T v) : am_ev E sc cd cu (n + 1) (pc, ls, am_R (some a) :: r, s) kc kr = (am_gR s a ci k).bind T := by
  subst hp h2 h3
  rw [am_ev_at hat]
  show am_x_getfield x pc ls (am_R (some a) :: r) s _ = _
  unfold am_x_getfield
  dsimp only
  rw [h1]
  obtain rfl := (funext h : (fun _ => _) = T)
  rfl
theorem pf_getRO {z ci k : Nat} {o : Option Nat} {T : Nat → Option Nat → Option O} (hat : am_at cd pc = some (pc, .getfield z, len, x)) (hp : pc + 3 = p) (h1 : x % 10 = 2) (h2 : x / 1000 = ci) (h3 : x / 10 % 100 = k) (h : ∀ a v, am_nx E sc cd cu n kc kr (p, ls, am_R v :: r, s) = T a v) : am_ev E sc cd cu (n + 1) (pc, ls, am_R o :: r, s) kc kr = o.bind fun a => (am_gR s a ci k).bind (T a) := by
  subst hp h2 h3
  rw [am_ev_at hat]
  show am_x_getfield x pc ls (am_R o :: r) s _ = _
  unfold am_x_getfield
  dsimp only
  rw [h1]
  obtain rfl := (funext fun a => funext (h a) : (fun _ _ => _) = T)
  rfl
theorem pf_getV {z : Nat} (hat : am_at cd pc = some (pc, .getfield z, len, x)) (hp : pc + 3 = p) (h1 : x % 10 = 5) (h : am_nx E sc cd cu n kc kr (p, ls, am_O 2 :: r, s) = T) : am_ev E sc cd cu (n + 1) (pc, ls, am_O 1 :: r, s) kc kr = T := by
  subst hp
  rw [am_ev_at hat]
  show am_x_getfield x pc ls (am_O 1 :: r) s _ = _
  unfold am_x_getfield
  dsimp only
  rw [h1]
  exact h
theorem pf_getC {z : Nat} (hat : am_at cd pc = some (pc, .getfield z, len, x)) (hp : pc + 3 = p) (h1 : x % 10 = 6) (h : am_nx E sc cd cu n kc kr (p, ls, am_I 0 :: r, s) = T) : am_ev E sc cd cu (n + 1) (pc, ls, am_O 1 :: r, s) kc kr = T := by
  subst hp
  rw [am_ev_at hat]
  show am_x_getfield x pc ls (am_O 1 :: r) s _ = _
  unfold am_x_getfield
  dsimp only
  rw [h1]
  exact h
theorem pf_putI {z ci k a : Nat} {v : Int32} {T : am_S → Option O} (hat : am_at cd pc = some (pc, .putfield z, len, x)) (hp : pc + 3 = p) (h1 : x % 10 = 0) (h2 : x / 1000 = ci) (h3 : x / 10 % 100 = k) (h : ∀ s2, am_nx E sc cd cu n kc kr (p, ls, r, s2) = T s2) : am_ev E sc cd cu (n + 1) (pc, ls, am_I v :: am_R (some a) :: r, s) kc kr = (am_pf s a ci k (am_I v)).bind T := by
  subst hp h2 h3
  rw [am_ev_at hat, ← (funext h : (fun s2 => _) = T)]
  show am_x_putfield x pc ls (am_I v :: am_R (some a) :: r) s _ = _
  unfold am_x_putfield
  dsimp only
  rw [h1]
  rfl
theorem pf_putIO {z ci k : Nat} {o : Option Nat} {v : Int32} {T : Nat → am_S → Option O} (hat : am_at cd pc = some (pc, .putfield z, len, x)) (hp : pc + 3 = p) (h1 : x % 10 = 0) (h2 : x / 1000 = ci) (h3 : x / 10 % 100 = k) (h : ∀ a s2, am_nx E sc cd cu n kc kr (p, ls, r, s2) = T a s2) : am_ev E sc cd cu (n + 1) (pc, ls, am_I v :: am_R o :: r, s) kc kr = o.bind fun a => (am_pf s a ci k (am_I v)).bind (T a) := by
  subst hp h2 h3
  rw [am_ev_at hat, ← (funext fun a => funext (h a) : (fun _ s2 => _) = T)]
  show am_x_putfield x pc ls (am_I v :: am_R o :: r) s _ = _
  unfold am_x_putfield
  dsimp only
  rw [h1]
  rfl
theorem pf_putZ {z ci k a : Nat} {v : Int32} {T : am_S → Option O} (hat : am_at cd pc = some (pc, .putfield z, len, x)) (hp : pc + 3 = p) (h1 : x % 10 = 3) (h2 : x / 1000 = ci) (h3 : x / 10 % 100 = k) (h : ∀ s2, am_nx E sc cd cu n kc kr (p, ls, r, s2) = T s2) : am_ev E sc cd cu (n + 1) (pc, ls, am_I v :: am_R (some a) :: r, s) kc kr = if v &&& 1 = v then (am_pf s a ci k (am_I v)).bind T else none := by
  subst hp h2 h3
  rw [am_ev_at hat, ← (funext h : (fun s2 => _) = T)]
  show am_x_putfield x pc ls (am_I v :: am_R (some a) :: r) s _ = _
  unfold am_x_putfield
  dsimp only
  rw [h1]
  rfl
theorem pf_putZO {z ci k : Nat} {o : Option Nat} {v : Int32} {T : Nat → am_S → Option O} (hat : am_at cd pc = some (pc, .putfield z, len, x)) (hp : pc + 3 = p) (h1 : x % 10 = 3) (h2 : x / 1000 = ci) (h3 : x / 10 % 100 = k) (h : ∀ a s2, am_nx E sc cd cu n kc kr (p, ls, r, s2) = T a s2) : am_ev E sc cd cu (n + 1) (pc, ls, am_I v :: am_R o :: r, s) kc kr = o.bind fun a => if v &&& 1 = v then (am_pf s a ci k (am_I v)).bind (T a) else none := by
  subst hp h2 h3
  rw [am_ev_at hat, ← (funext fun a => funext (h a) : (fun _ s2 => _) = T)]
  show am_x_putfield x pc ls (am_I v :: am_R o :: r) s _ = _
  unfold am_x_putfield
  dsimp only
  rw [h1]
  rfl
theorem pf_putL {z ci k a : Nat} {v : Int64} {T : am_S → Option O} (hat : am_at cd pc = some (pc, .putfield z, len, x)) (hp : pc + 3 = p) (h1 : x % 10 = 1) (h2 : x / 1000 = ci) (h3 : x / 10 % 100 = k) (h : ∀ s2, am_nx E sc cd cu n kc kr (p, ls, r, s2) = T s2) : am_ev E sc cd cu (n + 1) (pc, ls, am_L v :: am_R (some a) :: r, s) kc kr = (am_pf s a ci k (am_L v)).bind T := by
  subst hp h2 h3
  rw [am_ev_at hat, ← (funext h : (fun s2 => _) = T)]
  show am_x_putfield x pc ls (am_L v :: am_R (some a) :: r) s _ = _
  unfold am_x_putfield
  dsimp only
  rw [h1]
  rfl
theorem pf_putLO {z ci k : Nat} {o : Option Nat} {v : Int64} {T : Nat → am_S → Option O} (hat : am_at cd pc = some (pc, .putfield z, len, x)) (hp : pc + 3 = p) (h1 : x % 10 = 1) (h2 : x / 1000 = ci) (h3 : x / 10 % 100 = k) (h : ∀ a s2, am_nx E sc cd cu n kc kr (p, ls, r, s2) = T a s2) : am_ev E sc cd cu (n + 1) (pc, ls, am_L v :: am_R o :: r, s) kc kr = o.bind fun a => (am_pf s a ci k (am_L v)).bind (T a) := by
  subst hp h2 h3
  rw [am_ev_at hat, ← (funext fun a => funext (h a) : (fun _ s2 => _) = T)]
  show am_x_putfield x pc ls (am_L v :: am_R o :: r) s _ = _
  unfold am_x_putfield
  dsimp only
  rw [h1]
  rfl
theorem pf_putR {z ci k a : Nat} {v : Option Nat} {T : am_S → Option O} (hat : am_at cd pc = some (pc, .putfield z, len, x)) (hp : pc + 3 = p) (h1 : x % 10 = 2) (h2 : x / 1000 = ci) (h3 : x / 10 % 100 = k) (h : ∀ s2, am_nx E sc cd cu n kc kr (p, ls, r, s2) = T s2) : am_ev E sc cd cu (n + 1) (pc, ls, am_R v :: am_R (some a) :: r, s) kc kr = (am_pf s a ci k (am_R v)).bind T := by
  subst hp h2 h3
  rw [am_ev_at hat, ← (funext h : (fun s2 => _) = T)]
  show am_x_putfield x pc ls (am_R v :: am_R (some a) :: r) s _ = _
  unfold am_x_putfield
  dsimp only
  rw [h1]
  rfl
theorem pf_putRO {z ci k : Nat} {o : Option Nat} {v : Option Nat} {T : Nat → am_S → Option O} (hat : am_at cd pc = some (pc, .putfield z, len, x)) (hp : pc + 3 = p) (h1 : x % 10 = 2) (h2 : x / 1000 = ci) (h3 : x / 10 % 100 = k) (h : ∀ a s2, am_nx E sc cd cu n kc kr (p, ls, r, s2) = T a s2) : am_ev E sc cd cu (n + 1) (pc, ls, am_R v :: am_R o :: r, s) kc kr = o.bind fun a => (am_pf s a ci k (am_R v)).bind (T a) := by
  subst hp h2 h3
  rw [am_ev_at hat, ← (funext fun a => funext (h a) : (fun _ s2 => _) = T)]
  show am_x_putfield x pc ls (am_R v :: am_R o :: r) s _ = _
  unfold am_x_putfield
  dsimp only
  rw [h1]
  rfl
theorem pf_new {z : Nat} (hat : am_at cd pc = some (pc, .new z, len, x)) (hp : pc + 3 = p) (h : am_nx E sc cd cu n kc kr (p, ls, am_R (some s.2.1) :: r, am_al s (.inr (x, am_dfs.getD x [])) (am_dfs.getD x []).length) = T) : am_ev E sc cd cu (n + 1) (pc, ls, r, s) kc kr = T := by
  subst hp
  rw [am_ev_at hat]
  exact h
theorem pf_newa {z : ArrayType} {v : Int32} {T : Nat × am_S → Option O} (hat : am_at cd pc = some (pc, .newarray z, len, x)) (hp : pc + 2 = p) (h : ∀ q : Nat × am_S, am_nx E sc cd cu n kc kr (p, ls, am_R (some q.1) :: r, q.2) = T q) : am_ev E sc cd cu (n + 1) (pc, ls, am_I v :: r, s) kc kr = (am_nwA s x v).bind T := by
  subst hp
  rw [am_ev_at hat]
  obtain rfl := (funext h : (fun _ => _) = T)
  rfl
theorem pf_anewa {z : Nat} {v : Int32} {T : Nat × am_S → Option O} (hat : am_at cd pc = some (pc, .anewarray z, len, x)) (hp : pc + 3 = p) (h : ∀ q : Nat × am_S, am_nx E sc cd cu n kc kr (p, ls, am_R (some q.1) :: r, q.2) = T q) : am_ev E sc cd cu (n + 1) (pc, ls, am_I v :: r, s) kc kr = (am_nwA s x v).bind T := by
  subst hp
  rw [am_ev_at hat]
  obtain rfl := (funext h : (fun _ => _) = T)
  rfl
theorem pf_len {a : Nat} {T : Nat → Option O} (hat : am_at cd pc = some (pc, .arraylength, len, x)) (hp : pc + 1 = p) (h : ∀ m, am_nx E sc cd cu n kc kr (p, ls, am_I (Int32.ofNat m) :: r, s) = T m) : am_ev E sc cd cu (n + 1) (pc, ls, am_R (some a) :: r, s) kc kr = (am_len s a).bind T := by
  subst hp
  rw [am_ev_at hat]
  obtain rfl := (funext h : (fun _ => _) = T)
  rfl
theorem pf_lenO {o : Option Nat} {T : Nat → Nat → Option O} (hat : am_at cd pc = some (pc, .arraylength, len, x)) (hp : pc + 1 = p) (h : ∀ a m, am_nx E sc cd cu n kc kr (p, ls, am_I (Int32.ofNat m) :: r, s) = T a m) : am_ev E sc cd cu (n + 1) (pc, ls, am_R o :: r, s) kc kr = o.bind fun a => (am_len s a).bind (T a) := by
  subst hp
  rw [am_ev_at hat]
  obtain rfl := (funext fun a => funext (h a) : (fun _ _ => _) = T)
  rfl
theorem pf_len0 (hat : am_at cd pc = some (pc, .arraylength, len, x)) (hp : pc + 1 = p) (h : am_nx E sc cd cu n kc kr (p, ls, am_I (Int32.ofNat sc.1) :: r, s) = T) : am_ev E sc cd cu (n + 1) (pc, ls, am_O 0 :: r, s) kc kr = T := by
  subst hp
  rw [am_ev_at hat]
  exact h
theorem pf_len2 (hat : am_at cd pc = some (pc, .arraylength, len, x)) (hp : pc + 1 = p) (h : am_nx E sc cd cu n kc kr (p, ls, am_I (Int32.ofNat am_wls.length) :: r, s) = T) : am_ev E sc cd cu (n + 1) (pc, ls, am_O 2 :: r, s) kc kr = T := by
  subst hp
  rw [am_ev_at hat]
  exact h
theorem pf_iaload {a : Nat} {i : Int32} {T : Int32 → Option O} (hat : am_at cd pc = some (pc, .iaload, len, x)) (hp : pc + 1 = p) (h : ∀ v, am_nx E sc cd cu n kc kr (p, ls, am_I v :: r, s) = T v) : am_ev E sc cd cu (n + 1) (pc, ls, am_I i :: am_R (some a) :: r, s) kc kr = (am_eI s a 0 i).bind T := by
  subst hp
  rw [am_ev_at hat]
  obtain rfl := (funext h : (fun _ => _) = T)
  rfl
theorem pf_ialoadO {o : Option Nat} {i : Int32} {T : Nat → Int32 → Option O} (hat : am_at cd pc = some (pc, .iaload, len, x)) (hp : pc + 1 = p) (h : ∀ a v, am_nx E sc cd cu n kc kr (p, ls, am_I v :: r, s) = T a v) : am_ev E sc cd cu (n + 1) (pc, ls, am_I i :: am_R o :: r, s) kc kr = o.bind fun a => (am_eI s a 0 i).bind (T a) := by
  subst hp
  rw [am_ev_at hat]
  obtain rfl := (funext fun a => funext (h a) : (fun _ _ => _) = T)
  rfl
theorem pf_baload {a : Nat} {i : Int32} {T : Int32 → Option O} (hat : am_at cd pc = some (pc, .baload, len, x)) (hp : pc + 1 = p) (h : ∀ v, am_nx E sc cd cu n kc kr (p, ls, am_I v :: r, s) = T v) : am_ev E sc cd cu (n + 1) (pc, ls, am_I i :: am_R (some a) :: r, s) kc kr = (am_eI s a 1 i).bind T := by
  subst hp
  rw [am_ev_at hat]
  obtain rfl := (funext h : (fun _ => _) = T)
  rfl
theorem pf_baloadO {o : Option Nat} {i : Int32} {T : Nat → Int32 → Option O} (hat : am_at cd pc = some (pc, .baload, len, x)) (hp : pc + 1 = p) (h : ∀ a v, am_nx E sc cd cu n kc kr (p, ls, am_I v :: r, s) = T a v) : am_ev E sc cd cu (n + 1) (pc, ls, am_I i :: am_R o :: r, s) kc kr = o.bind fun a => (am_eI s a 1 i).bind (T a) := by
  subst hp
  rw [am_ev_at hat]
  obtain rfl := (funext fun a => funext (h a) : (fun _ _ => _) = T)
  rfl
theorem pf_laload {a : Nat} {i : Int32} {T : Int64 → Option O} (hat : am_at cd pc = some (pc, .laload, len, x)) (hp : pc + 1 = p) (h : ∀ v, am_nx E sc cd cu n kc kr (p, ls, am_L v :: r, s) = T v) : am_ev E sc cd cu (n + 1) (pc, ls, am_I i :: am_R (some a) :: r, s) kc kr = (am_eL s a i).bind T := by
  subst hp
  rw [am_ev_at hat]
  obtain rfl := (funext h : (fun _ => _) = T)
  rfl
theorem pf_laloadO {o : Option Nat} {i : Int32} {T : Nat → Int64 → Option O} (hat : am_at cd pc = some (pc, .laload, len, x)) (hp : pc + 1 = p) (h : ∀ a v, am_nx E sc cd cu n kc kr (p, ls, am_L v :: r, s) = T a v) : am_ev E sc cd cu (n + 1) (pc, ls, am_I i :: am_R o :: r, s) kc kr = o.bind fun a => (am_eL s a i).bind (T a) := by
  subst hp
  rw [am_ev_at hat]
  obtain rfl := (funext fun a => funext (h a) : (fun _ _ => _) = T)
  rfl
theorem pf_aaload {a : Nat} {i : Int32} {T : Option Nat → Option O} (hat : am_at cd pc = some (pc, .aaload, len, x)) (hp : pc + 1 = p) (h : ∀ v, am_nx E sc cd cu n kc kr (p, ls, am_R v :: r, s) = T v) : am_ev E sc cd cu (n + 1) (pc, ls, am_I i :: am_R (some a) :: r, s) kc kr = (am_eR s a i).bind T := by
  subst hp
  rw [am_ev_at hat]
  obtain rfl := (funext h : (fun _ => _) = T)
  rfl
theorem pf_aaloadO {o : Option Nat} {i : Int32} {T : Nat → Option Nat → Option O} (hat : am_at cd pc = some (pc, .aaload, len, x)) (hp : pc + 1 = p) (h : ∀ a v, am_nx E sc cd cu n kc kr (p, ls, am_R v :: r, s) = T a v) : am_ev E sc cd cu (n + 1) (pc, ls, am_I i :: am_R o :: r, s) kc kr = o.bind fun a => (am_eR s a i).bind (T a) := by
  subst hp
  rw [am_ev_at hat]
  obtain rfl := (funext fun a => funext (h a) : (fun _ _ => _) = T)
  rfl
theorem pf_iaload0 {i : Int32} (hat : am_at cd pc = some (pc, .iaload, len, x)) (hp : pc + 1 = p) (h : am_nx E sc cd cu n kc kr (p, ls, am_I (sc.2 i.toNatClampNeg) :: r, s) = T) : am_ev E sc cd cu (n + 1) (pc, ls, am_I i :: am_O 0 :: r, s) kc kr = if i < 0 ∨ sc.1 ≤ i.toNatClampNeg then none else T := by
  subst hp
  rw [am_ev_at hat, ← h]
  rfl
theorem pf_baload2 {i : Int32} (hat : am_at cd pc = some (pc, .baload, len, x)) (hp : pc + 1 = p) (h : am_nx E sc cd cu n kc kr (p, ls, am_I (am_wls.getD i.toNatClampNeg 0) :: r, s) = T) : am_ev E sc cd cu (n + 1) (pc, ls, am_I i :: am_O 2 :: r, s) kc kr = if i < 0 ∨ am_wls.length ≤ i.toNatClampNeg then none else T := by
  subst hp
  rw [am_ev_at hat, ← h]
  rfl
theorem pf_iastore {a : Nat} {i : Int32} {v : Int32} {T : am_S → Option O} (hat : am_at cd pc = some (pc, .iastore, len, x)) (hp : pc + 1 = p) (h : ∀ s2, am_nx E sc cd cu n kc kr (p, ls, r, s2) = T s2) : am_ev E sc cd cu (n + 1) (pc, ls, am_I v :: am_I i :: am_R (some a) :: r, s) kc kr = (am_tI s a i v).bind T := by
  subst hp
  rw [am_ev_at hat]
  obtain rfl := (funext h : (fun _ => _) = T)
  rfl
theorem pf_iastoreO {o : Option Nat} {i : Int32} {v : Int32} {T : Nat → am_S → Option O} (hat : am_at cd pc = some (pc, .iastore, len, x)) (hp : pc + 1 = p) (h : ∀ a s2, am_nx E sc cd cu n kc kr (p, ls, r, s2) = T a s2) : am_ev E sc cd cu (n + 1) (pc, ls, am_I v :: am_I i :: am_R o :: r, s) kc kr = o.bind fun a => (am_tI s a i v).bind (T a) := by
  subst hp
  rw [am_ev_at hat]
  obtain rfl := (funext fun a => funext (h a) : (fun _ _ => _) = T)
  rfl
theorem pf_bastore {a : Nat} {i : Int32} {v : Int32} {T : am_S → Option O} (hat : am_at cd pc = some (pc, .bastore, len, x)) (hp : pc + 1 = p) (h : ∀ s2, am_nx E sc cd cu n kc kr (p, ls, r, s2) = T s2) : am_ev E sc cd cu (n + 1) (pc, ls, am_I v :: am_I i :: am_R (some a) :: r, s) kc kr = (am_tB s a i v).bind T := by
  subst hp
  rw [am_ev_at hat]
  obtain rfl := (funext h : (fun _ => _) = T)
  rfl
theorem pf_bastoreO {o : Option Nat} {i : Int32} {v : Int32} {T : Nat → am_S → Option O} (hat : am_at cd pc = some (pc, .bastore, len, x)) (hp : pc + 1 = p) (h : ∀ a s2, am_nx E sc cd cu n kc kr (p, ls, r, s2) = T a s2) : am_ev E sc cd cu (n + 1) (pc, ls, am_I v :: am_I i :: am_R o :: r, s) kc kr = o.bind fun a => (am_tB s a i v).bind (T a) := by
  subst hp
  rw [am_ev_at hat]
  obtain rfl := (funext fun a => funext (h a) : (fun _ _ => _) = T)
  rfl
theorem pf_lastore {a : Nat} {i : Int32} {v : Int64} {T : am_S → Option O} (hat : am_at cd pc = some (pc, .lastore, len, x)) (hp : pc + 1 = p) (h : ∀ s2, am_nx E sc cd cu n kc kr (p, ls, r, s2) = T s2) : am_ev E sc cd cu (n + 1) (pc, ls, am_L v :: am_I i :: am_R (some a) :: r, s) kc kr = (am_tL s a i v).bind T := by
  subst hp
  rw [am_ev_at hat]
  obtain rfl := (funext h : (fun _ => _) = T)
  rfl
theorem pf_lastoreO {o : Option Nat} {i : Int32} {v : Int64} {T : Nat → am_S → Option O} (hat : am_at cd pc = some (pc, .lastore, len, x)) (hp : pc + 1 = p) (h : ∀ a s2, am_nx E sc cd cu n kc kr (p, ls, r, s2) = T a s2) : am_ev E sc cd cu (n + 1) (pc, ls, am_L v :: am_I i :: am_R o :: r, s) kc kr = o.bind fun a => (am_tL s a i v).bind (T a) := by
  subst hp
  rw [am_ev_at hat]
  obtain rfl := (funext fun a => funext (h a) : (fun _ _ => _) = T)
  rfl
theorem pf_aastoreOS {o : Option Nat} {b : Nat} {i : Int32} {T : Nat → am_S → Option O} (hat : am_at cd pc = some (pc, .aastore, len, x)) (hp : pc + 1 = p) (h : ∀ a s2, am_nx E sc cd cu n kc kr (p, ls, r, s2) = T a s2) : am_ev E sc cd cu (n + 1) (pc, ls, am_R (some b) :: am_I i :: am_R o :: r, s) kc kr = o.bind fun a => (am_tR s a i b).bind (T a) := by
  subst hp
  rw [am_ev_at hat]
  obtain rfl := (funext fun a => funext (h a) : (fun _ _ => _) = T)
  rfl
theorem pf_aastoreOO {o v : Option Nat} {i : Int32} {T : Nat → Nat → am_S → Option O} (hat : am_at cd pc = some (pc, .aastore, len, x)) (hp : pc + 1 = p) (h : ∀ a b s2, am_nx E sc cd cu n kc kr (p, ls, r, s2) = T a b s2) : am_ev E sc cd cu (n + 1) (pc, ls, am_R v :: am_I i :: am_R o :: r, s) kc kr = o.bind fun a => v.bind fun b => (am_tR s a i b).bind (T a b) := by
  subst hp
  rw [am_ev_at hat]
  obtain rfl := (funext fun a => funext fun b => funext (h a b) : (fun _ _ _ => _) = T)
  rfl
theorem pf_acopy {z : Nat} {o d : Option Nat} {sp dp m : Int32} {T : Nat → Nat → am_S → Option O} (hat : am_at cd pc = some (pc, .invokestatic z, len, 998)) (hc : Nat.ble (am_cat r) 8 = true) (hp : pc + 3 = p) (h : ∀ a0 a s2, am_nx E sc cd cu n kc kr (p, ls, r, s2) = T a0 a s2) : am_ev E sc cd cu (n + 1) (pc, ls, am_I m :: am_I dp :: am_R d :: am_I sp :: am_R o :: r, s) kc kr = o.bind fun a0 => d.bind fun a => (am_cp s a0 sp a dp m).bind (T a0 a) := by
  subst hp
  rw [am_ev_at hat]
  show am_x_invokestatic E 998 pc ls (am_I m :: am_I dp :: am_R d :: am_I sp :: am_R o :: r) s _ = _
  unfold am_x_invokestatic
  rw [show Nat.beq 998 998 = true from rfl]
  dsimp only [cond_true]
  rw [hc]
  obtain rfl := (funext fun a => funext fun b => funext (h a b) : (fun _ _ _ => _) = T)
  rfl
theorem pf_acopyS {z a : Nat} {o : Option Nat} {sp dp m : Int32} {T : Nat → am_S → Option O} (hat : am_at cd pc = some (pc, .invokestatic z, len, 998)) (hc : Nat.ble (am_cat r) 8 = true) (hp : pc + 3 = p) (h : ∀ a0 s2, am_nx E sc cd cu n kc kr (p, ls, r, s2) = T a0 s2) : am_ev E sc cd cu (n + 1) (pc, ls, am_I m :: am_I dp :: am_R (some a) :: am_I sp :: am_R o :: r, s) kc kr = o.bind fun a0 => (am_cp s a0 sp a dp m).bind (T a0) := by
  subst hp
  rw [am_ev_at hat]
  show am_x_invokestatic E 998 pc ls (am_I m :: am_I dp :: am_R (some a) :: am_I sp :: am_R o :: r) s _ = _
  unfold am_x_invokestatic
  rw [show Nat.beq 998 998 = true from rfl]
  dsimp only [cond_true]
  rw [hc]
  obtain rfl := (funext fun a => funext (h a) : (fun _ _ => _) = T)
  rfl
theorem pf_m991 {z : Nat} {a : Int32} (hat : am_at cd pc = some (pc, .invokestatic z, len, 991)) (hc : Nat.ble (am_cat r) 8 = true) (hp : pc + 3 = p) (h : am_nx E sc cd cu n kc kr (p, ls, am_I (am_absI a) :: r, s) = T) : am_ev E sc cd cu (n + 1) (pc, ls, am_I a :: r, s) kc kr = T := by
  subst hp
  rw [am_ev_at hat]
  show am_x_invokestatic E 991 pc ls (am_I a :: r) s _ = _
  unfold am_x_invokestatic
  rw [show Nat.beq 991 998 = false from rfl, show (Nat.blt 990 991 && Nat.blt 991 995) = true from rfl]
  dsimp only [cond_true, cond_false]
  unfold am_x_math
  dsimp only
  rw [hc]
  exact h
theorem pf_m992 {z : Nat} {a : Int64} (hat : am_at cd pc = some (pc, .invokestatic z, len, 992)) (hc : Nat.ble (am_cat r) 8 = true) (hp : pc + 3 = p) (h : am_nx E sc cd cu n kc kr (p, ls, am_L (am_absL a) :: r, s) = T) : am_ev E sc cd cu (n + 1) (pc, ls, am_L a :: r, s) kc kr = T := by
  subst hp
  rw [am_ev_at hat]
  show am_x_invokestatic E 992 pc ls (am_L a :: r) s _ = _
  unfold am_x_invokestatic
  rw [show Nat.beq 992 998 = false from rfl, show (Nat.blt 990 992 && Nat.blt 992 995) = true from rfl]
  dsimp only [cond_true, cond_false]
  unfold am_x_math
  dsimp only
  rw [hc]
  exact h
theorem pf_m993 {z : Nat} {a b : Int32} (hat : am_at cd pc = some (pc, .invokestatic z, len, 993)) (hc : Nat.ble (am_cat r) 8 = true) (hp : pc + 3 = p) (h : am_nx E sc cd cu n kc kr (p, ls, am_I (am_maxI a b) :: r, s) = T) : am_ev E sc cd cu (n + 1) (pc, ls, am_I b :: am_I a :: r, s) kc kr = T := by
  subst hp
  rw [am_ev_at hat]
  show am_x_invokestatic E 993 pc ls (am_I b :: am_I a :: r) s _ = _
  unfold am_x_invokestatic
  rw [show Nat.beq 993 998 = false from rfl, show (Nat.blt 990 993 && Nat.blt 993 995) = true from rfl]
  dsimp only [cond_true, cond_false]
  unfold am_x_math
  dsimp only
  rw [hc]
  exact h
theorem pf_m994 {z : Nat} {a b : Int32} (hat : am_at cd pc = some (pc, .invokestatic z, len, 994)) (hc : Nat.ble (am_cat r) 8 = true) (hp : pc + 3 = p) (h : am_nx E sc cd cu n kc kr (p, ls, am_I (am_minI a b) :: r, s) = T) : am_ev E sc cd cu (n + 1) (pc, ls, am_I b :: am_I a :: r, s) kc kr = T := by
  subst hp
  rw [am_ev_at hat]
  show am_x_invokestatic E 994 pc ls (am_I b :: am_I a :: r) s _ = _
  unfold am_x_invokestatic
  rw [show Nat.beq 994 998 = false from rfl, show (Nat.blt 990 994 && Nat.blt 994 995) = true from rfl]
  dsimp only [cond_true, cond_false]
  unfold am_x_math
  dsimp only
  rw [hc]
  exact h
theorem pf_objI {z a : Nat} (hat : am_at cd pc = some (pc, .invokespecial z, len, 999)) (hc : Nat.ble (am_cat r) 8 = true) (hp : pc + 3 = p) (h : am_nx E sc cd cu n kc kr (p, ls, r, s) = T) : am_ev E sc cd cu (n + 1) (pc, ls, am_R (some a) :: r, s) kc kr = T := by
  subst hp
  rw [am_ev_at hat]
  show am_x_invokespecial E 999 pc ls (am_R (some a) :: r) s _ = _
  unfold am_x_invokespecial
  rw [show Nat.beq 999 999 = true from rfl]
  dsimp only [cond_true]
  rw [hc]
  exact h
theorem am_spl_ap {k : List am_V → List am_V → Option O} : ∀ (as st acc : List am_V), am_spl as.length (as ++ st) acc k = k (as.reverse ++ acc) st
  | [], st, acc => rfl
  | v :: as, st, acc => by
    show am_spl as.length (as ++ st) (v :: acc) k = _
    rw [am_spl_ap as st (v :: acc)]
    simp
theorem pf_cS0 {z c : Nat} {stk as2 : List am_V} {T : am_S → Option O} {G : Nat → List am_V → am_S → Option am_Y} (hat : am_at cd pc = some (pc, .invokestatic z, len, x)) (hn : Nat.beq x 998 = false) (hn2 : (Nat.blt 990 x && Nat.blt x 995) = false) (hx2 : x / 32 % 8 = 0) (hx1 : x / 4096 = c) (hsp : ∀ k : List am_V → List am_V → Option O, am_spl (x / 256 % 16) stk [] k = k as2 r) (hc : Nat.ble (am_cat r) 8 = true) (hE : E c as2 s = G c as2 s) (hp : pc + 3 = p) (h : ∀ q : am_S, am_nx E sc cd cu n kc kr (p, ls, r, q) = T q) : am_ev E sc cd cu (n + 1) (pc, ls, stk, s) kc kr = (am_rV (G c as2 s)).bind T := by
  subst hp hx1
  rw [am_ev_at hat]
  show am_x_invokestatic E x pc ls stk s _ = _
  unfold am_x_invokestatic am_cl
  rw [hn, hn2, hsp, hc, hx2, hE]
  obtain rfl := (funext h : (fun _ => _) = T)
  rfl
theorem pf_cV0 {z c a : Nat} {stk as2 : List am_V} {T : am_S → Option O} {G : Nat → List am_V → am_S → Option am_Y} (hat : am_at cd pc = some (pc, .invokevirtual z, len, x)) (hx2 : x / 32 % 8 = 0) (hx1 : x / 4096 = c) (hsp : ∀ k : List am_V → List am_V → Option O, am_spl (x / 256 % 16) stk [] k = k (am_R (some a) :: as2) r) (hc : Nat.ble (am_cat r) 8 = true) (hr : Nat.beq (x % 32) 31 = true) (hE : E c (am_R (some a) :: as2) s = G c (am_R (some a) :: as2) s) (hp : pc + 3 = p) (h : ∀ q : am_S, am_nx E sc cd cu n kc kr (p, ls, r, q) = T q) : am_ev E sc cd cu (n + 1) (pc, ls, stk, s) kc kr = (am_rV (G c (am_R (some a) :: as2) s)).bind T := by
  subst hp hx1
  rw [am_ev_at hat]
  show am_x_invokevirtual E x pc ls stk s _ = _
  unfold am_x_invokevirtual am_cl
  rw [hsp, hc, hx2]
  dsimp only [cond_true, cond_false, Option.bind_some]
  rw [hr, Bool.true_or, hE]
  obtain rfl := (funext h : (fun _ => _) = T)
  rfl
theorem pf_cW0 {z c a ci : Nat} {stk as2 : List am_V} {T : am_S → Option O} {G : Nat → List am_V → am_S → Option am_Y} (hat : am_at cd pc = some (pc, .invokevirtual z, len, x)) (hx2 : x / 32 % 8 = 0) (hx1 : x / 4096 = c) (hx3 : x % 32 = ci) (hsp : ∀ k : List am_V → List am_V → Option O, am_spl (x / 256 % 16) stk [] k = k (am_R (some a) :: as2) r) (hc : Nat.ble (am_cat r) 8 = true) (hr : Nat.beq (x % 32) 31 = false) (hE : E c (am_R (some a) :: as2) s = G c (am_R (some a) :: as2) s) (hp : pc + 3 = p) (h : ∀ q : am_S, am_nx E sc cd cu n kc kr (p, ls, r, q) = T q) : am_ev E sc cd cu (n + 1) (pc, ls, stk, s) kc kr = bif am_is s a ci then (am_rV (G c (am_R (some a) :: as2) s)).bind T else none := by
  subst hp hx1 hx3
  rw [am_ev_at hat]
  show am_x_invokevirtual E x pc ls stk s _ = _
  unfold am_x_invokevirtual am_cl
  rw [hsp, hc, hx2]
  dsimp only [cond_true, cond_false, Option.bind_some]
  rw [hr, Bool.false_or, hE]
  rw [← (funext h : (fun q => _) = T)]
  rfl
theorem pf_cO0 {z c ci : Nat} {o : Option Nat} {stk as2 : List am_V} {T : Nat → am_S → Option O} {G : Nat → List am_V → am_S → Option am_Y} (hat : am_at cd pc = some (pc, .invokevirtual z, len, x)) (hx2 : x / 32 % 8 = 0) (hx1 : x / 4096 = c) (hx3 : x % 32 = ci) (hsp : ∀ k : List am_V → List am_V → Option O, am_spl (x / 256 % 16) stk [] k = k (am_R o :: as2) r) (hc : Nat.ble (am_cat r) 8 = true) (hr : Nat.beq (x % 32) 31 = false) (hE : ∀ a, E c (am_R (some a) :: as2) s = G c (am_R (some a) :: as2) s) (hp : pc + 3 = p) (h : ∀ (a : Nat) (q : am_S), am_nx E sc cd cu n kc kr (p, ls, r, q) = T a q) : am_ev E sc cd cu (n + 1) (pc, ls, stk, s) kc kr = o.bind fun a => bif am_is s a ci then (am_rV (G c (am_R (some a) :: as2) s)).bind (T a) else none := by
  subst hp hx1 hx3
  rw [am_ev_at hat]
  show am_x_invokevirtual E x pc ls stk s _ = _
  unfold am_x_invokevirtual am_cl
  rw [hsp, hc, hx2]
  dsimp only [cond_true, cond_false]
  refine congrArg _ (funext fun a => ?_)
  rw [hr, Bool.false_or, hE]
  rw [← (funext (h a) : (fun q => _) = T a)]
  rfl
theorem pf_cT0 {z c : Nat} {stk as2 : List am_V} {T : am_S → Option O} {G : Nat → List am_V → am_S → Option am_Y} (hat : am_at cd pc = some (pc, .invokevirtual z, len, x)) (hx2 : x / 32 % 8 = 0) (hx1 : x / 4096 = c) (hx3 : x % 32 = 30) (hsp : ∀ k : List am_V → List am_V → Option O, am_spl (x / 256 % 16) stk [] k = k (am_O 1 :: as2) r) (hc : Nat.ble (am_cat r) 8 = true) (hE : E c (am_O 1 :: as2) s = G c (am_O 1 :: as2) s) (hp : pc + 3 = p) (h : ∀ q : am_S, am_nx E sc cd cu n kc kr (p, ls, r, q) = T q) : am_ev E sc cd cu (n + 1) (pc, ls, stk, s) kc kr = (am_rV (G c (am_O 1 :: as2) s)).bind T := by
  subst hp hx1
  rw [am_ev_at hat]
  show am_x_invokevirtual E x pc ls stk s _ = _
  unfold am_x_invokevirtual am_cl
  rw [hsp, hc, hx2]
  dsimp only [cond_true, cond_false]
  rw [hx3, hE]
  obtain rfl := (funext h : (fun _ => _) = T)
  rfl
theorem pf_cI0 {z c a : Nat} {stk as2 : List am_V} {T : am_S → Option O} {G : Nat → List am_V → am_S → Option am_Y} (hat : am_at cd pc = some (pc, .invokespecial z, len, x)) (hn : Nat.beq x 999 = false) (hx2 : x / 32 % 8 = 0) (hx1 : x / 4096 = c) (hsp : ∀ k : List am_V → List am_V → Option O, am_spl (x / 256 % 16) stk [] k = k (am_R (some a) :: as2) r) (hc : Nat.ble (am_cat r) 8 = true) (hr : Nat.beq (x % 32) 31 = true) (hE : E c (am_R (some a) :: as2) s = G c (am_R (some a) :: as2) s) (hp : pc + 3 = p) (h : ∀ q : am_S, am_nx E sc cd cu n kc kr (p, ls, r, q) = T q) : am_ev E sc cd cu (n + 1) (pc, ls, stk, s) kc kr = (am_rV (G c (am_R (some a) :: as2) s)).bind T := by
  subst hp hx1
  rw [am_ev_at hat]
  show am_x_invokespecial E x pc ls stk s _ = _
  unfold am_x_invokespecial am_cl
  rw [hn, hsp, hc, hx2]
  dsimp only [cond_true, cond_false, Option.bind_some]
  rw [hr, Bool.true_or, hE]
  obtain rfl := (funext h : (fun _ => _) = T)
  rfl
theorem pf_cS1 {z c : Nat} {stk as2 : List am_V} {T : Int32 × am_S → Option O} {G : Nat → List am_V → am_S → Option am_Y} (hat : am_at cd pc = some (pc, .invokestatic z, len, x)) (hn : Nat.beq x 998 = false) (hn2 : (Nat.blt 990 x && Nat.blt x 995) = false) (hx2 : x / 32 % 8 = 1) (hx1 : x / 4096 = c) (hsp : ∀ k : List am_V → List am_V → Option O, am_spl (x / 256 % 16) stk [] k = k as2 r) (hc : Nat.ble (am_cat r) 8 = true) (hE : E c as2 s = G c as2 s) (hp : pc + 3 = p) (h : ∀ q : Int32 × am_S, am_nx E sc cd cu n kc kr (p, ls, am_I q.1 :: r, q.2) = T q) : am_ev E sc cd cu (n + 1) (pc, ls, stk, s) kc kr = (am_rI (G c as2 s)).bind T := by
  subst hp hx1
  rw [am_ev_at hat]
  show am_x_invokestatic E x pc ls stk s _ = _
  unfold am_x_invokestatic am_cl
  rw [hn, hn2, hsp, hc, hx2, hE]
  obtain rfl := (funext h : (fun _ => _) = T)
  rfl
theorem pf_cV1 {z c a : Nat} {stk as2 : List am_V} {T : Int32 × am_S → Option O} {G : Nat → List am_V → am_S → Option am_Y} (hat : am_at cd pc = some (pc, .invokevirtual z, len, x)) (hx2 : x / 32 % 8 = 1) (hx1 : x / 4096 = c) (hsp : ∀ k : List am_V → List am_V → Option O, am_spl (x / 256 % 16) stk [] k = k (am_R (some a) :: as2) r) (hc : Nat.ble (am_cat r) 8 = true) (hr : Nat.beq (x % 32) 31 = true) (hE : E c (am_R (some a) :: as2) s = G c (am_R (some a) :: as2) s) (hp : pc + 3 = p) (h : ∀ q : Int32 × am_S, am_nx E sc cd cu n kc kr (p, ls, am_I q.1 :: r, q.2) = T q) : am_ev E sc cd cu (n + 1) (pc, ls, stk, s) kc kr = (am_rI (G c (am_R (some a) :: as2) s)).bind T := by
  subst hp hx1
  rw [am_ev_at hat]
  show am_x_invokevirtual E x pc ls stk s _ = _
  unfold am_x_invokevirtual am_cl
  rw [hsp, hc, hx2]
  dsimp only [cond_true, cond_false, Option.bind_some]
  rw [hr, Bool.true_or, hE]
  obtain rfl := (funext h : (fun _ => _) = T)
  rfl
theorem pf_cW1 {z c a ci : Nat} {stk as2 : List am_V} {T : Int32 × am_S → Option O} {G : Nat → List am_V → am_S → Option am_Y} (hat : am_at cd pc = some (pc, .invokevirtual z, len, x)) (hx2 : x / 32 % 8 = 1) (hx1 : x / 4096 = c) (hx3 : x % 32 = ci) (hsp : ∀ k : List am_V → List am_V → Option O, am_spl (x / 256 % 16) stk [] k = k (am_R (some a) :: as2) r) (hc : Nat.ble (am_cat r) 8 = true) (hr : Nat.beq (x % 32) 31 = false) (hE : E c (am_R (some a) :: as2) s = G c (am_R (some a) :: as2) s) (hp : pc + 3 = p) (h : ∀ q : Int32 × am_S, am_nx E sc cd cu n kc kr (p, ls, am_I q.1 :: r, q.2) = T q) : am_ev E sc cd cu (n + 1) (pc, ls, stk, s) kc kr = bif am_is s a ci then (am_rI (G c (am_R (some a) :: as2) s)).bind T else none := by
  subst hp hx1 hx3
  rw [am_ev_at hat]
  show am_x_invokevirtual E x pc ls stk s _ = _
  unfold am_x_invokevirtual am_cl
  rw [hsp, hc, hx2]
  dsimp only [cond_true, cond_false, Option.bind_some]
  rw [hr, Bool.false_or, hE]
  rw [← (funext h : (fun q => _) = T)]
  rfl
theorem pf_cO1 {z c ci : Nat} {o : Option Nat} {stk as2 : List am_V} {T : Nat → Int32 × am_S → Option O} {G : Nat → List am_V → am_S → Option am_Y} (hat : am_at cd pc = some (pc, .invokevirtual z, len, x)) (hx2 : x / 32 % 8 = 1) (hx1 : x / 4096 = c) (hx3 : x % 32 = ci) (hsp : ∀ k : List am_V → List am_V → Option O, am_spl (x / 256 % 16) stk [] k = k (am_R o :: as2) r) (hc : Nat.ble (am_cat r) 8 = true) (hr : Nat.beq (x % 32) 31 = false) (hE : ∀ a, E c (am_R (some a) :: as2) s = G c (am_R (some a) :: as2) s) (hp : pc + 3 = p) (h : ∀ (a : Nat) (q : Int32 × am_S), am_nx E sc cd cu n kc kr (p, ls, am_I q.1 :: r, q.2) = T a q) : am_ev E sc cd cu (n + 1) (pc, ls, stk, s) kc kr = o.bind fun a => bif am_is s a ci then (am_rI (G c (am_R (some a) :: as2) s)).bind (T a) else none := by
  subst hp hx1 hx3
  rw [am_ev_at hat]
  show am_x_invokevirtual E x pc ls stk s _ = _
  unfold am_x_invokevirtual am_cl
  rw [hsp, hc, hx2]
  dsimp only [cond_true, cond_false]
  refine congrArg _ (funext fun a => ?_)
  rw [hr, Bool.false_or, hE]
  rw [← (funext (h a) : (fun q => _) = T a)]
  rfl
theorem pf_cT1 {z c : Nat} {stk as2 : List am_V} {T : Int32 × am_S → Option O} {G : Nat → List am_V → am_S → Option am_Y} (hat : am_at cd pc = some (pc, .invokevirtual z, len, x)) (hx2 : x / 32 % 8 = 1) (hx1 : x / 4096 = c) (hx3 : x % 32 = 30) (hsp : ∀ k : List am_V → List am_V → Option O, am_spl (x / 256 % 16) stk [] k = k (am_O 1 :: as2) r) (hc : Nat.ble (am_cat r) 8 = true) (hE : E c (am_O 1 :: as2) s = G c (am_O 1 :: as2) s) (hp : pc + 3 = p) (h : ∀ q : Int32 × am_S, am_nx E sc cd cu n kc kr (p, ls, am_I q.1 :: r, q.2) = T q) : am_ev E sc cd cu (n + 1) (pc, ls, stk, s) kc kr = (am_rI (G c (am_O 1 :: as2) s)).bind T := by
  subst hp hx1
  rw [am_ev_at hat]
  show am_x_invokevirtual E x pc ls stk s _ = _
  unfold am_x_invokevirtual am_cl
  rw [hsp, hc, hx2]
  dsimp only [cond_true, cond_false]
  rw [hx3, hE]
  obtain rfl := (funext h : (fun _ => _) = T)
  rfl
theorem pf_cI1 {z c a : Nat} {stk as2 : List am_V} {T : Int32 × am_S → Option O} {G : Nat → List am_V → am_S → Option am_Y} (hat : am_at cd pc = some (pc, .invokespecial z, len, x)) (hn : Nat.beq x 999 = false) (hx2 : x / 32 % 8 = 1) (hx1 : x / 4096 = c) (hsp : ∀ k : List am_V → List am_V → Option O, am_spl (x / 256 % 16) stk [] k = k (am_R (some a) :: as2) r) (hc : Nat.ble (am_cat r) 8 = true) (hr : Nat.beq (x % 32) 31 = true) (hE : E c (am_R (some a) :: as2) s = G c (am_R (some a) :: as2) s) (hp : pc + 3 = p) (h : ∀ q : Int32 × am_S, am_nx E sc cd cu n kc kr (p, ls, am_I q.1 :: r, q.2) = T q) : am_ev E sc cd cu (n + 1) (pc, ls, stk, s) kc kr = (am_rI (G c (am_R (some a) :: as2) s)).bind T := by
  subst hp hx1
  rw [am_ev_at hat]
  show am_x_invokespecial E x pc ls stk s _ = _
  unfold am_x_invokespecial am_cl
  rw [hn, hsp, hc, hx2]
  dsimp only [cond_true, cond_false, Option.bind_some]
  rw [hr, Bool.true_or, hE]
  obtain rfl := (funext h : (fun _ => _) = T)
  rfl
theorem pf_cS2 {z c : Nat} {stk as2 : List am_V} {T : Int64 × am_S → Option O} {G : Nat → List am_V → am_S → Option am_Y} (hat : am_at cd pc = some (pc, .invokestatic z, len, x)) (hn : Nat.beq x 998 = false) (hn2 : (Nat.blt 990 x && Nat.blt x 995) = false) (hx2 : x / 32 % 8 = 2) (hx1 : x / 4096 = c) (hsp : ∀ k : List am_V → List am_V → Option O, am_spl (x / 256 % 16) stk [] k = k as2 r) (hc : Nat.ble (am_cat r) 8 = true) (hE : E c as2 s = G c as2 s) (hp : pc + 3 = p) (h : ∀ q : Int64 × am_S, am_nx E sc cd cu n kc kr (p, ls, am_L q.1 :: r, q.2) = T q) : am_ev E sc cd cu (n + 1) (pc, ls, stk, s) kc kr = (am_rL (G c as2 s)).bind T := by
  subst hp hx1
  rw [am_ev_at hat]
  show am_x_invokestatic E x pc ls stk s _ = _
  unfold am_x_invokestatic am_cl
  rw [hn, hn2, hsp, hc, hx2, hE]
  obtain rfl := (funext h : (fun _ => _) = T)
  rfl
theorem pf_cV2 {z c a : Nat} {stk as2 : List am_V} {T : Int64 × am_S → Option O} {G : Nat → List am_V → am_S → Option am_Y} (hat : am_at cd pc = some (pc, .invokevirtual z, len, x)) (hx2 : x / 32 % 8 = 2) (hx1 : x / 4096 = c) (hsp : ∀ k : List am_V → List am_V → Option O, am_spl (x / 256 % 16) stk [] k = k (am_R (some a) :: as2) r) (hc : Nat.ble (am_cat r) 8 = true) (hr : Nat.beq (x % 32) 31 = true) (hE : E c (am_R (some a) :: as2) s = G c (am_R (some a) :: as2) s) (hp : pc + 3 = p) (h : ∀ q : Int64 × am_S, am_nx E sc cd cu n kc kr (p, ls, am_L q.1 :: r, q.2) = T q) : am_ev E sc cd cu (n + 1) (pc, ls, stk, s) kc kr = (am_rL (G c (am_R (some a) :: as2) s)).bind T := by
  subst hp hx1
  rw [am_ev_at hat]
  show am_x_invokevirtual E x pc ls stk s _ = _
  unfold am_x_invokevirtual am_cl
  rw [hsp, hc, hx2]
  dsimp only [cond_true, cond_false, Option.bind_some]
  rw [hr, Bool.true_or, hE]
  obtain rfl := (funext h : (fun _ => _) = T)
  rfl
theorem pf_cW2 {z c a ci : Nat} {stk as2 : List am_V} {T : Int64 × am_S → Option O} {G : Nat → List am_V → am_S → Option am_Y} (hat : am_at cd pc = some (pc, .invokevirtual z, len, x)) (hx2 : x / 32 % 8 = 2) (hx1 : x / 4096 = c) (hx3 : x % 32 = ci) (hsp : ∀ k : List am_V → List am_V → Option O, am_spl (x / 256 % 16) stk [] k = k (am_R (some a) :: as2) r) (hc : Nat.ble (am_cat r) 8 = true) (hr : Nat.beq (x % 32) 31 = false) (hE : E c (am_R (some a) :: as2) s = G c (am_R (some a) :: as2) s) (hp : pc + 3 = p) (h : ∀ q : Int64 × am_S, am_nx E sc cd cu n kc kr (p, ls, am_L q.1 :: r, q.2) = T q) : am_ev E sc cd cu (n + 1) (pc, ls, stk, s) kc kr = bif am_is s a ci then (am_rL (G c (am_R (some a) :: as2) s)).bind T else none := by
  subst hp hx1 hx3
  rw [am_ev_at hat]
  show am_x_invokevirtual E x pc ls stk s _ = _
  unfold am_x_invokevirtual am_cl
  rw [hsp, hc, hx2]
  dsimp only [cond_true, cond_false, Option.bind_some]
  rw [hr, Bool.false_or, hE]
  rw [← (funext h : (fun q => _) = T)]
  rfl
theorem pf_cO2 {z c ci : Nat} {o : Option Nat} {stk as2 : List am_V} {T : Nat → Int64 × am_S → Option O} {G : Nat → List am_V → am_S → Option am_Y} (hat : am_at cd pc = some (pc, .invokevirtual z, len, x)) (hx2 : x / 32 % 8 = 2) (hx1 : x / 4096 = c) (hx3 : x % 32 = ci) (hsp : ∀ k : List am_V → List am_V → Option O, am_spl (x / 256 % 16) stk [] k = k (am_R o :: as2) r) (hc : Nat.ble (am_cat r) 8 = true) (hr : Nat.beq (x % 32) 31 = false) (hE : ∀ a, E c (am_R (some a) :: as2) s = G c (am_R (some a) :: as2) s) (hp : pc + 3 = p) (h : ∀ (a : Nat) (q : Int64 × am_S), am_nx E sc cd cu n kc kr (p, ls, am_L q.1 :: r, q.2) = T a q) : am_ev E sc cd cu (n + 1) (pc, ls, stk, s) kc kr = o.bind fun a => bif am_is s a ci then (am_rL (G c (am_R (some a) :: as2) s)).bind (T a) else none := by
  subst hp hx1 hx3
  rw [am_ev_at hat]
  show am_x_invokevirtual E x pc ls stk s _ = _
  unfold am_x_invokevirtual am_cl
  rw [hsp, hc, hx2]
  dsimp only [cond_true, cond_false]
  refine congrArg _ (funext fun a => ?_)
  rw [hr, Bool.false_or, hE]
  rw [← (funext (h a) : (fun q => _) = T a)]
  rfl
theorem pf_cT2 {z c : Nat} {stk as2 : List am_V} {T : Int64 × am_S → Option O} {G : Nat → List am_V → am_S → Option am_Y} (hat : am_at cd pc = some (pc, .invokevirtual z, len, x)) (hx2 : x / 32 % 8 = 2) (hx1 : x / 4096 = c) (hx3 : x % 32 = 30) (hsp : ∀ k : List am_V → List am_V → Option O, am_spl (x / 256 % 16) stk [] k = k (am_O 1 :: as2) r) (hc : Nat.ble (am_cat r) 8 = true) (hE : E c (am_O 1 :: as2) s = G c (am_O 1 :: as2) s) (hp : pc + 3 = p) (h : ∀ q : Int64 × am_S, am_nx E sc cd cu n kc kr (p, ls, am_L q.1 :: r, q.2) = T q) : am_ev E sc cd cu (n + 1) (pc, ls, stk, s) kc kr = (am_rL (G c (am_O 1 :: as2) s)).bind T := by
  subst hp hx1
  rw [am_ev_at hat]
  show am_x_invokevirtual E x pc ls stk s _ = _
  unfold am_x_invokevirtual am_cl
  rw [hsp, hc, hx2]
  dsimp only [cond_true, cond_false]
  rw [hx3, hE]
  obtain rfl := (funext h : (fun _ => _) = T)
  rfl
theorem pf_cI2 {z c a : Nat} {stk as2 : List am_V} {T : Int64 × am_S → Option O} {G : Nat → List am_V → am_S → Option am_Y} (hat : am_at cd pc = some (pc, .invokespecial z, len, x)) (hn : Nat.beq x 999 = false) (hx2 : x / 32 % 8 = 2) (hx1 : x / 4096 = c) (hsp : ∀ k : List am_V → List am_V → Option O, am_spl (x / 256 % 16) stk [] k = k (am_R (some a) :: as2) r) (hc : Nat.ble (am_cat r) 8 = true) (hr : Nat.beq (x % 32) 31 = true) (hE : E c (am_R (some a) :: as2) s = G c (am_R (some a) :: as2) s) (hp : pc + 3 = p) (h : ∀ q : Int64 × am_S, am_nx E sc cd cu n kc kr (p, ls, am_L q.1 :: r, q.2) = T q) : am_ev E sc cd cu (n + 1) (pc, ls, stk, s) kc kr = (am_rL (G c (am_R (some a) :: as2) s)).bind T := by
  subst hp hx1
  rw [am_ev_at hat]
  show am_x_invokespecial E x pc ls stk s _ = _
  unfold am_x_invokespecial am_cl
  rw [hn, hsp, hc, hx2]
  dsimp only [cond_true, cond_false, Option.bind_some]
  rw [hr, Bool.true_or, hE]
  obtain rfl := (funext h : (fun _ => _) = T)
  rfl
theorem pf_cS3 {z c : Nat} {stk as2 : List am_V} {T : Option Nat × am_S → Option O} {G : Nat → List am_V → am_S → Option am_Y} (hat : am_at cd pc = some (pc, .invokestatic z, len, x)) (hn : Nat.beq x 998 = false) (hn2 : (Nat.blt 990 x && Nat.blt x 995) = false) (hx2 : x / 32 % 8 = 3) (hx1 : x / 4096 = c) (hsp : ∀ k : List am_V → List am_V → Option O, am_spl (x / 256 % 16) stk [] k = k as2 r) (hc : Nat.ble (am_cat r) 8 = true) (hE : E c as2 s = G c as2 s) (hp : pc + 3 = p) (h : ∀ q : Option Nat × am_S, am_nx E sc cd cu n kc kr (p, ls, am_R q.1 :: r, q.2) = T q) : am_ev E sc cd cu (n + 1) (pc, ls, stk, s) kc kr = (am_rR (G c as2 s)).bind T := by
  subst hp hx1
  rw [am_ev_at hat]
  show am_x_invokestatic E x pc ls stk s _ = _
  unfold am_x_invokestatic am_cl
  rw [hn, hn2, hsp, hc, hx2, hE]
  obtain rfl := (funext h : (fun _ => _) = T)
  rfl
theorem pf_cV3 {z c a : Nat} {stk as2 : List am_V} {T : Option Nat × am_S → Option O} {G : Nat → List am_V → am_S → Option am_Y} (hat : am_at cd pc = some (pc, .invokevirtual z, len, x)) (hx2 : x / 32 % 8 = 3) (hx1 : x / 4096 = c) (hsp : ∀ k : List am_V → List am_V → Option O, am_spl (x / 256 % 16) stk [] k = k (am_R (some a) :: as2) r) (hc : Nat.ble (am_cat r) 8 = true) (hr : Nat.beq (x % 32) 31 = true) (hE : E c (am_R (some a) :: as2) s = G c (am_R (some a) :: as2) s) (hp : pc + 3 = p) (h : ∀ q : Option Nat × am_S, am_nx E sc cd cu n kc kr (p, ls, am_R q.1 :: r, q.2) = T q) : am_ev E sc cd cu (n + 1) (pc, ls, stk, s) kc kr = (am_rR (G c (am_R (some a) :: as2) s)).bind T := by
  subst hp hx1
  rw [am_ev_at hat]
  show am_x_invokevirtual E x pc ls stk s _ = _
  unfold am_x_invokevirtual am_cl
  rw [hsp, hc, hx2]
  dsimp only [cond_true, cond_false, Option.bind_some]
  rw [hr, Bool.true_or, hE]
  obtain rfl := (funext h : (fun _ => _) = T)
  rfl
theorem pf_cW3 {z c a ci : Nat} {stk as2 : List am_V} {T : Option Nat × am_S → Option O} {G : Nat → List am_V → am_S → Option am_Y} (hat : am_at cd pc = some (pc, .invokevirtual z, len, x)) (hx2 : x / 32 % 8 = 3) (hx1 : x / 4096 = c) (hx3 : x % 32 = ci) (hsp : ∀ k : List am_V → List am_V → Option O, am_spl (x / 256 % 16) stk [] k = k (am_R (some a) :: as2) r) (hc : Nat.ble (am_cat r) 8 = true) (hr : Nat.beq (x % 32) 31 = false) (hE : E c (am_R (some a) :: as2) s = G c (am_R (some a) :: as2) s) (hp : pc + 3 = p) (h : ∀ q : Option Nat × am_S, am_nx E sc cd cu n kc kr (p, ls, am_R q.1 :: r, q.2) = T q) : am_ev E sc cd cu (n + 1) (pc, ls, stk, s) kc kr = bif am_is s a ci then (am_rR (G c (am_R (some a) :: as2) s)).bind T else none := by
  subst hp hx1 hx3
  rw [am_ev_at hat]
  show am_x_invokevirtual E x pc ls stk s _ = _
  unfold am_x_invokevirtual am_cl
  rw [hsp, hc, hx2]
  dsimp only [cond_true, cond_false, Option.bind_some]
  rw [hr, Bool.false_or, hE]
  rw [← (funext h : (fun q => _) = T)]
  rfl
theorem pf_cO3 {z c ci : Nat} {o : Option Nat} {stk as2 : List am_V} {T : Nat → Option Nat × am_S → Option O} {G : Nat → List am_V → am_S → Option am_Y} (hat : am_at cd pc = some (pc, .invokevirtual z, len, x)) (hx2 : x / 32 % 8 = 3) (hx1 : x / 4096 = c) (hx3 : x % 32 = ci) (hsp : ∀ k : List am_V → List am_V → Option O, am_spl (x / 256 % 16) stk [] k = k (am_R o :: as2) r) (hc : Nat.ble (am_cat r) 8 = true) (hr : Nat.beq (x % 32) 31 = false) (hE : ∀ a, E c (am_R (some a) :: as2) s = G c (am_R (some a) :: as2) s) (hp : pc + 3 = p) (h : ∀ (a : Nat) (q : Option Nat × am_S), am_nx E sc cd cu n kc kr (p, ls, am_R q.1 :: r, q.2) = T a q) : am_ev E sc cd cu (n + 1) (pc, ls, stk, s) kc kr = o.bind fun a => bif am_is s a ci then (am_rR (G c (am_R (some a) :: as2) s)).bind (T a) else none := by
  subst hp hx1 hx3
  rw [am_ev_at hat]
  show am_x_invokevirtual E x pc ls stk s _ = _
  unfold am_x_invokevirtual am_cl
  rw [hsp, hc, hx2]
  dsimp only [cond_true, cond_false]
  refine congrArg _ (funext fun a => ?_)
  rw [hr, Bool.false_or, hE]
  rw [← (funext (h a) : (fun q => _) = T a)]
  rfl
theorem pf_cT3 {z c : Nat} {stk as2 : List am_V} {T : Option Nat × am_S → Option O} {G : Nat → List am_V → am_S → Option am_Y} (hat : am_at cd pc = some (pc, .invokevirtual z, len, x)) (hx2 : x / 32 % 8 = 3) (hx1 : x / 4096 = c) (hx3 : x % 32 = 30) (hsp : ∀ k : List am_V → List am_V → Option O, am_spl (x / 256 % 16) stk [] k = k (am_O 1 :: as2) r) (hc : Nat.ble (am_cat r) 8 = true) (hE : E c (am_O 1 :: as2) s = G c (am_O 1 :: as2) s) (hp : pc + 3 = p) (h : ∀ q : Option Nat × am_S, am_nx E sc cd cu n kc kr (p, ls, am_R q.1 :: r, q.2) = T q) : am_ev E sc cd cu (n + 1) (pc, ls, stk, s) kc kr = (am_rR (G c (am_O 1 :: as2) s)).bind T := by
  subst hp hx1
  rw [am_ev_at hat]
  show am_x_invokevirtual E x pc ls stk s _ = _
  unfold am_x_invokevirtual am_cl
  rw [hsp, hc, hx2]
  dsimp only [cond_true, cond_false]
  rw [hx3, hE]
  obtain rfl := (funext h : (fun _ => _) = T)
  rfl
theorem pf_cI3 {z c a : Nat} {stk as2 : List am_V} {T : Option Nat × am_S → Option O} {G : Nat → List am_V → am_S → Option am_Y} (hat : am_at cd pc = some (pc, .invokespecial z, len, x)) (hn : Nat.beq x 999 = false) (hx2 : x / 32 % 8 = 3) (hx1 : x / 4096 = c) (hsp : ∀ k : List am_V → List am_V → Option O, am_spl (x / 256 % 16) stk [] k = k (am_R (some a) :: as2) r) (hc : Nat.ble (am_cat r) 8 = true) (hr : Nat.beq (x % 32) 31 = true) (hE : E c (am_R (some a) :: as2) s = G c (am_R (some a) :: as2) s) (hp : pc + 3 = p) (h : ∀ q : Option Nat × am_S, am_nx E sc cd cu n kc kr (p, ls, am_R q.1 :: r, q.2) = T q) : am_ev E sc cd cu (n + 1) (pc, ls, stk, s) kc kr = (am_rR (G c (am_R (some a) :: as2) s)).bind T := by
  subst hp hx1
  rw [am_ev_at hat]
  show am_x_invokespecial E x pc ls stk s _ = _
  unfold am_x_invokespecial am_cl
  rw [hn, hsp, hc, hx2]
  dsimp only [cond_true, cond_false, Option.bind_some]
  rw [hr, Bool.true_or, hE]
  obtain rfl := (funext h : (fun _ => _) = T)
  rfl
theorem pf_ireturn {v : Int32} (hat : am_at cd pc = some (pc, .ireturn, len, 0)) : am_ev E sc cd cu (n + 1) (pc, ls, [am_I v], s) kc kr = kr (some (am_I v), s) := by
  rw [am_ev_at hat]
  rfl
theorem pf_zreturn {v : Int32} (hat : am_at cd pc = some (pc, .ireturn, len, 1)) : am_ev E sc cd cu (n + 1) (pc, ls, [am_I v], s) kc kr = if v &&& 1 = v then kr (some (am_I v), s) else none := by
  rw [am_ev_at hat]
  rfl
theorem pf_zret0 (hat : am_at cd pc = some (pc, .ireturn, len, 1)) : am_ev E sc cd cu (n + 1) (pc, ls, [am_I (0 : Int32)], s) kc kr = kr (some (am_I (0 : Int32)), s) := by
  rw [am_ev_at hat]
  exact (if_pos (show (0 : Int32) &&& 1 = 0 by decide) : (if (0 : Int32) &&& 1 = 0 then kr (some (am_I 0), s) else none) = _)
theorem pf_zret1 (hat : am_at cd pc = some (pc, .ireturn, len, 1)) : am_ev E sc cd cu (n + 1) (pc, ls, [am_I (1 : Int32)], s) kc kr = kr (some (am_I (1 : Int32)), s) := by
  rw [am_ev_at hat]
  exact (if_pos (show (1 : Int32) &&& 1 = 1 by decide) : (if (1 : Int32) &&& 1 = 1 then kr (some (am_I 1), s) else none) = _)
theorem pf_breturn {v : Int32} (hat : am_at cd pc = some (pc, .ireturn, len, 2)) : am_ev E sc cd cu (n + 1) (pc, ls, [am_I v], s) kc kr = if v.toInt8.toInt32 = v then kr (some (am_I v), s) else none := by
  rw [am_ev_at hat]
  rfl
theorem pf_creturn {v : Int32} (hat : am_at cd pc = some (pc, .ireturn, len, 3)) : am_ev E sc cd cu (n + 1) (pc, ls, [am_I v], s) kc kr = if v.toUInt32.toUInt16.toUInt32.toInt32 = v then kr (some (am_I v), s) else none := by
  rw [am_ev_at hat]
  rfl
theorem pf_lreturn {v : Int64} (hat : am_at cd pc = some (pc, .lreturn, len, x)) : am_ev E sc cd cu (n + 1) (pc, ls, [am_L v], s) kc kr = kr (some (am_L v), s) := by
  rw [am_ev_at hat]
  rfl
theorem pf_areturn {v : Option Nat} (hat : am_at cd pc = some (pc, .areturn, len, x)) : am_ev E sc cd cu (n + 1) (pc, ls, [am_R v], s) kc kr = kr (some (am_R v), s) := by
  rw [am_ev_at hat]
  rfl
theorem pf_return (hat : am_at cd pc = some (pc, .return_, len, x)) : am_ev E sc cd cu (n + 1) (pc, ls, [], s) kc kr = kr (none, s) := by
  rw [am_ev_at hat]
  rfl
theorem pf_none {st : List am_V} (hat : am_at cd pc = none) : am_ev E sc cd cu (n + 1) (pc, ls, st, s) kc kr = none := by
  unfold am_ev am_step
  dsimp only
  rw [hat]
end AmPf
theorem am_G_lt {sc : am_X} {y c : Nat} {as : List am_V} {s : am_S} (h : Nat.blt c y = true) : am_G sc y c as s = am_F sc c as s := by
  unfold am_G
  rw [h]
  rfl
