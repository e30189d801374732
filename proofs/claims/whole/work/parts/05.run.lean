/-! RUNS: a stretch again and again until it answers; methods by their numbers, callees below callers -/
section AmWh
variable {σ ρ : Type}
def am_it (f : σ → Option (σ ⊕ ρ)) : Nat → σ → Option ρ
  | 0, _ => none
  | n + 1, s => match f s with
    | none => none
    | some (.inr r) => some r
    | some (.inl t) => am_it f n t
theorem am_it_s (f : σ → Option (σ ⊕ ρ)) : ∀ (n : Nat) (s : σ) (r : ρ), am_it f n s = some r → am_it f (n + 1) s = some r
  | 0, s, r, h => by simp [am_it] at h
  | n + 1, s, r, h => by
    rw [am_it] at h ⊢
    cases e : f s with
    | none => rw [e] at h; simp at h
    | some q =>
      rw [e] at h
      cases q with
      | inl t => exact am_it_s f n t r h
      | inr q => exact h
theorem am_it_le (f : σ → Option (σ ⊕ ρ)) {n m : Nat} (hm : n ≤ m) {s : σ} {r : ρ} (h : am_it f n s = some r) : am_it f m s = some r := by
  induction hm with
  | refl => exact h
  | step _ ih => exact am_it_s f _ s r ih
noncomputable def am_wh (f : σ → Option (σ ⊕ ρ)) (s : σ) : Option ρ := @dite _ (∃ n r, am_it f n s = some r) (Classical.propDecidable _) (fun h => am_it f (Classical.choose h) s) (fun _ => none)
theorem am_wh_of {f : σ → Option (σ ⊕ ρ)} {s : σ} {n : Nat} {r : ρ} (h : am_it f n s = some r) : am_wh f s = some r := by
  have hx : ∃ n r, am_it f n s = some r := ⟨n, r, h⟩
  unfold am_wh
  rw [dif_pos hx]
  obtain ⟨r', h'⟩ := Classical.choose_spec hx
  rw [h']
  have a := am_it_le f (Nat.le_max_left n (Classical.choose hx)) h
  have b := am_it_le f (Nat.le_max_right n (Classical.choose hx)) h'
  exact b.symm.trans a
theorem am_wh_to {f : σ → Option (σ ⊕ ρ)} {s : σ} {r : ρ} (h : am_wh f s = some r) : ∃ n, am_it f n s = some r := by
  unfold am_wh at h
  split at h
  · exact ⟨_, h⟩
  · cases h
def am_sel (k : σ → Option ρ) : Option (σ ⊕ ρ) → Option ρ
  | none => none
  | some (.inr r) => some r
  | some (.inl t) => k t
theorem am_wh_eq (f : σ → Option (σ ⊕ ρ)) (s : σ) : am_wh f s = am_sel (am_wh f) (f s) := by
  cases e : f s with
  | none =>
    cases h : am_wh f s with
    | none => rfl
    | some r =>
      obtain ⟨n, h⟩ := am_wh_to h
      cases n with
      | zero => simp [am_it] at h
      | succ n => simp [am_it, e] at h
  | some q =>
    cases q with
    | inr r => exact am_wh_of (n := 1) (by simp [am_it, e])
    | inl t =>
      show am_wh f s = am_wh f t
      cases h : am_wh f t with
      | some r =>
        obtain ⟨n, h⟩ := am_wh_to h
        exact am_wh_of (n := n + 1) (by simp [am_it, e, h])
      | none =>
        cases h2 : am_wh f s with
        | none => rfl
        | some r =>
          obtain ⟨n, h2⟩ := am_wh_to h2
          cases n with
          | zero => simp [am_it] at h2
          | succ n =>
            simp only [am_it, e] at h2
            rw [am_wh_of h2] at h
            cases h
end AmWh
section AmNat
variable {O O2 : Type} (g : O → Option O2)
theorem am_swT_n (x : Int32) (pc : Nat) (d : Int) (k : Nat → Option O) : ∀ (os : List Int) (lo : Int), (am_swT x pc d lo os k).bind g = am_swT x pc d lo os (fun t => (k t).bind g)
  | [], lo => rfl
  | o :: r, lo => by
    simp only [am_swT]
    split
    · rfl
    · exact am_swT_n x pc d k r (lo + 1)
theorem am_swL_n (x : Int32) (pc : Nat) (d : Int) (k : Nat → Option O) : ∀ (os : List (Int × Int)), (am_swL x pc d os k).bind g = am_swL x pc d os (fun t => (k t).bind g)
  | [] => rfl
  | (a, o) :: r => by
    simp only [am_swL]
    split
    · rfl
    · exact am_swL_n x pc d k r
theorem am_bk_n (rk : Nat) (y : Option am_Y) (pc : Nat) (ls : List (Option am_V)) (rest : List am_V) (k : am_T → Option O) : (am_bk rk y pc ls rest k).bind g = am_bk rk y pc ls rest (fun t => (k t).bind g) := by
  unfold am_bk
  split <;> simp [Option.bind_assoc]
theorem am_cond_n (b : Bool) (x y : Option O) : (bif b then x else y).bind g = bif b then x.bind g else y.bind g := by cases b <;> rfl
theorem am_ite_n (c : Prop) [Decidable c] (x y : Option O) : (if c then x else y).bind g = if c then x.bind g else y.bind g := by split <;> rfl
theorem am_frc_eq (k : List (Option am_V) → Option O) : ∀ (l : List (Option am_V)) , am_frc l k = k l
  | [] => rfl
  | a :: r => am_frc_eq (fun r => k (a :: r)) r
theorem am_frc_n (l : List (Option am_V)) (k : List (Option am_V) → Option O) : (am_frc l k).bind g = am_frc l (fun l => (k l).bind g) := by rw [am_frc_eq, am_frc_eq]
theorem am_spl_n : ∀ (n : Nat) (st as : List am_V) (k : List am_V → List am_V → Option O), (am_spl n st as k).bind g = am_spl n st as (fun a b => (k a b).bind g)
  | 0, st, as, k => rfl
  | n + 1, v :: st, as, k => am_spl_n n st (v :: as) k
  | n + 1, [], as, k => rfl
theorem am_cl_n (E : Nat → List am_V → am_S → Option am_Y) (x : Nat) (st : Bool) (pc : Nat) (ls : List (Option am_V)) (stk : List am_V) (s : am_S) (k : am_T → Option O) : (am_cl E x st pc ls stk s k).bind g = am_cl E x st pc ls stk s (fun t => (k t).bind g) := by
  unfold am_cl
  rw [am_spl_n]
  congr 1
  funext as rest
  rw [am_cond_n, am_cond_n, am_bk_n]
  congr 2
  split
  · rw [Option.bind_assoc]
    congr 1
    funext a
    rw [am_cond_n, am_bk_n]
    rfl
  · rw [am_cond_n, am_bk_n]
    rfl
  · rfl
theorem am_cmp_n (c : ClassFile.Cond) (x y : Int32) (a b : Option O) : (am_cmp c x y a b).bind g = am_cmp c x y (a.bind g) (b.bind g) := by
  cases c <;> simp only [am_cmp] <;> split <;> rfl
theorem am_math_n (x : Nat) (pc : Nat) (ls : List (Option am_V)) (stk : List am_V) (s : am_S) (k : am_T → Option O) : (am_x_math x pc ls stk s k).bind g = am_x_math x pc ls stk s (fun t => (k t).bind g) := by
  unfold am_x_math
  split <;> (try rfl) <;> (split <;> (try rw [am_cond_n]) <;> rfl)
set_option maxHeartbeats 4000000 in
theorem am_ex_n (E : Nat → List am_V → am_S → Option am_Y) (sc : am_X) (i : Instr) (len x pc : Nat) (ls : List (Option am_V)) (stk : List am_V) (s : am_S) (k : am_T → Option O) (kr : am_Y → Option O) :
    (am_ex E sc i len x pc ls stk s k kr).bind g = am_ex E sc i len x pc ls stk s (fun t => (k t).bind g) (fun r => (kr r).bind g) := by
  unfold am_ex
  split <;> (first | unfold am_x_iconst | unfold am_x_bipush | unfold am_x_sipush | unfold am_x_lconst | unfold am_x_ldc | unfold am_x_ldc_w | unfold am_x_ldc2_w | unfold am_x_aconst_null | unfold am_x_iload_n | unfold am_x_iload | unfold am_x_lload_n | unfold am_x_lload | unfold am_x_aload_n | unfold am_x_aload | unfold am_x_istore_n | unfold am_x_istore | unfold am_x_lstore_n | unfold am_x_lstore | unfold am_x_astore_n | unfold am_x_astore | unfold am_x_iinc | unfold am_x_pop | unfold am_x_dup | unfold am_x_dup2 | unfold am_x_iadd | unfold am_x_isub | unfold am_x_imul | unfold am_x_idiv | unfold am_x_irem | unfold am_x_ineg | unfold am_x_iand | unfold am_x_ior | unfold am_x_ixor | unfold am_x_ishl | unfold am_x_ishr | unfold am_x_iushr | unfold am_x_ladd | unfold am_x_lsub | unfold am_x_lmul | unfold am_x_ldiv | unfold am_x_lrem | unfold am_x_lneg | unfold am_x_land | unfold am_x_lor | unfold am_x_lxor | unfold am_x_lshl | unfold am_x_lshr | unfold am_x_lushr | unfold am_x_lcmp | unfold am_x_i2l | unfold am_x_l2i | unfold am_x_i2b | unfold am_x_i2c | unfold am_x_ifCond | unfold am_x_if_icmp | unfold am_x_ifnull | unfold am_x_ifnonnull | unfold am_x_goto | unfold am_x_tableswitch | unfold am_x_lookupswitch | unfold am_x_getstatic | unfold am_x_getfield | unfold am_x_putfield | unfold am_x_new | unfold am_x_newarray | unfold am_x_anewarray | unfold am_x_arraylength | unfold am_x_iaload | unfold am_x_baload | unfold am_x_laload | unfold am_x_aaload | unfold am_x_iastore | unfold am_x_bastore | unfold am_x_lastore | unfold am_x_aastore | unfold am_x_invokestatic | unfold am_x_invokevirtual | unfold am_x_invokespecial | unfold am_x_ireturn | unfold am_x_lreturn | unfold am_x_areturn | unfold am_x_return_ | skip) <;> (try simp only [am_cond_n, am_cl_n, am_math_n, am_frc_n, Option.bind_assoc]) <;> (try rfl) <;> (try (split <;> (try simp only [am_cond_n, am_ite_n, am_cmp_n, am_cl_n, am_math_n, am_frc_n, am_swT_n, am_swL_n, Option.bind_assoc]) <;> (try rfl) <;> (try (congr 1; funext a)) <;> (try (split <;> simp [am_ite_n, am_cond_n, Option.bind_assoc]))))
end AmNat
