/-! WHERE A METHOD STANDS IN THE BIG MACHINE -/
/-- the fixed things: N0, classes, slots, array classes, the script's cell, the script, the text's cell and its bytes' cell, the formatter -/
abbrev am_Gt : Type := Nat × (Nat → ClassId) × (Nat → Nat → Nat) × (Nat → ClassId) × Nat × am_X × Nat × Nat × Value
abbrev gN (G : am_Gt) : Nat := G.1
abbrev gD (G : am_Gt) : va_G := (G.2.1, G.2.2.1)
abbrev gA (G : am_Gt) : Nat → ClassId := G.2.2.2.1
abbrev gb (G : am_Gt) : Nat := G.2.2.2.2.1
abbrev gX (G : am_Gt) : am_X := G.2.2.2.2.2.1
abbrev gk (G : am_Gt) : Nat := G.2.2.2.2.2.2.1
abbrev gv (G : am_Gt) : Nat := G.2.2.2.2.2.2.2.1
abbrev gf (G : am_Gt) : Value := G.2.2.2.2.2.2.2.2
def gO (G : am_Gt) : Nat → Value := fun j => match j with
  | 0 => .ref (gb G)
  | 1 => .ref (gk G)
  | 2 => .ref (gv G)
  | _ => gf G
abbrev gV (G : am_Gt) : am_V → Value := am_tv (gN G) (gO G)
abbrev gU (G : am_Gt) : Nat → Prop := fun q => gN G ≤ q
def am_cn (ci : Nat) : String := match am_cls[ci]? with
  | some q => q.1
  | none => ""
def am_tyo (t : Nat) : FieldType := match t with
  | 0 => .int
  | 1 => .boolean
  | 2 => .byte
  | 3 => .long
  | t => .object (am_cn (am_et t))
def am_tys (G : am_Gt) : List (ClassId × FieldType) := (List.range 8).map fun t => (gA G t, am_tyo t)
theorem am_tys_at (G : am_Gt) {t : Nat} (h : t < 8) : (am_tys G)[t]? = some (gA G t, am_tyo t) := by
  simp [am_tys, List.getElem?_map, List.getElem?_range h]
/-- what the tables say, beside the words -/
def am_K (G : am_Gt) (U : State) : Prop := va_K (gD G) am_cls (am_tys G) U ∧ (∀ e ∈ am_nst, va_Nw (am_nsw e) U) ∧ (∀ t : Nat, 3 < t → t < 8 → va_AO (am_cn (am_et t)) U) ∧ vk_R (am_on am_txo) am_txi am_txt (gk G) U
/-- the old cells that are read: the script, the text, two statics -/
def am_Old (G : am_Gt) (U : State) (H : Heap) : Prop := va_X (gb G) (gX G).1 (gX G).2 U H ∧ gb G < gN G ∧ gN G ≤ H.size ∧ vk_S 1 [am_wls.length] [am_wls] (fun _ => gk G) (fun _ => gv G) (gU G) U H
  ∧ va_Z "jdk/internal/util/Preconditions" "SIOOBE_FORMATTE\x52" "Ljava/util/function/BiFunction;" (gf G) (gU G) U H ∧ va_Z "java/lang/String" "COMPACT_STRINGS" "Z" (.int 1) (gU G) U H
theorem am_K_warm {G : am_Gt} {s U : State} (hW : s.WarmedH U.vm) (h : am_K G s) : am_K G U :=
  ⟨va_K.moved hW.alike h.1, fun e he => va_Nw.warmM hW (h.2.1 e he), fun t h1 h2 => va_AO.moved hW.alike (h.2.2.1 t h1 h2), vk_R.warm hW h.2.2.2⟩
theorem am_K_same {G : am_Gt} {u U : State} (hv : U.vm = u.vm) (h : am_K G u) : am_K G U :=
  ⟨va_K.moved (by rw [hv]; exact Vm.Alike.refl _) h.1, fun e he => va_Nw.same rfl hv.symm (h.2.1 e he), fun t h1 h2 => va_AO.moved (by rw [hv]; exact Vm.Alike.refl _) (h.2.2.1 t h1 h2), vk_R.same hv h.2.2.2⟩
theorem am_Old_moved {G : am_Gt} {u U : State} {H : Heap} (hv : u.vm.Alike U.vm) (h : am_Old G u H) : am_Old G U H :=
  ⟨h.1.moved hv, h.2.1, h.2.2.1, h.2.2.2.1.moved hv, h.2.2.2.2.1.moved hv, h.2.2.2.2.2.moved hv⟩
theorem am_Old_kept {G : am_Gt} {U : State} {H H1 : Heap} (h : am_Old G U H) (hz : H.size ≤ H1.size) (hq : ∀ a : Nat, a < H.size → ¬ gU G a → H1[a]? = H[a]?) : am_Old G U H1 :=
  ⟨h.1.kept (hq _ (Nat.lt_of_lt_of_le h.2.1 h.2.2.1) (Nat.not_le.mpr h.2.1)), h.2.1, Nat.le_trans h.2.2.1 hz, h.2.2.2.1.kept hq, h.2.2.2.2.1.kept hq, h.2.2.2.2.2.kept hq⟩
/-- a cell of a known kind -/
def am_okc : am_C → Prop
  | .inl (t, _, _) => t < 8
  | .inr (ci, _) => ci < am_cls.length
/-- the heap holds the own cells -/
def am_Wd (G : am_Gt) (s : am_S) (H : Heap) : Prop := va_P (gD G) am_cls (am_ws (gN G) (gO G) (gA G) s) H ∧ ∀ (a : Nat) (c : am_C), s.1 a = some c → a < s.2.1 ∧ am_okc c
/-- what a method stands on: o its class, init: it is a constructor; rF, sF: what it will have answered, n0, l0: cells and slots at its start -/
def am_Cx (G : am_Gt) (p : Program) (R : Room) (s : State) (m : MethodId) (args : Array Value) (meth : Method) (c : Code) (cc : ByteArray) (nL o : Nat) (init : Bool) (sF : am_S) (n0 l0 : Nat) : Prop :=
  p.tables.exec = Jvm.exec ∧ c.code = cc ∧ c.maxLocals = nL ∧ s.vm.findClass (am_on o) = some m.cls ∧ (∀ w ∈ am_Ts, w.before args s = true) ∧ am_K G s ∧ am_Old G s s.heap ∧ R.cells = sF.2.1 - n0 ∧ R.slots = sF.2.2 - l0 ∧ s.heap.size ≤ gN G + n0 ∧ (init = true → meth.name = "<init>") ∧ (gf G = .null ∨ ∃ a, gf G = .ref a)
/-- from where t stands the machine comes to Q -/
def am_Go (G : am_Gt) (p : Program) (l : Launch) (e : Env) (R : Room) (s : State) (m : MethodId) (args : Array Value) (below : List Frame) (meth : Method) (c : Code) (Q : State → Prop) (nL : Nat) (sF : am_S) (n0 l0 : Nat) (t : am_T) : Prop :=
  t.2.2.2.2.1 ≤ sF.2.1 ∧ t.2.2.2.2.2 ≤ sF.2.2 ∧ (n0 ≤ t.2.2.2.2.1 → l0 ≤ t.2.2.2.2.2 → ∀ (H : Heap) (locs : List Loc) (ls : Array Slot), am_Wd G t.2.2.2 H → va_S (gU G) s.heap H locs → am_lv (gN G) (gO G) ls nL t.2.1 →
    W p l e R s m args below meth c H locs (t.2.2.2.2.1 - n0) (t.2.2.2.2.2 - l0) Q (F0 m t.1 ls (t.2.2.1.map (gV G))))
theorem am_Go_wd {G : am_Gt} {p : Program} {l : Launch} {e : Env} {R : Room} {s : State} {m : MethodId} {args : Array Value} {below : List Frame} {meth : Method} {c : Code} {Q : State → Prop} {nL : Nat} {sF : am_S} {n0 l0 : Nat} {t : am_T} (h1 : t.2.2.2.2.1 ≤ sF.2.1) (h2 : t.2.2.2.2.2 ≤ sF.2.2) (h : ∀ H : Heap, am_Wd G t.2.2.2 H → am_Go G p l e R s m args below meth c Q nL sF n0 l0 t) : am_Go G p l e R s m args below meth c Q nL sF n0 l0 t :=
  ⟨h1, h2, fun hn hs H locs lz hW hS hl => (h H hW).2.2 hn hs H locs lz hW hS hl⟩
theorem gO_cat {G : am_Gt} (h : gf G = .null ∨ ∃ a, gf G = .ref a) : ∀ j, (gO G j).category = 1 := by
  intro j
  match j with
  | 0 => rfl
  | 1 => rfl
  | 2 => rfl
  | j + 3 =>
    show (gf G).category = 1
    rcases h with h | ⟨a, h⟩ <;> rw [h] <;> rfl
theorem gV_ref {G : am_Gt} (h : gf G = .null ∨ ∃ a, gf G = .ref a) (v : Option Nat ⊕ Nat) : gV G (Sum.inr (Sum.inr v)) = .null ∨ ∃ a, gV G (Sum.inr (Sum.inr v)) = .ref a := by
  match v with
  | .inl none => exact Or.inl rfl
  | .inl (some a) => exact Or.inr ⟨_, rfl⟩
  | .inr 0 => exact Or.inr ⟨_, rfl⟩
  | .inr 1 => exact Or.inr ⟨_, rfl⟩
  | .inr 2 => exact Or.inr ⟨_, rfl⟩
  | .inr (j + 3) => exact h
theorem am_lI_at {ls : List (Option am_V)} {i : Nat} {v : Int32} (h : am_lI ls i = some v) : ls[i]? = some (some (am_I v)) := by
  unfold am_lI at h
  split at h
  next x e => rw [e, Option.some.inj h]
  next => cases h
theorem am_lL_at {ls : List (Option am_V)} {i : Nat} {v : Int64} (h : am_lL ls i = some v) : ls[i]? = some (some (am_L v)) := by
  unfold am_lL at h
  split at h
  next x e => rw [e, Option.some.inj h]
  next => cases h
theorem am_lA_at {ls : List (Option am_V)} {i : Nat} {v : Option Nat ⊕ Nat} (h : am_lA ls i = some v) : ls[i]? = some (some (Sum.inr (Sum.inr v))) := by
  unfold am_lA at h
  split at h
  next x e => rw [e, Option.some.inj h]
  next => cases h
section AmSz
variable {p : Program} {l : Launch} {e : Env} {R : Room} {s : State} {m : MethodId} {args : Array Value} {below : List Frame} {meth : Method} {c : Code} {H : Heap} {locs : List Loc} {cells slots : Nat} {Q : State → Prop}
/-- the heap has no more than was there and was made -/
theorem am_szW {g : JFrame} (h : H.size ≤ s.heap.size + cells → W p l e R s m args below meth c H locs cells slots Q g) : W p l e R s m args below meth c H locs cells slots Q g := by
  intro T hT X
  have hz := X.heapSize
  rw [hT] at hz
  exact h hz T hT X
end AmSz
