/-! THE LAW'S START AND END -/
def R_law : String := "BecauseOfLaw"
def lw_P (b : Addr) (xs : List Int32) (args : Array Value) (s : State) : Prop := args = #[.ref b] ∧ s.IntsAt b xs ∧ xs.length ≤ 3072 ∧ (Jvm.Cond.and given_1 narrow_1).before args s = true
def lw_Q (_ : Array Value) (s : State) (o : Outcome) (t : State) : Prop := o = .returned (some (.int 1)) ∧ Framed s o t [] room_1.cells room_1.slots
def lw_Z (below : List Frame) (a : Array Value) (s : State) : State → Prop := fun t => ∃ o, t.status = .running ∧ Ended t below o ∧ lw_Q a s o t
/-- the law's own end, with 1 on the stack, nothing written that was there before, its room as the claim has it -/
theorem lw_ret {p : Program} {l : Launch} {e : Env} {s : State} {m : MethodId} {below : List Frame} {meth : Method} {c : Code} {b : Nat} (hx : p.tables.exec = Jvm.exec) (hb : c.code = code) (hr : meth.sig.returnType = ret) (hlocks : meth.locks = false) {pc : Nat} {H : Heap} {ls : Array Slot} (hdg : decode code pc = .ok (.ireturn, 1)) : W p l e room_1 s m #[Value.ref b] below meth c H [] room_1.cells room_1.slots (lw_Z below #[Value.ref b] s) (F0 m pc ls [.int 1]) := by
  intro T hT X
  obtain ⟨fs, hret, hrun, hended, hW, hframe⟩ := X.leave (v := some (.int 1)) (hlocks := hlocks) (fun h => by rw [hr] at h; cases h)
  have hmeth' : T.vm.method? m = some meth := X.method'
  refine ⟨T.setFrames fs, ?_, .returned (some (.int 1)), hrun, hended, rfl, ⟨_, rfl⟩, hW, hframe⟩
  jvm_step X.here [X.here.top, hx, hb, hdg, hmeth', hr, ret, narrow_b1]
  (try refine ⟨rfl, ?_⟩); (try refine ⟨rfl, ?_⟩)
  first | (intro acts; rw [hret _ acts rfl rfl rfl]) | rw [hret _ _ rfl rfl rfl]
  exact Steps.refl _
/-- what holds at the law's entry: the machine, the code, the tables' words (any of lw_tbl by 'hts w (by decide +kernel)'), the script of L ints xs at the cell b, what the Statement gives of the start (any of its parts by flat_of_before) -/
def lw_At (p : Program) (s : State) (m : MethodId) (meth : Method) (c : Code) (b L : Nat) (xs : Nat → Int32) : Prop :=
  p.tables.exec = Jvm.exec ∧ c.code = code ∧ meth.sig.returnType = ret ∧ c.maxLocals = 4 ∧ s.vm.findClass R_law = some m.cls ∧ (∀ w ∈ lw_tbl, w.before #[Value.ref b] s = true) ∧ va_X b L xs s s.heap ∧ b < s.heap.size ∧ meth.locks = false ∧ (Jvm.Cond.and given_1 narrow_1).before #[Value.ref b] s = true

def am_s0 : am_S := (fun _ => none, 0, 0)
theorem am_arr1 {A : Array Value} {s : State} {ty : FieldType} (h : (Jvm.Cond.arrayClass ty).before A s = true) (hv : ∀ cA, s.vm.findClass ("[" ++ ty.toString) = some cA → va_RA s cA ty) : ∃ cA, ArrOfT s cA ty ∧ va_RA s cA ty := by
  obtain ⟨c, k, comp, h1, h2, h3⟩ := Cond.arrayClass_spec h
  exact ⟨c, fun n z => ⟨fun _ h => (by cases h), k, h2, comp, h3⟩, hv c h1⟩
theorem am_arr2 {A : Array Value} {s : State} {C : String} (h : (Jvm.Cond.arrayOver (.object C)).before A s = true) : ∃ cA, ArrOfT s cA (.object C) ∧ va_RA s cA (.object C) := by
  obtain ⟨comp, c, k, h1, h2, h3, h4, h5⟩ := Cond.arrayOver_spec h
  exact ⟨c, fun n z => ⟨fun _ h => (by cases h), k, h3, comp, h4⟩, k, comp, h3, h4, h1, h5⟩
theorem am_arrs {A : Array Value} {s : State} (hts : ∀ w ∈ lw_tbl, w.before A s = true) : ∀ t : Nat, ∃ cA : ClassId, t < 8 → ArrOfT s cA (am_tyo t) ∧ va_RA s cA (am_tyo t) := by
  intro t
  by_cases ht : t < 8
  · have h : ∃ cA, ArrOfT s cA (am_tyo t) ∧ va_RA s cA (am_tyo t) := by
      match t, ht with
      | 0, _ => exact am_arr1 (ty := .int) (hts _ (by decide +kernel)) (fun _ h => h)
      | 1, _ => exact am_arr1 (ty := .boolean) (hts _ (by decide +kernel)) (fun _ h => h)
      | 2, _ => exact am_arr1 (ty := .byte) (hts _ (by decide +kernel)) (fun _ h => h)
      | 3, _ => exact am_arr1 (ty := .long) (hts _ (by decide +kernel)) (fun _ h => h)
      | 4, _ => exact am_arr2 (hts _ (by decide +kernel))
      | 5, _ => exact am_arr2 (hts _ (by decide +kernel))
      | 6, _ => exact am_arr2 (hts _ (by decide +kernel))
      | 7, _ => exact am_arr2 (hts _ (by decide +kernel))
      | n + 8, h => exact absurd h (by omega)
    obtain ⟨cA, h⟩ := h
    exact ⟨cA, fun _ => h⟩
  · exact ⟨0, fun h => absurd h ht⟩
theorem am_aos {A : Array Value} {s : State} (hts : ∀ w ∈ lw_tbl, w.before A s = true) : ∀ t : Nat, 3 < t → t < 8 → va_AO (am_cn (am_et t)) s := by
  intro t h1 h2
  match t, h1, h2 with
  | 4, _, _ => exact va_AO.of (hts _ (by decide +kernel))
  | 5, _, _ => exact va_AO.of (hts _ (by decide +kernel))
  | 6, _, _ => exact va_AO.of (hts _ (by decide +kernel))
  | 7, _, _ => exact va_AO.of (hts _ (by decide +kernel))
  | n + 8, _, h => exact absurd h (by omega)
theorem am_clss {A : Array Value} {s : State} (hts : ∀ w ∈ am_Ts, w.before A s = true) : ∀ ci : Nat, ∃ D : ClassId × (Nat → Nat), ∀ q : vw_C, am_cls[ci]? = some q → u_Kn s q.1 q.2.1 q.2.2 D.1 D.2 := by
  intro ci
  cases e : am_cls[ci]? with
  | none => exact ⟨(0, fun _ => 0), fun q h => by cases h⟩
  | some q =>
    obtain ⟨a, b, h⟩ := u_known hts (cf_in e) (hts _ (cf_init e).2)
    exact ⟨(a, b), fun q' h' => by cases h'; exact h⟩
theorem am_nsts {A : Array Value} {s : State} (hts : ∀ w ∈ lw_tbl, w.before A s = true) : ∀ e ∈ am_nst, va_Nw (am_nsw e) s := by
  have h : ∀ q ∈ am_nst.zip am_nsp, va_Nw (am_nsw q.1) s := fun q hq => va_Nw.of rfl (hts _ (List.mem_of_getElem? (of_decide_eq_true (List.all_eq_true.mp am_ns_ok q hq))))
  intro e he
  have h2 : ∃ q ∈ am_nst.zip am_nsp, q.1 = e := by
    have : (am_nst.zip am_nsp).map Prod.fst = am_nst := by decide +kernel
    rw [← this] at he
    obtain ⟨q, hq, hqe⟩ := List.mem_map.mp he
    exact ⟨q, hq, hqe⟩
  obtain ⟨q, hq, rfl⟩ := h2
  exact h q hq
def am_given : Jvm.Cond := Jvm.Cond.and given_1 narrow_1
theorem am_str {A : Array Value} {s : State} {P : Nat → Prop} (hg : ∀ c ∈ flatC am_given, c.before A s = true) (hA : ∀ a : Nat, a < s.heap.size → ¬ P a) : ∃ k v : Nat, vk_S 1 [am_wls.length] [am_wls] (fun _ => k) (fun _ => v) P s s.heap ∧ (Term.string "BecauseOf$Reade\x72" 92).eval A s none [] s = some (.ref k) := by
  obtain ⟨adK, adV, h1, h2⟩ := vk_Sof (args := A) (s := s) (N := 1) (tm := fun _ => Term.string "BecauseOf$Reade\x72" 92) (len := [am_wls.length]) (byt := [am_wls]) (A := P)
    (fun i hi => by obtain rfl : i = 0 := by omega
                    decide)
    (fun i hi => hg _ (by decide +kernel))
    (fun i hi => hg _ (by decide +kernel))
    (fun i hi => hg _ (by decide +kernel))
    (fun i hi => by obtain rfl : i = 0 := by omega
                    exact hg _ (by decide +kernel))
    (fun i hi => by
      obtain rfl : i = 0 := by omega
      have hall : ∀ j : Nat, j < 82 → (Jvm.Cond.eq (.elem (.field (Term.string "BecauseOf$Reade\x72" 92) "java/lang/String" "value" "[B") (.int (Int32.ofNat j))) (.int (am_wls.getD j 0))) ∈ flatC am_given := by decide +kernel
      exact fun j hj => hg _ (hall j hj))
    (fun i j hi hj hij => absurd (show i = j by omega) hij)
    hA
  refine ⟨adK 0, adV 0, ⟨fun i hi => ?_, fun i j hi hj _ => by omega⟩, h2 0 (by omega)⟩
  obtain rfl : i = 0 := by omega
  exact h1.1 0 (by omega)
theorem am_fmt {A : Array Value} {s : State} {P : Nat → Prop} (hts : ∀ w ∈ lw_tbl, w.before A s = true) (hg : ∀ c ∈ flatC am_given, c.before A s = true) (hA : ∀ a : Nat, a < s.heap.size → ¬ P a) : ∃ f : Value, (f = .null ∨ ∃ a, f = .ref a) ∧ va_Z "jdk/internal/util/Preconditions" "SIOOBE_FORMATTE\x52" "Ljava/util/function/BiFunction;" f P s s.heap := by
  rcases va_Zqof (A := P) (hts (.laysStatic "jdk/internal/util/Preconditions" "SIOOBE_FORMATTE\x52" "Ljava/util/function/BiFunction;") (by decide +kernel)) (hts _ (by decide +kernel)) (hg _ (by decide +kernel)) hA with h | ⟨t, h⟩
  · exact ⟨.null, Or.inl rfl, h⟩
  · exact ⟨.ref t, Or.inr ⟨t, rfl⟩, h⟩
theorem am_start {p : Program} {e : Env} {s : State} {m : MethodId} {below : List Frame} {meth : Method} {c : Code} {l : Launch} {b L : Nat} {xs : Nat → Int32} (hL : L ≤ 3072) (C0 : lw_At p s m meth c b L xs)
    (hF : ∃ s' : am_S, am_F (L, xs) 289 [am_O 0] am_s0 = some (some (am_I 1), s') ∧ s'.2.1 ≤ room_1.cells ∧ s'.2.2 ≤ room_1.slots) :
    W p l e room_1 s m #[Value.ref b] below meth c s.heap [] 0 0 (lw_Z below #[Value.ref b] s) (entryFrame m ([Value.ref b] : List Value).toArray 4) := by
  obtain ⟨hx, hb, hr, hml, hown, hts, hX, hbl, hlocks, hgv⟩ := C0
  obtain ⟨s', hF, hcells, hslots⟩ := hF
  have hT : ∀ w ∈ am_Ts, w.before #[Value.ref b] s = true := fun w hw => hts w (List.mem_filter.mp hw).1
  have hg : ∀ c ∈ flatC am_given, c.before #[Value.ref b] s = true := flat_of_before _ hgv
  obtain ⟨DD, hDD⟩ := Classical.axiomOfChoice (am_clss hT)
  obtain ⟨AA, hAA⟩ := Classical.axiomOfChoice (am_arrs hts)
  have hA : ∀ a : Nat, a < s.heap.size → ¬ (fun q => s.heap.size ≤ q) a := fun a h => Nat.not_le.mpr h
  obtain ⟨k, v, hkS, hkv⟩ := am_str hg hA
  obtain ⟨f, hf, hfz⟩ := am_fmt hts hg hA
  have hcz : va_Z "java/lang/String" "COMPACT_STRINGS" "Z" (.int 1) (fun q => s.heap.size ≤ q) s s.heap := va_Zof (hts (.laysStatic "java/lang/String" "COMPACT_STRINGS" "Z") (by decide +kernel)) (hts _ (by decide +kernel)) (va_eqi (hg _ (by decide +kernel))) hA
  let G : am_Gt := (s.heap.size, (fun ci => (DD ci).1), (fun ci => (DD ci).2), AA, b, (L, xs), k, v, f)
  have hK : am_K G s := by
    refine ⟨⟨fun ci q hq => hDD ci q hq, fun t q hq => ?_⟩, am_nsts hts, am_aos hts, vk_R.of (hts _ (by decide +kernel)) hkv⟩
    have ht : t < 8 := by
      have h0 := (List.getElem?_eq_some_iff.mp hq).1
      simpa [am_tys] using h0
    obtain rfl := Option.some.inj ((am_tys_at G ht).symm.trans hq)
    exact hAA t ht
  have hOld : am_Old G s s.heap := ⟨hX, hbl, Nat.le_refl _, hkS, hfz, hcz⟩
  have hWd : am_Wd G am_s0 s.heap := ⟨fun k q h => (by cases h), fun a c h => (by cases h)⟩
  have Xc : am_Cx G p room_1 s m #[Value.ref b] meth c code 4 18 false (s'.1, room_1.cells, room_1.slots) 0 0 :=
    ⟨hx, hb, hml, hown, hT, hK, hOld, rfl, rfl, Nat.le_refl _, fun h => (by cases h), hf⟩
  rw [am_F_eq _ 289 (by decide), Bool.cond_eq_ite] at hF
  split at hF
  · unfold am_W at hF
    obtain ⟨n, h⟩ := am_wh_to hF
    have hE : ∀ (cN : Nat) (as : List am_V) (s : am_S) (rv : Option am_V) (s' : am_S), am_G (gX G) 289 cN as s = some (rv, s') → am_Mt G l cN as s rv s' := by
      intro c as s rv s' hc
      unfold am_G at hc
      rw [Bool.cond_eq_ite] at hc
      split at hc
      · rename_i hb
        have hb : c < 289 := Nat.le_of_ble_eq_true hb
        exact am_meet hf c as s rv s' (Nat.lt_trans hb (by decide)) hc
      · cases hc
    have key : ∀ (n : Nat) (t : am_T), am_it (am_body (am_G (gX G) 289) (gX G) 289) n t = some (some (am_I 1), s') →
        am_Go G p l e room_1 s m #[Value.ref b] below meth c (lw_Z below #[Value.ref b] s) 4 (s'.1, room_1.cells, room_1.slots) 0 0 t := by
      intro n
      induction n with
      | zero => intro t h; simp [am_it] at h
      | succ n ihn =>
        intro t h
        rw [am_it] at h
        cases e0 : am_body (am_G (gX G) 289) (gX G) 289 t with
        | none => rw [e0] at h; simp at h
        | some q =>
          rw [e0] at h
          unfold am_body at e0
          cases q with
          | inl t' =>
            have h' := ihn t' h
            exact am_ev_ok (fr := 12) (lo := 452) (rt := 2) Xc hE rfl rfl rfl dk_289 ok_289 (fun _ _ _ _ _ _ _ _ e2 => by cases e2) 1000 t e0 (fun t2 e2 => by obtain rfl := Sum.inl.inj (Option.some.inj e2); exact h')
          | inr r =>
            obtain rfl : r = (some (am_I 1), s') := Option.some.inj h
            refine am_ev_ok (fr := 12) (lo := 452) (rt := 2) Xc hE rfl rfl rfl dk_289 ok_289 (fun i pc ls stk rv2 s2 hd hret e2 => ?_) 1000 t e0 (fun t2 e2 => by cases e2)
            have e3 := Sum.inr.inj (Option.some.inj e2)
            obtain rfl : rv2 = some (am_I 1) := congrArg Prod.fst e3
            obtain rfl : s2 = s' := congrArg Prod.snd e3
            refine ⟨hcells, hslots, fun hn hs H locs lz hW hS hl => ?_⟩
            rcases hret with ⟨rfl, v, rfl, hv, hz⟩ | ⟨rfl, v, rfl, hv, hz⟩ | ⟨rfl, v, rfl, hv, hz⟩ | ⟨rfl, rfl, hv, hz⟩
            · have hv : (1 : Int32) = v := Sum.inl.inj (Option.some.inj hv)
              subst hv
              refine va_forget (fun q hq => hS.2.2 q hq) ?_
              refine W.widen (k := room_1.cells) (n := room_1.slots) (by simpa using hcells) (by simpa using hslots) ?_
              exact lw_ret hx hb hr hlocks hd
            · cases hv
            · cases hv
            · cases hv
    have k0 := (key n _ h).2.2 (Nat.le_refl _) (Nat.le_refl _) s.heap [] _ hWd va_S.rf (am_lv_entry _ _ (gO_cat hf) [am_O 0] (by decide))
    rw [lg_entry_eq]
    exact k0
  · cases hF
