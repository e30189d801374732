/-! CELLS: fields, arrays, what is new -/
def am_ftyo (ci : Nat) : Nat → FieldType := am_fty.getD ci (fun _ => .int)
theorem cf_nm : ∀ (ci : Nat) (q : vw_C), am_cls[ci]? = some q → ∀ a, a < q.2.2 → ∀ b, b < q.2.2 → a ≠ b → (q.2.1 a).2.1 ≠ (q.2.1 b).2.1 := by
  intro ci q h
  match ci, h with
  | 0, h => cases h; exact nm_RX0
  | 1, h => cases h; exact nm_RX1
  | 2, h => cases h; exact nm_RX2
  | 3, h => cases h; exact nm_RX3
  | 4, h => cases h; exact nm_RX4
  | 5, h => cases h; exact nm_RX5
  | 6, h => cases h; exact nm_RX6
  | 7, h => cases h; exact nm_RX7
  | 8, h => cases h; exact nm_RX8
  | 9, h => cases h; exact nm_RX9
  | 10, h => cases h; exact nm_RX10
  | 11, h => cases h; exact nm_RX11
  | 12, h => cases h; exact nm_RX12
  | ci + 13, h => simp [am_cls] at h
theorem cf_ty : ∀ (ci : Nat) (q : vw_C), am_cls[ci]? = some q → ∀ k, k < q.2.2 → parseFieldDescriptor (q.2.1 k).2.2.1 = some (am_ftyo ci k) := by
  intro ci q h
  match ci, h with
  | 0, h => cases h; exact ok_RX0
  | 1, h => cases h; exact ok_RX1
  | 2, h => cases h; exact ok_RX2
  | 3, h => cases h; exact ok_RX3
  | 4, h => cases h; exact ok_RX4
  | 5, h => cases h; exact ok_RX5
  | 6, h => cases h; exact ok_RX6
  | 7, h => cases h; exact ok_RX7
  | 8, h => cases h; exact ok_RX8
  | 9, h => cases h; exact ok_RX9
  | 10, h => cases h; exact ok_RX10
  | 11, h => cases h; exact ok_RX11
  | 12, h => cases h; exact ok_RX12
  | ci + 13, h => simp [am_cls] at h
theorem cf_all {ci : Nat} {q : vw_C} (h : am_cls[ci]? = some q) : ∃ x, am_cp2[ci]? = some x ∧ am_cc (q, x) = true := by
  have hl : ci < am_cls.length := (List.getElem?_eq_some_iff.mp h).1
  have hl2 : ci < am_cp2.length := by rw [am_cl_len]; exact hl
  refine ⟨am_cp2[ci], List.getElem?_eq_getElem hl2, ?_⟩
  have hz : (am_cls.zip am_cp2)[ci]? = some (q, am_cp2[ci]) := by
    rw [List.getElem?_zip_eq_some]
    exact ⟨h, List.getElem?_eq_getElem hl2⟩
  exact List.all_eq_true.mp am_cl_ok _ (List.mem_of_getElem? hz)
theorem cf_in {ci : Nat} {q : vw_C} (h : am_cls[ci]? = some q) : ∀ w ∈ u_ws q.1 q.2.1 q.2.2, w ∈ am_Ts := by
  obtain ⟨x, -, hx⟩ := cf_all h
  unfold am_cc at hx
  simp only [Bool.and_eq_true] at hx
  intro w hw
  obtain ⟨k, hk, rfl⟩ := List.mem_map.mp hw
  exact am_hs_in (List.all_eq_true.mp hx.2 k hk)
theorem cf_init {ci : Nat} {q : vw_C} (h : am_cls[ci]? = some q) : Jvm.Cond.initialized q.1 ∈ am_Ts ∧ Jvm.Cond.instantiable q.1 q.2.2 ∈ am_Ts := by
  obtain ⟨x, -, hx⟩ := cf_all h
  unfold am_cc at hx
  simp only [Bool.and_eq_true] at hx
  exact ⟨am_hs_in hx.1.1.1, am_hs_in hx.1.1.2⟩
theorem cf_dlen : ∀ (ci : Nat) (q : vw_C), am_cls[ci]? = some q → (am_dfs.getD ci []).length = q.2.2 := by
  intro ci q h
  match ci, h with
  | 0, h => cases h; rfl
  | 1, h => cases h; rfl
  | 2, h => cases h; rfl
  | 3, h => cases h; rfl
  | 4, h => cases h; rfl
  | 5, h => cases h; rfl
  | 6, h => cases h; rfl
  | 7, h => cases h; rfl
  | 8, h => cases h; rfl
  | 9, h => cases h; rfl
  | 10, h => cases h; rfl
  | 11, h => cases h; rfl
  | 12, h => cases h; rfl
  | ci + 13, h => simp [am_cls] at h
def am_dok (ci N : Nat) : Bool := (List.range N).all fun j => match (am_dfs.getD ci [])[j]? with
  | some (.inl x) => decide (defaultValue (am_ftyo ci j) = .int x)
  | some (.inr (.inl x)) => decide (defaultValue (am_ftyo ci j) = .long x)
  | some (.inr (.inr (.inl none))) => decide (defaultValue (am_ftyo ci j) = .null)
  | _ => false
theorem cf_dok : ∀ (ci : Nat) (q : vw_C), am_cls[ci]? = some q → am_dok ci q.2.2 = true := by
  intro ci q h
  match ci, h with
  | 0, h => cases h; decide +kernel
  | 1, h => cases h; decide +kernel
  | 2, h => cases h; decide +kernel
  | 3, h => cases h; decide +kernel
  | 4, h => cases h; decide +kernel
  | 5, h => cases h; decide +kernel
  | 6, h => cases h; decide +kernel
  | 7, h => cases h; decide +kernel
  | 8, h => cases h; decide +kernel
  | 9, h => cases h; decide +kernel
  | 10, h => cases h; decide +kernel
  | 11, h => cases h; decide +kernel
  | 12, h => cases h; decide +kernel
  | ci + 13, h => simp [am_cls] at h
theorem cf_dfs (G : am_Gt) {ci : Nat} {q : vw_C} (h : am_cls[ci]? = some q) : ∀ j, j < q.2.2 → defaultValue (am_ftyo ci j) = vp_V ((am_dfs.getD ci []).map (gV G)) j := by
  intro j hj
  have hd := List.all_eq_true.mp (cf_dok ci q h) j (List.mem_range.mpr hj)
  unfold vp_V
  rw [List.getD_eq_getElem?_getD, List.getElem?_map]
  split at hd
  next x e => rw [e, of_decide_eq_true hd]; rfl
  next x e => rw [e, of_decide_eq_true hd]; rfl
  next e => rw [e, of_decide_eq_true hd]; rfl
  next => cases hd
theorem am_and1 (x : Int32) : (x &&& 1) = 0 ∨ (x &&& 1) = 1 := by
  obtain ⟨j, hj, e⟩ := pk_andE x (m := 1) 1 (by decide)
  have hj : j < 2 := hj
  rw [e]
  match j, hj with
  | 0, _ => exact Or.inl rfl
  | 1, _ => exact Or.inr rfl
section AmHeap
variable {G : am_Gt} {p : Program} {l : Launch} {e : Env} {R : Room} {s0 : State} {m : MethodId} {args : Array Value} {below : List Frame} {meth : Method} {c : Code} {Q : State → Prop} {cc : ByteArray} {nL o : Nat} {init : Bool} {sF : am_S} {n0 l0 : Nat} {pc : Nat} {ls : List (Option am_V)} {r : List am_V} {s : am_S}
theorem am_ws_of {G : am_Gt} {s : am_S} {H : Heap} (hW : am_Wd G s H) {a : Nat} {x : am_C} (h : s.1 a = some x) : (am_ws (gN G) (gO G) (gA G) s)[a]? = some (gN G + a, am_tc (gN G) (gO G) (gA G) (some x)) := by
  rw [am_ws_at _ _ _ (hW.2 a x h).1, h]
theorem am_Wd_set {G : am_Gt} {s : am_S} {H H1 : Heap} (hW : am_Wd G s H) {a : Nat} {x x2 : am_C} (h : s.1 a = some x) (ho : am_okc x → am_okc x2) (hP : va_P (gD G) am_cls ((am_ws (gN G) (gO G) (gA G) s).set a (gN G + a, am_tc (gN G) (gO G) (gA G) (some x2))) H1) : am_Wd G (am_w s.1 a x2, s.2) H1 := by
  have ha := hW.2 a x h
  rw [am_ws_set _ _ _ x2 ha.1] at hP
  refine ⟨hP, fun b y hb => ?_⟩
  by_cases hba : b = a
  · subst hba
    have hb : am_w s.1 b x2 b = some y := hb
    rw [am_w_at] at hb
    rw [← Option.some.inj hb]
    exact ⟨ha.1, ho ha.2⟩
  · exact hW.2 b y ((am_w_ne s.1 x2 hba).symm.trans hb)
theorem ao_get {z ci k a : Nat} {q : vw_C} {fs : List am_V} {w : am_V} (X : am_Cx G p R s0 m args meth c cc nL o init sF n0 l0) (hd : decode cc pc = .ok (.getfield z, 3)) (hc : am_cls[ci]? = some q) (hk : k < q.2.2) (hw : Jvm.Cond.fieldLink (am_on o) z (q.2.1 k).1 (q.2.1 k).2.1 (q.2.1 k).2.2.1 ∈ am_Ts) (hc2 : s.1 a = some (.inr (ci, fs))) (hv : fs[k]? = some w) (h : am_Go G p l e R s0 m args below meth c Q nL sF n0 l0 (pc + 3, ls, w :: r, s)) : am_Go G p l e R s0 m args below meth c Q nL sF n0 l0 (pc, ls, am_R (some a) :: r, s) := by
  obtain ⟨hx, hb, hml, hown, hts, hK, hOld, hRc, hRs, hsz, hin, hf⟩ := X
  refine ⟨h.1, h.2.1, fun hn hs H locs lz hW hS hl => ?_⟩
  exact va_get hx hb hts (cf_in hc) hown hK.1 hW.1 a (am_ws_of hW hc2) hc k hk (hts _ hw) (fun _ q => q) (v := gV G w) (by rw [List.getElem?_map, hv]; rfl) hd (h.2.2 hn hs H locs lz hW hS hl)
theorem ao_put {z ci k a : Nat} {q : vw_C} {fs : List am_V} {v : am_V} (X : am_Cx G p R s0 m args meth c cc nL o init sF n0 l0) (hd : decode cc pc = .ok (.putfield z, 3)) (hc : am_cls[ci]? = some q) (hk : k < q.2.2) (hw : Jvm.Cond.fieldLink (am_on o) z (q.2.1 k).1 (q.2.1 k).2.1 (q.2.1 k).2.2.1 ∈ am_Ts) (hc2 : s.1 a = some (.inr (ci, fs))) (hlt : k < fs.length) (hfin : (q.2.1 k).2.2.2 = false ∨ (init = true ∧ (q.2.1 k).1 = am_on o)) (hnr : narrow (am_ftyo ci k) (gV G v) = gV G v) (hfit : fits (am_ftyo ci k) (gV G v) = true) (h : am_Go G p l e R s0 m args below meth c Q nL sF n0 l0 (pc + 3, ls, r, (am_w s.1 a (.inr (ci, fs.set k v)), s.2))) : am_Go G p l e R s0 m args below meth c Q nL sF n0 l0 (pc, ls, v :: am_R (some a) :: r, s) := by
  obtain ⟨hx, hb, hml, hown, hts, hK, hOld, hRc, hRs, hsz, hin, hf⟩ := X
  refine ⟨h.1, h.2.1, fun hn hs H locs lz hW hS hl => ?_⟩
  have key : ∀ (H1 : Heap) (locs1 : List Loc), va_P (gD G) am_cls ((am_ws (gN G) (gO G) (gA G) s).set a (gN G + a, .inr (ci, (fs.map (gV G)).set k (gV G v)))) H1 → va_D (gU G) ((am_ws (gN G) (gO G) (gA G) s).set a (gN G + a, .inr (ci, (fs.map (gV G)).set k (gV G v)))) → va_S (gU G) s0.heap H1 locs1 → W p l e R s0 m args below meth c H1 locs1 (s.2.1 - n0) (s.2.2 - l0) Q (F0 m (pc + 3) lz (r.map (gV G))) := by
    intro H1 locs1 hP1 _ hS1
    refine h.2.2 hn hs H1 locs1 lz (am_Wd_set hW hc2 (ho := fun h => h) (x2 := .inr (ci, fs.set k v)) ?_) hS1 hl
    have e1 : (am_tc (gN G) (gO G) (gA G) (some (.inr (ci, fs.set k v)))) = .inr (ci, (fs.map (gV G)).set k (gV G v)) := by
      show Sum.inr (ci, (fs.set k v).map (gV G)) = _
      rw [List.map_set]
    rw [e1]
    exact hP1
  have hl2 : k < (fs.map (gV G)).length := by rw [List.length_map]; exact hlt
  by_cases hff : (q.2.1 k).2.2.2 = false
  · exact va_put hx hb hts (cf_in hc) (am_ftyo ci) (cf_ty ci q hc) (cf_nm ci q hc) hown hK.1 hW.1 (am_ws_d _ _ _ s) hS a (am_ws_of hW hc2) hc k hk (hts _ hw) (fun _ q => q) hff (cf_ty ci q hc k hk) hnr hfit hl2 hd key
  · obtain ⟨hi, ho⟩ := hfin.resolve_left hff
    exact va_putF hx hb hts (cf_in hc) (am_ftyo ci) (cf_ty ci q hc) (cf_nm ci q hc) hown hK.1 hW.1 (am_ws_d _ _ _ s) hS a (am_ws_of hW hc2) hc k hk (hts _ hw) (fun _ q => q) (by simpa using hff) (hin hi) ho (cf_ty ci q hc k hk) hnr hfit hl2 hd key
/-- where the next cell comes -/
theorem am_fresh {G : am_Gt} {s : am_S} {H1 : Heap} {q : Nat} {x : va_E} (hD : va_D (gU G) (am_ws (gN G) (gO G) (gA G) s ++ [(q, x)])) (hP : va_P (gD G) am_cls (am_ws (gN G) (gO G) (gA G) s ++ [(q, x)]) H1) (hz : H1.size ≤ gN G + s.2.1 + 1) : q = gN G + s.2.1 := by
  have hlen : (am_ws (gN G) (gO G) (gA G) s).length = s.2.1 := am_ws_len _ _ _ s
  have hq : (am_ws (gN G) (gO G) (gA G) s ++ [(q, x)])[s.2.1]? = some (q, x) := by
    rw [List.getElem?_append_right (by omega), hlen, Nat.sub_self]
    rfl
  have h1 : gN G ≤ q := hD.2 _ _ hq
  have h2 : q < H1.size := (hP _ _ hq).lt
  by_cases hlt : q < gN G + s.2.1
  · have ha : q - gN G < s.2.1 := by omega
    have hat : (am_ws (gN G) (gO G) (gA G) s ++ [(q, x)])[q - gN G]? = some (gN G + (q - gN G), am_tc (gN G) (gO G) (gA G) (s.1 (q - gN G))) := by
      rw [List.getElem?_append_left (by omega)]
      exact am_ws_at _ _ _ ha
    have := hD.1 _ _ _ _ hat hq (by show gN G + (q - gN G) = q; omega)
    omega
  · omega
theorem am_Wd_al {G : am_Gt} {s : am_S} {H H1 : Heap} {x : am_C} {n : Nat} (hW : am_Wd G s H) (ho : am_okc x) (hP : va_P (gD G) am_cls (am_ws (gN G) (gO G) (gA G) s ++ [(gN G + s.2.1, am_tc (gN G) (gO G) (gA G) (some x))]) H1) : am_Wd G (am_al s x n) H1 := by
  refine ⟨by rw [am_ws_push]; exact hP, fun b y hb => ?_⟩
  show b < s.2.1 + 1 ∧ _
  by_cases hba : b = s.2.1
  · subst hba
    have hb : am_w s.1 s.2.1 x s.2.1 = some y := hb
    rw [am_w_at] at hb
    rw [← Option.some.inj hb]
    exact ⟨Nat.lt_succ_self _, ho⟩
  · have := hW.2 b y ((am_w_ne s.1 x hba).symm.trans hb)
    exact ⟨by omega, this.2⟩
theorem ao_new {z ci : Nat} {q : vw_C} (X : am_Cx G p R s0 m args meth c cc nL o init sF n0 l0) (hd : decode cc pc = .ok (.new z, 3)) (hc : am_cls[ci]? = some q) (hw : Jvm.Cond.classLink (am_on o) z q.1 ∈ am_Ts) (h : am_Go G p l e R s0 m args below meth c Q nL sF n0 l0 (pc + 3, ls, am_R (some s.2.1) :: r, am_al s (.inr (ci, am_dfs.getD ci [])) (am_dfs.getD ci []).length)) : am_Go G p l e R s0 m args below meth c Q nL sF n0 l0 (pc, ls, r, s) := by
  obtain ⟨hx, hb, hml, hown, hts, hK, hOld, hRc, hRs, hsz, hin, hf⟩ := X
  have e1 : s.2.1 + 1 ≤ sF.2.1 := h.1
  have e2 : s.2.2 + (am_dfs.getD ci []).length ≤ sF.2.2 := h.2.1
  refine ⟨by show s.2.1 ≤ _; omega, by show s.2.2 ≤ _; omega, fun hn hs H locs lz hW hS hl => ?_⟩
  have hn' : n0 ≤ s.2.1 := hn
  have hs' : l0 ≤ s.2.2 := hs
  have hA : ∀ q : Nat, s0.heap.size ≤ q → gU G q := fun q hq => Nat.le_trans hOld.2.2.1 hq
  refine va_new (c0 := c) hx hb hts (cf_in hc) (am_ftyo ci) (cf_ty ci q hc) hown (hts _ hw) (hts _ (cf_init hc).2) (hts _ (cf_init hc).1) hK.1 hW.1 (am_ws_d _ _ _ s) hS hA hc (fs := (am_dfs.getD ci []).map (gV G)) (cf_dfs G hc) ?_ ?_ hd (fun a H1 hP1 hD1 hS1 => ?_)
  · show s.2.1 - n0 + 1 ≤ R.cells
    rw [hRc]; omega
  · show s.2.2 - l0 + q.2.2 ≤ R.slots
    rw [hRs, ← cf_dlen ci q hc]; omega
  · refine am_szW (fun hz => ?_)
    have hz : H1.size ≤ s0.heap.size + (s.2.1 - n0 + 1) := hz
    have ha := am_fresh hD1 hP1 (by omega)
    subst ha
    have k := h.2.2 (by show n0 ≤ s.2.1 + 1; omega) (by show l0 ≤ s.2.2 + _; omega) H1 locs lz (am_Wd_al hW (List.getElem?_eq_some_iff.mp hc).1 hP1) hS1 hl
    rw [← cf_dlen ci q hc]
    refine W.cs ?_ ?_ k
    · show s.2.1 - n0 + 1 = s.2.1 + 1 - n0
      omega
    · show s.2.2 - l0 + _ = s.2.2 + _ - l0
      omega
def am_zero (t : Nat) : am_A := bif Nat.blt t 3 then .inl (fun _ => 0) else bif Nat.beq t 3 then .inr (.inl (fun _ => 0)) else .inr (.inr (fun _ => none))
def am_aty (z : ArrayType) : Nat := match z with
  | .int => 0
  | .boolean => 1
  | .byte => 2
  | .long => 3
  | _ => 9
theorem am_tz (z : ArrayType) (h : am_aty z < 4) : am_tyo (am_aty z) = newarray.typeOf z := by
  cases z <;> first | rfl | exact absurd h (by decide)
theorem am_az (z : ArrayType) (h : am_aty z < 4) : Jvm.Cond.arrayClass (newarray.typeOf z) ∈ am_Ts := by
  have w := am_ar_w
  simp only [Bool.and_eq_true] at w
  match z, h with
  | .int, _ => exact am_hs_in w.1.1.1
  | .boolean, _ => exact am_hs_in w.1.1.2
  | .byte, _ => exact am_hs_in w.1.2
  | .long, _ => exact am_hs_in w.2
  | .char, h => exact absurd h (by decide)
  | .float, h => exact absurd h (by decide)
  | .double, h => exact absurd h (by decide)
  | .short, h => exact absurd h (by decide)
theorem am_aclass {G : am_Gt} {U : State} {cA : ClassId} {ty : FieldType} {t : Nat} (ht : t < 8) (hty : am_tyo t = ty) (hK : va_K (gD G) am_cls (am_tys G ++ [(cA, ty)]) U) : cA = gA G t := by
  have h1 := (hK.2 t (gA G t, am_tyo t) (by rw [List.getElem?_append_left (by simpa [am_tys] using ht)]; exact am_tys_at G ht)).2
  have h2 := (hK.2 8 (cA, ty) (by rw [List.getElem?_append_right (by simp [am_tys])]; simp [am_tys])).2
  dsimp only at h1 h2
  rw [hty] at h1
  cases ty with
  | object C =>
    obtain ⟨_, _, _, _, _, e1⟩ := h1
    obtain ⟨_, _, _, _, _, e2⟩ := h2
    exact (Option.some.inj (e1.symm.trans e2)).symm
  | _ => exact (Option.some.inj (Eq.trans (Eq.symm h1) h2)).symm
theorem ao_newa {z : ArrayType} {n : Int32} {x : Nat} (X : am_Cx G p R s0 m args meth c cc nL o init sF n0 l0) (hd : decode cc pc = .ok (.newarray z, 2)) (hz : am_aty z = x) (hx4 : x < 4) (hn0 : ¬ n < 0) (hbig : n.toNatClampNeg ≤ 60000) (h : am_Go G p l e R s0 m args below meth c Q nL sF n0 l0 (pc + 2, ls, am_R (some s.2.1) :: r, am_al s (.inl (x, n.toNatClampNeg, am_zero x)) n.toNatClampNeg)) : am_Go G p l e R s0 m args below meth c Q nL sF n0 l0 (pc, ls, am_I n :: r, s) := by
  obtain ⟨hx, hb, hml, hown, hts, hK, hOld, hRc, hRs, hsz, hin, hf⟩ := X
  subst hz
  have e1 : s.2.1 + 1 ≤ sF.2.1 := h.1
  have e2 : s.2.2 + n.toNatClampNeg ≤ sF.2.2 := h.2.1
  refine ⟨by show s.2.1 ≤ _; omega, by show s.2.2 ≤ _; omega, fun hn hs H locs lz hW hS hl => ?_⟩
  have hn' : n0 ≤ s.2.1 := hn
  have hs' : l0 ≤ s.2.2 := hs
  have hA : ∀ q : Nat, s0.heap.size ≤ q → gU G q := fun q hq => Nat.le_trans hOld.2.2.1 hq
  have hcell : ∀ cA : ClassId, vp_cell cA (match am_zero (am_aty z) with
    | .inl f => (n.toNatClampNeg, .inl f)
    | .inr (.inl f) => (n.toNatClampNeg, .inr (.inl f))
    | .inr (.inr f) => (n.toNatClampNeg, .inr (.inr (.inr (.inr (fun j => am_sh (gN G) (f j))))))) = arrV cA n.toNatClampNeg (fun _ => defaultValue (newarray.typeOf z)) := by
    intro cA
    cases z <;> first | rfl | exact absurd hx4 (by decide)
  have hbytes : n.toNatClampNeg * componentBytes (newarray.typeOf z) ≤ 536870912 := by
    have : componentBytes (newarray.typeOf z) ≤ 8 := by cases z <;> decide
    calc n.toNatClampNeg * componentBytes (newarray.typeOf z) ≤ 60000 * 8 := Nat.mul_le_mul hbig this
      _ ≤ 536870912 := by decide
  refine va_newa hx hb (hts _ (am_az z hx4)) rfl hK.1 hW.1 (am_ws_d _ _ _ s) hS hA hcell hn0 rfl hbytes ?_ ?_ hd (fun a cA H1 hK1 hP1 hD1 hS1 => ?_)
  · show s.2.1 - n0 + 1 ≤ R.cells
    rw [hRc]; omega
  · show s.2.2 - l0 + n.toNatClampNeg ≤ R.slots
    rw [hRs]; omega
  · refine am_szW (fun hz => ?_)
    have hz : H1.size ≤ s0.heap.size + (s.2.1 - n0 + 1) := hz
    have ha := am_fresh hD1 hP1 (by omega)
    subst ha
    have hcA := am_aclass (t := am_aty z) (by omega) (am_tz z hx4) hK1
    subst hcA
    have hP2 : va_P (gD G) am_cls (am_ws (gN G) (gO G) (gA G) s ++ [(gN G + s.2.1, am_tc (gN G) (gO G) (gA G) (some (.inl (am_aty z, n.toNatClampNeg, am_zero (am_aty z)))))]) H1 := by
      cases z <;> first | exact hP1 | exact absurd hx4 (by decide)
    have k := h.2.2 (by show n0 ≤ s.2.1 + 1; omega) (by show l0 ≤ s.2.2 + _; omega) H1 locs lz (am_Wd_al hW (show am_aty z < 8 by omega) hP2) hS1 hl
    refine W.cs ?_ ?_ k
    · show s.2.1 - n0 + 1 = s.2.1 + 1 - n0
      omega
    · show s.2.2 - l0 + _ = s.2.2 + _ - l0
      omega
theorem ao_newq {z t : Nat} {n : Int32} (X : am_Cx G p R s0 m args meth c cc nL o init sF n0 l0) (hd : decode cc pc = .ok (.anewarray z, 3)) (ht3 : 3 < t) (ht8 : t < 8) (hw : Jvm.Cond.classLink (am_on o) z (am_cn (am_et t)) ∈ am_Ts) (hn0 : ¬ n < 0) (hbig : n.toNatClampNeg ≤ 60000) (h : am_Go G p l e R s0 m args below meth c Q nL sF n0 l0 (pc + 3, ls, am_R (some s.2.1) :: r, am_al s (.inl (t, n.toNatClampNeg, am_zero t)) n.toNatClampNeg)) : am_Go G p l e R s0 m args below meth c Q nL sF n0 l0 (pc, ls, am_I n :: r, s) := by
  obtain ⟨hx, hb, hml, hown, hts, hK, hOld, hRc, hRs, hsz, hin, hf⟩ := X
  have e1 : s.2.1 + 1 ≤ sF.2.1 := h.1
  have e2 : s.2.2 + n.toNatClampNeg ≤ sF.2.2 := h.2.1
  refine ⟨by show s.2.1 ≤ _; omega, by show s.2.2 ≤ _; omega, fun hn hs H locs lz hW hS hl => ?_⟩
  have hn' : n0 ≤ s.2.1 := hn
  have hs' : l0 ≤ s.2.2 := hs
  have hA : ∀ q : Nat, s0.heap.size ≤ q → gU G q := fun q hq => Nat.le_trans hOld.2.2.1 hq
  refine va_newq hx hb hown (hts _ hw) (hK.2.2.1 t ht3 ht8) hK.1 hW.1 (am_ws_d _ _ _ s) hS hA hn0 rfl (by omega) ?_ ?_ hd (fun a cA H1 hK1 hP1 hD1 hS1 => ?_)
  · show s.2.1 - n0 + 1 ≤ R.cells
    rw [hRc]; omega
  · show s.2.2 - l0 + n.toNatClampNeg ≤ R.slots
    rw [hRs]; omega
  · refine am_szW (fun hz => ?_)
    have hz : H1.size ≤ s0.heap.size + (s.2.1 - n0 + 1) := hz
    have ha := am_fresh hD1 hP1 (by omega)
    subst ha
    have hty : am_tyo t = .object (am_cn (am_et t)) := by
      match t, ht3 with
      | t + 4, _ => rfl
    have hcA := am_aclass (t := t) ht8 hty hK1
    subst hcA
    have hz0 : am_zero t = .inr (.inr (fun _ => none)) := by
      match t, ht3, ht8 with
      | 4, _, _ => rfl
      | 5, _, _ => rfl
      | 6, _, _ => rfl
      | 7, _, _ => rfl
    have hP2 : va_P (gD G) am_cls (am_ws (gN G) (gO G) (gA G) s ++ [(gN G + s.2.1, am_tc (gN G) (gO G) (gA G) (some (.inl (t, n.toNatClampNeg, am_zero t))))]) H1 := by
      rw [hz0]
      exact hP1
    have k := h.2.2 (by show n0 ≤ s.2.1 + 1; omega) (by show l0 ≤ s.2.2 + _; omega) H1 locs lz (am_Wd_al hW ht8 hP2) hS1 hl
    refine W.cs ?_ ?_ k
    · show s.2.1 - n0 + 1 = s.2.1 + 1 - n0
      omega
    · show s.2.2 - l0 + _ = s.2.2 + _ - l0
      omega
theorem am_vin {i : Int32} {n : Nat} (h : ¬ (i < 0 ∨ n ≤ i.toNatClampNeg)) : vp_in i n := h
theorem ao_eI0 {a n : Nat} {i : Int32} {f : Nat → Int32} (X : am_Cx G p R s0 m args meth c cc nL o init sF n0 l0) (hd : decode cc pc = .ok (.iaload, 1)) (hc2 : s.1 a = some (.inl (0, n, .inl f))) (hi : ¬ (i < 0 ∨ n ≤ i.toNatClampNeg)) (h : am_Go G p l e R s0 m args below meth c Q nL sF n0 l0 (pc + 1, ls, am_I (f i.toNatClampNeg) :: r, s)) : am_Go G p l e R s0 m args below meth c Q nL sF n0 l0 (pc, ls, am_I i :: am_R (some a) :: r, s) := by
  obtain ⟨hx, hb, hml, hown, hts, hK, hOld, hRc, hRs, hsz, hin, hf⟩ := X
  refine ⟨h.1, h.2.1, fun hn hs H locs lz hW hS hl => ?_⟩
  exact va_iald hx hb hK.1 hW.1 a 0 (am_ws_of hW hc2) (am_tys_at G (by decide)) (am_vin hi) hd (h.2.2 hn hs H locs lz hW hS hl)
theorem ao_eZ {a n : Nat} {i : Int32} {f : Nat → Int32} (X : am_Cx G p R s0 m args meth c cc nL o init sF n0 l0) (hd : decode cc pc = .ok (.baload, 1)) (hc2 : s.1 a = some (.inl (1, n, .inl f))) (hi : ¬ (i < 0 ∨ n ≤ i.toNatClampNeg)) (h : am_Go G p l e R s0 m args below meth c Q nL sF n0 l0 (pc + 1, ls, am_I (f i.toNatClampNeg) :: r, s)) : am_Go G p l e R s0 m args below meth c Q nL sF n0 l0 (pc, ls, am_I i :: am_R (some a) :: r, s) := by
  obtain ⟨hx, hb, hml, hown, hts, hK, hOld, hRc, hRs, hsz, hin, hf⟩ := X
  refine ⟨h.1, h.2.1, fun hn hs H locs lz hW hS hl => ?_⟩
  exact va_zald hx hb hK.1 hW.1 a 1 (am_ws_of hW hc2) (am_tys_at G (by decide)) (am_vin hi) hd (h.2.2 hn hs H locs lz hW hS hl)
theorem ao_eB {a n : Nat} {i : Int32} {f : Nat → Int32} (X : am_Cx G p R s0 m args meth c cc nL o init sF n0 l0) (hd : decode cc pc = .ok (.baload, 1)) (hc2 : s.1 a = some (.inl (2, n, .inl f))) (hi : ¬ (i < 0 ∨ n ≤ i.toNatClampNeg)) (h : am_Go G p l e R s0 m args below meth c Q nL sF n0 l0 (pc + 1, ls, am_I (f i.toNatClampNeg) :: r, s)) : am_Go G p l e R s0 m args below meth c Q nL sF n0 l0 (pc, ls, am_I i :: am_R (some a) :: r, s) := by
  obtain ⟨hx, hb, hml, hown, hts, hK, hOld, hRc, hRs, hsz, hin, hf⟩ := X
  refine ⟨h.1, h.2.1, fun hn hs H locs lz hW hS hl => ?_⟩
  exact va_bald hx hb hK.1 hW.1 a 2 (am_ws_of hW hc2) (am_tys_at G (by decide)) (am_vin hi) hd (h.2.2 hn hs H locs lz hW hS hl)
theorem ao_eL {a n : Nat} {i : Int32} {f : Nat → Int64} (X : am_Cx G p R s0 m args meth c cc nL o init sF n0 l0) (hd : decode cc pc = .ok (.laload, 1)) (hc2 : s.1 a = some (.inl (3, n, .inr (.inl f)))) (hi : ¬ (i < 0 ∨ n ≤ i.toNatClampNeg)) (h : am_Go G p l e R s0 m args below meth c Q nL sF n0 l0 (pc + 1, ls, am_L (f i.toNatClampNeg) :: r, s)) : am_Go G p l e R s0 m args below meth c Q nL sF n0 l0 (pc, ls, am_I i :: am_R (some a) :: r, s) := by
  obtain ⟨hx, hb, hml, hown, hts, hK, hOld, hRc, hRs, hsz, hin, hf⟩ := X
  refine ⟨h.1, h.2.1, fun hn hs H locs lz hW hS hl => ?_⟩
  exact va_lald hx hb hK.1 hW.1 a 3 (am_ws_of hW hc2) (am_tys_at G (by decide)) (am_vin hi) hd (h.2.2 hn hs H locs lz hW hS hl)
theorem am_tyo4 {t : Nat} (h : 3 < t) : am_tyo t = .object (am_cn (am_et t)) := by
  match t, h with
  | t + 4, _ => rfl
theorem ao_eR {a n t : Nat} {i : Int32} {f : Nat → Option Nat} (X : am_Cx G p R s0 m args meth c cc nL o init sF n0 l0) (hd : decode cc pc = .ok (.aaload, 1)) (ht3 : 3 < t) (ht8 : t < 8) (hc2 : s.1 a = some (.inl (t, n, .inr (.inr f)))) (hi : ¬ (i < 0 ∨ n ≤ i.toNatClampNeg)) (h : am_Go G p l e R s0 m args below meth c Q nL sF n0 l0 (pc + 1, ls, am_R (f i.toNatClampNeg) :: r, s)) : am_Go G p l e R s0 m args below meth c Q nL sF n0 l0 (pc, ls, am_I i :: am_R (some a) :: r, s) := by
  obtain ⟨hx, hb, hml, hown, hts, hK, hOld, hRc, hRs, hsz, hin, hf⟩ := X
  refine ⟨h.1, h.2.1, fun hn hs H locs lz hW hS hl => ?_⟩
  exact va_aldq hx hb hK.1 hW.1 a t (am_ws_of hW hc2) (by rw [← am_tyo4 ht3]; exact am_tys_at G ht8) (am_vin hi) hd (h.2.2 hn hs H locs lz hW hS hl)
theorem ao_len {a n t : Nat} {x : am_A} (X : am_Cx G p R s0 m args meth c cc nL o init sF n0 l0) (hd : decode cc pc = .ok (.arraylength, 1)) (ht8 : t < 8) (hc2 : s.1 a = some (.inl (t, n, x))) (h : am_Go G p l e R s0 m args below meth c Q nL sF n0 l0 (pc + 1, ls, am_I (Int32.ofNat n) :: r, s)) : am_Go G p l e R s0 m args below meth c Q nL sF n0 l0 (pc, ls, am_R (some a) :: r, s) := by
  obtain ⟨hx, hb, hml, hown, hts, hK, hOld, hRc, hRs, hsz, hin, hf⟩ := X
  refine ⟨h.1, h.2.1, fun hn hs H locs lz hW hS hl => ?_⟩
  have hw := am_ws_of hW hc2
  match x, hw with
  | .inl f, hw => exact va_alen hx hb hK.1 hW.1 a t hw (am_tys_at G ht8) rfl hd (h.2.2 hn hs H locs lz hW hS hl)
  | .inr (.inl f), hw => exact va_alen hx hb hK.1 hW.1 a t hw (am_tys_at G ht8) rfl hd (h.2.2 hn hs H locs lz hW hS hl)
  | .inr (.inr f), hw => exact va_alen hx hb hK.1 hW.1 a t hw (am_tys_at G ht8) rfl hd (h.2.2 hn hs H locs lz hW hS hl)
theorem am_up_upd (f : Nat → Int32) (k : Nat) (x : Int32) : am_up f k x = upd f k x := by
  funext j
  unfold am_up upd
  by_cases h : j = k
  · rw [h, Nat.beq_refl, if_pos rfl]; rfl
  · rw [if_neg h, show Nat.beq j k = false from by
      cases hb : Nat.beq j k with
      | false => rfl
      | true => exact absurd (Nat.eq_of_beq_eq_true hb) h]; rfl
theorem am_up_L (f : Nat → Int64) (k : Nat) (x : Int64) : am_up f k x = vp_updL f k x := by
  funext j
  unfold am_up vp_updL
  by_cases h : j = k
  · rw [h, Nat.beq_refl, if_pos rfl]; rfl
  · rw [if_neg h, show Nat.beq j k = false from by
      cases hb : Nat.beq j k with
      | false => rfl
      | true => exact absurd (Nat.eq_of_beq_eq_true hb) h]; rfl
theorem am_up_q (N : Nat) (f : Nat → Option Nat) (k : Nat) (x : Nat) : (fun j => am_sh N (am_up f k (some x) j)) = va_up (fun j => am_sh N (f j)) k (some (N + x)) := by
  funext j
  unfold am_up va_up
  by_cases h : j = k
  · rw [h, Nat.beq_refl, if_pos rfl]; rfl
  · rw [if_neg h, show Nat.beq j k = false from by
      cases hb : Nat.beq j k with
      | false => rfl
      | true => exact absurd (Nat.eq_of_beq_eq_true hb) h]; rfl
theorem ao_tI {a n : Nat} {i : Int32} {x : Int32} {f : Nat → Int32} (X : am_Cx G p R s0 m args meth c cc nL o init sF n0 l0) (hd : decode cc pc = .ok (.iastore, 1)) (hc2 : s.1 a = some (.inl (0, n, .inl f))) (hi : ¬ (i < 0 ∨ n ≤ i.toNatClampNeg)) (h : am_Go G p l e R s0 m args below meth c Q nL sF n0 l0 (pc + 1, ls, r, (am_w s.1 a (.inl (0, n, .inl (am_up f i.toNatClampNeg (x)))), s.2))) : am_Go G p l e R s0 m args below meth c Q nL sF n0 l0 (pc, ls, am_I x :: am_I i :: am_R (some a) :: r, s) := by
  obtain ⟨hx, hb, hml, hown, hts, hK, hOld, hRc, hRs, hsz, hin, hf⟩ := X
  refine ⟨h.1, h.2.1, fun hn hs H locs lz hW hS hl => ?_⟩
  refine va_iast hx hb hK.1 hW.1 (am_ws_d _ _ _ s) hS a 0 (am_ws_of hW hc2) (am_tys_at G (by decide)) (am_vin hi) hd (fun H1 locs1 hP1 _ hS1 => ?_)
  refine h.2.2 hn hs H1 locs1 lz (am_Wd_set hW hc2 (ho := fun h => h) (x2 := .inl (0, n, .inl (am_up f i.toNatClampNeg (x)))) ?_) hS1 hl
  rw [am_up_upd]
  exact hP1
theorem ao_tZ {a n : Nat} {i : Int32} {x : Int32} {f : Nat → Int32} (X : am_Cx G p R s0 m args meth c cc nL o init sF n0 l0) (hd : decode cc pc = .ok (.bastore, 1)) (hc2 : s.1 a = some (.inl (1, n, .inl f))) (hi : ¬ (i < 0 ∨ n ≤ i.toNatClampNeg)) (h : am_Go G p l e R s0 m args below meth c Q nL sF n0 l0 (pc + 1, ls, r, (am_w s.1 a (.inl (1, n, .inl (am_up f i.toNatClampNeg (x &&& 1)))), s.2))) : am_Go G p l e R s0 m args below meth c Q nL sF n0 l0 (pc, ls, am_I x :: am_I i :: am_R (some a) :: r, s) := by
  obtain ⟨hx, hb, hml, hown, hts, hK, hOld, hRc, hRs, hsz, hin, hf⟩ := X
  refine ⟨h.1, h.2.1, fun hn hs H locs lz hW hS hl => ?_⟩
  refine va_zast hx hb hK.1 hW.1 (am_ws_d _ _ _ s) hS a 1 (am_ws_of hW hc2) (am_tys_at G (by decide)) (am_vin hi) hd (fun H1 locs1 hP1 _ hS1 => ?_)
  refine h.2.2 hn hs H1 locs1 lz (am_Wd_set hW hc2 (ho := fun h => h) (x2 := .inl (1, n, .inl (am_up f i.toNatClampNeg (x &&& 1)))) ?_) hS1 hl
  rw [am_up_upd]
  exact hP1
theorem ao_tB {a n : Nat} {i : Int32} {x : Int32} {f : Nat → Int32} (X : am_Cx G p R s0 m args meth c cc nL o init sF n0 l0) (hd : decode cc pc = .ok (.bastore, 1)) (hc2 : s.1 a = some (.inl (2, n, .inl f))) (hi : ¬ (i < 0 ∨ n ≤ i.toNatClampNeg)) (h : am_Go G p l e R s0 m args below meth c Q nL sF n0 l0 (pc + 1, ls, r, (am_w s.1 a (.inl (2, n, .inl (am_up f i.toNatClampNeg (x.toInt8.toInt32)))), s.2))) : am_Go G p l e R s0 m args below meth c Q nL sF n0 l0 (pc, ls, am_I x :: am_I i :: am_R (some a) :: r, s) := by
  obtain ⟨hx, hb, hml, hown, hts, hK, hOld, hRc, hRs, hsz, hin, hf⟩ := X
  refine ⟨h.1, h.2.1, fun hn hs H locs lz hW hS hl => ?_⟩
  refine va_bast hx hb hK.1 hW.1 (am_ws_d _ _ _ s) hS a 2 (am_ws_of hW hc2) (am_tys_at G (by decide)) (am_vin hi) hd (fun H1 locs1 hP1 _ hS1 => ?_)
  refine h.2.2 hn hs H1 locs1 lz (am_Wd_set hW hc2 (ho := fun h => h) (x2 := .inl (2, n, .inl (am_up f i.toNatClampNeg (x.toInt8.toInt32)))) ?_) hS1 hl
  rw [am_up_upd]
  exact hP1
theorem ao_tL {a n : Nat} {i : Int32} {x : Int64} {f : Nat → Int64} (X : am_Cx G p R s0 m args meth c cc nL o init sF n0 l0) (hd : decode cc pc = .ok (.lastore, 1)) (hc2 : s.1 a = some (.inl (3, n, .inr (.inl f)))) (hi : ¬ (i < 0 ∨ n ≤ i.toNatClampNeg)) (h : am_Go G p l e R s0 m args below meth c Q nL sF n0 l0 (pc + 1, ls, r, (am_w s.1 a (.inl (3, n, .inr (.inl (am_up f i.toNatClampNeg x)))), s.2))) : am_Go G p l e R s0 m args below meth c Q nL sF n0 l0 (pc, ls, am_L x :: am_I i :: am_R (some a) :: r, s) := by
  obtain ⟨hx, hb, hml, hown, hts, hK, hOld, hRc, hRs, hsz, hin, hf⟩ := X
  refine ⟨h.1, h.2.1, fun hn hs H locs lz hW hS hl => ?_⟩
  refine va_last hx hb hK.1 hW.1 (am_ws_d _ _ _ s) hS a 3 (am_ws_of hW hc2) (am_tys_at G (by decide)) (am_vin hi) hd (fun H1 locs1 hP1 _ hS1 => ?_)
  refine h.2.2 hn hs H1 locs1 lz (am_Wd_set hW hc2 (ho := fun h => h) (x2 := .inl (3, n, .inr (.inl (am_up f i.toNatClampNeg x)))) ?_) hS1 hl
  rw [am_up_L]
  exact hP1
theorem ao_tR {a n t b : Nat} {i : Int32} {f : Nat → Option Nat} {fs : List am_V} {q : vw_C} (X : am_Cx G p R s0 m args meth c cc nL o init sF n0 l0) (hd : decode cc pc = .ok (.aastore, 1)) (ht3 : 3 < t) (ht8 : t < 8) (hc : am_cls[am_et t]? = some q) (hc2 : s.1 a = some (.inl (t, n, .inr (.inr f)))) (hv : s.1 b = some (.inr (am_et t, fs))) (hi : ¬ (i < 0 ∨ n ≤ i.toNatClampNeg)) (h : am_Go G p l e R s0 m args below meth c Q nL sF n0 l0 (pc + 1, ls, r, (am_w s.1 a (.inl (t, n, .inr (.inr (am_up f i.toNatClampNeg (some b))))), s.2))) : am_Go G p l e R s0 m args below meth c Q nL sF n0 l0 (pc, ls, am_R (some b) :: am_I i :: am_R (some a) :: r, s) := by
  obtain ⟨hx, hb, hml, hown, hts, hK, hOld, hRc, hRs, hsz, hin, hf⟩ := X
  refine ⟨h.1, h.2.1, fun hn hs H locs lz hW hS hl => ?_⟩
  have hty : (am_tys G)[t]? = some (gA G t, .object q.1) := by
    rw [am_tys_at G ht8, am_tyo4 ht3]
    unfold am_cn
    rw [hc]
  refine va_astq hx hb hK.1 hW.1 (am_ws_d _ _ _ s) hS a t b (am_et t) (am_ws_of hW hc2) hty (am_ws_of hW hv) hc (am_vin hi) hd (fun H1 locs1 hP1 _ hS1 => ?_)
  refine h.2.2 hn hs H1 locs1 lz (am_Wd_set hW hc2 (ho := fun h => h) (x2 := .inl (t, n, .inr (.inr (am_up f i.toNatClampNeg (some b))))) ?_) hS1 hl
  show va_P _ _ ((am_ws _ _ _ s).set a (gN G + a, .inl (gA G t, n, .inr (.inr (.inr (.inr (fun j => am_sh (gN G) (am_up f i.toNatClampNeg (some b) j)))))))) H1
  rw [am_up_q]
  exact hP1
theorem am_cpy_eq {α : Type} (f g : Nat → α) (sp dp n : Nat) : am_cpy f g sp dp n = va_cpy f g sp dp n := rfl
theorem ao_cp {z a0 a n0' n1 t : Nat} {sp dp n : Int32} {f g : Nat → Int32} (X : am_Cx G p R s0 m args meth c cc nL o init sF n0 l0) (hd : decode cc pc = .ok (.invokestatic z, 3)) (hw : Jvm.Cond.methodLink (am_on o) z arraycopyName ∈ am_Ts) (hR : 1 ≤ R.frames ∧ 26 ≤ R.locals) (hcat : am_cat r ≤ 8) (ht : t ≤ 1) (hc0 : s.1 a0 = some (.inl (t, n0', .inl f))) (hc1 : s.1 a = some (.inl (t, n1, .inl g))) (h1 : ¬ sp < 0) (h2 : ¬ dp < 0) (h3 : ¬ n < 0) (h4 : sp.toNatClampNeg + n.toNatClampNeg ≤ n0') (h5 : dp.toNatClampNeg + n.toNatClampNeg ≤ n1) (hft : t = 0 ∨ ∀ i, i < n.toNatClampNeg → f (sp.toNatClampNeg + i) &&& 1 = f (sp.toNatClampNeg + i)) (h : am_Go G p l e R s0 m args below meth c Q nL sF n0 l0 (pc + 3, ls, r, (am_w s.1 a (.inl (t, n1, .inl (am_cpy f g sp.toNatClampNeg dp.toNatClampNeg n.toNatClampNeg))), s.2))) : am_Go G p l e R s0 m args below meth c Q nL sF n0 l0 (pc, ls, am_I n :: am_I dp :: am_R (some a) :: am_I sp :: am_R (some a0) :: r, s) := by
  obtain ⟨hx, hb, hml, hown, hts, hK, hOld, hRc, hRs, hsz, hin, hf⟩ := X
  refine ⟨h.1, h.2.1, fun hn hs H locs lz hW hS hl => ?_⟩
  have w := am_ac_w
  simp only [Bool.and_eq_true] at w
  have hfit : ∀ i, i < n.toNatClampNeg → fits (am_tyo t) (.int (f (sp.toNatClampNeg + i))) = true := by
    intro i hi
    match t, ht, hft with
    | 0, _, _ => rfl
    | 1, _, hft =>
      have e := (hft.resolve_left (by decide)) i hi
      have e0 : (f (sp.toNatClampNeg + i) &&& 1) = 0 ∨ (f (sp.toNatClampNeg + i) &&& 1) = 1 := am_and1 _
      rw [e] at e0
      rcases e0 with e0 | e0 <;> rw [e0] <;> rfl
  have hprim : refKind (am_tyo t) = false := by
    match t, ht with
    | 0, _ => rfl
    | 1, _ => rfl
  refine va_copyi hx hb (by rw [hml]; exact hl.2.1.symm) hown (hts _ hw) (hts _ (am_hs_in w.1.1)) (hts _ (am_hs_in w.1.2)) (hts _ (am_hs_in w.2)) hK.1 hW.1 (am_ws_d _ _ _ s) hS a0 a t t (am_ws_of hW hc0) (am_ws_of hW hc1) (am_tys_at G (by omega)) (am_tys_at G (by omega)) hprim h1 h2 h3 h4 h5 hfit hR.1 ?_ hd (fun H1 locs1 hP1 _ hS1 => ?_)
  · have hc := am_cat_sum (gN G) (gO G) (gO_cat hf) r
    rw [hc]
    have e9 : nativeFrameWords "java/lang/System" "arraycopy" 5 = 7 := by decide
    rw [e9]
    omega
  · exact h.2.2 hn hs H1 locs1 lz (am_Wd_set hW hc1 (ho := fun h => h) (x2 := .inl (t, n1, .inl (am_cpy f g sp.toNatClampNeg dp.toNatClampNeg n.toNatClampNeg))) hP1) hS1 hl
end AmHeap
