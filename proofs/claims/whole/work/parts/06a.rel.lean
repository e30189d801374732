/-! THE SMALL MACHINE AGAINST THE BIG ONE: an own address a is N0 + a there -/
section AmRel
variable (N0 : Nat) (oV : Nat → Value) (dA : Nat → ClassId)
def am_sh (r : Option Nat) : Option Nat := r.map (fun a => N0 + a)
def am_tv : am_V → Value
  | .inl x => .int x
  | .inr (.inl x) => .long x
  | .inr (.inr (.inl r)) => va_rf (am_sh N0 r)
  | .inr (.inr (.inr j)) => oV j
def am_tc : Option am_C → va_E
  | some (.inl (t, n, .inl f)) => .inl (dA t, n, .inl f)
  | some (.inl (t, n, .inr (.inl f))) => .inl (dA t, n, .inr (.inl f))
  | some (.inl (t, n, .inr (.inr f))) => .inl (dA t, n, .inr (.inr (.inr (.inr (fun j => am_sh N0 (f j))))))
  | some (.inr (ci, fs)) => .inr (ci, fs.map (am_tv N0 oV))
  | none => .inr (99, [])
def am_ws (s : am_S) : va_W := (List.range s.2.1).map fun a => (N0 + a, am_tc N0 oV dA (s.1 a))
theorem am_ws_at {s : am_S} {a : Nat} (h : a < s.2.1) : (am_ws N0 oV dA s)[a]? = some (N0 + a, am_tc N0 oV dA (s.1 a)) := by
  simp [am_ws, List.getElem?_map, List.getElem?_range h]
theorem am_ws_to {s : am_S} {k : Nat} {q : Nat × va_E} (h : (am_ws N0 oV dA s)[k]? = some q) : k < s.2.1 ∧ q = (N0 + k, am_tc N0 oV dA (s.1 k)) := by
  have hk : k < s.2.1 := by
    have := (List.getElem?_eq_some_iff.mp h).1
    simpa [am_ws] using this
  rw [am_ws_at N0 oV dA hk] at h
  exact ⟨hk, (Option.some.inj h).symm⟩
theorem am_ws_d (s : am_S) : va_D (fun q : Nat => N0 ≤ q) (am_ws N0 oV dA s) := by
  refine ⟨fun i j p q hi hj e => ?_, fun k q hk => ?_⟩
  · obtain ⟨-, rfl⟩ := am_ws_to N0 oV dA hi
    obtain ⟨-, rfl⟩ := am_ws_to N0 oV dA hj
    exact Nat.add_left_cancel e
  · obtain ⟨-, rfl⟩ := am_ws_to N0 oV dA hk
    exact Nat.le_add_right _ _
theorem am_w_at (h : am_H) (a : Nat) (c : am_C) : am_w h a c a = some c := by
  unfold am_w
  rw [Nat.beq_refl]
  rfl
theorem am_w_ne (h : am_H) {a b : Nat} (c : am_C) (hn : b ≠ a) : am_w h a c b = h b := by
  unfold am_w
  rw [show Nat.beq b a = false from by
    cases hb : Nat.beq b a with
    | false => rfl
    | true => exact absurd (Nat.eq_of_beq_eq_true hb) hn]
  rfl
theorem am_ws_len (s : am_S) : (am_ws N0 oV dA s).length = s.2.1 := by simp [am_ws]
theorem am_ws_set {s : am_S} {a : Nat} (c : am_C) (h : a < s.2.1) : (am_ws N0 oV dA s).set a (N0 + a, am_tc N0 oV dA (some c)) = am_ws N0 oV dA (am_w s.1 a c, s.2) := by
  apply List.ext_getElem?
  intro k
  by_cases hk : k < s.2.1
  · rw [am_ws_at N0 oV dA (s := (am_w s.1 a c, s.2)) hk]
    by_cases hka : k = a
    · subst hka
      rw [List.getElem?_set_self (by rw [am_ws_len]; exact hk)]
      show _ = some (N0 + k, am_tc N0 oV dA (am_w s.1 k c k))
      rw [am_w_at]
    · rw [List.getElem?_set_ne (Ne.symm hka), am_ws_at N0 oV dA hk]
      show _ = some (N0 + k, am_tc N0 oV dA (am_w s.1 a c k))
      rw [am_w_ne _ _ hka]
  · rw [List.getElem?_eq_none (by rw [List.length_set, am_ws_len]; omega), List.getElem?_eq_none (by rw [am_ws_len]; show s.2.1 ≤ k; omega)]
theorem am_ws_push (s : am_S) (c : am_C) (n : Nat) : am_ws N0 oV dA (am_al s c n) = am_ws N0 oV dA s ++ [(N0 + s.2.1, am_tc N0 oV dA (some c))] := by
  show (List.range (s.2.1 + 1)).map _ = _
  rw [List.range_succ, List.map_append]
  congr 1
  · apply List.map_congr_left
    intro a ha
    have hlt : a < s.2.1 := List.mem_range.mp ha
    show (N0 + a, am_tc N0 oV dA (am_w s.1 s.2.1 c a)) = _
    rw [am_w_ne _ _ (Nat.ne_of_lt hlt)]
  · show [(N0 + s.2.1, am_tc N0 oV dA (am_w s.1 s.2.1 c s.2.1))] = _
    rw [am_w_at]
-- locals
def am_ll (d : List (Option am_V)) : List (Nat × Value) := (List.range d.length).filterMap fun i => match d[i]? with
  | some (some v) => some (i, am_tv N0 oV v)
  | _ => none
theorem am_ll_in {d : List (Option am_V)} {q : Nat × Value} : q ∈ am_ll N0 oV d ↔ ∃ (i : Nat) (v : am_V), d[i]? = some (some v) ∧ q = (i, am_tv N0 oV v) := by
  unfold am_ll
  rw [List.mem_filterMap]
  constructor
  · rintro ⟨i, -, h⟩
    split at h
    next v e => exact ⟨i, v, e, (Option.some.inj h).symm⟩
    next => cases h
  · rintro ⟨i, v, e, rfl⟩
    have hl := (List.getElem?_eq_some_iff.mp e).1
    exact ⟨i, List.mem_range.mpr hl, by rw [e]⟩
def am_lv (ls : Array Slot) (nL : Nat) (d : List (Option am_V)) : Prop := d.length = nL ∧ lv_has ls nL (am_ll N0 oV d)
theorem am_lv_at {ls : Array Slot} {nL : Nat} {d : List (Option am_V)} (h : am_lv N0 oV ls nL d) {i : Nat} {v : am_V} (hi : d[i]? = some (some v)) : ls[i]? = some (.val (am_tv N0 oV v)) :=
  h.2.2.2 (i, am_tv N0 oV v) ((am_ll_in N0 oV).mpr ⟨i, v, hi, rfl⟩)
theorem am_lv_mono {ls : Array Slot} {nL : Nat} {l : List (Nat × Value)} {d : List (Option am_V)} (h : lv_has ls nL l) (hd : d.length = nL) (hs : ∀ (i : Nat) (v : am_V), d[i]? = some (some v) → (i, am_tv N0 oV v) ∈ l) : am_lv N0 oV ls nL d := by
  refine ⟨hd, h.1, h.2.1, fun q hq => ?_⟩
  obtain ⟨i, v, e, rfl⟩ := (am_ll_in N0 oV).mp hq
  exact h.2.2 _ (hs i v e)
theorem am_k0_len (d : List (Option am_V)) (i : Nat) : (am_k0 d i).length = d.length := by
  unfold am_k0
  split
  · rfl
  · rename_i j
    cases am_kl d[j]? <;> simp
theorem am_k0_at {d : List (Option am_V)} {i j : Nat} {v : am_V} (h : (am_k0 d i)[j]? = some (some v)) : d[j]? = some (some v) ∧ ¬ (j + 1 = i ∧ am_ct v = 2) := by
  cases i with
  | zero => exact ⟨h, fun q => by omega⟩
  | succ i =>
    unfold am_k0 at h
    dsimp only at h
    cases hk : am_kl d[i]? with
    | true =>
      rw [hk] at h
      simp only [cond_true] at h
      by_cases hj : j = i
      · subst hj
        have hl : j < d.length := by
          cases e : d[j]? with
          | none => rw [e] at hk; cases hk
          | some q => exact (List.getElem?_eq_some_iff.mp e).1
        rw [List.getElem?_set_self hl] at h
        cases h
      · rw [List.getElem?_set_ne (Ne.symm hj)] at h
        exact ⟨h, fun q => hj (by omega)⟩
    | false =>
      rw [hk] at h
      simp only [cond_false] at h
      refine ⟨h, fun q => ?_⟩
      obtain ⟨q1, q2⟩ := q
      have hj : j = i := by omega
      subst hj
      rw [h] at hk
      match v, q2 with
      | .inr (.inl x), _ => cases hk
      | .inl x, q2 => cases q2
      | .inr (.inr x), q2 => cases q2
theorem am_sh_cat (r : Option Nat) : (va_rf (am_sh N0 r)).category = 1 := by cases r <;> rfl
theorem am_tv_cat (hO : ∀ j, (oV j).category = 1) (v : am_V) : (am_tv N0 oV v).category = am_ct v := by
  match v with
  | .inl x => rfl
  | .inr (.inl x) => rfl
  | .inr (.inr (.inl r)) => exact am_sh_cat N0 r
  | .inr (.inr (.inr j)) => exact hO j
theorem am_lv_s1 (hO : ∀ j, (oV j).category = 1) {ls ls' : Array Slot} {nL i : Nat} {d : List (Option am_V)} {v : am_V} (h : am_lv N0 oV ls nL d) (hi : i < nL)
    (h' : lv_has ls' nL ((i, am_tv N0 oV v) :: (am_ll N0 oV d).filter (fun q => !(q.1 == i) && !(q.1 + 1 == i && q.2.category == 2)))) : am_lv N0 oV ls' nL (am_s1 d i v) := by
  refine am_lv_mono N0 oV h' (by unfold am_s1; rw [List.length_set, am_k0_len]; exact h.1) (fun j w hw => ?_)
  unfold am_s1 at hw
  by_cases hj : j = i
  · subst hj
    rw [List.getElem?_set_self (by rw [am_k0_len, h.1]; exact hi)] at hw
    cases hw
    exact List.mem_cons_self
  · rw [List.getElem?_set_ne (Ne.symm hj)] at hw
    obtain ⟨h1, h2⟩ := am_k0_at hw
    refine List.mem_cons_of_mem _ (List.mem_filter.mpr ⟨(am_ll_in N0 oV).mpr ⟨j, w, h1, rfl⟩, ?_⟩)
    rw [am_tv_cat N0 oV hO]
    by_cases hji : j + 1 = i
    · have hc : ¬ am_ct w = 2 := fun q => h2 ⟨hji, q⟩
      simp [hj, hc]
    · simp [hj, hji]
theorem am_lv_s2 (hO : ∀ j, (oV j).category = 1) {ls ls' : Array Slot} {nL i : Nat} {d : List (Option am_V)} {x : Int64} (h : am_lv N0 oV ls nL d) (hi : i + 1 < nL)
    (h' : lv_has ls' nL ((i, Value.long x) :: (am_ll N0 oV d).filter (fun q => !(q.1 == i) && (!(q.1 == i + 1) && !(q.1 + 1 == i && q.2.category == 2))))) : am_lv N0 oV ls' nL (am_s2 d i (am_L x)) := by
  refine am_lv_mono N0 oV h' (by unfold am_s2; rw [List.length_set, List.length_set, am_k0_len]; exact h.1) (fun j w hw => ?_)
  unfold am_s2 at hw
  by_cases hj2 : j = i + 1
  · subst hj2
    rw [List.getElem?_set_self (by rw [List.length_set, am_k0_len, h.1]; exact hi)] at hw
    cases hw
  · rw [List.getElem?_set_ne (Ne.symm hj2)] at hw
    by_cases hj : j = i
    · subst hj
      rw [List.getElem?_set_self (by rw [am_k0_len, h.1]; omega)] at hw
      cases hw
      exact List.mem_cons_self
    · rw [List.getElem?_set_ne (Ne.symm hj)] at hw
      obtain ⟨h1, h2⟩ := am_k0_at hw
      refine List.mem_cons_of_mem _ (List.mem_filter.mpr ⟨(am_ll_in N0 oV).mpr ⟨j, w, h1, rfl⟩, ?_⟩)
      rw [am_tv_cat N0 oV hO]
      by_cases hji : j + 1 = i
      · have hc : ¬ am_ct w = 2 := fun q => h2 ⟨hji, q⟩
        simp [hj, hj2, hc]
      · simp [hj, hj2, hji]
theorem am_clr_len : ∀ (c : List Nat) (d : List (Option am_V)), (am_clr c d).length = d.length
  | [], d => rfl
  | i :: c, d => by
    unfold am_clr
    rw [am_clr_len c]
    simp
theorem am_clr_at : ∀ (c : List Nat) (d : List (Option am_V)) (j : Nat) (v : am_V), (am_clr c d)[j]? = some (some v) → d[j]? = some (some v)
  | [], d, j, v, h => h
  | i :: c, d, j, v, h => by
    unfold am_clr at h
    have h := am_clr_at c _ j v h
    by_cases hj : j = i
    · subst hj
      by_cases hl : j < d.length
      · rw [List.getElem?_set_self hl] at h
        cases h
      · rw [List.getElem?_eq_none (by rw [List.length_set]; omega)] at h
        cases h
    · rwa [List.getElem?_set_ne (Ne.symm hj)] at h
theorem am_lv_clr {ls : Array Slot} {nL : Nat} {d : List (Option am_V)} (h : am_lv N0 oV ls nL d) (c : List Nat) : am_lv N0 oV ls nL (am_clr c d) :=
  am_lv_mono N0 oV h.2 (by rw [am_clr_len]; exact h.1) (fun i v e => (am_ll_in N0 oV).mpr ⟨i, v, am_clr_at c d i v e, rfl⟩)
theorem am_sl_args (hO : ∀ j, (oV j).category = 1) : ∀ (as : List am_V) (k i : Nat) (v : am_V), (am_sl as)[i]? = some (some v) → (k + i, am_tv N0 oV v) ∈ lv_args k (as.map (am_tv N0 oV))
  | [], k, i, v, h => by simp [am_sl] at h
  | a :: as, k, i, v, h => by
    have hc := am_tv_cat N0 oV hO a
    have one : am_ct a = 1 → (some a :: am_sl as)[i]? = some (some v) → (k + i, am_tv N0 oV v) ∈ lv_args k ((a :: as).map (am_tv N0 oV)) := by
      intro h1 h
      show _ ∈ (k, am_tv N0 oV a) :: lv_args (if (am_tv N0 oV a).category = 2 then k + 2 else k + 1) (as.map (am_tv N0 oV))
      rw [hc, h1, if_neg (by decide)]
      cases i with
      | zero => simp at h; subst h; exact List.mem_cons_self
      | succ i =>
        simp only [List.getElem?_cons_succ] at h
        have q := am_sl_args hO as (k + 1) i v h
        rw [show k + (i + 1) = k + 1 + i by omega]
        exact List.mem_cons_of_mem _ q
    match a, hc, one, h with
    | .inr (.inl x), hc, _, h =>
      show _ ∈ (k, am_tv N0 oV (am_L x)) :: lv_args (if (am_tv N0 oV (am_L x)).category = 2 then k + 2 else k + 1) (as.map (am_tv N0 oV))
      rw [hc, if_pos (show am_ct (Sum.inr (Sum.inl x)) = 2 from rfl)]
      match i, h with
      | 0, h => simp [am_sl] at h; subst h; exact List.mem_cons_self
      | 1, h => simp [am_sl] at h
      | i + 2, h =>
        have h' : (am_sl as)[i]? = some (some v) := by simpa [am_sl] using h
        have q := am_sl_args hO as (k + 2) i v h'
        rw [show k + (i + 2) = k + 2 + i by omega]
        exact List.mem_cons_of_mem _ q
    | .inl x, _, one, h => exact one rfl h
    | .inr (.inr x), _, one, h => exact one rfl h
theorem am_sl_len (hO : ∀ j, (oV j).category = 1) : ∀ (as : List am_V), (lg_sl (as.map (am_tv N0 oV))).length = (am_sl as).length
  | [] => rfl
  | a :: as => by
    have hc := am_tv_cat N0 oV hO a
    have ih := am_sl_len hO as
    unfold lg_sl at ih ⊢
    simp only [List.map_cons, List.flatMap_cons, List.length_append]
    rw [ih, hc]
    match a with
    | .inr (.inl x) => simp [am_ct, am_sl]; omega
    | .inl x => simp [am_ct, am_sl]; omega
    | .inr (.inr x) => simp [am_ct, am_sl]; omega
/-- the locals with which a method begins -/
theorem am_lv_entry (hO : ∀ j, (oV j).category = 1) (as : List am_V) {n : Nat} (h : (am_sl as).length ≤ n) :
    am_lv N0 oV ((lg_sl (as.map (am_tv N0 oV)) ++ List.replicate (n - (lg_sl (as.map (am_tv N0 oV))).length) Slot.unset).toArray) n (am_pad n (am_sl as)) := by
  refine am_lv_mono N0 oV (lv_entry (as.map (am_tv N0 oV)) (by rw [am_sl_len N0 oV hO]; exact h)) (by unfold am_pad; simp; omega) (fun i v e => ?_)
  unfold am_pad at e
  by_cases hl : i < (am_sl as).length
  · rw [List.getElem?_append_left hl] at e
    have q := am_sl_args N0 oV hO as 0 i v e
    rwa [Nat.zero_add] at q
  · rw [List.getElem?_append_right (by omega)] at e
    have e2 := List.mem_of_getElem? e
    have := List.eq_of_mem_replicate e2
    cases this
theorem am_cat_sum (hO : ∀ j, (oV j).category = 1) : ∀ (st : List am_V), ((st.map (am_tv N0 oV)).map fun v => v.category).sum = am_cat st
  | [] => rfl
  | v :: st => by
    simp only [List.map_cons, List.sum_cons, am_cat]
    rw [am_tv_cat N0 oV hO, am_cat_sum hO st]
end AmRel
