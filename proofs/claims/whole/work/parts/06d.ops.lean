/-! EACH KIND OF INSTRUCTION: what the small machine does, the big one does -/
section AmOp
variable {G : am_Gt} {p : Program} {l : Launch} {e : Env} {R : Room} {s0 : State} {m : MethodId} {args : Array Value} {below : List Frame} {meth : Method} {c : Code} {Q : State → Prop} {cc : ByteArray} {nL o : Nat} {init : Bool} {sF : am_S} {n0 l0 : Nat} {pc : Nat} {ls : List (Option am_V)} {r : List am_V} {s : am_S}
theorem ao_iconst {z : Int} (X : am_Cx G p R s0 m args meth c cc nL o init sF n0 l0) (hd : decode cc pc = .ok (.iconst z, 1)) (h : am_Go G p l e R s0 m args below meth c Q nL sF n0 l0 (pc + 1, ls, am_I (Int32.ofInt z) :: r, s)) : am_Go G p l e R s0 m args below meth c Q nL sF n0 l0 (pc, ls, r, s) := by
  obtain ⟨hx, hb, hml, hown, hts, hK, hOld, hRc, hRs, hsz, hin, hf⟩ := X
  exact ⟨h.1, h.2.1, fun hn hs H locs lz hW hS hl => lv_iconst hx hb hd rfl (h.2.2 hn hs H locs lz hW hS hl)⟩
theorem ao_bipush {z : Int} (X : am_Cx G p R s0 m args meth c cc nL o init sF n0 l0) (hd : decode cc pc = .ok (.bipush z, 2)) (h : am_Go G p l e R s0 m args below meth c Q nL sF n0 l0 (pc + 2, ls, am_I (Int8.ofInt z).toInt32 :: r, s)) : am_Go G p l e R s0 m args below meth c Q nL sF n0 l0 (pc, ls, r, s) := by
  obtain ⟨hx, hb, hml, hown, hts, hK, hOld, hRc, hRs, hsz, hin, hf⟩ := X
  exact ⟨h.1, h.2.1, fun hn hs H locs lz hW hS hl => lv_bipush hx hb hd rfl (h.2.2 hn hs H locs lz hW hS hl)⟩
theorem ao_sipush {z : Int} (X : am_Cx G p R s0 m args meth c cc nL o init sF n0 l0) (hd : decode cc pc = .ok (.sipush z, 3)) (h : am_Go G p l e R s0 m args below meth c Q nL sF n0 l0 (pc + 3, ls, am_I (Int16.ofInt z).toInt32 :: r, s)) : am_Go G p l e R s0 m args below meth c Q nL sF n0 l0 (pc, ls, r, s) := by
  obtain ⟨hx, hb, hml, hown, hts, hK, hOld, hRc, hRs, hsz, hin, hf⟩ := X
  exact ⟨h.1, h.2.1, fun hn hs H locs lz hW hS hl => lv_sipush hx hb hd rfl (h.2.2 hn hs H locs lz hW hS hl)⟩
theorem ao_lconst {z : Fin 2} (X : am_Cx G p R s0 m args meth c cc nL o init sF n0 l0) (hd : decode cc pc = .ok (.lconst z, 1)) (h : am_Go G p l e R s0 m args below meth c Q nL sF n0 l0 (pc + 1, ls, am_L (Int64.ofNat z.val) :: r, s)) : am_Go G p l e R s0 m args below meth c Q nL sF n0 l0 (pc, ls, r, s) := by
  obtain ⟨hx, hb, hml, hown, hts, hK, hOld, hRc, hRs, hsz, hin, hf⟩ := X
  exact ⟨h.1, h.2.1, fun hn hs H locs lz hW hS hl => lv_lconst hx hb hd rfl (h.2.2 hn hs H locs lz hW hS hl)⟩
theorem ao_ldc {z : Nat} {v : Int32} (X : am_Cx G p R s0 m args meth c cc nL o init sF n0 l0) (hd : decode cc pc = .ok (.ldc z, 2)) (hw : Jvm.Cond.constant (am_on o) z v ∈ am_Ts) (h : am_Go G p l e R s0 m args below meth c Q nL sF n0 l0 (pc + 2, ls, am_I v :: r, s)) : am_Go G p l e R s0 m args below meth c Q nL sF n0 l0 (pc, ls, r, s) := by
  obtain ⟨hx, hb, hml, hown, hts, hK, hOld, hRc, hRs, hsz, hin, hf⟩ := X
  exact ⟨h.1, h.2.1, fun hn hs H locs lz hW hS hl => lv_ldc hx hb hown (hts _ hw) hd (h.2.2 hn hs H locs lz hW hS hl)⟩
theorem ao_ldcw {z : Nat} {v : Int32} (X : am_Cx G p R s0 m args meth c cc nL o init sF n0 l0) (hd : decode cc pc = .ok (.ldc_w z, 3)) (hw : Jvm.Cond.constant (am_on o) z v ∈ am_Ts) (h : am_Go G p l e R s0 m args below meth c Q nL sF n0 l0 (pc + 3, ls, am_I v :: r, s)) : am_Go G p l e R s0 m args below meth c Q nL sF n0 l0 (pc, ls, r, s) := by
  obtain ⟨hx, hb, hml, hown, hts, hK, hOld, hRc, hRs, hsz, hin, hf⟩ := X
  exact ⟨h.1, h.2.1, fun hn hs H locs lz hW hS hl => lv_ldcw hx hb hown (hts _ hw) hd (h.2.2 hn hs H locs lz hW hS hl)⟩
theorem ao_ldc2 {z : Nat} {v : Int64} (X : am_Cx G p R s0 m args meth c cc nL o init sF n0 l0) (hd : decode cc pc = .ok (.ldc2_w z, 3)) (hw : Jvm.Cond.constantLong (am_on o) z v ∈ am_Ts) (h : am_Go G p l e R s0 m args below meth c Q nL sF n0 l0 (pc + 3, ls, am_L v :: r, s)) : am_Go G p l e R s0 m args below meth c Q nL sF n0 l0 (pc, ls, r, s) := by
  obtain ⟨hx, hb, hml, hown, hts, hK, hOld, hRc, hRs, hsz, hin, hf⟩ := X
  exact ⟨h.1, h.2.1, fun hn hs H locs lz hW hS hl => lv_ldc2 hx hb hown (hts _ hw) hd (h.2.2 hn hs H locs lz hW hS hl)⟩
theorem ao_ldcS (X : am_Cx G p R s0 m args meth c cc nL o init sF n0 l0) (hd : decode cc pc = .ok (.ldc am_txi, 2)) (ho : o = am_txo) (h : am_Go G p l e R s0 m args below meth c Q nL sF n0 l0 (pc + 2, ls, am_O 1 :: r, s)) : am_Go G p l e R s0 m args below meth c Q nL sF n0 l0 (pc, ls, r, s) := by
  obtain ⟨hx, hb, hml, hown, hts, hK, hOld, hRc, hRs, hsz, hin, hf⟩ := X
  subst ho
  exact ⟨h.1, h.2.1, fun hn hs H locs lz hW hS hl => va_ldcS hx hb hown hK.2.2.2 hd (h.2.2 hn hs H locs lz hW hS hl)⟩
theorem ao_null (X : am_Cx G p R s0 m args meth c cc nL o init sF n0 l0) (hd : decode cc pc = .ok (.aconst_null, 1)) (h : am_Go G p l e R s0 m args below meth c Q nL sF n0 l0 (pc + 1, ls, am_R none :: r, s)) : am_Go G p l e R s0 m args below meth c Q nL sF n0 l0 (pc, ls, r, s) := by
  obtain ⟨hx, hb, hml, hown, hts, hK, hOld, hRc, hRs, hsz, hin, hf⟩ := X
  exact ⟨h.1, h.2.1, fun hn hs H locs lz hW hS hl => lv_null hx hb hd (h.2.2 hn hs H locs lz hW hS hl)⟩
theorem ao_iload_n {z : Fin 4} {v : Int32} (X : am_Cx G p R s0 m args meth c cc nL o init sF n0 l0) (hd : decode cc pc = .ok (.iload_n z, 1)) (hv : am_lI ls z.val = some v) (h : am_Go G p l e R s0 m args below meth c Q nL sF n0 l0 (pc + 1, ls, am_I v :: r, s)) : am_Go G p l e R s0 m args below meth c Q nL sF n0 l0 (pc, ls, r, s) := by
  obtain ⟨hx, hb, hml, hown, hts, hK, hOld, hRc, hRs, hsz, hin, hf⟩ := X
  exact ⟨h.1, h.2.1, fun hn hs H locs lz hW hS hl => lv_iload_n hx hb hd rfl (am_lv_at _ _ hl (am_lI_at hv)) (h.2.2 hn hs H locs lz hW hS hl)⟩
theorem ao_iload {z : Nat} {v : Int32} (X : am_Cx G p R s0 m args meth c cc nL o init sF n0 l0) (hd : decode cc pc = .ok (.iload z, 2)) (hv : am_lI ls z = some v) (h : am_Go G p l e R s0 m args below meth c Q nL sF n0 l0 (pc + 2, ls, am_I v :: r, s)) : am_Go G p l e R s0 m args below meth c Q nL sF n0 l0 (pc, ls, r, s) := by
  obtain ⟨hx, hb, hml, hown, hts, hK, hOld, hRc, hRs, hsz, hin, hf⟩ := X
  exact ⟨h.1, h.2.1, fun hn hs H locs lz hW hS hl => lv_iload hx hb hd (am_lv_at _ _ hl (am_lI_at hv)) (h.2.2 hn hs H locs lz hW hS hl)⟩
theorem ao_lload_n {z : Fin 4} {v : Int64} (X : am_Cx G p R s0 m args meth c cc nL o init sF n0 l0) (hd : decode cc pc = .ok (.lload_n z, 1)) (hv : am_lL ls z.val = some v) (h : am_Go G p l e R s0 m args below meth c Q nL sF n0 l0 (pc + 1, ls, am_L v :: r, s)) : am_Go G p l e R s0 m args below meth c Q nL sF n0 l0 (pc, ls, r, s) := by
  obtain ⟨hx, hb, hml, hown, hts, hK, hOld, hRc, hRs, hsz, hin, hf⟩ := X
  exact ⟨h.1, h.2.1, fun hn hs H locs lz hW hS hl => lv_lload_n hx hb hd rfl (am_lv_at _ _ hl (am_lL_at hv)) (h.2.2 hn hs H locs lz hW hS hl)⟩
theorem ao_lload {z : Nat} {v : Int64} (X : am_Cx G p R s0 m args meth c cc nL o init sF n0 l0) (hd : decode cc pc = .ok (.lload z, 2)) (hv : am_lL ls z = some v) (h : am_Go G p l e R s0 m args below meth c Q nL sF n0 l0 (pc + 2, ls, am_L v :: r, s)) : am_Go G p l e R s0 m args below meth c Q nL sF n0 l0 (pc, ls, r, s) := by
  obtain ⟨hx, hb, hml, hown, hts, hK, hOld, hRc, hRs, hsz, hin, hf⟩ := X
  exact ⟨h.1, h.2.1, fun hn hs H locs lz hW hS hl => lv_lload hx hb hd (am_lv_at _ _ hl (am_lL_at hv)) (h.2.2 hn hs H locs lz hW hS hl)⟩
theorem ao_aload_n {z : Fin 4} {v : Option Nat ⊕ Nat} (X : am_Cx G p R s0 m args meth c cc nL o init sF n0 l0) (hd : decode cc pc = .ok (.aload_n z, 1)) (hv : am_lA ls z.val = some v) (h : am_Go G p l e R s0 m args below meth c Q nL sF n0 l0 (pc + 1, ls, Sum.inr (Sum.inr v) :: r, s)) : am_Go G p l e R s0 m args below meth c Q nL sF n0 l0 (pc, ls, r, s) := by
  obtain ⟨hx, hb, hml, hown, hts, hK, hOld, hRc, hRs, hsz, hin, hf⟩ := X
  refine ⟨h.1, h.2.1, fun hn hs H locs lz hW hS hl => ?_⟩
  have k := h.2.2 hn hs H locs lz hW hS hl
  have hloc := am_lv_at _ _ hl (am_lA_at hv)
  have hr := gV_ref hf v
  change W p l e R s0 m args below meth c H locs _ _ Q (F0 m (pc + 1) lz (gV G (Sum.inr (Sum.inr v)) :: r.map (gV G))) at k
  change lz[z.val]? = some (.val (gV G (Sum.inr (Sum.inr v)))) at hloc
  rcases hr with hr | ⟨a, hr⟩
  · rw [hr] at k hloc
    exact lv_aload_nN hx hb hd rfl hloc k
  · rw [hr] at k hloc
    exact lv_aload_n hx hb hd rfl hloc k
theorem ao_aload {z : Nat} {v : Option Nat ⊕ Nat} (X : am_Cx G p R s0 m args meth c cc nL o init sF n0 l0) (hd : decode cc pc = .ok (.aload z, 2)) (hv : am_lA ls z = some v) (h : am_Go G p l e R s0 m args below meth c Q nL sF n0 l0 (pc + 2, ls, Sum.inr (Sum.inr v) :: r, s)) : am_Go G p l e R s0 m args below meth c Q nL sF n0 l0 (pc, ls, r, s) := by
  obtain ⟨hx, hb, hml, hown, hts, hK, hOld, hRc, hRs, hsz, hin, hf⟩ := X
  refine ⟨h.1, h.2.1, fun hn hs H locs lz hW hS hl => ?_⟩
  have k := h.2.2 hn hs H locs lz hW hS hl
  have hloc := am_lv_at _ _ hl (am_lA_at hv)
  have hr := gV_ref hf v
  change W p l e R s0 m args below meth c H locs _ _ Q (F0 m (pc + 2) lz (gV G (Sum.inr (Sum.inr v)) :: r.map (gV G))) at k
  change lz[z]? = some (.val (gV G (Sum.inr (Sum.inr v)))) at hloc
  rcases hr with hr | ⟨a, hr⟩
  · rw [hr] at k hloc
    exact lv_aloadN hx hb hd hloc k
  · rw [hr] at k hloc
    exact lv_aload hx hb hd hloc k
theorem ao_istore_n {z : Fin 4} {v : Int32} (X : am_Cx G p R s0 m args meth c cc nL o init sF n0 l0) (hd : decode cc pc = .ok (.istore_n z, 1)) (hlt : Nat.blt (z.val) ls.length = true) (h : am_Go G p l e R s0 m args below meth c Q nL sF n0 l0 (pc + 1, am_s1 ls z.val (am_I v), r, s)) : am_Go G p l e R s0 m args below meth c Q nL sF n0 l0 (pc, ls, am_I v :: r, s) := by
  obtain ⟨hx, hb, hml, hown, hts, hK, hOld, hRc, hRs, hsz, hin, hf⟩ := X
  refine ⟨h.1, h.2.1, fun hn hs H locs lz hW hS hl => ?_⟩
  have hlt : z.val < nL := by rw [← hl.1]; exact Nat.le_of_ble_eq_true hlt
  exact lv_istore_n hx hb hd rfl hl.2 hlt rfl (fun lz2 h2 => h.2.2 hn hs H locs lz2 hW hS (am_lv_s1 (v := am_I v) _ _ (gO_cat hf) hl hlt h2))
theorem ao_istore {z : Nat} {v : Int32} (X : am_Cx G p R s0 m args meth c cc nL o init sF n0 l0) (hd : decode cc pc = .ok (.istore z, 2)) (hlt : Nat.blt (z) ls.length = true) (h : am_Go G p l e R s0 m args below meth c Q nL sF n0 l0 (pc + 2, am_s1 ls z (am_I v), r, s)) : am_Go G p l e R s0 m args below meth c Q nL sF n0 l0 (pc, ls, am_I v :: r, s) := by
  obtain ⟨hx, hb, hml, hown, hts, hK, hOld, hRc, hRs, hsz, hin, hf⟩ := X
  refine ⟨h.1, h.2.1, fun hn hs H locs lz hW hS hl => ?_⟩
  have hlt : z < nL := by rw [← hl.1]; exact Nat.le_of_ble_eq_true hlt
  exact lv_istore hx hb hd hl.2 hlt rfl (fun lz2 h2 => h.2.2 hn hs H locs lz2 hW hS (am_lv_s1 (v := am_I v) _ _ (gO_cat hf) hl hlt h2))
theorem ao_lstore_n {z : Fin 4} {v : Int64} (X : am_Cx G p R s0 m args meth c cc nL o init sF n0 l0) (hd : decode cc pc = .ok (.lstore_n z, 1)) (hlt : Nat.blt (z.val + 1) ls.length = true) (h : am_Go G p l e R s0 m args below meth c Q nL sF n0 l0 (pc + 1, am_s2 ls z.val (am_L v), r, s)) : am_Go G p l e R s0 m args below meth c Q nL sF n0 l0 (pc, ls, am_L v :: r, s) := by
  obtain ⟨hx, hb, hml, hown, hts, hK, hOld, hRc, hRs, hsz, hin, hf⟩ := X
  refine ⟨h.1, h.2.1, fun hn hs H locs lz hW hS hl => ?_⟩
  have hlt : z.val + 1 < nL := by rw [← hl.1]; exact Nat.le_of_ble_eq_true hlt
  exact lv_lstore_n hx hb hd rfl hl.2 hlt rfl (fun lz2 h2 => h.2.2 hn hs H locs lz2 hW hS (am_lv_s2 _ _ (gO_cat hf) hl hlt h2))
theorem ao_lstore {z : Nat} {v : Int64} (X : am_Cx G p R s0 m args meth c cc nL o init sF n0 l0) (hd : decode cc pc = .ok (.lstore z, 2)) (hlt : Nat.blt (z + 1) ls.length = true) (h : am_Go G p l e R s0 m args below meth c Q nL sF n0 l0 (pc + 2, am_s2 ls z (am_L v), r, s)) : am_Go G p l e R s0 m args below meth c Q nL sF n0 l0 (pc, ls, am_L v :: r, s) := by
  obtain ⟨hx, hb, hml, hown, hts, hK, hOld, hRc, hRs, hsz, hin, hf⟩ := X
  refine ⟨h.1, h.2.1, fun hn hs H locs lz hW hS hl => ?_⟩
  have hlt : z + 1 < nL := by rw [← hl.1]; exact Nat.le_of_ble_eq_true hlt
  exact lv_lstore hx hb hd hl.2 hlt rfl (fun lz2 h2 => h.2.2 hn hs H locs lz2 hW hS (am_lv_s2 _ _ (gO_cat hf) hl hlt h2))
theorem ao_astore_n {z : Fin 4} {v : Option Nat ⊕ Nat} (X : am_Cx G p R s0 m args meth c cc nL o init sF n0 l0) (hd : decode cc pc = .ok (.astore_n z, 1)) (hlt : Nat.blt (z.val) ls.length = true) (h : am_Go G p l e R s0 m args below meth c Q nL sF n0 l0 (pc + 1, am_s1 ls z.val (Sum.inr (Sum.inr v)), r, s)) : am_Go G p l e R s0 m args below meth c Q nL sF n0 l0 (pc, ls, Sum.inr (Sum.inr v) :: r, s) := by
  obtain ⟨hx, hb, hml, hown, hts, hK, hOld, hRc, hRs, hsz, hin, hf⟩ := X
  refine ⟨h.1, h.2.1, fun hn hs H locs lz hW hS hl => ?_⟩
  have hlt : z.val < nL := by rw [← hl.1]; exact Nat.le_of_ble_eq_true hlt
  have key : ∀ lz2 : Array Slot, lv_has lz2 nL ((z.val, gV G (Sum.inr (Sum.inr v))) :: (am_ll (gN G) (gO G) ls).filter (fun q => !(q.1 == z.val) && !(q.1 + 1 == z.val && q.2.category == 2))) → W p l e R s0 m args below meth c H locs _ _ Q (F0 m (pc + 1) lz2 (r.map (gV G))) := fun lz2 h2 => h.2.2 hn hs H locs lz2 hW hS (am_lv_s1 (v := Sum.inr (Sum.inr v)) _ _ (gO_cat hf) hl hlt h2)
  show W p l e R s0 m args below meth c H locs _ _ Q (F0 m pc lz (gV G (Sum.inr (Sum.inr v)) :: r.map (gV G)))
  rcases gV_ref hf v with hr | ⟨a, hr⟩
  · rw [hr] at key ⊢
    exact lv_astore_nN hx hb hd rfl hl.2 hlt rfl key
  · rw [hr] at key ⊢
    exact lv_astore_n hx hb hd rfl hl.2 hlt rfl key
theorem ao_astore {z : Nat} {v : Option Nat ⊕ Nat} (X : am_Cx G p R s0 m args meth c cc nL o init sF n0 l0) (hd : decode cc pc = .ok (.astore z, 2)) (hlt : Nat.blt (z) ls.length = true) (h : am_Go G p l e R s0 m args below meth c Q nL sF n0 l0 (pc + 2, am_s1 ls z (Sum.inr (Sum.inr v)), r, s)) : am_Go G p l e R s0 m args below meth c Q nL sF n0 l0 (pc, ls, Sum.inr (Sum.inr v) :: r, s) := by
  obtain ⟨hx, hb, hml, hown, hts, hK, hOld, hRc, hRs, hsz, hin, hf⟩ := X
  refine ⟨h.1, h.2.1, fun hn hs H locs lz hW hS hl => ?_⟩
  have hlt : z < nL := by rw [← hl.1]; exact Nat.le_of_ble_eq_true hlt
  have key : ∀ lz2 : Array Slot, lv_has lz2 nL ((z, gV G (Sum.inr (Sum.inr v))) :: (am_ll (gN G) (gO G) ls).filter (fun q => !(q.1 == z) && !(q.1 + 1 == z && q.2.category == 2))) → W p l e R s0 m args below meth c H locs _ _ Q (F0 m (pc + 2) lz2 (r.map (gV G))) := fun lz2 h2 => h.2.2 hn hs H locs lz2 hW hS (am_lv_s1 (v := Sum.inr (Sum.inr v)) _ _ (gO_cat hf) hl hlt h2)
  show W p l e R s0 m args below meth c H locs _ _ Q (F0 m pc lz (gV G (Sum.inr (Sum.inr v)) :: r.map (gV G)))
  rcases gV_ref hf v with hr | ⟨a, hr⟩
  · rw [hr] at key ⊢
    exact lv_astoreN hx hb hd hl.2 hlt rfl key
  · rw [hr] at key ⊢
    exact lv_astore hx hb hd hl.2 hlt rfl key
theorem ao_iinc {z : Nat} {d : Int} {v : Int32} (X : am_Cx G p R s0 m args meth c cc nL o init sF n0 l0) (hd : decode cc pc = .ok (.iinc z d, 3)) (hlt : Nat.blt z ls.length = true) (hv : am_lI ls z = some v) (h : am_Go G p l e R s0 m args below meth c Q nL sF n0 l0 (pc + 3, am_s1 ls z (am_I (v + Int32.ofInt d)), r, s)) : am_Go G p l e R s0 m args below meth c Q nL sF n0 l0 (pc, ls, r, s) := by
  obtain ⟨hx, hb, hml, hown, hts, hK, hOld, hRc, hRs, hsz, hin, hf⟩ := X
  refine ⟨h.1, h.2.1, fun hn hs H locs lz hW hS hl => ?_⟩
  have hlt : z < nL := by rw [← hl.1]; exact Nat.le_of_ble_eq_true hlt
  obtain ⟨k, hk⟩ := List.getElem?_of_mem ((am_ll_in (gN G) (gO G)).mpr ⟨z, _, am_lI_at hv, rfl⟩)
  exact lv_iinc hx hb hd hl.2 hk rfl hlt rfl (fun lz2 h2 => h.2.2 hn hs H locs lz2 hW hS (am_lv_s1 (v := am_I (v + Int32.ofInt d)) _ _ (gO_cat hf) hl hlt h2))
theorem am_c1_cat {G : am_Gt} (hf : gf G = .null ∨ ∃ a, gf G = .ref a) {v : am_V} (h : am_c1 v = true) : (gV G v).category = 1 := by
  rw [am_tv_cat _ _ (gO_cat hf)]
  match v, h with
  | .inl x, _ => rfl
  | .inr (.inr x), _ => rfl
theorem ao_pop {v : am_V} (X : am_Cx G p R s0 m args meth c cc nL o init sF n0 l0) (hd : decode cc pc = .ok (.pop, 1)) (hc : am_c1 v = true) (h : am_Go G p l e R s0 m args below meth c Q nL sF n0 l0 (pc + 1, ls, r, s)) : am_Go G p l e R s0 m args below meth c Q nL sF n0 l0 (pc, ls, v :: r, s) := by
  obtain ⟨hx, hb, hml, hown, hts, hK, hOld, hRc, hRs, hsz, hin, hf⟩ := X
  exact ⟨h.1, h.2.1, fun hn hs H locs lz hW hS hl => lv_pop hx hb hd (am_c1_cat hf hc) (h.2.2 hn hs H locs lz hW hS hl)⟩
theorem ao_dup {v : am_V} (X : am_Cx G p R s0 m args meth c cc nL o init sF n0 l0) (hd : decode cc pc = .ok (.dup, 1)) (hc : am_c1 v = true) (h : am_Go G p l e R s0 m args below meth c Q nL sF n0 l0 (pc + 1, ls, v :: v :: r, s)) : am_Go G p l e R s0 m args below meth c Q nL sF n0 l0 (pc, ls, v :: r, s) := by
  obtain ⟨hx, hb, hml, hown, hts, hK, hOld, hRc, hRs, hsz, hin, hf⟩ := X
  exact ⟨h.1, h.2.1, fun hn hs H locs lz hW hS hl => lv_dup hx hb hd (am_c1_cat hf hc) (h.2.2 hn hs H locs lz hW hS hl)⟩
theorem ao_dup2L {v : Int64} (X : am_Cx G p R s0 m args meth c cc nL o init sF n0 l0) (hd : decode cc pc = .ok (.dup2, 1)) (h : am_Go G p l e R s0 m args below meth c Q nL sF n0 l0 (pc + 1, ls, am_L v :: am_L v :: r, s)) : am_Go G p l e R s0 m args below meth c Q nL sF n0 l0 (pc, ls, am_L v :: r, s) := by
  obtain ⟨hx, hb, hml, hown, hts, hK, hOld, hRc, hRs, hsz, hin, hf⟩ := X
  exact ⟨h.1, h.2.1, fun hn hs H locs lz hW hS hl => lv_dup2_2 hx hb hd rfl (h.2.2 hn hs H locs lz hW hS hl)⟩
theorem ao_dup2 {v w : am_V} (X : am_Cx G p R s0 m args meth c cc nL o init sF n0 l0) (hd : decode cc pc = .ok (.dup2, 1)) (hc : am_c1 v = true) (hc2 : am_c1 w = true) (h : am_Go G p l e R s0 m args below meth c Q nL sF n0 l0 (pc + 1, ls, v :: w :: v :: w :: r, s)) : am_Go G p l e R s0 m args below meth c Q nL sF n0 l0 (pc, ls, v :: w :: r, s) := by
  obtain ⟨hx, hb, hml, hown, hts, hK, hOld, hRc, hRs, hsz, hin, hf⟩ := X
  exact ⟨h.1, h.2.1, fun hn hs H locs lz hW hS hl => lv_dup2_11 hx hb hd (am_c1_cat hf hc) (am_c1_cat hf hc2) (h.2.2 hn hs H locs lz hW hS hl)⟩
theorem ao_iadd {a b : Int32} (X : am_Cx G p R s0 m args meth c cc nL o init sF n0 l0) (hd : decode cc pc = .ok (.iadd, 1)) (h : am_Go G p l e R s0 m args below meth c Q nL sF n0 l0 (pc + 1, ls, am_I (a + b) :: r, s)) : am_Go G p l e R s0 m args below meth c Q nL sF n0 l0 (pc, ls, am_I b :: am_I a :: r, s) := by
  obtain ⟨hx, hb, hml, hown, hts, hK, hOld, hRc, hRs, hsz, hin, hf⟩ := X
  exact ⟨h.1, h.2.1, fun hn hs H locs lz hW hS hl => lv_iadd hx hb hd (h.2.2 hn hs H locs lz hW hS hl)⟩
theorem ao_isub {a b : Int32} (X : am_Cx G p R s0 m args meth c cc nL o init sF n0 l0) (hd : decode cc pc = .ok (.isub, 1)) (h : am_Go G p l e R s0 m args below meth c Q nL sF n0 l0 (pc + 1, ls, am_I (a - b) :: r, s)) : am_Go G p l e R s0 m args below meth c Q nL sF n0 l0 (pc, ls, am_I b :: am_I a :: r, s) := by
  obtain ⟨hx, hb, hml, hown, hts, hK, hOld, hRc, hRs, hsz, hin, hf⟩ := X
  exact ⟨h.1, h.2.1, fun hn hs H locs lz hW hS hl => lv_isub hx hb hd (h.2.2 hn hs H locs lz hW hS hl)⟩
theorem ao_imul {a b : Int32} (X : am_Cx G p R s0 m args meth c cc nL o init sF n0 l0) (hd : decode cc pc = .ok (.imul, 1)) (h : am_Go G p l e R s0 m args below meth c Q nL sF n0 l0 (pc + 1, ls, am_I (a * b) :: r, s)) : am_Go G p l e R s0 m args below meth c Q nL sF n0 l0 (pc, ls, am_I b :: am_I a :: r, s) := by
  obtain ⟨hx, hb, hml, hown, hts, hK, hOld, hRc, hRs, hsz, hin, hf⟩ := X
  exact ⟨h.1, h.2.1, fun hn hs H locs lz hW hS hl => lv_imul hx hb hd (h.2.2 hn hs H locs lz hW hS hl)⟩
theorem ao_iand {a b : Int32} (X : am_Cx G p R s0 m args meth c cc nL o init sF n0 l0) (hd : decode cc pc = .ok (.iand, 1)) (h : am_Go G p l e R s0 m args below meth c Q nL sF n0 l0 (pc + 1, ls, am_I (a &&& b) :: r, s)) : am_Go G p l e R s0 m args below meth c Q nL sF n0 l0 (pc, ls, am_I b :: am_I a :: r, s) := by
  obtain ⟨hx, hb, hml, hown, hts, hK, hOld, hRc, hRs, hsz, hin, hf⟩ := X
  exact ⟨h.1, h.2.1, fun hn hs H locs lz hW hS hl => lv_iand hx hb hd (h.2.2 hn hs H locs lz hW hS hl)⟩
theorem ao_ior {a b : Int32} (X : am_Cx G p R s0 m args meth c cc nL o init sF n0 l0) (hd : decode cc pc = .ok (.ior, 1)) (h : am_Go G p l e R s0 m args below meth c Q nL sF n0 l0 (pc + 1, ls, am_I (a ||| b) :: r, s)) : am_Go G p l e R s0 m args below meth c Q nL sF n0 l0 (pc, ls, am_I b :: am_I a :: r, s) := by
  obtain ⟨hx, hb, hml, hown, hts, hK, hOld, hRc, hRs, hsz, hin, hf⟩ := X
  exact ⟨h.1, h.2.1, fun hn hs H locs lz hW hS hl => lv_ior hx hb hd (h.2.2 hn hs H locs lz hW hS hl)⟩
theorem ao_ixor {a b : Int32} (X : am_Cx G p R s0 m args meth c cc nL o init sF n0 l0) (hd : decode cc pc = .ok (.ixor, 1)) (h : am_Go G p l e R s0 m args below meth c Q nL sF n0 l0 (pc + 1, ls, am_I (a ^^^ b) :: r, s)) : am_Go G p l e R s0 m args below meth c Q nL sF n0 l0 (pc, ls, am_I b :: am_I a :: r, s) := by
  obtain ⟨hx, hb, hml, hown, hts, hK, hOld, hRc, hRs, hsz, hin, hf⟩ := X
  exact ⟨h.1, h.2.1, fun hn hs H locs lz hW hS hl => lv_ixor hx hb hd (h.2.2 hn hs H locs lz hW hS hl)⟩
theorem ao_ishl {a b : Int32} (X : am_Cx G p R s0 m args meth c cc nL o init sF n0 l0) (hd : decode cc pc = .ok (.ishl, 1)) (h : am_Go G p l e R s0 m args below meth c Q nL sF n0 l0 (pc + 1, ls, am_I (a <<< (b &&& 31)) :: r, s)) : am_Go G p l e R s0 m args below meth c Q nL sF n0 l0 (pc, ls, am_I b :: am_I a :: r, s) := by
  obtain ⟨hx, hb, hml, hown, hts, hK, hOld, hRc, hRs, hsz, hin, hf⟩ := X
  exact ⟨h.1, h.2.1, fun hn hs H locs lz hW hS hl => lv_ishl hx hb hd (h.2.2 hn hs H locs lz hW hS hl)⟩
theorem ao_ishr {a b : Int32} (X : am_Cx G p R s0 m args meth c cc nL o init sF n0 l0) (hd : decode cc pc = .ok (.ishr, 1)) (h : am_Go G p l e R s0 m args below meth c Q nL sF n0 l0 (pc + 1, ls, am_I (a >>> (b &&& 31)) :: r, s)) : am_Go G p l e R s0 m args below meth c Q nL sF n0 l0 (pc, ls, am_I b :: am_I a :: r, s) := by
  obtain ⟨hx, hb, hml, hown, hts, hK, hOld, hRc, hRs, hsz, hin, hf⟩ := X
  exact ⟨h.1, h.2.1, fun hn hs H locs lz hW hS hl => lv_ishr hx hb hd (h.2.2 hn hs H locs lz hW hS hl)⟩
theorem ao_idiv {a b : Int32} (X : am_Cx G p R s0 m args meth c cc nL o init sF n0 l0) (hd : decode cc pc = .ok (.idiv, 1)) (h0 : ¬ b = 0) (h : am_Go G p l e R s0 m args below meth c Q nL sF n0 l0 (pc + 1, ls, am_I (a / b) :: r, s)) : am_Go G p l e R s0 m args below meth c Q nL sF n0 l0 (pc, ls, am_I b :: am_I a :: r, s) := by
  obtain ⟨hx, hb, hml, hown, hts, hK, hOld, hRc, hRs, hsz, hin, hf⟩ := X
  exact ⟨h.1, h.2.1, fun hn hs H locs lz hW hS hl => lv_idiv hx hb hd h0 (h.2.2 hn hs H locs lz hW hS hl)⟩
theorem ao_irem {a b : Int32} (X : am_Cx G p R s0 m args meth c cc nL o init sF n0 l0) (hd : decode cc pc = .ok (.irem, 1)) (h0 : ¬ b = 0) (h : am_Go G p l e R s0 m args below meth c Q nL sF n0 l0 (pc + 1, ls, am_I (a - a / b * b) :: r, s)) : am_Go G p l e R s0 m args below meth c Q nL sF n0 l0 (pc, ls, am_I b :: am_I a :: r, s) := by
  obtain ⟨hx, hb, hml, hown, hts, hK, hOld, hRc, hRs, hsz, hin, hf⟩ := X
  exact ⟨h.1, h.2.1, fun hn hs H locs lz hW hS hl => lv_irem hx hb hd h0 (h.2.2 hn hs H locs lz hW hS hl)⟩
theorem ao_iushr {a b : Int32} (X : am_Cx G p R s0 m args meth c cc nL o init sF n0 l0) (hd : decode cc pc = .ok (.iushr, 1)) (h : am_Go G p l e R s0 m args below meth c Q nL sF n0 l0 (pc + 1, ls, am_I (a.toUInt32 >>> (b.toUInt32 &&& Int32.toUInt32 31)).toInt32 :: r, s)) : am_Go G p l e R s0 m args below meth c Q nL sF n0 l0 (pc, ls, am_I b :: am_I a :: r, s) := by
  obtain ⟨hx, hb, hml, hown, hts, hK, hOld, hRc, hRs, hsz, hin, hf⟩ := X
  exact ⟨h.1, h.2.1, fun hn hs H locs lz hW hS hl => lv_iushr hx hb hd rfl (h.2.2 hn hs H locs lz hW hS hl)⟩
theorem ao_ladd {a b : Int64} (X : am_Cx G p R s0 m args meth c cc nL o init sF n0 l0) (hd : decode cc pc = .ok (.ladd, 1)) (h : am_Go G p l e R s0 m args below meth c Q nL sF n0 l0 (pc + 1, ls, am_L (a + b) :: r, s)) : am_Go G p l e R s0 m args below meth c Q nL sF n0 l0 (pc, ls, am_L b :: am_L a :: r, s) := by
  obtain ⟨hx, hb, hml, hown, hts, hK, hOld, hRc, hRs, hsz, hin, hf⟩ := X
  exact ⟨h.1, h.2.1, fun hn hs H locs lz hW hS hl => lv_ladd hx hb hd (h.2.2 hn hs H locs lz hW hS hl)⟩
theorem ao_lsub {a b : Int64} (X : am_Cx G p R s0 m args meth c cc nL o init sF n0 l0) (hd : decode cc pc = .ok (.lsub, 1)) (h : am_Go G p l e R s0 m args below meth c Q nL sF n0 l0 (pc + 1, ls, am_L (a - b) :: r, s)) : am_Go G p l e R s0 m args below meth c Q nL sF n0 l0 (pc, ls, am_L b :: am_L a :: r, s) := by
  obtain ⟨hx, hb, hml, hown, hts, hK, hOld, hRc, hRs, hsz, hin, hf⟩ := X
  exact ⟨h.1, h.2.1, fun hn hs H locs lz hW hS hl => lv_lsub hx hb hd (h.2.2 hn hs H locs lz hW hS hl)⟩
theorem ao_lmul {a b : Int64} (X : am_Cx G p R s0 m args meth c cc nL o init sF n0 l0) (hd : decode cc pc = .ok (.lmul, 1)) (h : am_Go G p l e R s0 m args below meth c Q nL sF n0 l0 (pc + 1, ls, am_L (a * b) :: r, s)) : am_Go G p l e R s0 m args below meth c Q nL sF n0 l0 (pc, ls, am_L b :: am_L a :: r, s) := by
  obtain ⟨hx, hb, hml, hown, hts, hK, hOld, hRc, hRs, hsz, hin, hf⟩ := X
  exact ⟨h.1, h.2.1, fun hn hs H locs lz hW hS hl => lv_lmul hx hb hd (h.2.2 hn hs H locs lz hW hS hl)⟩
theorem ao_land {a b : Int64} (X : am_Cx G p R s0 m args meth c cc nL o init sF n0 l0) (hd : decode cc pc = .ok (.land, 1)) (h : am_Go G p l e R s0 m args below meth c Q nL sF n0 l0 (pc + 1, ls, am_L (a &&& b) :: r, s)) : am_Go G p l e R s0 m args below meth c Q nL sF n0 l0 (pc, ls, am_L b :: am_L a :: r, s) := by
  obtain ⟨hx, hb, hml, hown, hts, hK, hOld, hRc, hRs, hsz, hin, hf⟩ := X
  exact ⟨h.1, h.2.1, fun hn hs H locs lz hW hS hl => lv_land hx hb hd (h.2.2 hn hs H locs lz hW hS hl)⟩
theorem ao_lor {a b : Int64} (X : am_Cx G p R s0 m args meth c cc nL o init sF n0 l0) (hd : decode cc pc = .ok (.lor, 1)) (h : am_Go G p l e R s0 m args below meth c Q nL sF n0 l0 (pc + 1, ls, am_L (a ||| b) :: r, s)) : am_Go G p l e R s0 m args below meth c Q nL sF n0 l0 (pc, ls, am_L b :: am_L a :: r, s) := by
  obtain ⟨hx, hb, hml, hown, hts, hK, hOld, hRc, hRs, hsz, hin, hf⟩ := X
  exact ⟨h.1, h.2.1, fun hn hs H locs lz hW hS hl => lv_lor hx hb hd (h.2.2 hn hs H locs lz hW hS hl)⟩
theorem ao_lxor {a b : Int64} (X : am_Cx G p R s0 m args meth c cc nL o init sF n0 l0) (hd : decode cc pc = .ok (.lxor, 1)) (h : am_Go G p l e R s0 m args below meth c Q nL sF n0 l0 (pc + 1, ls, am_L (a ^^^ b) :: r, s)) : am_Go G p l e R s0 m args below meth c Q nL sF n0 l0 (pc, ls, am_L b :: am_L a :: r, s) := by
  obtain ⟨hx, hb, hml, hown, hts, hK, hOld, hRc, hRs, hsz, hin, hf⟩ := X
  exact ⟨h.1, h.2.1, fun hn hs H locs lz hW hS hl => lv_lxor hx hb hd (h.2.2 hn hs H locs lz hW hS hl)⟩
theorem ao_ldiv {a b : Int64} (X : am_Cx G p R s0 m args meth c cc nL o init sF n0 l0) (hd : decode cc pc = .ok (.ldiv, 1)) (h0 : ¬ b = 0) (h : am_Go G p l e R s0 m args below meth c Q nL sF n0 l0 (pc + 1, ls, am_L (a / b) :: r, s)) : am_Go G p l e R s0 m args below meth c Q nL sF n0 l0 (pc, ls, am_L b :: am_L a :: r, s) := by
  obtain ⟨hx, hb, hml, hown, hts, hK, hOld, hRc, hRs, hsz, hin, hf⟩ := X
  exact ⟨h.1, h.2.1, fun hn hs H locs lz hW hS hl => lv_ldiv hx hb hd h0 (h.2.2 hn hs H locs lz hW hS hl)⟩
theorem ao_lrem {a b : Int64} (X : am_Cx G p R s0 m args meth c cc nL o init sF n0 l0) (hd : decode cc pc = .ok (.lrem, 1)) (h0 : ¬ b = 0) (h : am_Go G p l e R s0 m args below meth c Q nL sF n0 l0 (pc + 1, ls, am_L (a - a / b * b) :: r, s)) : am_Go G p l e R s0 m args below meth c Q nL sF n0 l0 (pc, ls, am_L b :: am_L a :: r, s) := by
  obtain ⟨hx, hb, hml, hown, hts, hK, hOld, hRc, hRs, hsz, hin, hf⟩ := X
  exact ⟨h.1, h.2.1, fun hn hs H locs lz hW hS hl => lv_lrem hx hb hd h0 (h.2.2 hn hs H locs lz hW hS hl)⟩
theorem ao_lshl {a : Int64} {b : Int32} (X : am_Cx G p R s0 m args meth c cc nL o init sF n0 l0) (hd : decode cc pc = .ok (.lshl, 1)) (h : am_Go G p l e R s0 m args below meth c Q nL sF n0 l0 (pc + 1, ls, am_L (a <<< (b.toInt64 &&& 63)) :: r, s)) : am_Go G p l e R s0 m args below meth c Q nL sF n0 l0 (pc, ls, am_I b :: am_L a :: r, s) := by
  obtain ⟨hx, hb, hml, hown, hts, hK, hOld, hRc, hRs, hsz, hin, hf⟩ := X
  exact ⟨h.1, h.2.1, fun hn hs H locs lz hW hS hl => lv_lshl hx hb hd rfl (h.2.2 hn hs H locs lz hW hS hl)⟩
theorem ao_lshr {a : Int64} {b : Int32} (X : am_Cx G p R s0 m args meth c cc nL o init sF n0 l0) (hd : decode cc pc = .ok (.lshr, 1)) (h : am_Go G p l e R s0 m args below meth c Q nL sF n0 l0 (pc + 1, ls, am_L (a >>> (b.toInt64 &&& 63)) :: r, s)) : am_Go G p l e R s0 m args below meth c Q nL sF n0 l0 (pc, ls, am_I b :: am_L a :: r, s) := by
  obtain ⟨hx, hb, hml, hown, hts, hK, hOld, hRc, hRs, hsz, hin, hf⟩ := X
  exact ⟨h.1, h.2.1, fun hn hs H locs lz hW hS hl => lv_lshr hx hb hd rfl (h.2.2 hn hs H locs lz hW hS hl)⟩
theorem ao_lushr {a : Int64} {b : Int32} (X : am_Cx G p R s0 m args meth c cc nL o init sF n0 l0) (hd : decode cc pc = .ok (.lushr, 1)) (h : am_Go G p l e R s0 m args below meth c Q nL sF n0 l0 (pc + 1, ls, am_L ((a.toUInt64 >>> (b.toInt64.toUInt64 &&& Int64.toUInt64 63)).toInt64) :: r, s)) : am_Go G p l e R s0 m args below meth c Q nL sF n0 l0 (pc, ls, am_I b :: am_L a :: r, s) := by
  obtain ⟨hx, hb, hml, hown, hts, hK, hOld, hRc, hRs, hsz, hin, hf⟩ := X
  exact ⟨h.1, h.2.1, fun hn hs H locs lz hW hS hl => lv_lushr hx hb hd rfl (h.2.2 hn hs H locs lz hW hS hl)⟩
theorem ao_lcmp {a b : Int64} (X : am_Cx G p R s0 m args meth c cc nL o init sF n0 l0) (hd : decode cc pc = .ok (.lcmp, 1)) (h : am_Go G p l e R s0 m args below meth c Q nL sF n0 l0 (pc + 1, ls, am_I (lg_cmp a b) :: r, s)) : am_Go G p l e R s0 m args below meth c Q nL sF n0 l0 (pc, ls, am_L b :: am_L a :: r, s) := by
  obtain ⟨hx, hb, hml, hown, hts, hK, hOld, hRc, hRs, hsz, hin, hf⟩ := X
  exact ⟨h.1, h.2.1, fun hn hs H locs lz hW hS hl => W.lcmp hx hb hd (h.2.2 hn hs H locs lz hW hS hl)⟩
theorem ao_ineg {a : Int32} (X : am_Cx G p R s0 m args meth c cc nL o init sF n0 l0) (hd : decode cc pc = .ok (.ineg, 1)) (h : am_Go G p l e R s0 m args below meth c Q nL sF n0 l0 (pc + 1, ls, am_I (-a) :: r, s)) : am_Go G p l e R s0 m args below meth c Q nL sF n0 l0 (pc, ls, am_I a :: r, s) := by
  obtain ⟨hx, hb, hml, hown, hts, hK, hOld, hRc, hRs, hsz, hin, hf⟩ := X
  exact ⟨h.1, h.2.1, fun hn hs H locs lz hW hS hl => lv_ineg hx hb hd (h.2.2 hn hs H locs lz hW hS hl)⟩
theorem ao_lneg {a : Int64} (X : am_Cx G p R s0 m args meth c cc nL o init sF n0 l0) (hd : decode cc pc = .ok (.lneg, 1)) (h : am_Go G p l e R s0 m args below meth c Q nL sF n0 l0 (pc + 1, ls, am_L (-a) :: r, s)) : am_Go G p l e R s0 m args below meth c Q nL sF n0 l0 (pc, ls, am_L a :: r, s) := by
  obtain ⟨hx, hb, hml, hown, hts, hK, hOld, hRc, hRs, hsz, hin, hf⟩ := X
  exact ⟨h.1, h.2.1, fun hn hs H locs lz hW hS hl => lv_lneg hx hb hd (h.2.2 hn hs H locs lz hW hS hl)⟩
theorem ao_i2l {a : Int32} (X : am_Cx G p R s0 m args meth c cc nL o init sF n0 l0) (hd : decode cc pc = .ok (.i2l, 1)) (h : am_Go G p l e R s0 m args below meth c Q nL sF n0 l0 (pc + 1, ls, am_L a.toInt64 :: r, s)) : am_Go G p l e R s0 m args below meth c Q nL sF n0 l0 (pc, ls, am_I a :: r, s) := by
  obtain ⟨hx, hb, hml, hown, hts, hK, hOld, hRc, hRs, hsz, hin, hf⟩ := X
  exact ⟨h.1, h.2.1, fun hn hs H locs lz hW hS hl => lv_i2l hx hb hd rfl (h.2.2 hn hs H locs lz hW hS hl)⟩
theorem ao_l2i {a : Int64} (X : am_Cx G p R s0 m args meth c cc nL o init sF n0 l0) (hd : decode cc pc = .ok (.l2i, 1)) (h : am_Go G p l e R s0 m args below meth c Q nL sF n0 l0 (pc + 1, ls, am_I a.toInt32 :: r, s)) : am_Go G p l e R s0 m args below meth c Q nL sF n0 l0 (pc, ls, am_L a :: r, s) := by
  obtain ⟨hx, hb, hml, hown, hts, hK, hOld, hRc, hRs, hsz, hin, hf⟩ := X
  exact ⟨h.1, h.2.1, fun hn hs H locs lz hW hS hl => lv_l2i hx hb hd rfl (h.2.2 hn hs H locs lz hW hS hl)⟩
theorem ao_i2b {a : Int32} (X : am_Cx G p R s0 m args meth c cc nL o init sF n0 l0) (hd : decode cc pc = .ok (.i2b, 1)) (h : am_Go G p l e R s0 m args below meth c Q nL sF n0 l0 (pc + 1, ls, am_I a.toInt8.toInt32 :: r, s)) : am_Go G p l e R s0 m args below meth c Q nL sF n0 l0 (pc, ls, am_I a :: r, s) := by
  obtain ⟨hx, hb, hml, hown, hts, hK, hOld, hRc, hRs, hsz, hin, hf⟩ := X
  exact ⟨h.1, h.2.1, fun hn hs H locs lz hW hS hl => lv_i2b hx hb hd rfl (h.2.2 hn hs H locs lz hW hS hl)⟩
theorem ao_i2c {a : Int32} (X : am_Cx G p R s0 m args meth c cc nL o init sF n0 l0) (hd : decode cc pc = .ok (.i2c, 1)) (h : am_Go G p l e R s0 m args below meth c Q nL sF n0 l0 (pc + 1, ls, am_I (a.toUInt32 % 65536).toInt32 :: r, s)) : am_Go G p l e R s0 m args below meth c Q nL sF n0 l0 (pc, ls, am_I a :: r, s) := by
  obtain ⟨hx, hb, hml, hown, hts, hK, hOld, hRc, hRs, hsz, hin, hf⟩ := X
  exact ⟨h.1, h.2.1, fun hn hs H locs lz hW hS hl => lv_i2c hx hb hd rfl (h.2.2 hn hs H locs lz hW hS hl)⟩
theorem ao_nlt {a b : Int32} : ¬ a < b ↔ b ≤ a := Int32.not_lt
theorem ao_icmp_eq {z : Int} {x : Nat} {a b : Int32} (X : am_Cx G p R s0 m args meth c cc nL o init sF n0 l0) (hd : decode cc pc = .ok (.if_icmp .eq z, 3)) (ht : (pc : Int) + z = (x : Int)) (hn1 : s.2.1 ≤ sF.2.1) (hn2 : s.2.2 ≤ sF.2.2) (h1 : a = b → am_Go G p l e R s0 m args below meth c Q nL sF n0 l0 (x, ls, r, s)) (h2 : ¬ a = b → am_Go G p l e R s0 m args below meth c Q nL sF n0 l0 (pc + 3, ls, r, s)) : am_Go G p l e R s0 m args below meth c Q nL sF n0 l0 (pc, ls, am_I b :: am_I a :: r, s) := by
  obtain ⟨hx, hb, hml, hown, hts, hK, hOld, hRc, hRs, hsz, hin, hf⟩ := X
  refine ⟨hn1, hn2, fun hn hs H locs lz hW hS hl => ?_⟩
  exact lv_icmp_eq hx hb hd ht (fun q => (h1 q).2.2 hn hs H locs lz hW hS hl) (fun q => (h2 q).2.2 hn hs H locs lz hW hS hl)
theorem ao_if_eq {z : Int} {x : Nat} {a : Int32} (X : am_Cx G p R s0 m args meth c cc nL o init sF n0 l0) (hd : decode cc pc = .ok (.ifCond .eq z, 3)) (ht : (pc : Int) + z = (x : Int)) (hn1 : s.2.1 ≤ sF.2.1) (hn2 : s.2.2 ≤ sF.2.2) (h1 : a = (0 : Int32) → am_Go G p l e R s0 m args below meth c Q nL sF n0 l0 (x, ls, r, s)) (h2 : ¬ a = (0 : Int32) → am_Go G p l e R s0 m args below meth c Q nL sF n0 l0 (pc + 3, ls, r, s)) : am_Go G p l e R s0 m args below meth c Q nL sF n0 l0 (pc, ls, am_I a :: r, s) := by
  obtain ⟨hx, hb, hml, hown, hts, hK, hOld, hRc, hRs, hsz, hin, hf⟩ := X
  refine ⟨hn1, hn2, fun hn hs H locs lz hW hS hl => ?_⟩
  exact lv_if_eq hx hb hd ht (fun q => (h1 q).2.2 hn hs H locs lz hW hS hl) (fun q => (h2 q).2.2 hn hs H locs lz hW hS hl)
theorem ao_icmp_ne {z : Int} {x : Nat} {a b : Int32} (X : am_Cx G p R s0 m args meth c cc nL o init sF n0 l0) (hd : decode cc pc = .ok (.if_icmp .ne z, 3)) (ht : (pc : Int) + z = (x : Int)) (hn1 : s.2.1 ≤ sF.2.1) (hn2 : s.2.2 ≤ sF.2.2) (h1 : ¬ a = b → am_Go G p l e R s0 m args below meth c Q nL sF n0 l0 (x, ls, r, s)) (h2 : a = b → am_Go G p l e R s0 m args below meth c Q nL sF n0 l0 (pc + 3, ls, r, s)) : am_Go G p l e R s0 m args below meth c Q nL sF n0 l0 (pc, ls, am_I b :: am_I a :: r, s) := by
  obtain ⟨hx, hb, hml, hown, hts, hK, hOld, hRc, hRs, hsz, hin, hf⟩ := X
  refine ⟨hn1, hn2, fun hn hs H locs lz hW hS hl => ?_⟩
  exact lv_icmp_ne hx hb hd ht (fun q => (h1 q).2.2 hn hs H locs lz hW hS hl) (fun q => (h2 q).2.2 hn hs H locs lz hW hS hl)
theorem ao_if_ne {z : Int} {x : Nat} {a : Int32} (X : am_Cx G p R s0 m args meth c cc nL o init sF n0 l0) (hd : decode cc pc = .ok (.ifCond .ne z, 3)) (ht : (pc : Int) + z = (x : Int)) (hn1 : s.2.1 ≤ sF.2.1) (hn2 : s.2.2 ≤ sF.2.2) (h1 : ¬ a = (0 : Int32) → am_Go G p l e R s0 m args below meth c Q nL sF n0 l0 (x, ls, r, s)) (h2 : a = (0 : Int32) → am_Go G p l e R s0 m args below meth c Q nL sF n0 l0 (pc + 3, ls, r, s)) : am_Go G p l e R s0 m args below meth c Q nL sF n0 l0 (pc, ls, am_I a :: r, s) := by
  obtain ⟨hx, hb, hml, hown, hts, hK, hOld, hRc, hRs, hsz, hin, hf⟩ := X
  refine ⟨hn1, hn2, fun hn hs H locs lz hW hS hl => ?_⟩
  exact lv_if_ne hx hb hd ht (fun q => (h1 q).2.2 hn hs H locs lz hW hS hl) (fun q => (h2 q).2.2 hn hs H locs lz hW hS hl)
theorem ao_icmp_lt {z : Int} {x : Nat} {a b : Int32} (X : am_Cx G p R s0 m args meth c cc nL o init sF n0 l0) (hd : decode cc pc = .ok (.if_icmp .lt z, 3)) (ht : (pc : Int) + z = (x : Int)) (hn1 : s.2.1 ≤ sF.2.1) (hn2 : s.2.2 ≤ sF.2.2) (h1 : a < b → am_Go G p l e R s0 m args below meth c Q nL sF n0 l0 (x, ls, r, s)) (h2 : ¬ a < b → am_Go G p l e R s0 m args below meth c Q nL sF n0 l0 (pc + 3, ls, r, s)) : am_Go G p l e R s0 m args below meth c Q nL sF n0 l0 (pc, ls, am_I b :: am_I a :: r, s) := by
  obtain ⟨hx, hb, hml, hown, hts, hK, hOld, hRc, hRs, hsz, hin, hf⟩ := X
  refine ⟨hn1, hn2, fun hn hs H locs lz hW hS hl => ?_⟩
  exact lv_icmp_lt hx hb hd ht (fun q => (h1 q).2.2 hn hs H locs lz hW hS hl) (fun q => (h2 q).2.2 hn hs H locs lz hW hS hl)
theorem ao_if_lt {z : Int} {x : Nat} {a : Int32} (X : am_Cx G p R s0 m args meth c cc nL o init sF n0 l0) (hd : decode cc pc = .ok (.ifCond .lt z, 3)) (ht : (pc : Int) + z = (x : Int)) (hn1 : s.2.1 ≤ sF.2.1) (hn2 : s.2.2 ≤ sF.2.2) (h1 : a < (0 : Int32) → am_Go G p l e R s0 m args below meth c Q nL sF n0 l0 (x, ls, r, s)) (h2 : ¬ a < (0 : Int32) → am_Go G p l e R s0 m args below meth c Q nL sF n0 l0 (pc + 3, ls, r, s)) : am_Go G p l e R s0 m args below meth c Q nL sF n0 l0 (pc, ls, am_I a :: r, s) := by
  obtain ⟨hx, hb, hml, hown, hts, hK, hOld, hRc, hRs, hsz, hin, hf⟩ := X
  refine ⟨hn1, hn2, fun hn hs H locs lz hW hS hl => ?_⟩
  exact lv_if_lt hx hb hd ht (fun q => (h1 q).2.2 hn hs H locs lz hW hS hl) (fun q => (h2 q).2.2 hn hs H locs lz hW hS hl)
theorem ao_icmp_ge {z : Int} {x : Nat} {a b : Int32} (X : am_Cx G p R s0 m args meth c cc nL o init sF n0 l0) (hd : decode cc pc = .ok (.if_icmp .ge z, 3)) (ht : (pc : Int) + z = (x : Int)) (hn1 : s.2.1 ≤ sF.2.1) (hn2 : s.2.2 ≤ sF.2.2) (h1 : ¬ a < b → am_Go G p l e R s0 m args below meth c Q nL sF n0 l0 (x, ls, r, s)) (h2 : a < b → am_Go G p l e R s0 m args below meth c Q nL sF n0 l0 (pc + 3, ls, r, s)) : am_Go G p l e R s0 m args below meth c Q nL sF n0 l0 (pc, ls, am_I b :: am_I a :: r, s) := by
  obtain ⟨hx, hb, hml, hown, hts, hK, hOld, hRc, hRs, hsz, hin, hf⟩ := X
  refine ⟨hn1, hn2, fun hn hs H locs lz hW hS hl => ?_⟩
  exact lv_icmp_ge hx hb hd ht (fun q => (h1 (ao_nlt.mpr q)).2.2 hn hs H locs lz hW hS hl) (fun q => (h2 (Decidable.byContradiction fun z => q (ao_nlt.mp z))).2.2 hn hs H locs lz hW hS hl)
theorem ao_if_ge {z : Int} {x : Nat} {a : Int32} (X : am_Cx G p R s0 m args meth c cc nL o init sF n0 l0) (hd : decode cc pc = .ok (.ifCond .ge z, 3)) (ht : (pc : Int) + z = (x : Int)) (hn1 : s.2.1 ≤ sF.2.1) (hn2 : s.2.2 ≤ sF.2.2) (h1 : ¬ a < (0 : Int32) → am_Go G p l e R s0 m args below meth c Q nL sF n0 l0 (x, ls, r, s)) (h2 : a < (0 : Int32) → am_Go G p l e R s0 m args below meth c Q nL sF n0 l0 (pc + 3, ls, r, s)) : am_Go G p l e R s0 m args below meth c Q nL sF n0 l0 (pc, ls, am_I a :: r, s) := by
  obtain ⟨hx, hb, hml, hown, hts, hK, hOld, hRc, hRs, hsz, hin, hf⟩ := X
  refine ⟨hn1, hn2, fun hn hs H locs lz hW hS hl => ?_⟩
  exact lv_if_ge hx hb hd ht (fun q => (h1 (ao_nlt.mpr q)).2.2 hn hs H locs lz hW hS hl) (fun q => (h2 (Decidable.byContradiction fun z => q (ao_nlt.mp z))).2.2 hn hs H locs lz hW hS hl)
theorem ao_icmp_gt {z : Int} {x : Nat} {a b : Int32} (X : am_Cx G p R s0 m args meth c cc nL o init sF n0 l0) (hd : decode cc pc = .ok (.if_icmp .gt z, 3)) (ht : (pc : Int) + z = (x : Int)) (hn1 : s.2.1 ≤ sF.2.1) (hn2 : s.2.2 ≤ sF.2.2) (h1 : b < a → am_Go G p l e R s0 m args below meth c Q nL sF n0 l0 (x, ls, r, s)) (h2 : ¬ b < a → am_Go G p l e R s0 m args below meth c Q nL sF n0 l0 (pc + 3, ls, r, s)) : am_Go G p l e R s0 m args below meth c Q nL sF n0 l0 (pc, ls, am_I b :: am_I a :: r, s) := by
  obtain ⟨hx, hb, hml, hown, hts, hK, hOld, hRc, hRs, hsz, hin, hf⟩ := X
  refine ⟨hn1, hn2, fun hn hs H locs lz hW hS hl => ?_⟩
  exact lv_icmp_gt hx hb hd ht (fun q => (h1 q).2.2 hn hs H locs lz hW hS hl) (fun q => (h2 q).2.2 hn hs H locs lz hW hS hl)
theorem ao_if_gt {z : Int} {x : Nat} {a : Int32} (X : am_Cx G p R s0 m args meth c cc nL o init sF n0 l0) (hd : decode cc pc = .ok (.ifCond .gt z, 3)) (ht : (pc : Int) + z = (x : Int)) (hn1 : s.2.1 ≤ sF.2.1) (hn2 : s.2.2 ≤ sF.2.2) (h1 : (0 : Int32) < a → am_Go G p l e R s0 m args below meth c Q nL sF n0 l0 (x, ls, r, s)) (h2 : ¬ (0 : Int32) < a → am_Go G p l e R s0 m args below meth c Q nL sF n0 l0 (pc + 3, ls, r, s)) : am_Go G p l e R s0 m args below meth c Q nL sF n0 l0 (pc, ls, am_I a :: r, s) := by
  obtain ⟨hx, hb, hml, hown, hts, hK, hOld, hRc, hRs, hsz, hin, hf⟩ := X
  refine ⟨hn1, hn2, fun hn hs H locs lz hW hS hl => ?_⟩
  exact lv_if_gt hx hb hd ht (fun q => (h1 q).2.2 hn hs H locs lz hW hS hl) (fun q => (h2 q).2.2 hn hs H locs lz hW hS hl)
theorem ao_icmp_le {z : Int} {x : Nat} {a b : Int32} (X : am_Cx G p R s0 m args meth c cc nL o init sF n0 l0) (hd : decode cc pc = .ok (.if_icmp .le z, 3)) (ht : (pc : Int) + z = (x : Int)) (hn1 : s.2.1 ≤ sF.2.1) (hn2 : s.2.2 ≤ sF.2.2) (h1 : ¬ b < a → am_Go G p l e R s0 m args below meth c Q nL sF n0 l0 (x, ls, r, s)) (h2 : b < a → am_Go G p l e R s0 m args below meth c Q nL sF n0 l0 (pc + 3, ls, r, s)) : am_Go G p l e R s0 m args below meth c Q nL sF n0 l0 (pc, ls, am_I b :: am_I a :: r, s) := by
  obtain ⟨hx, hb, hml, hown, hts, hK, hOld, hRc, hRs, hsz, hin, hf⟩ := X
  refine ⟨hn1, hn2, fun hn hs H locs lz hW hS hl => ?_⟩
  exact lv_icmp_le hx hb hd ht (fun q => (h1 (ao_nlt.mpr q)).2.2 hn hs H locs lz hW hS hl) (fun q => (h2 (Decidable.byContradiction fun z => q (ao_nlt.mp z))).2.2 hn hs H locs lz hW hS hl)
theorem ao_if_le {z : Int} {x : Nat} {a : Int32} (X : am_Cx G p R s0 m args meth c cc nL o init sF n0 l0) (hd : decode cc pc = .ok (.ifCond .le z, 3)) (ht : (pc : Int) + z = (x : Int)) (hn1 : s.2.1 ≤ sF.2.1) (hn2 : s.2.2 ≤ sF.2.2) (h1 : ¬ (0 : Int32) < a → am_Go G p l e R s0 m args below meth c Q nL sF n0 l0 (x, ls, r, s)) (h2 : (0 : Int32) < a → am_Go G p l e R s0 m args below meth c Q nL sF n0 l0 (pc + 3, ls, r, s)) : am_Go G p l e R s0 m args below meth c Q nL sF n0 l0 (pc, ls, am_I a :: r, s) := by
  obtain ⟨hx, hb, hml, hown, hts, hK, hOld, hRc, hRs, hsz, hin, hf⟩ := X
  refine ⟨hn1, hn2, fun hn hs H locs lz hW hS hl => ?_⟩
  exact lv_if_le hx hb hd ht (fun q => (h1 (ao_nlt.mpr q)).2.2 hn hs H locs lz hW hS hl) (fun q => (h2 (Decidable.byContradiction fun z => q (ao_nlt.mp z))).2.2 hn hs H locs lz hW hS hl)
theorem ao_ifnullN {z : Int} {x : Nat} (X : am_Cx G p R s0 m args meth c cc nL o init sF n0 l0) (hd : decode cc pc = .ok (.ifnull z, 3)) (ht : (pc : Int) + z = (x : Int)) (h : am_Go G p l e R s0 m args below meth c Q nL sF n0 l0 (x, ls, r, s)) : am_Go G p l e R s0 m args below meth c Q nL sF n0 l0 (pc, ls, am_R none :: r, s) := by
  obtain ⟨hx, hb, hml, hown, hts, hK, hOld, hRc, hRs, hsz, hin, hf⟩ := X
  exact ⟨h.1, h.2.1, fun hn hs H locs lz hW hS hl => lv_ifnullN hx hb hd ht (h.2.2 hn hs H locs lz hW hS hl)⟩
theorem ao_ifnullS {z : Int} {x a : Nat} (X : am_Cx G p R s0 m args meth c cc nL o init sF n0 l0) (hd : decode cc pc = .ok (.ifnull z, 3)) (ht : (pc : Int) + z = (x : Int)) (h : am_Go G p l e R s0 m args below meth c Q nL sF n0 l0 (pc + 3, ls, r, s)) : am_Go G p l e R s0 m args below meth c Q nL sF n0 l0 (pc, ls, am_R (some a) :: r, s) := by
  obtain ⟨hx, hb, hml, hown, hts, hK, hOld, hRc, hRs, hsz, hin, hf⟩ := X
  exact ⟨h.1, h.2.1, fun hn hs H locs lz hW hS hl => lv_ifnull hx hb hd (h.2.2 hn hs H locs lz hW hS hl)⟩
theorem ao_ifnonnullN {z : Int} {x : Nat} (X : am_Cx G p R s0 m args meth c cc nL o init sF n0 l0) (hd : decode cc pc = .ok (.ifnonnull z, 3)) (ht : (pc : Int) + z = (x : Int)) (h : am_Go G p l e R s0 m args below meth c Q nL sF n0 l0 (pc + 3, ls, r, s)) : am_Go G p l e R s0 m args below meth c Q nL sF n0 l0 (pc, ls, am_R none :: r, s) := by
  obtain ⟨hx, hb, hml, hown, hts, hK, hOld, hRc, hRs, hsz, hin, hf⟩ := X
  exact ⟨h.1, h.2.1, fun hn hs H locs lz hW hS hl => lv_ifnonnullN hx hb hd (h.2.2 hn hs H locs lz hW hS hl)⟩
theorem ao_ifnonnullS {z : Int} {x a : Nat} (X : am_Cx G p R s0 m args meth c cc nL o init sF n0 l0) (hd : decode cc pc = .ok (.ifnonnull z, 3)) (ht : (pc : Int) + z = (x : Int)) (h : am_Go G p l e R s0 m args below meth c Q nL sF n0 l0 (x, ls, r, s)) : am_Go G p l e R s0 m args below meth c Q nL sF n0 l0 (pc, ls, am_R (some a) :: r, s) := by
  obtain ⟨hx, hb, hml, hown, hts, hK, hOld, hRc, hRs, hsz, hin, hf⟩ := X
  exact ⟨h.1, h.2.1, fun hn hs H locs lz hW hS hl => lv_ifnonnull hx hb hd ht (h.2.2 hn hs H locs lz hW hS hl)⟩
theorem ao_goto {z : Int} {x : Nat} (X : am_Cx G p R s0 m args meth c cc nL o init sF n0 l0) (hd : decode cc pc = .ok (.goto z, 3)) (ht : (pc : Int) + z = (x : Int)) (h : am_Go G p l e R s0 m args below meth c Q nL sF n0 l0 (x, ls, r, s)) : am_Go G p l e R s0 m args below meth c Q nL sF n0 l0 (pc, ls, r, s) := by
  obtain ⟨hx, hb, hml, hown, hts, hK, hOld, hRc, hRs, hsz, hin, hf⟩ := X
  exact ⟨h.1, h.2.1, fun hn hs H locs lz hW hS hl => lv_goto hx hb hd ht (h.2.2 hn hs H locs lz hW hS hl)⟩
end AmOp
