/-! OLD CELLS, MATH, SWITCHES, CALLS -/
theorem am_spw_0 : Jvm.Cond.fieldLink "java/lang/String" 38 "java/lang/String" "COMPACT_STRINGS" "Z" ∈ am_Ts := by
  have w := am_sp_ok
  simp only [Bool.and_eq_true] at w
  exact am_hs_in w.1.1.1
theorem am_spw_1 : Jvm.Cond.fieldLink "java/lang/String" 1053 "jdk/internal/util/Preconditions" "SIOOBE_FORMATTE\x52" "Ljava/util/function/BiFunction;" ∈ am_Ts := by
  have w := am_sp_ok
  simp only [Bool.and_eq_true] at w
  exact am_hs_in w.1.1.2
theorem am_spw_2 : Jvm.Cond.fieldLink "java/lang/String" 9 "java/lang/String" "value" "[B" ∈ am_Ts := by
  have w := am_sp_ok
  simp only [Bool.and_eq_true] at w
  exact am_hs_in w.1.2
theorem am_spw_3 : Jvm.Cond.fieldLink "java/lang/String" 15 "java/lang/String" "code\x72" "B" ∈ am_Ts := by
  have w := am_sp_ok
  simp only [Bool.and_eq_true] at w
  exact am_hs_in w.2
section AmOld
variable {G : am_Gt} {p : Program} {l : Launch} {e : Env} {R : Room} {s0 : State} {m : MethodId} {args : Array Value} {below : List Frame} {meth : Method} {c : Code} {Q : State → Prop} {cc : ByteArray} {nL o : Nat} {init : Bool} {sF : am_S} {n0 l0 : Nat} {pc : Nat} {ls : List (Option am_V)} {r : List am_V} {s : am_S}
theorem ao_getV {z : Nat} (X : am_Cx G p R s0 m args meth c cc nL o init sF n0 l0) (hd : decode cc pc = .ok (.getfield z, 3)) (ho : am_on o = "java/lang/String") (hz : z = 9) (h : am_Go G p l e R s0 m args below meth c Q nL sF n0 l0 (pc + 3, ls, am_O 2 :: r, s)) : am_Go G p l e R s0 m args below meth c Q nL sF n0 l0 (pc, ls, am_O 1 :: r, s) := by
  obtain ⟨hx, hb, hml, hown, hts, hK, hOld, hRc, hRs, hsz, hin, hf⟩ := X
  refine ⟨h.1, h.2.1, fun hn hs H locs lz hW hS hl => ?_⟩
  have k := h.2.2 hn hs H locs lz hW hS hl
  rw [ho] at hown
  subst hz
  exact vk_getf hx hb (hOld.2.2.2.1.1 0 (by decide)).2.2.1 hS hown (hts _ am_spw_2) (fun _ q => q) hd k
theorem ao_getC {z : Nat} (X : am_Cx G p R s0 m args meth c cc nL o init sF n0 l0) (hd : decode cc pc = .ok (.getfield z, 3)) (ho : am_on o = "java/lang/String") (hz : z = 15) (h : am_Go G p l e R s0 m args below meth c Q nL sF n0 l0 (pc + 3, ls, am_I 0 :: r, s)) : am_Go G p l e R s0 m args below meth c Q nL sF n0 l0 (pc, ls, am_O 1 :: r, s) := by
  obtain ⟨hx, hb, hml, hown, hts, hK, hOld, hRc, hRs, hsz, hin, hf⟩ := X
  refine ⟨h.1, h.2.1, fun hn hs H locs lz hW hS hl => ?_⟩
  have k := h.2.2 hn hs H locs lz hW hS hl
  rw [ho] at hown
  subst hz
  exact vk_getf hx hb (hOld.2.2.2.1.1 0 (by decide)).2.1 hS hown (hts _ am_spw_3) (fun _ q => q) hd k
theorem ao_gets1 {z : Nat} (X : am_Cx G p R s0 m args meth c cc nL o init sF n0 l0) (hd : decode cc pc = .ok (.getstatic z, 3)) (ho : am_on o = "java/lang/String") (hz : z = 38) (h : am_Go G p l e R s0 m args below meth c Q nL sF n0 l0 (pc + 3, ls, am_I 1 :: r, s)) : am_Go G p l e R s0 m args below meth c Q nL sF n0 l0 (pc, ls, r, s) := by
  obtain ⟨hx, hb, hml, hown, hts, hK, hOld, hRc, hRs, hsz, hin, hf⟩ := X
  refine ⟨h.1, h.2.1, fun hn hs H locs lz hW hS hl => ?_⟩
  have k := h.2.2 hn hs H locs lz hW hS hl
  rw [ho] at hown
  subst hz
  exact va_gets hx hb hOld.2.2.2.2.2 hS hown (hts _ am_spw_0) (fun _ q => q) hd k
theorem ao_gets3 {z : Nat} (X : am_Cx G p R s0 m args meth c cc nL o init sF n0 l0) (hd : decode cc pc = .ok (.getstatic z, 3)) (ho : am_on o = "java/lang/String") (hz : z = 1053) (h : am_Go G p l e R s0 m args below meth c Q nL sF n0 l0 (pc + 3, ls, am_O 3 :: r, s)) : am_Go G p l e R s0 m args below meth c Q nL sF n0 l0 (pc, ls, r, s) := by
  obtain ⟨hx, hb, hml, hown, hts, hK, hOld, hRc, hRs, hsz, hin, hf⟩ := X
  refine ⟨h.1, h.2.1, fun hn hs H locs lz hW hS hl => ?_⟩
  have k := h.2.2 hn hs H locs lz hW hS hl
  rw [ho] at hown
  subst hz
  exact va_gets hx hb hOld.2.2.2.2.1 hS hown (hts _ am_spw_1) (fun _ q => q) hd k
theorem ao_len0 (X : am_Cx G p R s0 m args meth c cc nL o init sF n0 l0) (hd : decode cc pc = .ok (.arraylength, 1)) (h : am_Go G p l e R s0 m args below meth c Q nL sF n0 l0 (pc + 1, ls, am_I (Int32.ofNat (gX G).1) :: r, s)) : am_Go G p l e R s0 m args below meth c Q nL sF n0 l0 (pc, ls, am_O 0 :: r, s) := by
  obtain ⟨hx, hb, hml, hown, hts, hK, hOld, hRc, hRs, hsz, hin, hf⟩ := X
  refine ⟨h.1, h.2.1, fun hn hs H locs lz hW hS hl => ?_⟩
  have k := h.2.2 hn hs H locs lz hW hS hl
  exact va_slen hx hb hOld.1 (Nat.lt_of_lt_of_le hOld.2.1 hOld.2.2.1) (Nat.not_le.mpr hOld.2.1) hS hd k
theorem ao_len2 (X : am_Cx G p R s0 m args meth c cc nL o init sF n0 l0) (hd : decode cc pc = .ok (.arraylength, 1)) (h : am_Go G p l e R s0 m args below meth c Q nL sF n0 l0 (pc + 1, ls, am_I (Int32.ofNat am_wls.length) :: r, s)) : am_Go G p l e R s0 m args below meth c Q nL sF n0 l0 (pc, ls, am_O 2 :: r, s) := by
  obtain ⟨hx, hb, hml, hown, hts, hK, hOld, hRc, hRs, hsz, hin, hf⟩ := X
  refine ⟨h.1, h.2.1, fun hn hs H locs lz hW hS hl => ?_⟩
  have k := h.2.2 hn hs H locs lz hW hS hl
  exact va_tlen hx hb (hOld.2.2.2.1.1 0 (by decide)).2.2.2 hS rfl hd k
theorem ao_ia0 {i : Int32} (X : am_Cx G p R s0 m args meth c cc nL o init sF n0 l0) (hd : decode cc pc = .ok (.iaload, 1)) (hi : ¬ (i < 0 ∨ (gX G).1 ≤ i.toNatClampNeg)) (h : am_Go G p l e R s0 m args below meth c Q nL sF n0 l0 (pc + 1, ls, am_I ((gX G).2 i.toNatClampNeg) :: r, s)) : am_Go G p l e R s0 m args below meth c Q nL sF n0 l0 (pc, ls, am_I i :: am_O 0 :: r, s) := by
  obtain ⟨hx, hb, hml, hown, hts, hK, hOld, hRc, hRs, hsz, hin, hf⟩ := X
  refine ⟨h.1, h.2.1, fun hn hs H locs lz hW hS hl => ?_⟩
  have k := h.2.2 hn hs H locs lz hW hS hl
  exact va_sld hx hb hOld.1 (Nat.lt_of_lt_of_le hOld.2.1 hOld.2.2.1) (Nat.not_le.mpr hOld.2.1) hS hi hd k
theorem ao_ba2 {i : Int32} (X : am_Cx G p R s0 m args meth c cc nL o init sF n0 l0) (hd : decode cc pc = .ok (.baload, 1)) (hi : ¬ (i < 0 ∨ am_wls.length ≤ i.toNatClampNeg)) (h : am_Go G p l e R s0 m args below meth c Q nL sF n0 l0 (pc + 1, ls, am_I (am_wls.getD i.toNatClampNeg 0) :: r, s)) : am_Go G p l e R s0 m args below meth c Q nL sF n0 l0 (pc, ls, am_I i :: am_O 2 :: r, s) := by
  obtain ⟨hx, hb, hml, hown, hts, hK, hOld, hRc, hRs, hsz, hin, hf⟩ := X
  refine ⟨h.1, h.2.1, fun hn hs H locs lz hW hS hl => ?_⟩
  have k := h.2.2 hn hs H locs lz hW hS hl
  exact va_tb hx hb (hOld.2.2.2.1.1 0 (by decide)).2.2.2 hS hi rfl hd k
theorem ao_mabs {z : Nat} {a : Int32} (X : am_Cx G p R s0 m args meth c cc nL o init sF n0 l0) (hd : decode cc pc = .ok (.invokestatic z, 3)) (hw : Jvm.Cond.methodLink (am_on o) z (am_mn 991) ∈ am_Ts) (hR : 1 ≤ R.frames ∧ 24 ≤ R.locals) (hcat : am_cat r ≤ 8) (h : am_Go G p l e R s0 m args below meth c Q nL sF n0 l0 (pc + 3, ls, am_I (am_absI a) :: r, s)) : am_Go G p l e R s0 m args below meth c Q nL sF n0 l0 (pc, ls, am_I a :: r, s) := by
  obtain ⟨hx, hb, hml, hown, hts, hK, hOld, hRc, hRs, hsz, hin, hf⟩ := X
  refine ⟨h.1, h.2.1, fun hn hs H locs lz hW hS hl => ?_⟩
  have k := h.2.2 hn hs H locs lz hW hS hl
  have w := am_mw_991
  simp only [Bool.and_eq_true] at w
  have h1 : s.2.1 ≤ sF.2.1 := h.1
  have h2 : s.2.2 ≤ sF.2.2 := h.2.1
  refine va_mabs hx hb (by rw [hml]; exact hl.2.1.symm) hown (hts _ hw) (hts _ (am_hs_in w.1.1)) (hts _ (am_hs_in w.1.2)) (hts _ (am_hs_in w.2)) hR.1 ?_ ?_ ?_ hd k
  · have hc := am_cat_sum (gN G) (gO G) (gO_cat hf) r
    rw [hc]
    omega
  · show s.2.1 - n0 ≤ R.cells
    rw [hRc]; omega
  · show s.2.2 - l0 ≤ R.slots
    rw [hRs]; omega
theorem ao_mabsl {z : Nat} {a : Int64} (X : am_Cx G p R s0 m args meth c cc nL o init sF n0 l0) (hd : decode cc pc = .ok (.invokestatic z, 3)) (hw : Jvm.Cond.methodLink (am_on o) z (am_mn 992) ∈ am_Ts) (hR : 1 ≤ R.frames ∧ 24 ≤ R.locals) (hcat : am_cat r ≤ 8) (h : am_Go G p l e R s0 m args below meth c Q nL sF n0 l0 (pc + 3, ls, am_L (am_absL a) :: r, s)) : am_Go G p l e R s0 m args below meth c Q nL sF n0 l0 (pc, ls, am_L a :: r, s) := by
  obtain ⟨hx, hb, hml, hown, hts, hK, hOld, hRc, hRs, hsz, hin, hf⟩ := X
  refine ⟨h.1, h.2.1, fun hn hs H locs lz hW hS hl => ?_⟩
  have k := h.2.2 hn hs H locs lz hW hS hl
  have w := am_mw_992
  simp only [Bool.and_eq_true] at w
  have h1 : s.2.1 ≤ sF.2.1 := h.1
  have h2 : s.2.2 ≤ sF.2.2 := h.2.1
  refine va_mabs_long hx hb (by rw [hml]; exact hl.2.1.symm) hown (hts _ hw) (hts _ (am_hs_in w.1.1)) (hts _ (am_hs_in w.1.2)) (hts _ (am_hs_in w.2)) hR.1 ?_ ?_ ?_ hd k
  · have hc := am_cat_sum (gN G) (gO G) (gO_cat hf) r
    rw [hc]
    omega
  · show s.2.1 - n0 ≤ R.cells
    rw [hRc]; omega
  · show s.2.2 - l0 ≤ R.slots
    rw [hRs]; omega
theorem ao_mmax {z : Nat} {a b : Int32} (X : am_Cx G p R s0 m args meth c cc nL o init sF n0 l0) (hd : decode cc pc = .ok (.invokestatic z, 3)) (hw : Jvm.Cond.methodLink (am_on o) z (am_mn 993) ∈ am_Ts) (hR : 1 ≤ R.frames ∧ 24 ≤ R.locals) (hcat : am_cat r ≤ 8) (h : am_Go G p l e R s0 m args below meth c Q nL sF n0 l0 (pc + 3, ls, am_I (am_maxI a b) :: r, s)) : am_Go G p l e R s0 m args below meth c Q nL sF n0 l0 (pc, ls, am_I b :: am_I a :: r, s) := by
  obtain ⟨hx, hb, hml, hown, hts, hK, hOld, hRc, hRs, hsz, hin, hf⟩ := X
  refine ⟨h.1, h.2.1, fun hn hs H locs lz hW hS hl => ?_⟩
  have k := h.2.2 hn hs H locs lz hW hS hl
  have w := am_mw_993
  simp only [Bool.and_eq_true] at w
  have h1 : s.2.1 ≤ sF.2.1 := h.1
  have h2 : s.2.2 ≤ sF.2.2 := h.2.1
  refine va_mmax hx hb (by rw [hml]; exact hl.2.1.symm) hown (hts _ hw) (hts _ (am_hs_in w.1.1)) (hts _ (am_hs_in w.1.2)) (hts _ (am_hs_in w.2)) hR.1 ?_ ?_ ?_ hd k
  · have hc := am_cat_sum (gN G) (gO G) (gO_cat hf) r
    rw [hc]
    omega
  · show s.2.1 - n0 ≤ R.cells
    rw [hRc]; omega
  · show s.2.2 - l0 ≤ R.slots
    rw [hRs]; omega
theorem ao_mmin {z : Nat} {a b : Int32} (X : am_Cx G p R s0 m args meth c cc nL o init sF n0 l0) (hd : decode cc pc = .ok (.invokestatic z, 3)) (hw : Jvm.Cond.methodLink (am_on o) z (am_mn 994) ∈ am_Ts) (hR : 1 ≤ R.frames ∧ 24 ≤ R.locals) (hcat : am_cat r ≤ 8) (h : am_Go G p l e R s0 m args below meth c Q nL sF n0 l0 (pc + 3, ls, am_I (am_minI a b) :: r, s)) : am_Go G p l e R s0 m args below meth c Q nL sF n0 l0 (pc, ls, am_I b :: am_I a :: r, s) := by
  obtain ⟨hx, hb, hml, hown, hts, hK, hOld, hRc, hRs, hsz, hin, hf⟩ := X
  refine ⟨h.1, h.2.1, fun hn hs H locs lz hW hS hl => ?_⟩
  have k := h.2.2 hn hs H locs lz hW hS hl
  have w := am_mw_994
  simp only [Bool.and_eq_true] at w
  have h1 : s.2.1 ≤ sF.2.1 := h.1
  have h2 : s.2.2 ≤ sF.2.2 := h.2.1
  refine va_mmin hx hb (by rw [hml]; exact hl.2.1.symm) hown (hts _ hw) (hts _ (am_hs_in w.1.1)) (hts _ (am_hs_in w.1.2)) (hts _ (am_hs_in w.2)) hR.1 ?_ ?_ ?_ hd k
  · have hc := am_cat_sum (gN G) (gO G) (gO_cat hf) r
    rw [hc]
    omega
  · show s.2.1 - n0 ≤ R.cells
    rw [hRc]; omega
  · show s.2.2 - l0 ≤ R.slots
    rw [hRs]; omega
theorem ao_obj {z a : Nat} (X : am_Cx G p R s0 m args meth c cc nL o init sF n0 l0) (hd : decode cc pc = .ok (.invokespecial z, 3)) (hw : Jvm.Cond.methodLink (am_on o) z Lib.objectInit ∈ am_Ts) (hR : 1 ≤ R.frames ∧ 20 ≤ R.locals) (hcat : am_cat r ≤ 8) (h : am_Go G p l e R s0 m args below meth c Q nL sF n0 l0 (pc + 3, ls, r, s)) : am_Go G p l e R s0 m args below meth c Q nL sF n0 l0 (pc, ls, am_R (some a) :: r, s) := by
  obtain ⟨hx, hb, hml, hown, hts, hK, hOld, hRc, hRs, hsz, hin, hf⟩ := X
  refine ⟨h.1, h.2.1, fun hn hs H locs lz hW hS hl => ?_⟩
  have k := h.2.2 hn hs H locs lz hW hS hl
  have w := am_oi_w
  simp only [Bool.and_eq_true] at w
  refine W.objInit hx hb hown (hts _ hw) (hts _ (am_hs_in w.1)) (hts _ (am_hs_in w.2)) rfl (by rw [hml]; exact hl.2.1) rfl hd hR.1 ?_ k
  have hc := am_cat_sum (gN G) (gO G) (gO_cat hf) r
  show 2 * 0 + ((r.map (gV G)).map fun v => v.category).sum + 12 ≤ R.locals
  rw [hc]
  omega
theorem ao_swT {d lo hi : Int} {os : Array Int} {len : Nat} {a : Int32} (X : am_Cx G p R s0 m args meth c cc nL o init sF n0 l0) (hd : decode cc pc = .ok (.tableswitch d lo hi os, len)) (hhi : hi + 1 = lo + os.size) (hn1 : s.2.1 ≤ sF.2.1) (hn2 : s.2.2 ≤ sF.2.2)
    (hin : ∀ (j : Nat) (off : Int), os[j]? = some off → a.toInt = lo + j → ∃ x : Nat, (pc : Int) + off = x ∧ am_Go G p l e R s0 m args below meth c Q nL sF n0 l0 (x, ls, r, s)) (hout : (∀ (j : Nat), j < os.size → a.toInt ≠ lo + j) → ∃ x : Nat, (pc : Int) + d = x ∧ am_Go G p l e R s0 m args below meth c Q nL sF n0 l0 (x, ls, r, s)) : am_Go G p l e R s0 m args below meth c Q nL sF n0 l0 (pc, ls, am_I a :: r, s) := by
  obtain ⟨hx, hb, hml, hown, hts, hK, hOld, hRc, hRs, hsz, hin0, hf⟩ := X
  refine ⟨hn1, hn2, fun hn hs H locs lz hW hS hl => ?_⟩
  by_cases h1 : a.toInt < lo ∨ hi < a.toInt
  · obtain ⟨x, e1, h⟩ := hout (fun j hj e => by rcases h1 with h1 | h1 <;> omega)
    exact lv_tableOut hx hb hd h1 e1 (h.2.2 hn hs H locs lz hW hS hl)
  · have g1 : ¬ a.toInt < lo := fun q => h1 (Or.inl q)
    have g2 : ¬ hi < a.toInt := fun q => h1 (Or.inr q)
    have hj : (a.toInt - lo).toNat < os.size := by omega
    obtain ⟨x, e1, h⟩ := hin (a.toInt - lo).toNat os[(a.toInt - lo).toNat] (Array.getElem?_eq_getElem hj) (by omega)
    exact lv_tableIn hx hb hd g1 g2 (Array.getElem?_eq_getElem hj) e1 (h.2.2 hn hs H locs lz hW hS hl)
theorem ao_swL {d : Int} {ps : Array (Int × Int)} {len : Nat} {a : Int32} (X : am_Cx G p R s0 m args meth c cc nL o init sF n0 l0) (hd : decode cc pc = .ok (.lookupswitch d ps, len)) (hp : (ps.toList.zip (ps.toList.drop 1)).all (fun (a, next) => a.1 < next.1) = true) (hn1 : s.2.1 ≤ sF.2.1) (hn2 : s.2.2 ≤ sF.2.2) {x : Nat} {off : Int} (ho : Op.lookupswitch.offset ps.toList d a.toInt = off) (ht : (pc : Int) + off = (x : Int)) (h : am_Go G p l e R s0 m args below meth c Q nL sF n0 l0 (x, ls, r, s)) : am_Go G p l e R s0 m args below meth c Q nL sF n0 l0 (pc, ls, am_I a :: r, s) := by
  obtain ⟨hx, hb, hml, hown, hts, hK, hOld, hRc, hRs, hsz, hin, hf⟩ := X
  exact ⟨hn1, hn2, fun hn hs H locs lz hW hS hl => lv_lookup hx hb hd hp ho ht (h.2.2 hn hs H locs lz hW hS hl)⟩
end AmOld
/-- a method's contract: what the small machine answers, the big one answers -/
def am_Pc (G : am_Gt) (as : List am_V) (s : am_S) : Array Value → State → Prop := va_Pc (as.map (gV G)) (fun U => am_Wd G s U.heap ∧ U.heap.size ≤ gN G + s.2.1 ∧ am_K G U ∧ am_Old G U U.heap)
def am_Qc (G : am_Gt) (r : Option am_V) (s' : am_S) : Array Value → State → Outcome → State → Prop := fun _ st oc t => oc = .returned (r.map (gV G)) ∧ am_Wd G s' t.heap ∧ va_F (gU G) st t
def am_wsm (x : am_Me) : List Jvm.Cond := .code x.1.1 x.1.2.1 x.1.2.2.1 x.1.2.2.2 :: am_Ts
def am_rm (x : am_Me) (k n : Nat) : Room := { frames := x.2.2.2.2.1, cells := k, slots := n, locals := x.2.2.2.2.2.1 }
def am_Mt (G : am_Gt) (l : Launch) (y : Nat) (as : List am_V) (s : am_S) (r : Option am_V) (s' : am_S) : Prop := s.2.1 ≤ s'.2.1 ∧ s.2.2 ≤ s'.2.2 ∧ ∀ x : am_Me, am_mt[y]? = some x → Met l x.1.1 (am_wsm x) (am_rm x (s'.2.1 - s.2.1) (s'.2.2 - s.2.2)) (am_Pc G as s) (am_Qc G r s') (s'.2.1 - s.2.1) (s'.2.2 - s.2.2) (gU G)
theorem am_good {ws : List Jvm.Cond} (h : ∀ w ∈ ws, w ∈ am_Ts) : GoodIn am_Ts ws := fun w hw => ⟨h w hw, good_of_word (List.mem_filter.mp (h w hw)).2⟩
theorem am_blind (G : am_Gt) (as : List am_V) (s : am_S) : FrameBlind (am_Pc G as s) := fun a U g mk h => ⟨h.1, h.2.1, h.2.2.1, am_K_same (u := U) (U := U.calling g mk a) rfl h.2.2.2.1, am_Old_moved (u := U) (U := U.calling g mk a) (Vm.Alike.refl U.vm) h.2.2.2.2⟩
/-- what the table of methods says of one -/
theorem am_mt_of {y : Nat} {x : am_Me} (h : am_mt[y]? = some x) : am_mc x = true ∧ Jvm.Cond.code x.1.1 x.1.2.1 x.1.2.2.1 x.1.2.2.2 ∈ am_Ts := by
  have hm := List.mem_of_getElem? h
  unfold am_mt at hm
  simp only [List.mem_append] at hm
  rcases hm with hm | hm | hm | hm | hm | hm | hm | hm | hm | hm
  · exact ⟨List.all_eq_true.mp am_mt_ok_0 x hm, am_cw_0 x hm⟩
  · exact ⟨List.all_eq_true.mp am_mt_ok_1 x hm, am_cw_1 x hm⟩
  · exact ⟨List.all_eq_true.mp am_mt_ok_2 x hm, am_cw_2 x hm⟩
  · exact ⟨List.all_eq_true.mp am_mt_ok_3 x hm, am_cw_3 x hm⟩
  · exact ⟨List.all_eq_true.mp am_mt_ok_4 x hm, am_cw_4 x hm⟩
  · exact ⟨List.all_eq_true.mp am_mt_ok_5 x hm, am_cw_5 x hm⟩
  · exact ⟨List.all_eq_true.mp am_mt_ok_6 x hm, am_cw_6 x hm⟩
  · exact ⟨List.all_eq_true.mp am_mt_ok_7 x hm, am_cw_7 x hm⟩
  · exact ⟨List.all_eq_true.mp am_mt_ok_8 x hm, am_cw_8 x hm⟩
  · exact ⟨List.all_eq_true.mp am_mt_ok_9 x hm, am_cw_9 x hm⟩
theorem am_wsm_in {y : Nat} {x : am_Me} (h : am_mt[y]? = some x) : ∀ w ∈ am_wsm x, w ∈ am_Ts := by
  intro w hw
  rcases List.mem_cons.mp hw with rfl | hw
  · exact (am_mt_of h).2
  · exact hw
theorem am_mcs {x : am_Me} (h : am_mc x = true) : Jvm.Cond.initialized x.1.1.cls ∈ am_Ts ∧ (x.2.2.2.1 = 0 → Jvm.Cond.static x.1.1 ∈ am_Ts) ∧ (x.2.2.2.1 ≠ 0 → Jvm.Cond.instanceMethod x.1.1 ∈ am_Ts) ∧ (x.2.2.2.1 = 1 → Jvm.Cond.selects x.1.1.cls x.1.1 x.1.1 ∈ am_Ts) ∧ x.1.1.cls = am_on x.2.1 ∧ (x.1.1.cls ≠ "java/lang/invoke/MethodHandle" ∧ x.1.1.cls ≠ "java/lang/invoke/VarHandle") ∧ (parseMethodDescriptor x.1.1.desc).map (fun d => d.parameters.length) = some (bif Nat.beq x.2.2.2.1 0 then x.2.2.1 else x.2.2.1 - 1) ∧ plainName x.1.1.cls = true ∧ (x.2.2.2.1 = 2 → x.1.1.name = "<init>" ∧ x.1.2.2.2 = none) := by
  unfold am_mc at h
  simp only [Bool.and_eq_true, decide_eq_true_eq] at h
  obtain ⟨⟨⟨⟨⟨⟨⟨⟨⟨h1, h2⟩, h3⟩, h4⟩, h5⟩, h6⟩, h7⟩, h8⟩, h9⟩, -⟩ := h
  refine ⟨am_hs_in h1, fun q => ?_, fun q => ?_, fun q => ?_, h4, ⟨h5, h6⟩, h7, h8, fun q => ?_⟩
  · rw [q] at h2
    exact am_hs_in h2
  · rw [show Nat.beq x.2.2.2.1 0 = false from by
      cases hb : Nat.beq x.2.2.2.1 0 with
      | false => rfl
      | true => exact absurd (Nat.eq_of_beq_eq_true hb) q] at h2
    exact am_hs_in h2
  · rw [q] at h3
    exact am_hs_in h3
  · rw [q] at h9
    simpa using h9
section AmCall
variable {G : am_Gt} {p : Program} {l : Launch} {e : Env} {R : Room} {s0 : State} {m : MethodId} {args : Array Value} {below : List Frame} {meth : Method} {c : Code} {Q : State → Prop} {cc : ByteArray} {nL o : Nat} {init : Bool} {sF : am_S} {n0 l0 : Nat} {pc : Nat} {ls : List (Option am_V)} {r : List am_V} {s : am_S}
theorem am_back {a : Array Value} {H : Heap} {locs : List Loc} {cells slots mc ms : Nat} {lz : Array Slot} {st0 rest : List Value} {rv : Option am_V} {s' : am_S} (hr : va_Run p l e R s0 m args below meth c H locs cells slots mc ms (F0 m pc lz st0) rest (am_Qc G rv s' a) (gU G)) (hS : va_S (gU G) s0.heap H locs)
    (kk : ∀ (H1 : Heap) (locs1 : List Loc), am_Wd G s' H1 → va_S (gU G) s0.heap H1 locs1 → W p l e R s0 m args below meth c H1 locs1 (cells + mc) (slots + ms) Q (F0 m (pc + 3) lz ((rv.map (gV G)).toList ++ rest))) : W p l e R s0 m args below meth c H locs cells slots Q (F0 m pc lz st0) := by
  intro T hT X
  obtain ⟨v, st₀, t, T', L, h0, X', hL, e1, e2, ⟨hv, hWd, hz, hk⟩, st⟩ := hr T hT X
  have hv : v = rv.map (gV G) := by injection hv
  subst hv
  rw [h0] at hz hk
  obtain ⟨t2, a1, b1⟩ := kk T'.heap (locs ++ L) (by rw [e1]; exact hWd)
    ⟨Nat.le_trans hS.1 (by rw [e1]; exact hz), fun q h1 h2 => by rw [e1, hk q (Nat.lt_of_lt_of_le h1 hS.1) h2]; exact hS.2.1 q h1 h2, fun q hq => by
      rcases List.mem_append.mp hq with h | h
      · exact hS.2.2 q h
      · exact hL q h⟩ T' rfl X'
  exact ⟨t2, st t2 a1, b1⟩
theorem am_pre {H : Heap} {locs : List Loc} {as : List am_V} (hK : am_K G s0) (hOld : am_Old G s0 s0.heap) (hW : am_Wd G s H) (hS : va_S (gU G) s0.heap H locs) (hz : H.size ≤ gN G + s.2.1) : ∀ U : State, U.heap = H → s0.WarmedH U.vm → am_Pc G as s (as.map (gV G)).toArray U := by
  intro U hU hWa
  refine ⟨rfl, by rw [hU]; exact hW, by rw [hU]; exact hz, am_K_warm hWa hK, ?_⟩
  rw [hU]
  exact am_Old_moved hWa.alike (am_Old_kept hOld hS.1 (fun a h1 h2 => hS.2.1 a h1 h2))
theorem ao_cS {z cN : Nat} {x : am_Me} {as : List am_V} {rv : Option am_V} {s' : am_S} (X : am_Cx G p R s0 m args meth c cc nL o init sF n0 l0) (hd : decode cc pc = .ok (.invokestatic z, 3)) (he : am_mt[cN]? = some x) (hkd : x.2.2.2.1 = 0) (hw : Jvm.Cond.methodLink (am_on o) z x.1.1 ∈ am_Ts) (hfr : x.2.2.2.2.1 + 1 ≤ R.frames ∧ 8 + (x.1.2.2.1 + 11) + x.2.2.2.2.2.1 ≤ R.locals) (hcat : am_cat r ≤ 8) (hna : as.length = x.2.2.1) (hM : am_Mt G l cN as s rv s') (h : am_Go G p l e R s0 m args below meth c Q nL sF n0 l0 (pc + 3, ls, rv.toList ++ r, s')) : am_Go G p l e R s0 m args below meth c Q nL sF n0 l0 (pc, ls, as.reverse ++ r, s) := by
  obtain ⟨hx, hb, hml, hown, hts, hK, hOld, hRc, hRs, hsz, hin, hf⟩ := X
  refine ⟨Nat.le_trans hM.1 h.1, Nat.le_trans hM.2.1 h.2.1, fun hn hs H locs lz hW hS hl => ?_⟩
  have q1 : s.2.1 ≤ s'.2.1 := hM.1
  have q2 : s.2.2 ≤ s'.2.2 := hM.2.1
  have q3 : s'.2.1 ≤ sF.2.1 := h.1
  have q4 : s'.2.2 ≤ sF.2.2 := h.2.1
  have hn' : n0 ≤ s.2.1 := hn
  have hs' : l0 ≤ s.2.2 := hs
  have hcs : ((r.map (gV G)).map fun v => v.category).sum ≤ 8 := by rw [am_cat_sum (gN G) (gO G) (gO_cat hf)]; exact hcat
  have hmc := am_mcs (am_mt_of he).1
  have hroom : s.2.1 - n0 + (s'.2.1 - s.2.1) ≤ R.cells ∧ s.2.2 - l0 + (s'.2.2 - s.2.2) ≤ R.slots := by
    rw [hRc, hRs]
    omega
  refine am_szW (fun hz => ?_)
  have hz : H.size ≤ s0.heap.size + (s.2.1 - n0) := hz
  have hzz : H.size ≤ gN G + s.2.1 := by omega
  have kk : ∀ (H1 : Heap) (locs1 : List Loc), am_Wd G s' H1 → va_S (gU G) s0.heap H1 locs1 → W p l e R s0 m args below meth c H1 locs1 (s.2.1 - n0 + (s'.2.1 - s.2.1)) (s.2.2 - l0 + (s'.2.2 - s.2.2)) Q (F0 m (pc + 3) lz ((rv.map (gV G)).toList ++ r.map (gV G))) := by
    intro H1 locs1 hW1 hS1
    have k := h.2.2 (Nat.le_trans hn' q1) (Nat.le_trans hs' q2) H1 locs1 lz hW1 hS1 hl
    have e3 : (rv.toList ++ r).map (gV G) = (rv.map (gV G)).toList ++ r.map (gV G) := by cases rv <;> rfl
    have k : W p l e R s0 m args below meth c H1 locs1 (s'.2.1 - n0) (s'.2.2 - l0) Q (F0 m (pc + 3) lz ((rv.toList ++ r).map (gV G))) := k
    rw [e3] at k
    exact W.cs (by omega) (by omega) k
  have cw := va_cwS (R := R) (mc := s'.2.1 - s.2.1) (ms := s'.2.2 - s.2.2) (rm := am_rm x (s'.2.1 - s.2.1) (s'.2.2 - s.2.2)) (y := x.1.1) as.length hts (am_good (ws := va_wsS (am_on o) z x.1.1 (am_wsm x)) (by
    intro w hw2
    unfold va_wsS at hw2
    rcases List.mem_append.mp hw2 with h1 | h1
    · rcases List.mem_cons.mp h1 with rfl | h1
      · exact hw
      · rcases List.mem_cons.mp h1 with rfl | h1
        · exact hmc.2.1 hkd
        · rcases List.mem_cons.mp h1 with rfl | h1
          · exact hmc.1
          · cases h1
    · exact am_wsm_in he w h1)) rfl rfl rfl ⟨hmc.2.2.2.2.2.1.1, hmc.2.2.2.2.2.1.2, by rw [hmc.2.2.2.2.2.2.1, hkd, hna]; rfl⟩ hfr
  have hrun := va_runS (S := (⟨hx, hb, hml, hown, hts⟩ : CallFix p m c cc nL s0 args am_Ts (am_on o))) (hM.2.2 x he) cw ⟨am_blind G as s, am_pre hK hOld hW hS hzz⟩ (g := F0 m pc lz ((as.reverse ++ r).map (gV G))) (rest := r.map (gV G)) rfl (by rw [List.length_map]) hl.2.1 (by show (as.reverse ++ r).map (gV G) = _; rw [List.map_append, List.map_reverse]) (lv_room (m := m) (pc := pc) (rest := []) (ls := lz) hcs) hd hroom (locs := locs) (below := below) (e := e) (meth := meth)
  exact am_back hrun hS kk
theorem ao_cN {z cN : Nat} {x : am_Me} {as : List am_V} {rv : Option am_V} {s' : am_S} (X : am_Cx G p R s0 m args meth c cc nL o init sF n0 l0) {host : String} (hd : decode cc pc = .ok (.invokestatic z, 3)) (he : am_mt[cN]? = some x) (hkd : x.2.2.2.1 = 0) (hw : va_Nw (.methodLinkNest (am_on o) z x.1.1 host) s0) (hfr : x.2.2.2.2.1 + 1 ≤ R.frames ∧ 8 + (x.1.2.2.1 + 11) + x.2.2.2.2.2.1 ≤ R.locals) (hcat : am_cat r ≤ 8) (hna : as.length = x.2.2.1) (hM : am_Mt G l cN as s rv s') (h : am_Go G p l e R s0 m args below meth c Q nL sF n0 l0 (pc + 3, ls, rv.toList ++ r, s')) : am_Go G p l e R s0 m args below meth c Q nL sF n0 l0 (pc, ls, as.reverse ++ r, s) := by
  obtain ⟨hx, hb, hml, hown, hts, hK, hOld, hRc, hRs, hsz, hin, hf⟩ := X
  refine ⟨Nat.le_trans hM.1 h.1, Nat.le_trans hM.2.1 h.2.1, fun hn hs H locs lz hW hS hl => ?_⟩
  have q1 : s.2.1 ≤ s'.2.1 := hM.1
  have q2 : s.2.2 ≤ s'.2.2 := hM.2.1
  have q3 : s'.2.1 ≤ sF.2.1 := h.1
  have q4 : s'.2.2 ≤ sF.2.2 := h.2.1
  have hn' : n0 ≤ s.2.1 := hn
  have hs' : l0 ≤ s.2.2 := hs
  have hcs : ((r.map (gV G)).map fun v => v.category).sum ≤ 8 := by rw [am_cat_sum (gN G) (gO G) (gO_cat hf)]; exact hcat
  have hmc := am_mcs (am_mt_of he).1
  have hroom : s.2.1 - n0 + (s'.2.1 - s.2.1) ≤ R.cells ∧ s.2.2 - l0 + (s'.2.2 - s.2.2) ≤ R.slots := by
    rw [hRc, hRs]
    omega
  refine am_szW (fun hz => ?_)
  have hz : H.size ≤ s0.heap.size + (s.2.1 - n0) := hz
  have hzz : H.size ≤ gN G + s.2.1 := by omega
  have kk : ∀ (H1 : Heap) (locs1 : List Loc), am_Wd G s' H1 → va_S (gU G) s0.heap H1 locs1 → W p l e R s0 m args below meth c H1 locs1 (s.2.1 - n0 + (s'.2.1 - s.2.1)) (s.2.2 - l0 + (s'.2.2 - s.2.2)) Q (F0 m (pc + 3) lz ((rv.map (gV G)).toList ++ r.map (gV G))) := by
    intro H1 locs1 hW1 hS1
    have k := h.2.2 (Nat.le_trans hn' q1) (Nat.le_trans hs' q2) H1 locs1 lz hW1 hS1 hl
    have e3 : (rv.toList ++ r).map (gV G) = (rv.map (gV G)).toList ++ r.map (gV G) := by cases rv <;> rfl
    have k : W p l e R s0 m args below meth c H1 locs1 (s'.2.1 - n0) (s'.2.2 - l0) Q (F0 m (pc + 3) lz ((rv.toList ++ r).map (gV G))) := k
    rw [e3] at k
    exact W.cs (by omega) (by omega) k
  have cw := va_cnB (R := R) (args := args) (mc := s'.2.1 - s.2.1) (ms := s'.2.2 - s.2.2) (rm := am_rm x (s'.2.1 - s.2.1) (s'.2.2 - s.2.2)) (y := x.1.1) as.length hts (am_good (am_wsm_in he)) rfl rfl rfl hw (hts _ hmc.1) ⟨hmc.2.2.2.2.2.1.1, hmc.2.2.2.2.2.1.2, by rw [hmc.2.2.2.2.2.2.1, hkd, hna]; rfl⟩ hfr
  have hrun := va_runSN (S := (⟨hx, hb, hml, hown, hts⟩ : CallFix p m c cc nL s0 args am_Ts (am_on o))) (hM.2.2 x he) ⟨cw, hts _ (hmc.2.1 hkd), trivial⟩ ⟨am_blind G as s, am_pre hK hOld hW hS hzz⟩ (g := F0 m pc lz ((as.reverse ++ r).map (gV G))) (rest := r.map (gV G)) rfl (by rw [List.length_map]) hl.2.1 (by show (as.reverse ++ r).map (gV G) = _; rw [List.map_append, List.map_reverse]) (lv_room (m := m) (pc := pc) (rest := []) (ls := lz) hcs) hd hroom (locs := locs) (below := below) (e := e) (meth := meth)
  exact am_back hrun hS kk
/-- the receiver of a virtual call: an own object of the class, or the text -/
def am_rc (G : am_Gt) (C : String) (H : Heap) (s0 : State) (w : am_V) : Prop := ∃ b : Nat, gV G w = .ref b ∧ ∃ cellB : Cell, H[b]? = some cellB ∧ cellB.vm.isStatics = false ∧ s0.vm.findClass C = some cellB.cls
theorem am_rc_own {H : Heap} {a ci : Nat} {q : vw_C} {fs : List am_V} (hK : am_K G s0) (hW : am_Wd G s H) (hc : am_cls[ci]? = some q) (h : s.1 a = some (.inr (ci, fs))) : am_rc G q.1 H s0 (am_R (some a)) :=
  ⟨gN G + a, rfl, va_recv hK.1 hW.1 hc (am_ws_of hW h)⟩
theorem am_rc_str {H : Heap} {locs : List Loc} (hOld : am_Old G s0 s0.heap) (hS : va_S (gU G) s0.heap H locs) : am_rc G "java/lang/String" H s0 (am_O 1) :=
  ⟨gk G, rfl, vk_recv (i := 0) hOld.2.2.2.1 (by decide) hS⟩
theorem ao_cV {z cN : Nat} {x : am_Me} {as : List am_V} {rv : Option am_V} {s' : am_S} (X : am_Cx G p R s0 m args meth c cc nL o init sF n0 l0) {w0 : am_V} (hd : decode cc pc = .ok (.invokevirtual z, 3)) (he : am_mt[cN]? = some x) (hkd : x.2.2.2.1 = 1) (hw : Jvm.Cond.methodLink (am_on o) z x.1.1 ∈ am_Ts) (hfr : x.2.2.2.2.1 + 1 ≤ R.frames ∧ 8 + (x.1.2.2.1 + 11) + x.2.2.2.2.2.1 ≤ R.locals) (hcat : am_cat r ≤ 8) (hna : as.length + 1 = x.2.2.1) (hrc : ∀ (H : Heap) (locs : List Loc), am_Wd G s H → va_S (gU G) s0.heap H locs → am_rc G x.1.1.cls H s0 w0) (hM : am_Mt G l cN (w0 :: as) s rv s') (h : am_Go G p l e R s0 m args below meth c Q nL sF n0 l0 (pc + 3, ls, rv.toList ++ r, s')) : am_Go G p l e R s0 m args below meth c Q nL sF n0 l0 (pc, ls, as.reverse ++ w0 :: r, s) := by
  obtain ⟨hx, hb, hml, hown, hts, hK, hOld, hRc, hRs, hsz, hin, hf⟩ := X
  refine ⟨Nat.le_trans hM.1 h.1, Nat.le_trans hM.2.1 h.2.1, fun hn hs H locs lz hW hS hl => ?_⟩
  have q1 : s.2.1 ≤ s'.2.1 := hM.1
  have q2 : s.2.2 ≤ s'.2.2 := hM.2.1
  have q3 : s'.2.1 ≤ sF.2.1 := h.1
  have q4 : s'.2.2 ≤ sF.2.2 := h.2.1
  have hn' : n0 ≤ s.2.1 := hn
  have hs' : l0 ≤ s.2.2 := hs
  have hcs : ((r.map (gV G)).map fun v => v.category).sum ≤ 8 := by rw [am_cat_sum (gN G) (gO G) (gO_cat hf)]; exact hcat
  have hmc := am_mcs (am_mt_of he).1
  have hroom : s.2.1 - n0 + (s'.2.1 - s.2.1) ≤ R.cells ∧ s.2.2 - l0 + (s'.2.2 - s.2.2) ≤ R.slots := by
    rw [hRc, hRs]
    omega
  refine am_szW (fun hz => ?_)
  have hz : H.size ≤ s0.heap.size + (s.2.1 - n0) := hz
  have hzz : H.size ≤ gN G + s.2.1 := by omega
  have kk : ∀ (H1 : Heap) (locs1 : List Loc), am_Wd G s' H1 → va_S (gU G) s0.heap H1 locs1 → W p l e R s0 m args below meth c H1 locs1 (s.2.1 - n0 + (s'.2.1 - s.2.1)) (s.2.2 - l0 + (s'.2.2 - s.2.2)) Q (F0 m (pc + 3) lz ((rv.map (gV G)).toList ++ r.map (gV G))) := by
    intro H1 locs1 hW1 hS1
    have k := h.2.2 (Nat.le_trans hn' q1) (Nat.le_trans hs' q2) H1 locs1 lz hW1 hS1 hl
    have e3 : (rv.toList ++ r).map (gV G) = (rv.map (gV G)).toList ++ r.map (gV G) := by cases rv <;> rfl
    have k : W p l e R s0 m args below meth c H1 locs1 (s'.2.1 - n0) (s'.2.2 - l0) Q (F0 m (pc + 3) lz ((rv.toList ++ r).map (gV G))) := k
    rw [e3] at k
    exact W.cs (by omega) (by omega) k
  have hst : (as.reverse ++ w0 :: r).map (gV G) = (as.map (gV G)).reverse ++ gV G w0 :: r.map (gV G) := by rw [List.map_append, List.map_reverse]; rfl
  obtain ⟨b, hgb, hcell⟩ := hrc H locs hW hS
  have cw := cwV (R := R) (mc := s'.2.1 - s.2.1) (ms := s'.2.2 - s.2.2) (rm := am_rm x (s'.2.1 - s.2.1) (s'.2.2 - s.2.2)) (C := x.1.1.cls) (y := x.1.1) as.length hts (am_good (ws := wsV (am_on o) z x.1.1.cls x.1.1 (am_wsm x)) (by
    intro w hw2
    unfold wsV at hw2
    rcases List.mem_append.mp hw2 with h1 | h1
    · rcases List.mem_cons.mp h1 with rfl | h1
      · exact hw
      · rcases List.mem_cons.mp h1 with rfl | h1
        · exact hmc.2.2.1 (by rw [hkd]; decide)
        · rcases List.mem_cons.mp h1 with rfl | h1
          · exact hmc.2.2.2.1 hkd
          · rcases List.mem_cons.mp h1 with rfl | h1
            · exact hmc.1
            · cases h1
    · exact am_wsm_in he w h1)) rfl rfl rfl ⟨rfl, hmc.2.2.2.2.2.1.1, hmc.2.2.2.2.2.1.2, by rw [hmc.2.2.2.2.2.2.1, hkd, ← hna]; rfl⟩ hfr
  have hpre := am_pre (as := w0 :: as) hK hOld hW hS hzz
  rw [show (w0 :: as).map (gV G) = Value.ref b :: as.map (gV G) by rw [List.map_cons, hgb]] at hpre
  have hrun := va_runV (S := (⟨hx, hb, hml, hown, hts⟩ : CallFix p m c cc nL s0 args am_Ts (am_on o))) (hM.2.2 x he) cw (b := b) (As := as.map (gV G)) ⟨am_blind G (w0 :: as) s, hcell, hpre⟩ (g := F0 m pc lz ((as.reverse ++ w0 :: r).map (gV G))) (rest := r.map (gV G)) rfl (by rw [List.length_map]) hl.2.1 (by show (as.reverse ++ w0 :: r).map (gV G) = _; rw [hst, hgb]) (lv_room (m := m) (pc := pc) (rest := []) (ls := lz) hcs) hd hroom (locs := locs) (below := below) (e := e) (meth := meth)
  exact am_back hrun hS kk
theorem ao_cI {z cN : Nat} {x : am_Me} {as : List am_V} {rv : Option am_V} {s' : am_S} (X : am_Cx G p R s0 m args meth c cc nL o init sF n0 l0) {a : Nat} (hd : decode cc pc = .ok (.invokespecial z, 3)) (he : am_mt[cN]? = some x) (hkd : x.2.2.2.1 = 2) (hw : Jvm.Cond.methodLink (am_on o) z x.1.1 ∈ am_Ts) (hfr : x.2.2.2.2.1 + 1 ≤ R.frames ∧ 8 + (x.1.2.2.1 + 11) + x.2.2.2.2.2.1 ≤ R.locals) (hcat : am_cat r ≤ 8) (hna : as.length + 1 = x.2.2.1) (hM : am_Mt G l cN (am_R (some a) :: as) s rv s') (h : am_Go G p l e R s0 m args below meth c Q nL sF n0 l0 (pc + 3, ls, rv.toList ++ r, s')) : am_Go G p l e R s0 m args below meth c Q nL sF n0 l0 (pc, ls, as.reverse ++ am_R (some a) :: r, s) := by
  obtain ⟨hx, hb, hml, hown, hts, hK, hOld, hRc, hRs, hsz, hin, hf⟩ := X
  refine ⟨Nat.le_trans hM.1 h.1, Nat.le_trans hM.2.1 h.2.1, fun hn hs H locs lz hW hS hl => ?_⟩
  have q1 : s.2.1 ≤ s'.2.1 := hM.1
  have q2 : s.2.2 ≤ s'.2.2 := hM.2.1
  have q3 : s'.2.1 ≤ sF.2.1 := h.1
  have q4 : s'.2.2 ≤ sF.2.2 := h.2.1
  have hn' : n0 ≤ s.2.1 := hn
  have hs' : l0 ≤ s.2.2 := hs
  have hcs : ((r.map (gV G)).map fun v => v.category).sum ≤ 8 := by rw [am_cat_sum (gN G) (gO G) (gO_cat hf)]; exact hcat
  have hmc := am_mcs (am_mt_of he).1
  have hroom : s.2.1 - n0 + (s'.2.1 - s.2.1) ≤ R.cells ∧ s.2.2 - l0 + (s'.2.2 - s.2.2) ≤ R.slots := by
    rw [hRc, hRs]
    omega
  refine am_szW (fun hz => ?_)
  have hz : H.size ≤ s0.heap.size + (s.2.1 - n0) := hz
  have hzz : H.size ≤ gN G + s.2.1 := by omega
  have kk : ∀ (H1 : Heap) (locs1 : List Loc), am_Wd G s' H1 → va_S (gU G) s0.heap H1 locs1 → W p l e R s0 m args below meth c H1 locs1 (s.2.1 - n0 + (s'.2.1 - s.2.1)) (s.2.2 - l0 + (s'.2.2 - s.2.2)) Q (F0 m (pc + 3) lz ((rv.map (gV G)).toList ++ r.map (gV G))) := by
    intro H1 locs1 hW1 hS1
    have k := h.2.2 (Nat.le_trans hn' q1) (Nat.le_trans hs' q2) H1 locs1 lz hW1 hS1 hl
    have e3 : (rv.toList ++ r).map (gV G) = (rv.map (gV G)).toList ++ r.map (gV G) := by cases rv <;> rfl
    have k : W p l e R s0 m args below meth c H1 locs1 (s'.2.1 - n0) (s'.2.2 - l0) Q (F0 m (pc + 3) lz ((rv.toList ++ r).map (gV G))) := k
    rw [e3] at k
    exact W.cs (by omega) (by omega) k
  have hini := hmc.2.2.2.2.2.2.2.2 hkd
  have hcode : am_wsm x = Jvm.Cond.code x.1.1 x.1.2.1 x.1.2.2.1 none :: am_Ts := by unfold am_wsm; rw [hini.2]
  have cw := cwI (R := R) (mc := s'.2.1 - s.2.1) (ms := s'.2.2 - s.2.2) (rm := am_rm x (s'.2.1 - s.2.1) (s'.2.2 - s.2.2)) (own := am_on o) (index := z) (y := x.1.1) as.length hts (am_good (am_wsm_in he)) hcode rfl rfl (hts _ hmc.1) (hts _ hw) (hts _ (hmc.2.2.1 (by rw [hkd]; decide))) hini.1 ⟨hmc.2.2.2.2.2.1.1, hmc.2.2.2.2.2.1.2, by rw [hmc.2.2.2.2.2.2.1, hkd, ← hna]; rfl⟩ hfr
  have hpre := am_pre (as := am_R (some a) :: as) hK hOld hW hS hzz
  have hrun := va_runI (S := (⟨hx, hb, hml, hown, hts⟩ : CallFix p m c cc nL s0 args am_Ts (am_on o))) (hM.2.2 x he) cw (b := gN G + a) (As := as.map (gV G)) ⟨am_blind G (am_R (some a) :: as) s, hpre⟩ (g := F0 m pc lz ((as.reverse ++ am_R (some a) :: r).map (gV G))) (rest := r.map (gV G)) rfl (by rw [List.length_map]) hl.2.1 (by show (as.reverse ++ am_R (some a) :: r).map (gV G) = _; rw [List.map_append, List.map_reverse]; rfl) (lv_room (m := m) (pc := pc) (rest := []) (ls := lz) hcs) hd hroom (locs := locs) (below := below) (e := e) (meth := meth)
  exact am_back hrun hS kk
theorem am_spl_to {O : Type} {k : List am_V → List am_V → Option O} {out : O} : ∀ (n : Nat) (st acc : List am_V), am_spl n st acc k = some out → ∃ as rest, as.length = n ∧ st = as.reverse ++ rest ∧ k (as ++ acc) rest = some out
  | 0, st, acc, h => ⟨[], st, rfl, rfl, h⟩
  | n + 1, v :: st, acc, h => by
    obtain ⟨as, rest, h1, h2, h3⟩ := am_spl_to n st (v :: acc) h
    exact ⟨as ++ [v], rest, by simp [h1], by simp [h2], by simpa using h3⟩
  | n + 1, [], acc, h => by simp [am_spl] at h
end AmCall
