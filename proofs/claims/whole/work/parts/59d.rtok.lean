/-! THE OTHER LOOKS AT THE TAPE -/
def sBy (x : Int) : Int := if x < 128 then x else x - 256
theorem sBy_bm {x : Int} (h0 : 0 ≤ x) (h1 : x ≤ 255) : x.bmod 256 = sBy x := by
  have := all_lt (p := fun n : Nat => decide ((n : Int).bmod 256 = sBy (n : Int))) (n := 256) (by decide +kernel) (r := x.toNat) (by omega)
  have h := of_decide_eq_true this
  rw [Int.toNat_of_nonneg h0] at h
  exact h
theorem sBy_and {x : Int} (h0 : 0 ≤ x) (h1 : x ≤ 255) : ii (sBy x) &&& ii 255 = ii x := by
  have := all_lt (p := fun n : Nat => decide (ii (sBy (n : Int)) &&& ii 255 = ii (n : Int))) (n := 256) (by decide +kernel) (r := x.toNat) (by omega)
  have h := of_decide_eq_true this
  rw [Int.toNat_of_nonneg h0] at h
  exact h
theorem sBy_r {x : Int} (h0 : 0 ≤ x) (h1 : x ≤ 255) : (-128 ≤ sBy x ∧ sBy x ≤ 127) ∧ ((x < 128 ∧ sBy x = x) ∨ (128 ≤ x ∧ sBy x = x - 256)) := by
  unfold sBy
  split <;> omega
/-- the packed letters -/
def pkv (b : Nat → Int) (p : Nat) : Nat → Int
  | 0 => 0
  | k + 1 => if k < 8 then pkv b p k * 256 + b (p + k) else pkv b p k
theorem pkv_s (b : Nat → Int) (p k : Nat) : pkv b p (k + 1) = if k < 8 then pkv b p k * 256 + b (p + k) else pkv b p k := rfl
theorem pkv_r {b : Nat → Int} {p : Nat} : ∀ {k : Nat}, (∀ i, i < k → 1 ≤ b (p + i) ∧ b (p + i) ≤ 127) → 0 ≤ pkv b p k ∧ pkv b p k < 9223372036854775808 ∧ (k ≤ 0 → pkv b p k ≤ 0) ∧ (k ≤ 1 → pkv b p k < 128) ∧ (k ≤ 2 → pkv b p k < 32768) ∧ (k ≤ 3 → pkv b p k < 8388608) ∧ (k ≤ 4 → pkv b p k < 2147483648) ∧ (k ≤ 5 → pkv b p k < 549755813888) ∧ (k ≤ 6 → pkv b p k < 140737488355328) ∧ (k ≤ 7 → pkv b p k < 36028797018963968)
  | 0, _ => by
    show 0 ≤ (0 : Int) ∧ _
    have e : pkv b p 0 = 0 := rfl
    rw [e]
    omega
  | k + 1, h => by
    have ih := pkv_r (k := k) (fun i hi => h i (by omega))
    have hd := h k (by omega)
    rw [pkv_s]
    by_cases z : k < 8
    · rw [if_pos z]
      omega
    · rw [if_neg z]
      omega
theorem pkv_u {b c : Nat → Int} {p q : Nat} : ∀ {n m : Nat}, n ≤ 8 → m ≤ 8 → (∀ i, i < n → 1 ≤ b (p + i) ∧ b (p + i) ≤ 127) → (∀ i, i < m → 1 ≤ c (q + i) ∧ c (q + i) ≤ 127) → pkv b p n = pkv c q m → n = m ∧ ∀ i, i < n → b (p + i) = c (q + i)
  | 0, 0, _, _, _, _, _ => ⟨rfl, fun i hi => absurd hi (Nat.not_lt_zero i)⟩
  | 0, m + 1, _, hm, _, h2, e => by
    have r := (pkv_r (b := c) (p := q) (k := m) (fun i hi => h2 i (by omega))).1
    have hd := h2 m (by omega)
    rw [pkv_s, if_pos (by omega), show pkv b p 0 = 0 from rfl] at e
    omega
  | n + 1, 0, hn, _, h1, _, e => by
    have r := (pkv_r (b := b) (p := p) (k := n) (fun i hi => h1 i (by omega))).1
    have hd := h1 n (by omega)
    rw [pkv_s, if_pos (by omega), show pkv c q 0 = 0 from rfl] at e
    omega
  | n + 1, m + 1, hn, hm, h1, h2, e => by
    have hd := h1 n (by omega)
    have hd2 := h2 m (by omega)
    rw [pkv_s, pkv_s, if_pos (by omega), if_pos (by omega)] at e
    obtain ⟨i1, i2⟩ := pkv_u (n := n) (m := m) (by omega) (by omega) (fun i hi => h1 i (by omega)) (fun i hi => h2 i (by omega)) (by omega)
    subst i1
    refine ⟨rfl, fun i hi => ?_⟩
    by_cases z : i = n
    · rw [z]; omega
    · exact i2 i (by omega)
theorem pkv_c {b c : Nat → Int} {p q : Nat} : ∀ {n : Nat}, (∀ i, i < n → b (p + i) = c (q + i)) → pkv b p n = pkv c q n
  | 0, _ => rfl
  | n + 1, h => by rw [pkv_s, pkv_s, pkv_c (n := n) (fun i hi => h i (by omega)), h n (by omega)]
def Wc (k : Nat) : Int := pkv wlI (wof k) (wln k)
theorem Wc_r {k : Nat} (hk : k < 18) : 0 ≤ Wc k ∧ Wc k < 9223372036854775808 ∧ ∀ i, i < wln k → 1 ≤ wlI (wof k + i) ∧ wlI (wof k + i) ≤ 127 := by
  have := all_lt (p := fun k : Nat => decide (0 ≤ Wc k ∧ Wc k < 9223372036854775808) && (List.range (wln k)).all fun j => decide (1 ≤ wlI (wof k + j) ∧ wlI (wof k + j) ≤ 127)) (n := 18) (by decide +kernel) (r := k) hk
  rw [Bool.and_eq_true] at this
  have h1 := of_decide_eq_true this.1
  exact ⟨h1.1, h1.2, fun j hj => of_decide_eq_true (all_lt this.2 hj)⟩
theorem Wc_v : Wc 6 = 500135192948 ∧ Wc 7 = 122485595530085 ∧ Wc 8 = 495873779557 ∧ Wc 9 = 1667329381 ∧ Wc 10 = 461414299502 ∧ Wc 11 = 418447847015 ∧ Wc 12 = 1818848101 ∧ Wc 13 = 1852137842 ∧ Wc 14 = 131294808271214 ∧ Wc 15 = 6385252 ∧ Wc 16 = 28530 ∧ Wc 17 = 7237492 := by decide +kernel
theorem Wc_m {m : Nat} (hm : m < 6) : Wc m = 28001 + (m : Int) := by
  have := all_lt (p := fun k : Nat => decide (Wc k = 28001 + (k : Int))) (n := 6) (by decide +kernel) (r := m) hm
  exact of_decide_eq_true this
theorem alp_r {x : Int} (h : alp x = true) : 97 ≤ x ∧ x ≤ 122 := of_decide_eq_true h
theorem dig_r {x : Int} (h : dig x = true) : 48 ≤ x ∧ x ≤ 57 := of_decide_eq_true h
theorem aln_r {x : Int} (h : aln x = true) : 48 ≤ x ∧ x ≤ 122 := by
  unfold aln at h
  rw [Bool.or_eq_true] at h
  rcases h with h | h
  · have := alp_r h
    omega
  · have := dig_r h
    omega
/-- which word stands there -/
theorem tK_pk {b : Nat → Int} {L T j k : Nat} (hT : TT b L T) (hk : k < 18) (ha : alp (b (tS b j)) = true) : (rn b aln (400 - tS b j) (tS b j) - tS b j < 8 ∧ pkv b (tS b j) (rn b aln (400 - tS b j) (tS b j) - tS b j) = Wc k) ↔ tK b j = k := by
  have hr := (tS_r hT.1 j).1
  have h1 := TP_rn hT.1 aln_n (p := tS b j) hr
  have hne : b (tS b j) ≠ -1 := fun y => by rw [y] at ha; cases ha
  have eK : tK b j = wco b (tS b j) (rn b aln (400 - tS b j) (tS b j) - tS b j) := by
    unfold tK tkK
    rw [if_neg hne, if_pos ha]
  rw [eK, wco_c hk, wm_t]
  generalize hS : tS b j = S at *
  generalize hn : rn b aln (400 - S) S = e at *
  have hw := wln_2 hk
  have hc := Wc_r hk
  constructor
  · rintro ⟨h2, h3⟩
    obtain ⟨i1, i2⟩ := pkv_u (b := b) (c := wlI) (p := S) (q := wof k) (n := e - S) (m := wln k) (by omega) (by omega) (fun i hi => by
      have := aln_r (h1.2.1 (S + i) (by omega) (by omega))
      omega) hc.2.2 h3
    exact ⟨i1, fun i hi => i2 i (by omega)⟩
  · rintro ⟨h2, h3⟩
    rw [h2]
    exact ⟨by omega, pkv_c (fun i hi => h3 i hi)⟩
theorem jj_shl8 {x c : Int} (hx : 0 ≤ x) (hc0 : 0 ≤ c) (hc : c ≤ 127) : (jj x <<< ((8 : Int32).toInt64 &&& 63)) ||| (ii c).toInt64 = jj (x * 256 + c) := by
  have e8 : ((8 : Int32).toInt64 &&& 63) = jj 8 := by decide
  have e1 : jj x <<< jj 8 = jj (256 * x) := by
    apply Int64.toBitVec.inj
    rw [Int64.toBitVec_shiftLeft]
    rw [show ((jj 8).toBitVec.smod 64 : BitVec 64) = 8#64 from by decide]
    unfold jj
    rw [Int64.toBitVec_ofInt, Int64.toBitVec_ofInt, BitVec.ofInt_mul]
    rw [show (BitVec.ofInt 64 x <<< 8#64 : BitVec 64) = BitVec.ofInt 64 x <<< 8 from rfl]
    apply BitVec.eq_of_toNat_eq
    rw [BitVec.toNat_shiftLeft, BitVec.toNat_mul, Nat.shiftLeft_eq]
    rw [show (BitVec.ofInt 64 256).toNat = 256 from by decide, Nat.mul_comm]
  rw [e8, e1, ii_jj (by omega) (by omega)]
  obtain ⟨n, rfl⟩ := Int.eq_ofNat_of_zero_le hx
  obtain ⟨m, rfl⟩ := Int.eq_ofNat_of_zero_le hc0
  have h := jj_or (256 * n) m
  have h2 : 256 * n ||| m = 256 * n + m := by
    have := Nat.two_pow_add_eq_or_of_lt (i := 8) (b := m) (by omega) n
    simpa using this.symm
  rw [h2] at h
  have e3 : ((256 * n : Nat) : Int) = 256 * (n : Int) := by omega
  have e4 : ((256 * n + m : Nat) : Int) = (n : Int) * 256 + (m : Int) := by omega
  rw [e3, e4] at h
  exact h
theorem tK_dig {b : Nat → Int} {L T j : Nat} (hT : TT b L T) (h : tK b j = 200) : dig (b (tS b j)) = true := by
  unfold tK tkK at h
  split at h
  · omega
  · split at h
    · have := wco_r b (tS b j) (rn b aln (400 - tS b j) (tS b j) - tS b j)
      omega
    · split at h
      · assumption
      · split at h
        · split at h <;> omega
        · split at h <;> omega
/-- the other's tape -/
def oB (w : wo) (b : Nat → Int) (L : Nat) : Prop := wI w 47 5 = L ∧ ∀ p : Nat, p < L → wA w 50 p = sBy (b p)
def oQ (w : wo) (b : Nat → Int) (L j : Nat) : Prop := oB w b L ∧ wI w 47 14 = tS b j
def oP (w : wo) (b : Nat → Int) (L j : Nat) : Prop := oB w b L ∧ ∃ n : Nat, wI w 47 14 = n ∧ n ≤ L ∧ sk b n = tS b j
theorem oB_fr {w u : wo} {b : Nat → Int} {L : Nat} {l : List Nat} (h : oB w b L) (f : fr l w u) (q : (fhas l 4705 || fhas l 5099) = false) : oB u b L := by
  rw [Bool.or_eq_false_iff] at q
  exact ⟨by rw [fr_I f q.1]; exact h.1, by rw [fr_A f q.2]; exact h.2⟩
section L59d
variable {sc : am_X} {w : wo} {b : Nat → Int} {L T : Nat}
theorem oP_of (hT : TT b L T) {j : Nat} (h : oQ w b L j) : oP w b L j := by
  have hr := tS_r hT.1 j
  exact ⟨h.1, tS b j, h.2, hr.1, rn_f hr.2 _⟩
theorem d76a {n l : Int} (h5 : wI w 47 5 = l) (hn : wI w 47 14 = n) (h0 : 0 ≤ n) (h1 : n < l) (hl : l ≤ 400) (e : wA w 50 n = 32) : am_W sc 76 (0, [some (am_R (some 47))], [], wst w) = am_W sc 76 (0, [some (am_R (some 47))], [], wst (uI w 47 14 (n + 1))) := by
  rw [wq_76_0, gI_47_14, qB_s, gI_47_5, qB_s, hn, h5, qI_t (by rw [ii_lt] <;> omega), gR_47_4, qB_s, qB_s, qB_s, e_50 w (by omega) (by omega), qB_s, e, li_32, qI_t rfl, qB_s, li_1, ii_add, pI_47_14, qB_s]
theorem d76b {n l x y : Int} (h5 : wI w 47 5 = l) (hn : wI w 47 14 = n) (h0 : 0 ≤ n) (h1 : n < l) (hl : l ≤ 400) (e : wA w 50 n = x) (hx : -128 ≤ x ∧ x ≤ 127 ∧ x ≠ 32) (ea : ii x &&& ii 255 = ii y) : am_W sc 76 (0, [some (am_R (some 47))], [], wst w) = some (some (am_I (ii y)), wst w) := by
  rw [wq_76_0, gI_47_14, qB_s, gI_47_5, qB_s, hn, h5, qI_t (by rw [ii_lt] <;> omega), gR_47_4, qB_s, qB_s, qB_s, e_50 w (by omega) (by omega), qB_s, e, li_32, qI_f (by rw [ii_eq] <;> omega), qB_s, qB_s, qI_t (by rw [ii_lt] <;> omega), qB_s, qB_s, qB_s, e_50 w (by omega) (by omega), qB_s, e, li_255, ea]
theorem d76c {n l : Int} (h5 : wI w 47 5 = l) (hn : wI w 47 14 = n) (h0 : 0 ≤ n) (h1 : l ≤ n) (hl : n ≤ 400) (hl0 : 0 ≤ l) : am_W sc 76 (0, [some (am_R (some 47))], [], wst w) = some (some (am_I (ii (-1))), wst w) := by
  rw [wq_76_0, gI_47_14, qB_s, gI_47_5, qB_s, hn, h5, qI_f (by rw [ii_lt] <;> omega), qB_s, qB_s, qI_f (by rw [ii_lt] <;> omega)]
  rfl
theorem d76l (hT : TT b L T) : ∀ (d n : Nat) (w : wo), n + d = 400 → oB w b L → wI w 47 14 = n → ∃ u, am_W sc 76 (0, [some (am_R (some 47))], [], wst w) = some (some (am_I (ii (b (rn b spc d n)))), wst u) ∧ fr [4714] w u ∧ wI u 47 14 = rn b spc d n
  | 0, n, w, hd, hB, hn => by
    have hL := hT.1.1
    have h5 := hB.1
    have hn4 : n = 400 := by omega
    subst hn4
    rw [show rn b spc 0 400 = 400 from rfl, hT.1.2.2 400 hL]
    exact ⟨w, d76c h5 hn (by omega) (by omega) (by omega) (by omega), fr_r _ _, hn⟩
  | d + 1, n, w, hd, hB, hn => by
    have hL := hT.1.1
    have h5 := hB.1
    by_cases z : n < L
    · have hb := hT.1.2.1 n z
      have e := hB.2 n z
      have hr := sBy_r hb.1 hb.2
      have ea := sBy_and hb.1 hb.2
      cases y : spc (b n) with
      | true =>
        have y' : b n = 32 := of_decide_eq_true y
        have e32 : sBy (b n) = 32 := by omega
        rw [rn_t y]
        have f1 : fr [4714] w (uI w 47 14 (n + 1)) := fr_uI (fr_r _ _) rfl
        obtain ⟨u, k1, k2, k3⟩ := d76l hT d (n + 1) (uI w 47 14 (n + 1)) (by omega) (oB_fr hB f1 rfl) (by rw [rI, nat_1])
        exact ⟨u, (d76a h5 hn (by omega) (by omega) (by omega) (e.trans e32)).trans k1, fr_t f1 k2, k3⟩
      | false =>
        have y' : b n ≠ 32 := of_decide_eq_false y
        rw [rn_f y]
        exact ⟨w, d76b h5 hn (by omega) (by omega) (by omega) e (by omega) ea, fr_r _ _, hn⟩
    · rw [rn_f (show spc (b n) = false by rw [hT.1.2.2 n (by omega)]; rfl), hT.1.2.2 n (by omega)]
      exact ⟨w, d76c h5 hn (by omega) (by omega) (by omega) (by omega), fr_r _ _, hn⟩
theorem d76 (hT : TT b L T) {j : Nat} (h : oP w b L j) : ∃ u, am_F sc 76 [am_R (some 47)] (wst w) = some (some (am_I (ii (b (tS b j)))), wst u) ∧ fr [4714] w u ∧ oQ u b L j := by
  obtain ⟨h1, n, h2, h3, h4⟩ := h
  have hL := hT.1.1
  obtain ⟨u, k1, k2, k3⟩ := d76l (sc := sc) hT (400 - n) n w (by omega) h1 h2
  have e : rn b spc (400 - n) n = tS b j := h4
  rw [e] at k1 k3
  refine ⟨u, ?_, k2, oB_fr h1 k2 rfl, k3⟩
  rw [fq_76, ← wq_76_0]
  exact k1
theorem d77 (hT : TT b L T) (hB : oB w b L) {p : Nat} (hp : p ≤ 10000) : am_F sc 77 [am_R (some 47), am_I (ii p)] (wst w) = some (some (am_I (ii (bz (alp (b p) = true)))), wst w) := by
  have hL := hT.1.1
  have h5 := hB.1
  rw [fq_77]
  by_cases z : p < L
  · have hb := hT.1.2.1 p z
    have e := hB.2 p z
    have hr := sBy_r hb.1 hb.2
    by_cases y : 97 ≤ b p ∧ b p ≤ 122
    · rw [bz_t (show alp (b p) = true from decide_eq_true y)]
      simp (disch := omega) only [qB_s, qC_t, qC_f, qI_T, qI_F, qI_t, qI_f, r_I, r_L, r_R, r_V, ii_add, ii_sub, ii_mul, ii_neg, bz_0, bz_1, Bool.true_and, Bool.false_and, Bool.and_true, z00, z11, li_0, li_1, li_122, li_97, e_50, gI_47_5, gR_47_4, ii_lt, h5, e]
    · rw [bz_f (show ¬ alp (b p) = true from fun x => y (alp_r x))]
      by_cases y2 : sBy (b p) < 97
      · simp (disch := omega) only [qB_s, qC_t, qC_f, qI_T, qI_F, qI_t, qI_f, r_I, r_L, r_R, r_V, ii_add, ii_sub, ii_mul, ii_neg, bz_0, bz_1, Bool.true_and, Bool.false_and, Bool.and_true, z00, z11, li_0, li_1, li_122, li_97, e_50, gI_47_5, gR_47_4, ii_lt, h5, e]
      · simp (disch := omega) only [qB_s, qC_t, qC_f, qI_T, qI_F, qI_t, qI_f, r_I, r_L, r_R, r_V, ii_add, ii_sub, ii_mul, ii_neg, bz_0, bz_1, Bool.true_and, Bool.false_and, Bool.and_true, z00, z11, li_0, li_1, li_122, li_97, e_50, gI_47_5, gR_47_4, ii_lt, h5, e]
  · rw [hT.1.2.2 p (by omega), bz_f (show ¬ alp (-1) = true by decide)]
    simp (disch := omega) only [qB_s, qC_t, qC_f, qI_T, qI_F, qI_t, qI_f, r_I, r_L, r_R, r_V, ii_add, ii_sub, ii_mul, ii_neg, bz_0, bz_1, Bool.true_and, Bool.false_and, Bool.and_true, z00, z11, li_0, li_1, li_122, li_97, e_50, gI_47_5, gR_47_4, ii_lt, h5]
theorem d78 (hT : TT b L T) (hB : oB w b L) {p : Nat} (hp : p ≤ 10000) : am_F sc 78 [am_R (some 47), am_I (ii p)] (wst w) = some (some (am_I (ii (bz (dig (b p) = true)))), wst w) := by
  have hL := hT.1.1
  have h5 := hB.1
  rw [fq_78]
  by_cases z : p < L
  · have hb := hT.1.2.1 p z
    have e := hB.2 p z
    have hr := sBy_r hb.1 hb.2
    by_cases y : 48 ≤ b p ∧ b p ≤ 57
    · rw [bz_t (show dig (b p) = true from decide_eq_true y)]
      simp (disch := omega) only [qB_s, qC_t, qC_f, qI_T, qI_F, qI_t, qI_f, r_I, r_L, r_R, r_V, ii_add, ii_sub, ii_mul, ii_neg, bz_0, bz_1, Bool.true_and, Bool.false_and, Bool.and_true, z00, z11, li_0, li_1, li_48, li_57, e_50, gI_47_5, gR_47_4, ii_lt, h5, e]
    · rw [bz_f (show ¬ dig (b p) = true from fun x => y (dig_r x))]
      by_cases y2 : sBy (b p) < 48
      · simp (disch := omega) only [qB_s, qC_t, qC_f, qI_T, qI_F, qI_t, qI_f, r_I, r_L, r_R, r_V, ii_add, ii_sub, ii_mul, ii_neg, bz_0, bz_1, Bool.true_and, Bool.false_and, Bool.and_true, z00, z11, li_0, li_1, li_48, li_57, e_50, gI_47_5, gR_47_4, ii_lt, h5, e]
      · simp (disch := omega) only [qB_s, qC_t, qC_f, qI_T, qI_F, qI_t, qI_f, r_I, r_L, r_R, r_V, ii_add, ii_sub, ii_mul, ii_neg, bz_0, bz_1, Bool.true_and, Bool.false_and, Bool.and_true, z00, z11, li_0, li_1, li_48, li_57, e_50, gI_47_5, gR_47_4, ii_lt, h5, e]
  · rw [hT.1.2.2 p (by omega), bz_f (show ¬ dig (-1) = true by decide)]
    simp (disch := omega) only [qB_s, qC_t, qC_f, qI_T, qI_F, qI_t, qI_f, r_I, r_L, r_R, r_V, ii_add, ii_sub, ii_mul, ii_neg, bz_0, bz_1, Bool.true_and, Bool.false_and, Bool.and_true, z00, z11, li_0, li_1, li_48, li_57, e_50, gI_47_5, gR_47_4, ii_lt, h5]
/-- the letters are packed -/
theorem d79l (hT : TT b L T) (hB : oB w b L) {S : Nat} (hS : wI w 47 14 = S) (hSL : S ≤ L) {W : Int} : ∀ (d i : Nat), S + i + d = rn b aln (400 - S) S → am_W sc 79 (23, [some (am_R (some 47)), some (am_L (jj W)), none, some (am_L (jj (pkv b S i))), none, some (am_I (ii i))], [], wst w) = am_W sc 79 (23, [some (am_R (some 47)), some (am_L (jj W)), none, some (am_L (jj (pkv b S (i + d)))), none, some (am_I (ii ((i + d : Nat) : Int)))], [], wst w)
  | 0, i, hd => rfl
  | d + 1, i, hd => by
    have hL := hT.1.1
    have h1 := TP_rn hT.1 aln_n (p := S) hSL
    have ha := h1.2.1 (S + i) (by omega) (by omega)
    have hlt := TP_lt hT.1 (p := S + i) (fun y => by rw [y] at ha; cases ha)
    have hb := hT.1.2.1 _ hlt
    have hr := aln_r ha
    have e50 := hB.2 (S + i) hlt
    have es := sBy_r hb.1 hb.2
    have es2 : sBy (b (S + i)) = b (S + i) := by omega
    rw [es2, Int.natCast_add] at e50
    have h77 := d77 (sc := sc) hT hB (p := S + i) (by omega)
    have h78 := d78 (sc := sc) hT hB (p := S + i) (by omega)
    rw [Int.natCast_add] at h77 h78
    have hpk := pkv_r (b := b) (p := S) (k := i) (fun k hk => by
      have := aln_r (h1.2.1 (S + k) (by omega) (by omega))
      omega)
    have hsh := jj_shl8 hpk.1 (c := b (S + i)) (by omega) (by omega)
    have ih := d79l hT hB hS hSL (W := W) d (i + 1) (by omega)
    rw [show i + 1 + d = i + (d + 1) by omega, nat_1, pkv_s] at ih
    rw [← ih, wq_79_23, gI_47_14, qB_s, is_47, qC_t, hS, ii_add, h77, r_I, qB_s]
    cases y1 : alp (b (S + i)) with
    | true =>
      rw [bz_tt, qI_f (show ¬ (ii 1 = (0 : Int32)) by decide)]
      by_cases y2 : i < 8
      · rw [if_pos y2, qI_t (show ii (i : Int) < (8 : Int32) by rw [li_8, ii_lt] <;> omega), gR_47_4, qB_s, gI_47_14, qB_s, qB_s, hS, ii_add, e_50 w (by omega) (by omega), qB_s, e50, hsh, li_1, ii_add]
      · rw [if_neg y2, qI_f (show ¬ ii (i : Int) < (8 : Int32) by rw [li_8, ii_lt] <;> omega), li_1, ii_add]
    | false =>
      have y3 : dig (b (S + i)) = true := by
        unfold aln at ha
        rw [y1, Bool.false_or] at ha
        exact ha
      rw [y3, bz_tt] at h78
      rw [bz_ff, qI_t (show ii 0 = (0 : Int32) by decide), gI_47_14, qB_s, is_47, qC_t, hS, ii_add, h78, r_I, qB_s, qI_f (show ¬ (ii 1 = (0 : Int32)) by decide)]
      by_cases y2 : i < 8
      · rw [if_pos y2, qI_t (show ii (i : Int) < (8 : Int32) by rw [li_8, ii_lt] <;> omega), gR_47_4, qB_s, gI_47_14, qB_s, qB_s, hS, ii_add, e_50 w (by omega) (by omega), qB_s, e50, hsh, li_1, ii_add]
      · rw [if_neg y2, qI_f (show ¬ ii (i : Int) < (8 : Int32) by rw [li_8, ii_lt] <;> omega), li_1, ii_add]
theorem d79 (hT : TT b L T) {j : Nat} (h : oP w b L j) {k : Nat} (hk : k < 18) : ∃ u, am_F sc 79 [am_R (some 47), am_L (jj (Wc k))] (wst w) = some (some (am_I (ii (bz (tK b j = k)))), wst u) ∧ fr [4714] w u ∧ oQ u b L j := by
  have hL := hT.1.1
  obtain ⟨u, k1, k2, k3⟩ := d76 (sc := sc) hT h
  have k3' := k3
  obtain ⟨hB, hS⟩ := k3
  have hr := (tS_r hT.1 j).1
  have h77 := d77 (sc := sc) hT hB (p := tS b j) (by omega)
  refine ⟨u, ?_, k2, k3'⟩
  cases y1 : alp (b (tS b j)) with
  | false =>
    rw [y1, bz_ff] at h77
    rw [bz_f (show ¬ tK b j = k from fun y => by
      have := (tK_w hT hk y).1
      rw [y1] at this
      cases this)]
    rw [fq_79, is_47, qC_t, k1, r_I, qB_s, gI_47_14, qB_s, is_47, qC_t, hS, h77, r_I, qB_s, qI_t (show ii 0 = (0 : Int32) by decide)]
    rfl
  | true =>
    rw [y1, bz_tt] at h77
    have h1 := TP_rn hT.1 aln_n (p := tS b j) hr
    have e := d79l (sc := sc) hT hB hS hr (W := Wc k) (rn b aln (400 - tS b j) (tS b j) - tS b j) 0 (by omega)
    rw [Nat.zero_add] at e
    have e' : am_W sc 79 (23, [some (am_R (some 47)), some (am_L (jj (Wc k))), none, some (am_L (0 : Int64)), none, some (am_I (0 : Int32))], [], wst u) = _ := e
    have hpk := tK_pk hT (j := j) hk y1
    have hc := Wc_r hk
    have hp0 := pkv_r (b := b) (p := tS b j) (k := rn b aln (400 - tS b j) (tS b j) - tS b j) (fun i hi => by
      have := aln_r (h1.2.1 (tS b j + i) (by omega) (by omega))
      omega)
    rw [fq_79, is_47, qC_t, k1, r_I, qB_s, gI_47_14, qB_s, is_47, qC_t, hS, h77, r_I, qB_s, qI_f (show ¬ (ii 1 = (0 : Int32)) by decide), e']
    generalize hn : rn b aln (400 - tS b j) (tS b j) - tS b j = n at *
    have en : tS b j + n = rn b aln (400 - tS b j) (tS b j) := by omega
    have hend := h1.2.2.1
    rw [← en] at hend
    have h77b := d77 (sc := sc) hT hB (p := tS b j + n) (by omega)
    have h78b := d78 (sc := sc) hT hB (p := tS b j + n) (by omega)
    have z1 : alp (b (tS b j + n)) = false := by
      cases y : alp (b (tS b j + n)) with
      | false => rfl
      | true =>
        unfold aln at hend
        rw [y] at hend
        cases hend
    have z2 : dig (b (tS b j + n)) = false := by
      unfold aln at hend
      rw [z1, Bool.false_or] at hend
      exact hend
    rw [z1, bz_ff, Int.natCast_add] at h77b
    rw [z2, bz_ff, Int.natCast_add] at h78b
    rw [wq_79_23, gI_47_14, qB_s, is_47, qC_t, hS, ii_add, h77b, r_I, qB_s, qI_t (show ii 0 = (0 : Int32) by decide), gI_47_14, qB_s, is_47, qC_t, hS, ii_add, h78b, r_I, qB_s, qI_t (show ii 0 = (0 : Int32) by decide)]
    by_cases y2 : n < 8
    · rw [qI_t (show ii (n : Int) < (8 : Int32) by rw [li_8, ii_lt] <;> omega)]
      by_cases y3 : pkv b (tS b j) n = Wc k
      · rw [bz_t (hpk.mp ⟨y2, y3⟩), qI_t (show lg_cmp (jj (pkv b (tS b j) n)) (jj (Wc k)) = (0 : Int32) by
          rw [li_0, lg_eq (by omega) (by omega) (by omega) (by omega)]
          exact y3)]
        rfl
      · rw [bz_f (fun y => y3 (hpk.mpr y).2), qI_f (show ¬ lg_cmp (jj (pkv b (tS b j) n)) (jj (Wc k)) = (0 : Int32) by
          rw [li_0, lg_eq (by omega) (by omega) (by omega) (by omega)]
          exact y3)]
        rfl
    · rw [qI_f (show ¬ ii (n : Int) < (8 : Int32) by rw [li_8, ii_lt] <;> omega), bz_f (fun y => y2 (hpk.mpr y).1)]
      rfl
theorem d81l (hT : TT b L T) : ∀ (d n : Nat) (w : wo), n + d = 400 → oB w b L → wI w 47 14 = n → ∃ u, am_W sc 81 (0, [some (am_R (some 47))], [], wst w) = some (none, wst u) ∧ fr [4714] w u ∧ wI u 47 14 = rn b aln d n
  | 0, n, w, hd, hB, hn => by
    have hn4 : n = 400 := by omega
    subst hn4
    have hL := hT.1.1
    have e := hT.1.2.2 400 hL
    have h77 := d77 (sc := sc) hT hB (p := 400) (by decide)
    have h78 := d78 (sc := sc) hT hB (p := 400) (by decide)
    rw [e, bz_f (by decide)] at h77 h78
    refine ⟨w, ?_, fr_r _ _, hn⟩
    rw [wq_81_0]
    simp (disch := omega) only [qB_s, qC_t, qC_f, qI_T, qI_F, qI_t, qI_f, r_I, r_L, r_R, r_V, ii_add, ii_sub, ii_mul, ii_neg, bz_0, bz_1, Bool.true_and, Bool.false_and, Bool.and_true, z00, z11, li_0, li_1, gI_47_14, is_47, pI_47_14, ii_eq, hn, h77, h78]
  | d + 1, n, w, hd, hB, hn => by
    have h77 := d77 (sc := sc) hT hB (p := n) (by omega)
    have h78 := d78 (sc := sc) hT hB (p := n) (by omega)
    cases y : aln (b n) with
    | true =>
      rw [rn_t y]
      have f1 : fr [4714] w (uI w 47 14 (n + 1)) := fr_uI (fr_r _ _) rfl
      obtain ⟨u, k1, k2, k3⟩ := d81l hT d (n + 1) (uI w 47 14 (n + 1)) (by omega) (oB_fr hB f1 rfl) (by rw [rI, nat_1])
      refine ⟨u, ?_, fr_t f1 k2, k3⟩
      rw [wq_81_0]
      cases y1 : alp (b n) with
      | true =>
        rw [y1, bz_tt] at h77
        simp (disch := omega) only [qB_s, qC_t, qC_f, qI_T, qI_F, qI_t, qI_f, r_I, r_L, r_R, r_V, ii_add, ii_sub, ii_mul, ii_neg, bz_0, bz_1, Bool.true_and, Bool.false_and, Bool.and_true, z00, z11, li_0, li_1, gI_47_14, is_47, pI_47_14, ii_eq, hn, h77, k1]
      | false =>
        unfold aln at y
        rw [y1, Bool.false_or] at y
        rw [y1, bz_ff] at h77
        rw [y, bz_tt] at h78
        simp (disch := omega) only [qB_s, qC_t, qC_f, qI_T, qI_F, qI_t, qI_f, r_I, r_L, r_R, r_V, ii_add, ii_sub, ii_mul, ii_neg, bz_0, bz_1, Bool.true_and, Bool.false_and, Bool.and_true, z00, z11, li_0, li_1, gI_47_14, is_47, pI_47_14, ii_eq, hn, h77, h78, k1]
    | false =>
      rw [rn_f y]
      unfold aln at y
      rw [Bool.or_eq_false_iff] at y
      rw [y.1, bz_ff] at h77
      rw [y.2, bz_ff] at h78
      refine ⟨w, ?_, fr_r _ _, hn⟩
      rw [wq_81_0]
      simp (disch := omega) only [qB_s, qC_t, qC_f, qI_T, qI_F, qI_t, qI_f, r_I, r_L, r_R, r_V, ii_add, ii_sub, ii_mul, ii_neg, bz_0, bz_1, Bool.true_and, Bool.false_and, Bool.and_true, z00, z11, li_0, li_1, gI_47_14, is_47, pI_47_14, ii_eq, hn, h77, h78]
/-- a word is passed over -/
theorem d81 (hT : TT b L T) {j : Nat} (h : oQ w b L j) {k : Nat} (hk : k < 18) (e : tK b j = k) : ∃ u, am_F sc 81 [am_R (some 47)] (wst w) = some (none, wst u) ∧ fr [4714] w u ∧ oP u b L (j + 1) := by
  have hr := (tS_r hT.1 j).1
  have hL := hT.1.1
  obtain ⟨u, k1, k2, k3⟩ := d81l (sc := sc) hT (400 - tS b j) (tS b j) w (by omega) h.1 h.2
  obtain ⟨a1, a2, a3, a4⟩ := tK_w hT hk e
  have a5 := TP_rn hT.1 aln_n (p := tS b j) hr
  refine ⟨u, ?_, k2, oB_fr h.1 k2 rfl, tkE b (tS b j), ?_, by omega, rfl⟩
  · rw [fq_81, ← wq_81_0]
    exact k1
  · rw [k3, a4, a2]
/-- a sign is passed over -/
theorem oP_1 (hT : TT b L T) {j : Nat} {u : wo} (h : oQ w b L j) {l : List Nat} (f : fr l w u) (q : (fhas l 4705 || fhas l 5099) = false) (hj : tS b j < L) (e : wI u 47 14 = tkE b (tS b j)) : oP u b L (j + 1) := ⟨oB_fr h.1 f q, tkE b (tS b j), e, (tkE_r hT.1 hj).2, rfl⟩
theorem d80 {c x : Int} (h15 : wI w 47 15 = 0) : am_F sc 80 [am_R (some 47), am_I (ii c), am_I (ii x)] (wst w) = some (some (am_I (ii 0)), wst (uI w 47 15 (1 + 8 * x + c))) := by
  rw [fq_80]
  simp (disch := omega) only [qB_s, qC_t, qC_f, qI_T, qI_F, qI_t, qI_f, r_I, r_L, r_R, r_V, ii_add, ii_sub, ii_mul, ii_neg, bz_0, bz_1, Bool.true_and, Bool.false_and, Bool.and_true, z00, z11, li_0, li_1, li_8, gI_47_15, pI_47_15, ii_eq, h15]
/-- a number -/
def oN (w u : wo) (b : Nat → Int) (L j : Nat) (r : Sum Int Int) (x : Int) : Prop := match r with
  | .inl c => x = 0 ∧ wI u 47 15 = c
  | .inr n => x = 1 ∧ wI u 47 16 = n ∧ oP u b L (j + 1) ∧ wI u 47 15 = 0
theorem d83l (hT : TT b L T) {S : Nat} {lo hi : Int} : ∀ (d n : Nat) (w : wo), n + d = 400 → S ≤ n → oB w b L → wI w 47 14 = n → ∃ u, am_W sc 83 (34, [some (am_R (some 47)), some (am_I (ii lo)), some (am_I (ii hi)), some (am_I (ii S)), some (am_I (ii (nv b S (n - S))))], [], wst w) = am_W sc 83 (34, [some (am_R (some 47)), some (am_I (ii lo)), some (am_I (ii hi)), some (am_I (ii S)), some (am_I (ii (nv b S (rn b dig d n - S))))], [], wst u) ∧ fr [4714] w u ∧ wI u 47 14 = rn b dig d n
  | 0, n, w, hd, hS, hB, hn => ⟨w, rfl, fr_r _ _, hn⟩
  | d + 1, n, w, hd, hS, hB, hn => by
    have h78 := d78 (sc := sc) hT hB (p := n) (by omega)
    cases y : dig (b n) with
    | true =>
      rw [y, bz_tt] at h78
      have hr := dig_r y
      have hlt := TP_lt hT.1 (p := n) (by omega)
      have hb := hT.1.2.1 _ hlt
      have es := sBy_r hb.1 hb.2
      have e50 := hB.2 n hlt
      have es2 : sBy (b n) = b n := by omega
      rw [es2] at e50
      rw [rn_t y]
      have f1 : fr [4714] w (uI w 47 14 (n + 1)) := fr_uI (fr_r _ _) rfl
      obtain ⟨u, k1, k2, k3⟩ := d83l hT (S := S) (lo := lo) (hi := hi) d (n + 1) (uI w 47 14 (n + 1)) (by omega) (by omega) (oB_fr hB f1 rfl) (by rw [rI, nat_1])
      refine ⟨u, ?_, fr_t f1 k2, k3⟩
      rw [← k1, show n + 1 - S = (n - S) + 1 by omega, nv_s, show S + (n - S) = n by omega]
      rw [wq_83_34]
      by_cases y2 : n - S < 4
      · rw [if_pos y2, Int.mul_comm (nv b S (n - S)) 10]
        simp (disch := omega) only [qB_s, qC_t, qC_f, qI_T, qI_F, qI_t, qI_f, r_I, r_L, r_R, r_V, ii_add, ii_sub, ii_mul, ii_neg, bz_0, bz_1, Bool.true_and, Bool.false_and, Bool.and_true, z00, z11, li_0, li_1, li_10, li_4, li_48, e_50, gI_47_14, gR_47_4, is_47, pI_47_14, pI_47_16, ii_lt, ii_eq, hn, h78, e50]
      · rw [if_neg y2]
        simp (disch := omega) only [qB_s, qC_t, qC_f, qI_T, qI_F, qI_t, qI_f, r_I, r_L, r_R, r_V, ii_add, ii_sub, ii_mul, ii_neg, bz_0, bz_1, Bool.true_and, Bool.false_and, Bool.and_true, z00, z11, li_0, li_1, li_10, li_4, li_48, e_50, gI_47_14, gR_47_4, is_47, pI_47_14, pI_47_16, ii_lt, ii_eq, hn, h78]
    | false =>
      rw [rn_f y]
      exact ⟨w, rfl, fr_r _ _, hn⟩
theorem d83 (hT : TT b L T) {j : Nat} (h : oP w b L j) (h15 : wI w 47 15 = 0) {lo hi : Int} (hlo : 0 ≤ lo ∧ lo ≤ 10000) (hhi : 0 ≤ hi ∧ hi ≤ 10000) : ∃ (u : wo) (x : Int), am_F sc 83 [am_R (some 47), am_I (ii lo), am_I (ii hi)] (wst w) = some (some (am_I (ii x)), wst u) ∧ fr [4714, 4715, 4716] w u ∧ oN w u b L j (aNum b lo hi j) x := by
  have hL := hT.1.1
  obtain ⟨u1, k1, k2, k3⟩ := d76 (sc := sc) hT h
  obtain ⟨hB, hS⟩ := id k3
  have hr := (tS_r hT.1 j).1
  have h78 := d78 (sc := sc) hT hB (p := tS b j) (by omega)
  have h15' : wI u1 47 15 = 0 := by rw [fr_I k2 rfl]; exact h15
  cases y1 : dig (b (tS b j)) with
  | false =>
    rw [y1, bz_ff] at h78
    have eK : tK b j ≠ 200 := fun y => by
      have := tK_dig hT y
      rw [y1] at this
      cases this
    have e80 := d80 (sc := sc) (w := u1) (c := 0) (x := tS b j) h15'
    refine ⟨uI u1 47 15 (1 + 8 * (tS b j : Int) + 0), 0, ?_, fr_t (fr_m k2 rfl) (fr_uI (fr_r _ _) rfl), ?_⟩
    · rw [fq_83]
      simp (disch := omega) only [qB_s, qC_t, qC_f, qI_T, qI_F, qI_t, qI_f, r_I, r_L, r_R, r_V, ii_add, ii_sub, ii_mul, ii_neg, bz_0, bz_1, Bool.true_and, Bool.false_and, Bool.and_true, z00, z11, li_0, li_1, li_10, li_4, li_48, e_50, gI_47_14, gR_47_4, is_47, pI_47_14, pI_47_16, ii_eq, k1, hS, h78, e80]
    · unfold aNum
      rw [if_neg eK]
      exact ⟨rfl, rI _ _ _ _⟩
  | true =>
    rw [y1, bz_tt] at h78
    have hne : b (tS b j) ≠ -1 := fun y => by rw [y] at y1; cases y1
    have hlt := TP_lt hT.1 hne
    have hd := dig_r y1
    have na : ¬ alp (b (tS b j)) = true := fun y => by have := alp_r y; omega
    have eK : tK b j = 200 := by
      unfold tK tkK
      rw [if_neg hne, if_neg na, if_pos y1]
    have eE : tkE b (tS b j) = rn b dig (400 - tS b j) (tS b j) := by
      unfold tkE
      rw [if_neg hne, if_neg na, if_pos y1]
    have h1 := TP_rn hT.1 dig_n (p := tS b j) hr
    have eV : tVl b j = if 4 < rn b dig (400 - tS b j) (tS b j) - tS b j then -1 else nv b (tS b j) (rn b dig (400 - tS b j) (tS b j) - tS b j) := rfl
    obtain ⟨u2, m1, m2, m3⟩ := d83l (sc := sc) hT (S := tS b j) (lo := lo) (hi := hi) (400 - tS b j) (tS b j) u1 (by omega) (Nat.le_refl _) hB hS
    rw [Nat.sub_self, show nv b (tS b j) 0 = 0 from rfl] at m1
    have hB2 := oB_fr hB m2 rfl
    have h15'' : wI u2 47 15 = 0 := by rw [fr_I m2 rfl]; exact h15'
    have hnv := nv_r (b := b) (p := tS b j) (k := rn b dig (400 - tS b j) (tS b j) - tS b j) (fun i hi => h1.2.1 _ (by omega) (by omega))
    have hend := h1.2.2.1
    have hMP : ∀ v, oP (uI u2 47 16 v) b L (j + 1) := fun v => ⟨oB_fr hB2 (l := [4716]) (fr_uI (fr_r _ _) rfl) rfl, tkE b (tS b j), m3.trans (by rw [eE]), by rw [eE]; exact h1.2.2.2, rfl⟩
    generalize hn : rn b dig (400 - tS b j) (tS b j) = e at *
    have h78b := d78 (sc := sc) hT hB2 (p := e) (by omega)
    rw [hend, bz_ff] at h78b
    have h17 := d17 (sc := sc) (w := uI u2 47 16 (nv b (tS b j) (e - tS b j))) (v := nv b (tS b j) (e - tS b j)) (lo := lo) (hi := hi) (by omega) (by omega) (by omega) (by omega) (by omega) (by omega)
    have j1 : (ii (nv b (tS b j) (e - tS b j))).toInt64 = jj (nv b (tS b j) (e - tS b j)) := ii_jj (by omega) (by omega)
    have j2 : (ii lo).toInt64 = jj lo := ii_jj (by omega) (by omega)
    have j3 : (ii hi).toInt64 = jj hi := ii_jj (by omega) (by omega)
    have n14 : ∀ v, wI (uI u2 47 16 v) 47 14 = e := fun v => m3
    have n15 : ∀ v, wI (uI u2 47 16 v) 47 15 = 0 := fun v => h15''
    have h78c := fun v => d78 (sc := sc) (w := uI u2 47 16 v) hT (oB_fr hB2 (l := [4716]) (fr_uI (fr_r _ _) rfl) rfl) (p := e) (by omega)
    have go : am_F sc 83 [am_R (some 47), am_I (ii lo), am_I (ii hi)] (wst w) = am_W sc 83 (34, [some (am_R (some 47)), some (am_I (ii lo)), some (am_I (ii hi)), some (am_I (ii (tS b j))), some (am_I (ii (nv b (tS b j) (e - tS b j))))], [], wst u2) := by
      rw [← m1, fq_83]
      simp (disch := omega) only [qB_s, qC_t, qC_f, qI_T, qI_F, qI_t, qI_f, r_I, r_L, r_R, r_V, ii_add, ii_sub, ii_mul, ii_neg, bz_0, bz_1, Bool.true_and, Bool.false_and, Bool.and_true, z00, z11, li_0, li_1, li_10, li_4, li_48, e_50, gI_47_14, gR_47_4, is_47, pI_47_14, pI_47_16, ii_eq, k1, hS, h78]
    have f2 : fr [4714, 4715, 4716] w u2 := fr_t (fr_m k2 rfl) (fr_m m2 rfl)
    rw [go]
    unfold aNum
    rw [if_pos eK, eV]
    by_cases y2 : 4 < e - tS b j
    · rw [if_pos y2, if_pos (by omega)]
      have e80 := d80 (sc := sc) (w := uI u2 47 16 (nv b (tS b j) (e - tS b j))) (c := 1) (x := tS b j) (n15 _)
      refine ⟨uI (uI u2 47 16 (nv b (tS b j) (e - tS b j))) 47 15 (1 + 8 * (tS b j : Int) + 1), 0, ?_, fr_t f2 (fr_uI (fr_uI (fr_r _ _) rfl) rfl), rfl, rI _ _ _ _⟩
      rw [wq_83_34]
      simp (disch := omega) only [qB_s, qC_t, qC_f, qI_T, qI_F, qI_t, qI_f, r_I, r_L, r_R, r_V, ii_add, ii_sub, ii_mul, ii_neg, bz_0, bz_1, Bool.true_and, Bool.false_and, Bool.and_true, z00, z11, li_0, li_1, li_10, li_4, li_48, e_50, gI_47_14, gR_47_4, is_47, pI_47_14, pI_47_16, ii_lt, ii_eq, m3, h78b, n14, e80]
    · rw [if_neg y2]
      by_cases y3 : lo ≤ nv b (tS b j) (e - tS b j) ∧ nv b (tS b j) (e - tS b j) ≤ hi
      · rw [if_neg (by omega)]
        rw [bz_t y3] at h17
        refine ⟨uI u2 47 16 (nv b (tS b j) (e - tS b j)), 1, ?_, fr_t f2 (fr_uI (fr_r _ _) rfl), rfl, rI _ _ _ _, hMP _, n15 _⟩
        rw [wq_83_34]
        simp (disch := omega) only [qB_s, qC_t, qC_f, qI_T, qI_F, qI_t, qI_f, r_I, r_L, r_R, r_V, ii_add, ii_sub, ii_mul, ii_neg, bz_0, bz_1, Bool.true_and, Bool.false_and, Bool.and_true, z00, z11, li_0, li_1, li_10, li_4, li_48, e_50, gI_47_14, gR_47_4, is_47, pI_47_14, pI_47_16, ii_lt, ii_eq, m3, h78b, n14, j1, j2, j3, h17]
      · rw [if_pos (by omega)]
        rw [bz_f y3] at h17
        have e80 := d80 (sc := sc) (w := uI u2 47 16 (nv b (tS b j) (e - tS b j))) (c := 1) (x := tS b j) (n15 _)
        refine ⟨uI (uI u2 47 16 (nv b (tS b j) (e - tS b j))) 47 15 (1 + 8 * (tS b j : Int) + 1), 0, ?_, fr_t f2 (fr_uI (fr_uI (fr_r _ _) rfl) rfl), rfl, rI _ _ _ _⟩
        rw [wq_83_34]
        simp (disch := omega) only [qB_s, qC_t, qC_f, qI_T, qI_F, qI_t, qI_f, r_I, r_L, r_R, r_V, ii_add, ii_sub, ii_mul, ii_neg, bz_0, bz_1, Bool.true_and, Bool.false_and, Bool.and_true, z00, z11, li_0, li_1, li_10, li_4, li_48, e_50, gI_47_14, gR_47_4, is_47, pI_47_14, pI_47_16, ii_lt, ii_eq, m3, h78b, n14, j1, j2, j3, h17, e80]
end L59d
