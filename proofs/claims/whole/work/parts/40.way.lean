/-! WAY -/
theorem jj_divt {a b : Int} (h1 : -9223372036854775807 ≤ a) (h2 : a ≤ 9223372036854775807) (h3 : 0 < b) (h4 : b ≤ 9223372036854775807) : jj a / jj b = jj (a.tdiv b) := by
  apply Int64.toInt_inj.mp
  rw [Int64.toInt_div, jj_val (by omega) (by omega), jj_val (by omega) (by omega)]
  exact Int64.toInt_ofInt.symm
/-- those taken of a trait with a value of a mark, from a stage on -/

abbrev wyD (g : Int → Int → Int) (mk t x o k : Int) : Prop := g k 0 = t ∧ g k (4 + mk) ≠ -1 ∧ (x = -1 ∨ g k (4 + mk) = x) ∧ o ≤ g k 2
def wyC (g : Int → Int → Int) (f : Nat → Int) (mk t x o : Int) (m : Nat) : Int := sm (fun i => bz (wyD g mk t x o (f i))) m
theorem wyC_s (g : Int → Int → Int) (f : Nat → Int) (mk t x o : Int) (m : Nat) : wyC g f mk t x o (m + 1) = wyC g f mk t x o m + bz (wyD g mk t x o (f m)) := rfl
theorem wyC_t {g : Int → Int → Int} {f : Nat → Int} {mk t x o : Int} {m : Nat} (h : wyD g mk t x o (f m)) : wyC g f mk t x o (m + 1) = wyC g f mk t x o m + 1 := by rw [wyC_s, bz_t h]
theorem wyC_f {g : Int → Int → Int} {f : Nat → Int} {mk t x o : Int} {m : Nat} (h : ¬ wyD g mk t x o (f m)) : wyC g f mk t x o (m + 1) = wyC g f mk t x o m := by rw [wyC_s, bz_f h, Int.add_zero]
theorem wyC_ran (g : Int → Int → Int) (f : Nat → Int) (mk t x o : Int) (m : Nat) : 0 ≤ wyC g f mk t x o m ∧ wyC g f mk t x o m ≤ m := sm_bz (P := fun i => wyD g mk t x o (f i)) m
theorem wyC_le (g : Int → Int → Int) (f : Nat → Int) (mk t x : Int) {o : Int} (m : Nat) (ho : 0 ≤ o) : wyC g f mk t x o m ≤ wyC g f mk t x 0 m := sm_le (fun i _ => by
  unfold bz
  by_cases q : wyD g mk t x o (f i)
  · rw [if_pos q, if_pos (show wyD g mk t x 0 (f i) from ⟨q.1, q.2.1, q.2.2.1, by have := q.2.2.2; omega⟩)]
    exact Int.le_refl _
  · rw [if_neg q]
    split <;> omega)
def wyT (g : Int → Int → Int) (f : Nat → Int) (mk : Int) (m : Nat) (x : Int) : Int := if 0 < wyC g f mk 1 x 0 m then ((wyC g f mk 0 x 0 m * 1000000 / wyC g f mk 0 (-1) 0 m - wyC g f mk 1 x 0 m * 1000000 / wyC g f mk 1 (-1) 0 m) * wyC g f mk 1 x 2 m).tdiv (wyC g f mk 1 x 0 m) else 0
def wyA (g : Int → Int → Int) (f : Nat → Int) (mk : Int) (m : Nat) : Int := if wyC g f mk 0 (-1) 0 m = 0 ∨ wyC g f mk 1 (-1) 0 m = 0 then 0 else sm (fun x => wyT g f mk m x) 10
theorem wy_q {a b : Int} (h0 : 0 ≤ a) (h1 : a ≤ 200) (h2 : 0 < b) : 0 ≤ a * 1000000 / b ∧ a * 1000000 / b ≤ 200000000 := by
  refine ⟨Int.ediv_nonneg (by omega) (by omega), ?_⟩
  have : a * 1000000 / b ≤ a * 1000000 := Int.ediv_le_self _ (by omega)
  omega
theorem wy_m {a b : Int} (h0 : -200000000 ≤ a) (h1 : a ≤ 200000000) (h2 : 0 ≤ b) (h3 : b ≤ 200) : -40000000000 ≤ a * b ∧ a * b ≤ 40000000000 := by
  have h : a.natAbs * b.natAbs ≤ 200000000 * 200 := Nat.mul_le_mul (by omega) (by omega)
  rw [← Int.natAbs_mul] at h
  omega
section L40
variable {sc : am_X} {w : wo} {A : ab} {ow : Nat → Nat} {n : Int} {g : Int → Int → Int}
theorem c217 (hC : CS w n g) (hg : gK n g) {m : Nat} {f : Nat → Int} (hT : TK w m f) (hm : m ≤ 200) (hf : ∀ i, i < m → 0 ≤ f i ∧ f i < n) {t mk x o : Int} (ht : 0 ≤ t ∧ t ≤ 1) (hk : 0 ≤ mk ∧ mk < 6) (hx : -1 ≤ x ∧ x ≤ 9) (ho : 0 ≤ o ∧ o ≤ 2) : am_F sc 217 [am_R (some 22), am_I (ii t), am_I (ii mk), am_I (ii x), am_I (ii o)] (wst w) = some (some (am_I (ii (wyC g f mk t x o m))), wst w) := by
  have hs := hT.1
  have hn200 := hC.2.2.1
  have e := lp_0 (am_W sc 217) (fun i : Nat => (6, [some (am_R (some 22)), some (am_I (ii t)), some (am_I (ii mk)), some (am_I (ii x)), some (am_I (ii o)), some (am_I (ii (wyC g f mk t x o i))), some (am_I (ii i)), none, none], [], wst w)) m (fun i hi => by
    have hfi := hf i hi
    have hr := hg (f i) hfi.1 hfi.2
    have p1 := c118 (sc := sc) hT hm hi
    have p2 := c21 (sc := sc) hC hfi.1 hfi.2 hk.1 hk.2
    have p3 := c26 (sc := sc) hC hfi.1 hfi.2
    have p4 := c28 (sc := sc) hC hfi.1 hfi.2
    simp only [Int.reduceSub] at p3 p4
    have r1 := hr.1
    have r2 := hr.2.2.1
    have r3 := gK_m hg hfi.1 hfi.2 hk.1 hk.2
    rw [wq_217_6]
    by_cases q1 : g (f i) 0 = t
    · by_cases q2 : g (f i) (4 + mk) = -1
      · rw [wyC_f (fun z => z.2.1 q2)]
        simp (disch := omega) only [qB_s, qC_t, qC_f, qI_T, qI_F, qI_t, qI_f, r_I, r_L, r_R, r_V, ii_add, ii_sub, ii_mul, ii_neg, bz_0, bz_1, Bool.true_and, Bool.false_and, Bool.and_true, z00, z11, li_0, li_1, gI_22_3, gR_22_0, is_1, is_22, hs, ii_lt, ii_eq, p1, p2, p3, nat_1]
      · by_cases q3 : x = -1
        · by_cases q5 : g (f i) 2 < o
          · rw [wyC_f (fun z => by have := z.2.2.2; omega)]
            simp (disch := omega) only [qB_s, qC_t, qC_f, qI_T, qI_F, qI_t, qI_f, r_I, r_L, r_R, r_V, ii_add, ii_sub, ii_mul, ii_neg, bz_0, bz_1, Bool.true_and, Bool.false_and, Bool.and_true, z00, z11, li_0, li_1, gI_22_3, gR_22_0, is_1, is_22, hs, ii_lt, ii_eq, p1, p2, p3, p4, nat_1]
          · rw [wyC_t ⟨q1, q2, .inl q3, by omega⟩]
            simp (disch := omega) only [qB_s, qC_t, qC_f, qI_T, qI_F, qI_t, qI_f, r_I, r_L, r_R, r_V, ii_add, ii_sub, ii_mul, ii_neg, bz_0, bz_1, Bool.true_and, Bool.false_and, Bool.and_true, z00, z11, li_0, li_1, gI_22_3, gR_22_0, is_1, is_22, hs, ii_lt, ii_eq, p1, p2, p3, p4, nat_1]
        · by_cases q4 : g (f i) (4 + mk) = x
          · by_cases q5 : g (f i) 2 < o
            · rw [wyC_f (fun z => by have := z.2.2.2; omega)]
              simp (disch := omega) only [qB_s, qC_t, qC_f, qI_T, qI_F, qI_t, qI_f, r_I, r_L, r_R, r_V, ii_add, ii_sub, ii_mul, ii_neg, bz_0, bz_1, Bool.true_and, Bool.false_and, Bool.and_true, z00, z11, li_0, li_1, gI_22_3, gR_22_0, is_1, is_22, hs, ii_lt, ii_eq, p1, p2, p3, p4, nat_1]
            · rw [wyC_t ⟨q1, q2, .inr q4, by omega⟩]
              simp (disch := omega) only [qB_s, qC_t, qC_f, qI_T, qI_F, qI_t, qI_f, r_I, r_L, r_R, r_V, ii_add, ii_sub, ii_mul, ii_neg, bz_0, bz_1, Bool.true_and, Bool.false_and, Bool.and_true, z00, z11, li_0, li_1, gI_22_3, gR_22_0, is_1, is_22, hs, ii_lt, ii_eq, p1, p2, p3, p4, nat_1]
          · rw [wyC_f (fun z => by have := z.2.2.1; omega)]
            simp (disch := omega) only [qB_s, qC_t, qC_f, qI_T, qI_F, qI_t, qI_f, r_I, r_L, r_R, r_V, ii_add, ii_sub, ii_mul, ii_neg, bz_0, bz_1, Bool.true_and, Bool.false_and, Bool.and_true, z00, z11, li_0, li_1, gI_22_3, gR_22_0, is_1, is_22, hs, ii_lt, ii_eq, p1, p2, p3, nat_1]
    · rw [wyC_f (fun z => q1 z.1)]
      simp (disch := omega) only [qB_s, qC_t, qC_f, qI_T, qI_F, qI_t, qI_f, r_I, r_L, r_R, r_V, ii_add, ii_sub, ii_mul, ii_neg, bz_0, bz_1, Bool.true_and, Bool.false_and, Bool.and_true, z00, z11, li_0, li_1, gI_22_3, gR_22_0, is_1, is_22, hs, ii_lt, ii_eq, p1, p2, p3, nat_1])
  have e' : am_W sc 217 (6, [some (am_R (some 22)), some (am_I (ii t)), some (am_I (ii mk)), some (am_I (ii x)), some (am_I (ii o)), some (am_I (ii 0)), some (am_I (ii 0)), none, none], [], wst w) = _ := e
  rw [fq_217, li_0, e', wq_217_6]
  simp (disch := omega) only [qB_s, qC_t, qC_f, qI_T, qI_F, qI_t, qI_f, r_I, r_L, r_R, r_V, ii_add, ii_sub, ii_mul, ii_neg, bz_0, bz_1, Bool.true_and, Bool.false_and, Bool.and_true, z00, z11, li_0, li_1, gI_22_3, gR_22_0, is_1, is_22, hs, ii_lt]
theorem c218l (hC : CS w n g) (hg : gK n g) {m : Nat} {f : Nat → Int} (hT : TK w m f) (hm : m ≤ 200) (hf : ∀ i, i < m → 0 ≤ f i ∧ f i < n) {mk : Int} (hk : 0 ≤ mk ∧ mk < 6) (h0 : 0 < wyC g f mk 0 (-1) 0 m) (h1 : 0 < wyC g f mk 1 (-1) 0 m) : am_W sc 218 (61, [some (am_R (some 0)), none, some (am_I (ii mk)), some (am_I (ii (wyC g f mk 0 (-1) 0 m))), some (am_I (ii (wyC g f mk 1 (-1) 0 m))), some (am_L (jj 0)), none, some (am_I (ii 0)), none, none, none], [], wst w) = some (some (am_I (ii (sm (fun x => wyT g f mk m x) 10))), wst w) := by
  have b0 := wyC_ran g f mk 0 (-1) 0 m
  have b1 := wyC_ran g f mk 1 (-1) 0 m
  have e := lp_0 (am_W sc 218) (fun x : Nat => (61, [some (am_R (some 0)), none, some (am_I (ii mk)), some (am_I (ii (wyC g f mk 0 (-1) 0 m))), some (am_I (ii (wyC g f mk 1 (-1) 0 m))), some (am_L (jj (sm (fun x => wyT g f mk m x) x))), none, some (am_I (ii x)), none, none, none], [], wst w)) 10 (fun x hx => by
    have p1 := c217 (sc := sc) hC hg hT hm hf (t := 1) (mk := mk) (x := x) (o := 0) (by omega) hk (by omega) (by omega)
    have p2 := c217 (sc := sc) hC hg hT hm hf (t := 0) (mk := mk) (x := x) (o := 0) (by omega) hk (by omega) (by omega)
    have p3 := c217 (sc := sc) hC hg hT hm hf (t := 1) (mk := mk) (x := x) (o := 2) (by omega) hk (by omega) (by omega)
    have b2 := wyC_ran g f mk 1 x 0 m
    have b3 := wyC_ran g f mk 0 x 0 m
    have b4 := wyC_ran g f mk 1 x 2 m
    rw [wq_218_61, sm_s]
    by_cases q : 0 < wyC g f mk 1 x 0 m
    · have k1 := wy_q (a := wyC g f mk 0 x 0 m) b3.1 (by omega) h0
      have k2 := wy_q (a := wyC g f mk 1 x 0 m) b2.1 (by omega) h1
      have k3 := wy_m (a := wyC g f mk 0 x 0 m * 1000000 / wyC g f mk 0 (-1) 0 m - wyC g f mk 1 x 0 m * 1000000 / wyC g f mk 1 (-1) 0 m) (b := wyC g f mk 1 x 2 m) (by omega) (by omega) b4.1 (by omega)
      rw [show wyT g f mk m x = ((wyC g f mk 0 x 0 m * 1000000 / wyC g f mk 0 (-1) 0 m - wyC g f mk 1 x 0 m * 1000000 / wyC g f mk 1 (-1) 0 m) * wyC g f mk 1 x 2 m).tdiv (wyC g f mk 1 x 0 m) from if_pos q]
      simp (disch := omega) only [qB_s, qC_t, qC_f, qI_T, qI_F, qI_t, qI_f, r_I, r_L, r_R, r_V, ii_add, ii_sub, ii_mul, ii_neg, bz_0, bz_1, Bool.true_and, Bool.false_and, Bool.and_true, z00, z11, li_0, li_1, li_10000000, li_2, li_9, lj_0, lj_1000000, gR_0_9, is_0, is_22, ii_lt, ii_jj, jj_eq, p1, p2, p3, jj_mul, jj_sub, jj_div0, jj_divt, jj_add, nat_1]
    · rw [show wyT g f mk m x = 0 from if_neg q, Int.add_zero]
      simp (disch := omega) only [qB_s, qC_t, qC_f, qI_T, qI_F, qI_t, qI_f, r_I, r_L, r_R, r_V, ii_add, ii_sub, ii_mul, ii_neg, bz_0, bz_1, Bool.true_and, Bool.false_and, Bool.and_true, z00, z11, li_0, li_1, li_10000000, li_2, li_9, lj_0, lj_1000000, gR_0_9, is_0, is_22, ii_lt, p1, nat_1])
  have e' : am_W sc 218 (61, [some (am_R (some 0)), none, some (am_I (ii mk)), some (am_I (ii (wyC g f mk 0 (-1) 0 m))), some (am_I (ii (wyC g f mk 1 (-1) 0 m))), some (am_L (jj 0)), none, some (am_I (ii 0)), none, none, none], [], wst w) = _ := e
  rw [e', wq_218_61]
  simp (disch := omega) only [qB_s, qC_t, qC_f, qI_T, qI_F, qI_t, qI_f, r_I, r_L, r_R, r_V, ii_add, ii_sub, ii_mul, ii_neg, bz_0, bz_1, Bool.true_and, Bool.false_and, Bool.and_true, z00, z11, li_0, li_1, li_10000000, li_2, li_9, lj_0, lj_1000000, gR_0_9, is_0, is_22, ii_lt, jj_ii]
-- the other's
/-- what the other's rows hold -/
def wyH (w : wo) (g : Int → Int → Int) (f : Nat → Int) (mk : Int) (i : Nat) : Prop := (∀ t x : Int, 0 ≤ t → t ≤ 1 → 0 ≤ x → x < 10 → wA w 70 (10 * t + x) = wyC g f mk t x 0 i) ∧ ∀ x : Int, 0 ≤ x → x < 10 → wA w 71 x = wyC g f mk 1 x 2 i
def wyF : List Nat := [7099, 7199]
theorem d219i (hM : MS w n g) (hg : gK n g) {m : Nat} {f : Nat → Int} (hT : MK w m f) (hm : m ≤ 200) (hf : ∀ i, i < m → 0 ≤ f i ∧ f i < n) {mk : Int} (hk : 0 ≤ mk ∧ mk < 6) {i : Nat} (hi : i < m) (h : wyH w g f mk i) : ∃ v, am_W sc 219 (80, [some (am_R (some 47)), none, some (am_I (ii mk)), some (am_L (jj (wyC g f mk 0 (-1) 0 i))), none, some (am_L (jj (wyC g f mk 1 (-1) 0 i))), none, some (am_I (ii i)), none, none], [], wst w) = am_W sc 219 (80, [some (am_R (some 47)), none, some (am_I (ii mk)), some (am_L (jj (wyC g f mk 0 (-1) 0 (i + 1)))), none, some (am_L (jj (wyC g f mk 1 (-1) 0 (i + 1)))), none, some (am_I (ii (i + 1 : Nat))), none, none], [], wst v) ∧ fr wyF w v ∧ wyH v g f mk (i + 1) := by
  have hs := hT.1
  have hfi := hf i hi
  have h59 := hT.2 i hi
  have hn200 := hM.2.2.1
  have hr := hg (f i) hfi.1 hfi.2
  have r1 := hr.1
  have r2 := hr.2.2.1
  have r3 := gK_m hg hfi.1 hfi.2 hk.1 hk.2
  have p1 := d107 (sc := sc) hM hfi.1 hfi.2 hk.1 hk.2
  by_cases q2 : g (f i) (4 + mk) = -1
  · have hz : ∀ t x o : Int, wyC g f mk t x o (i + 1) = wyC g f mk t x o i := fun t x o => wyC_f (fun z => z.2.1 q2)
    refine ⟨w, ?_, fr_r _ _, ?_⟩
    · rw [wq_219_80, hz, hz]
      simp (disch := omega) only [qB_s, qC_t, qC_f, qI_T, qI_F, qI_t, qI_f, r_I, r_L, r_R, r_V, ii_add, ii_sub, ii_mul, ii_neg, bz_0, bz_1, Bool.true_and, Bool.false_and, Bool.and_true, z00, z11, li_0, li_1, li_10, li_10000000, li_20, lj_0, lj_1, lj_1000000, lj_5, e_59, e_70, e_71, gI_47_26, gR_47_27, gR_47_47, gR_47_48, is_47, t_59, t_70, t_71, hs, ii_lt, ii_eq, h59, p1]
      rw [wq_219_207]
      simp (disch := omega) only [qB_s, qC_t, qC_f, qI_T, qI_F, qI_t, qI_f, r_I, r_L, r_R, r_V, ii_add, ii_sub, ii_mul, ii_neg, bz_0, bz_1, Bool.true_and, Bool.false_and, Bool.and_true, z00, z11, li_0, li_1, li_10, li_10000000, li_20, lj_0, lj_1, lj_1000000, lj_5, e_59, e_70, e_71, gI_47_26, gR_47_27, gR_47_47, gR_47_48, is_47, t_59, t_70, t_71, nat_1]
    · unfold wyH
      simp only [hz]
      exact h
  · obtain ⟨t, et⟩ : ∃ t, t = g (f i) 0 := ⟨_, rfl⟩
    obtain ⟨x, ex⟩ : ∃ x, x = g (f i) (4 + mk) := ⟨_, rfl⟩
    have p2 := d122 (sc := sc) hM hfi.1 hfi.2
    rw [← et] at p2
    rw [← ex] at p1
    have f1 : fr wyF w (uA w 70 (fu (wA w 70) (10 * t + x) (wA w 70 (10 * t + x) + 1))) := fr_uA (fr_r _ _) rfl
    have hM1 := MS_fr hM f1 rfl
    have p3 := d122 (sc := sc) hM1 hfi.1 hfi.2
    have p4 := d123 (sc := sc) hM1 hg hfi.1 hfi.2
    rw [← et] at p3
    obtain ⟨b, eb⟩ : ∃ b : Int, b = bz (t = 1 ∧ g (f i) 2 = 2) := ⟨_, rfl⟩
    have f2 : fr wyF w (uA (uA w 70 (fu (wA w 70) (10 * t + x) (wA w 70 (10 * t + x) + 1))) 71 (fu (wA w 71) x (wA w 71 x + b))) := fr_uA f1 rfl
    have p5 := d122 (sc := sc) (MS_fr hM f2 rfl) hfi.1 hfi.2
    rw [← et] at p5
    have hz : ∀ s y o : Int, wyC g f mk s y o (i + 1) = wyC g f mk s y o i + bz (s = t ∧ (y = -1 ∨ y = x) ∧ o ≤ g (f i) 2) := fun s y o => by
      rw [wyC_s]
      refine congrArg (fun z => wyC g f mk s y o i + z) ?_
      refine bz_c ⟨fun z => ⟨z.1.symm.trans et.symm, ?_, z.2.2.2⟩, fun z => ⟨(z.1.trans et).symm, q2, ?_, z.2.2⟩⟩
      · have := z.2.2.1
        omega
      · have := z.2.1
        omega
    have z0 : wyC g f mk 0 (-1) 0 (i + 1) = wyC g f mk 0 (-1) 0 i + bz (0 = t) := by
      rw [hz]
      refine congrArg (fun z => wyC g f mk 0 (-1) 0 i + z) ?_
      exact bz_c ⟨fun z => z.1, fun z => ⟨z, .inl rfl, by omega⟩⟩
    have z1 : wyC g f mk 1 (-1) 0 (i + 1) = wyC g f mk 1 (-1) 0 i + bz (1 = t) := by
      rw [hz]
      refine congrArg (fun z => wyC g f mk 1 (-1) 0 i + z) ?_
      exact bz_c ⟨fun z => z.1, fun z => ⟨z, .inl rfl, by omega⟩⟩
    refine ⟨_, ?_, f2, fun s y s0 s1 y0 y1 => ?_, fun y y0 y1 => ?_⟩
    · have a1 : ∀ F, wA (uA w 70 F) 71 = wA w 71 := fun F => rAn _ _ rfl
      rw [wq_219_80, z0, z1]
      by_cases q : t = 1
      · rw [bz_f (p := (0 : Int) = t) (by omega), bz_t (p := (1 : Int) = t) (by omega)]
        by_cases q5 : g (f i) 2 = 2
        · rw [bz_t (p := g (f i) 2 = 2) q5] at p4
          rw [bz_t (p := t = 1 ∧ g (f i) 2 = 2) ⟨q, q5⟩] at eb
          rw [eb] at p5 ⊢
          simp (disch := omega) only [qB_s, qC_t, qC_f, qI_T, qI_F, qI_t, qI_f, r_I, r_L, r_R, r_V, ii_add, ii_sub, ii_mul, ii_neg, bz_0, bz_1, Bool.true_and, Bool.false_and, Bool.and_true, z00, z11, li_0, li_1, li_10, li_10000000, li_20, lj_0, lj_1, lj_1000000, lj_5, e_59, e_70, e_71, gI_47_26, gR_47_27, gR_47_47, gR_47_48, is_47, t_59, t_70, t_71, hs, ii_lt, ii_eq, h59, p1, p2, p3, p4, p5, a1, rA, jj_add, wq_219_207, nat_1]
        · rw [bz_f (p := g (f i) 2 = 2) q5] at p4
          rw [bz_f (p := t = 1 ∧ g (f i) 2 = 2) (fun z => q5 z.2)] at eb
          rw [eb] at p5 ⊢
          simp (disch := omega) only [qB_s, qC_t, qC_f, qI_T, qI_F, qI_t, qI_f, r_I, r_L, r_R, r_V, ii_add, ii_sub, ii_mul, ii_neg, bz_0, bz_1, Bool.true_and, Bool.false_and, Bool.and_true, z00, z11, li_0, li_1, li_10, li_10000000, li_20, lj_0, lj_1, lj_1000000, lj_5, e_59, e_70, e_71, gI_47_26, gR_47_27, gR_47_47, gR_47_48, is_47, t_59, t_70, t_71, hs, ii_lt, ii_eq, h59, p1, p2, p3, p4, p5, a1, rA, jj_add, wq_219_207, nat_1]
      · rw [bz_t (p := (0 : Int) = t) (by omega), bz_f (p := (1 : Int) = t) (by omega)]
        rw [bz_f (p := t = 1 ∧ g (f i) 2 = 2) (fun z => q z.1)] at eb
        rw [eb] at p5 ⊢
        simp (disch := omega) only [qB_s, qC_t, qC_f, qI_T, qI_F, qI_t, qI_f, r_I, r_L, r_R, r_V, ii_add, ii_sub, ii_mul, ii_neg, bz_0, bz_1, Bool.true_and, Bool.false_and, Bool.and_true, z00, z11, li_0, li_1, li_10, li_10000000, li_20, lj_0, lj_1, lj_1000000, lj_5, e_59, e_70, e_71, gI_47_26, gR_47_27, gR_47_47, gR_47_48, is_47, t_59, t_70, t_71, hs, ii_lt, ii_eq, h59, p1, p2, p3, p5, a1, rA, jj_add, wq_219_207, nat_1]
    · rw [rAn _ _ rfl, rA, fu_at, hz]
      by_cases q : 10 * s + y = 10 * t + x
      · have q3 : s = t := by omega
        have q4 : y = x := by omega
        rw [if_pos q, q3, q4, h.1 t x (by omega) (by omega) (by omega) (by omega), bz_t ⟨rfl, .inr rfl, by omega⟩]
      · rw [if_neg q, h.1 s y s0 s1 y0 y1, bz_f (by omega), Int.add_zero]
    · rw [rA, fu_at, hz, eb]
      by_cases q : y = x
      · rw [if_pos q, q, h.2 x (by omega) (by omega)]
        refine congrArg (fun z => wyC g f mk 1 x 2 i + z) ?_
        exact bz_c ⟨fun z => ⟨z.1.symm, .inr rfl, by omega⟩, fun z => ⟨z.1.symm, by omega⟩⟩
      · rw [if_neg q, h.2 y y0 y1, bz_f (by omega), Int.add_zero]
theorem d219z {mk : Int} : ∃ v, am_W sc 219 (32, [some (am_R (some 47)), none, some (am_I (ii mk)), some (am_I (ii 0)), none, none, none, none, none, none], [], wst w) = am_W sc 219 (80, [some (am_R (some 47)), none, some (am_I (ii mk)), some (am_L (jj 0)), none, some (am_L (jj 0)), none, some (am_I (ii 0)), none, none], [], wst v) ∧ fr wyF w v ∧ wyH v g (fun _ => 0) mk 0 := by
  obtain ⟨v, e, hfr, hv⟩ := lp_s0 (am_W sc 219) (fun (i : Nat) (v : wo) => (32, [some (am_R (some 47)), none, some (am_I (ii mk)), some (am_I (ii i)), none, none, none, none, none, none], [], wst v)) (fun i v => fr wyF w v ∧ ∀ z : Int, 0 ≤ z → z < i → wA v 70 z = 0) 20 (fun i v hi hv => by
    refine ⟨uA v 70 (fu (wA v 70) i 0), ?_, fr_uA hv.1 rfl, fun z z0 z1 => ?_⟩
    · rw [wq_219_32]
      simp (disch := omega) only [qB_s, qC_t, qC_f, qI_T, qI_F, qI_t, qI_f, r_I, r_L, r_R, r_V, ii_add, ii_sub, ii_mul, ii_neg, bz_0, bz_1, Bool.true_and, Bool.false_and, Bool.and_true, z00, z11, li_0, li_1, li_10, li_10000000, li_20, lj_0, lj_1, lj_1000000, lj_5, e_59, e_70, e_71, gI_47_26, gR_47_27, gR_47_47, gR_47_48, is_47, t_59, t_70, t_71, ii_lt, nat_1]
    · rw [rA, fu_at]
      split
      · rfl
      · exact hv.2 z z0 (by omega)) w ⟨fr_r _ _, fun z z0 z1 => absurd z1 (by omega)⟩
  obtain ⟨u, e2, hfr2, hu⟩ := lp_s0 (am_W sc 219) (fun (i : Nat) (v : wo) => (53, [some (am_R (some 47)), none, some (am_I (ii mk)), some (am_I (ii i)), none, none, none, none, none, none], [], wst v)) (fun i u => fr [7199] v u ∧ ∀ z : Int, 0 ≤ z → z < i → wA u 71 z = 0) 10 (fun i v hi hv => by
    refine ⟨uA v 71 (fu (wA v 71) i 0), ?_, fr_uA hv.1 rfl, fun z z0 z1 => ?_⟩
    · rw [wq_219_53]
      simp (disch := omega) only [qB_s, qC_t, qC_f, qI_T, qI_F, qI_t, qI_f, r_I, r_L, r_R, r_V, ii_add, ii_sub, ii_mul, ii_neg, bz_0, bz_1, Bool.true_and, Bool.false_and, Bool.and_true, z00, z11, li_0, li_1, li_10, li_10000000, li_20, lj_0, lj_1, lj_1000000, lj_5, e_59, e_70, e_71, gI_47_26, gR_47_27, gR_47_47, gR_47_48, is_47, t_59, t_70, t_71, ii_lt, nat_1]
    · rw [rA, fu_at]
      split
      · rfl
      · exact hv.2 z z0 (by omega)) v ⟨fr_r _ _, fun z z0 z1 => absurd z1 (by omega)⟩
  refine ⟨u, ?_, fr_t hfr (fr_m hfr2 rfl), fun t x t0 t1 x0 x1 => ?_, fun x x0 x1 => hu x x0 (by omega)⟩
  · have e' : am_W sc 219 (32, [some (am_R (some 47)), none, some (am_I (ii mk)), some (am_I (ii 0)), none, none, none, none, none, none], [], wst w) = _ := e
    have e2' : am_W sc 219 (53, [some (am_R (some 47)), none, some (am_I (ii mk)), some (am_I (ii 0)), none, none, none, none, none, none], [], wst v) = _ := e2
    rw [e', wq_219_32]
    simp (disch := omega) only [qB_s, qC_t, qC_f, qI_T, qI_F, qI_t, qI_f, r_I, r_L, r_R, r_V, ii_add, ii_sub, ii_mul, ii_neg, bz_0, bz_1, Bool.true_and, Bool.false_and, Bool.and_true, z00, z11, li_0, li_1, li_10, li_10000000, li_20, lj_0, lj_1, lj_1000000, lj_5, e_59, e_70, e_71, gI_47_26, gR_47_27, gR_47_47, gR_47_48, is_47, t_59, t_70, t_71, ii_lt]
    rw [e2', wq_219_53]
    simp (disch := omega) only [qB_s, qC_t, qC_f, qI_T, qI_F, qI_t, qI_f, r_I, r_L, r_R, r_V, ii_add, ii_sub, ii_mul, ii_neg, bz_0, bz_1, Bool.true_and, Bool.false_and, Bool.and_true, z00, z11, li_0, li_1, li_10, li_10000000, li_20, lj_0, lj_1, lj_1000000, lj_5, e_59, e_70, e_71, gI_47_26, gR_47_27, gR_47_47, gR_47_48, is_47, t_59, t_70, t_71, ii_lt]
  · rw [fr_A (a := 70) hfr2 rfl]
    exact hv _ (by omega) (by omega)
theorem d219e {m : Nat} {f : Nat → Int} (hm : m ≤ 200) {mk : Int} (h : wyH w g f mk m) (h0 : 0 < wyC g f mk 0 (-1) 0 m) (h1 : 0 < wyC g f mk 1 (-1) 0 m) : am_W sc 219 (234, [some (am_R (some 47)), none, none, some (am_L (jj (wyC g f mk 0 (-1) 0 m))), none, some (am_L (jj (wyC g f mk 1 (-1) 0 m))), none, some (am_L (jj 0)), none, some (am_I (ii 0))], [], wst w) = some (some (am_I (ii (sm (fun x => wyT g f mk m x) 10))), wst w) := by
  have b0 := wyC_ran g f mk 0 (-1) 0 m
  have b1 := wyC_ran g f mk 1 (-1) 0 m
  have e := lp_0 (am_W sc 219) (fun x : Nat => (234, [some (am_R (some 47)), none, none, some (am_L (jj (wyC g f mk 0 (-1) 0 m))), none, some (am_L (jj (wyC g f mk 1 (-1) 0 m))), none, some (am_L (jj (sm (fun x => wyT g f mk m x) x))), none, some (am_I (ii x))], [], wst w)) 10 (fun x hx => by
    have p1 := h.1 1 x (by omega) (by omega) (by omega) (by omega)
    have p2 := h.1 0 x (by omega) (by omega) (by omega) (by omega)
    have p3 := h.2 x (by omega) (by omega)
    rw [show (10 : Int) * 1 + x = 10 + x by omega] at p1
    rw [show (10 : Int) * 0 + x = x by omega] at p2
    have b2 := wyC_ran g f mk 1 x 0 m
    have b3 := wyC_ran g f mk 0 x 0 m
    have b4 := wyC_ran g f mk 1 x 2 m
    rw [wq_219_234, sm_s]
    by_cases q : 0 < wyC g f mk 1 x 0 m
    · have k1 := wy_q (a := wyC g f mk 0 x 0 m) b3.1 (by omega) h0
      have k2 := wy_q (a := wyC g f mk 1 x 0 m) b2.1 (by omega) h1
      have k3 := wy_m (a := wyC g f mk 0 x 0 m * 1000000 / wyC g f mk 0 (-1) 0 m - wyC g f mk 1 x 0 m * 1000000 / wyC g f mk 1 (-1) 0 m) (b := wyC g f mk 1 x 2 m) (by omega) (by omega) b4.1 (by omega)
      rw [show wyT g f mk m x = ((wyC g f mk 0 x 0 m * 1000000 / wyC g f mk 0 (-1) 0 m - wyC g f mk 1 x 0 m * 1000000 / wyC g f mk 1 (-1) 0 m) * wyC g f mk 1 x 2 m).tdiv (wyC g f mk 1 x 0 m) from if_pos q]
      have c1 : (1000000 : Int) * wyC g f mk 0 x 0 m = wyC g f mk 0 x 0 m * 1000000 := Int.mul_comm _ _
      have c2 : (1000000 : Int) * wyC g f mk 1 x 0 m = wyC g f mk 1 x 0 m * 1000000 := Int.mul_comm _ _
      simp (disch := omega) only [qB_s, qC_t, qC_f, qI_T, qI_F, qI_t, qI_f, r_I, r_L, r_R, r_V, ii_add, ii_sub, ii_mul, ii_neg, bz_0, bz_1, Bool.true_and, Bool.false_and, Bool.and_true, z00, z11, li_0, li_1, li_10, li_10000000, li_20, lj_0, lj_1, lj_1000000, lj_5, e_59, e_70, e_71, gI_47_26, gR_47_27, gR_47_47, gR_47_48, is_47, t_59, t_70, t_71, ii_lt, ii_jj, jj_eq, p1, p2, p3, jj_mul, c1, c2, jj_sub, jj_div0, jj_divt, jj_add, wq_219_313, nat_1]
    · rw [show wyT g f mk m x = 0 from if_neg q, Int.add_zero]
      simp (disch := omega) only [qB_s, qC_t, qC_f, qI_T, qI_F, qI_t, qI_f, r_I, r_L, r_R, r_V, ii_add, ii_sub, ii_mul, ii_neg, bz_0, bz_1, Bool.true_and, Bool.false_and, Bool.and_true, z00, z11, li_0, li_1, li_10, li_10000000, li_20, lj_0, lj_1, lj_1000000, lj_5, e_59, e_70, e_71, gI_47_26, gR_47_27, gR_47_47, gR_47_48, is_47, t_59, t_70, t_71, ii_lt, p1, wq_219_313, nat_1])
  have e' : am_W sc 219 (234, [some (am_R (some 47)), none, none, some (am_L (jj (wyC g f mk 0 (-1) 0 m))), none, some (am_L (jj (wyC g f mk 1 (-1) 0 m))), none, some (am_L (jj 0)), none, some (am_I (ii 0))], [], wst w) = _ := e
  rw [e', wq_219_234]
  simp (disch := omega) only [qB_s, qC_t, qC_f, qI_T, qI_F, qI_t, qI_f, r_I, r_L, r_R, r_V, ii_add, ii_sub, ii_mul, ii_neg, bz_0, bz_1, Bool.true_and, Bool.false_and, Bool.and_true, z00, z11, li_0, li_1, li_10, li_10000000, li_20, lj_0, lj_1, lj_1000000, lj_5, e_59, e_70, e_71, gI_47_26, gR_47_27, gR_47_47, gR_47_48, is_47, t_59, t_70, t_71, ii_lt, jj_ii]
theorem x_218 (hC : RC ow w A) (hA : okA A) {v k : Int} (hv1 : -2147483648 ≤ v) (hv2 : v ≤ 2147483647) (hk1 : -2147483648 ≤ k) (hk2 : k ≤ 2147483647) : ∃ u, am_F sc 218 [am_R (some 0), am_I (ii v), am_I (ii k)] (wst w) = some (some (am_I (ii (if (0 ≤ k ∧ k < 6) ∧ (0 ≤ v ∧ v < A.2.2.1.1) then wyA (aG A) (vF A v) k (vM A v) else -10000000))), wst u) ∧ fr scC w u := by
  have hn8 := hA.2.2.1.2.1
  have hn0 := hA.2.2.1.1
  have h20 := s20 (sc := sc) (w := w) hk1 hk2
  by_cases q1 : 0 ≤ k ∧ k < 6
  · skip
    by_cases q2 : 0 ≤ v ∧ v < A.2.2.1.1
    · skip
      rw [if_pos (by omega)]
      obtain ⟨u, e1, f1, t1, -⟩ := (c117 (sc := sc) hC hA hv1 hv2).1 q2
      have hCu := RC_c hC (fr_m f1 rfl)
      have hm := vM_le hA v
      have hg := hA.1.2.2.1
      have hst := stg hA v
      have hok : ∀ i, i < vM A v → 0 ≤ vF A v i ∧ vF A v i < A.1.1 := fun i hi => vF_ok hA v hi
      have hCu1 : CS u (aN A) (aG A) := hCu.1
      have p0 := c217 (sc := sc) hCu1 hg t1 hm hok (t := 0) (mk := k) (x := -1) (o := 0) (by omega) q1 (by omega) (by omega)
      have p1 := c217 (sc := sc) hCu1 hg t1 hm hok (t := 1) (mk := k) (x := -1) (o := 0) (by omega) q1 (by omega) (by omega)
      have b0 := wyC_ran (aG A) (vF A v) k 0 (-1) 0 (vM A v)
      have b1 := wyC_ran (aG A) (vF A v) k 1 (-1) 0 (vM A v)
      have b0' : wyC (aG A) (vF A v) k 0 (-1) 0 (vM A v) = wyC A.1.2.1 (vF A v) k 0 (-1) 0 (vM A v) := rfl
      refine ⟨u, ?_, fr_m f1 rfl⟩
      rw [fq_218]
      unfold wyA
      by_cases z0 : wyC (aG A) (vF A v) k 0 (-1) 0 (vM A v) = 0
      · rw [if_pos (.inl z0)]
        simp (disch := omega) only [qB_s, qC_t, qC_f, qI_T, qI_F, qI_t, qI_f, r_I, r_L, r_R, r_V, ii_add, ii_sub, ii_mul, ii_neg, bz_0, bz_1, Bool.true_and, Bool.false_and, Bool.and_true, z00, z11, li_0, li_1, li_10000000, li_2, li_9, lj_0, lj_1000000, gR_0_9, is_0, is_22, h20, e1, p0, p1, ii_eq]
      · by_cases z1 : wyC (aG A) (vF A v) k 1 (-1) 0 (vM A v) = 0
        · rw [if_pos (.inr z1)]
          simp (disch := omega) only [qB_s, qC_t, qC_f, qI_T, qI_F, qI_t, qI_f, r_I, r_L, r_R, r_V, ii_add, ii_sub, ii_mul, ii_neg, bz_0, bz_1, Bool.true_and, Bool.false_and, Bool.and_true, z00, z11, li_0, li_1, li_10000000, li_2, li_9, lj_0, lj_1000000, gR_0_9, is_0, is_22, h20, e1, p0, p1, ii_eq]
        · have e3 := c218l (sc := sc) hCu1 hg t1 hm hok (mk := k) q1 (show 0 < wyC (aG A) (vF A v) k 0 (-1) 0 (vM A v) by omega) (show 0 < wyC (aG A) (vF A v) k 1 (-1) 0 (vM A v) by omega)
          rw [if_neg (by omega)]
          simp (disch := omega) only [qB_s, qC_t, qC_f, qI_T, qI_F, qI_t, qI_f, r_I, r_L, r_R, r_V, ii_add, ii_sub, ii_mul, ii_neg, bz_0, bz_1, Bool.true_and, Bool.false_and, Bool.and_true, z00, z11, li_0, li_1, li_10000000, li_2, li_9, lj_0, lj_1000000, gR_0_9, is_0, is_22, h20, e1, p0, p1, ii_eq]
          exact e3
    · rw [if_neg (by omega)]
      have h117 := (c117 (sc := sc) hC hA hv1 hv2).2 q2
      exact ⟨w, by
        rw [fq_218]
        simp (disch := omega) only [qB_s, qC_t, qC_f, qI_T, qI_F, qI_t, qI_f, r_I, r_L, r_R, r_V, ii_add, ii_sub, ii_mul, ii_neg, bz_0, bz_1, Bool.true_and, Bool.false_and, Bool.and_true, z00, z11, li_0, li_1, li_10000000, li_2, li_9, lj_0, lj_1000000, gR_0_9, is_0, is_22, ii_lt, ii_eq, ii_jj, jj_neg, h117, h20], fr_r _ _⟩
  · rw [if_neg (by omega)]
    exact ⟨w, by
      rw [fq_218]
      simp (disch := omega) only [qB_s, qC_t, qC_f, qI_T, qI_F, qI_t, qI_f, r_I, r_L, r_R, r_V, ii_add, ii_sub, ii_mul, ii_neg, bz_0, bz_1, Bool.true_and, Bool.false_and, Bool.and_true, z00, z11, li_0, li_1, li_10000000, li_2, li_9, lj_0, lj_1000000, gR_0_9, is_0, is_22, ii_lt, ii_eq, ii_jj, jj_neg, h20], fr_r _ _⟩

theorem y_219 (hM : RM w A) (hA : okA A) {v k : Int} (hv1 : -2147483648 ≤ v) (hv2 : v ≤ 2147483647) (hk1 : -2147483648 ≤ k) (hk2 : k ≤ 2147483647) : ∃ u, am_F sc 219 [am_R (some 47), am_I (ii v), am_I (ii k)] (wst w) = some (some (am_I (ii (if (0 ≤ v ∧ v < A.2.2.1.1) ∧ (0 ≤ k ∧ k < 6) then wyA (aG A) (vF A v) k (vM A v) else -10000000))), wst u) ∧ fr scM w u := by
  have hn8 := hA.2.2.1.2.1
  have hn0 := hA.2.2.1.1
  have h120 := d120 (sc := sc) hM hn8 hn0 (v := v) hv1 hv2
  by_cases q1 : 0 ≤ v ∧ v < A.2.2.1.1
  · skip
    by_cases q2 : 0 ≤ k ∧ k < 6
    · skip
      rw [if_pos (by omega)]
      obtain ⟨u, e1, f1, t1, -⟩ := d124v (sc := sc) hM hA q1
      have hMu := RM_m hM (fr_m f1 rfl)
      have hm := vM_le hA v
      have hok : ∀ i, i < vM A v → 0 ≤ vF A v i ∧ vF A v i < A.1.1 := fun i hi => vF_ok hA v hi
      have hok' : ∀ i, i < vM A v → 0 ≤ vF A v i ∧ vF A v i < A.1.1 := hok
      obtain ⟨u2, e2, f2, g2⟩ := d219z (sc := sc) (w := u) (g := aG A) (mk := k)
      have g2' : wyH u2 (aG A) (vF A v) k 0 := g2
      obtain ⟨u3, e3, f3, g3⟩ := lp_s0 (am_W sc 219) (fun (i : Nat) (z : wo) => (80, [some (am_R (some 47)), none, some (am_I (ii k)), some (am_L (jj (wyC (aG A) (vF A v) k 0 (-1) 0 i))), none, some (am_L (jj (wyC (aG A) (vF A v) k 1 (-1) 0 i))), none, some (am_I (ii i)), none, none], [], wst z)) (fun i z => fr wyF u z ∧ wyH z (aG A) (vF A v) k i) (vM A v) (fun i z hi hz => by
        obtain ⟨z2, a1, a2, a3⟩ := d219i (sc := sc) (n := A.1.1) (g := aG A) (MS_fr hMu.1 hz.1 rfl) hA.1.2.2.1 (MK_fr t1 hz.1 rfl) hm hok (mk := k) q2 hi hz.2
        exact ⟨z2, a1, fr_t hz.1 a2, a3⟩) u2 ⟨f2, g2'⟩
      have e3' : am_W sc 219 (80, [some (am_R (some 47)), none, some (am_I (ii k)), some (am_L (jj 0)), none, some (am_L (jj 0)), none, some (am_I (ii 0)), none, none], [], wst u2) = _ := e3
      have hs : wI u3 47 26 = vM A v := (MK_fr t1 f3 rfl).1
      have b0 := wyC_ran (aG A) (vF A v) k 0 (-1) 0 (vM A v)
      have b1 := wyC_ran (aG A) (vF A v) k 1 (-1) 0 (vM A v)
      refine ⟨u3, ?_, fr_t (fr_m f1 rfl) (fr_m f3 rfl)⟩
      rw [fq_219]
      simp (disch := omega) only [qB_s, qC_t, qC_f, qI_T, qI_F, qI_t, qI_f, r_I, r_L, r_R, r_V, ii_add, ii_sub, ii_mul, ii_neg, bz_0, bz_1, Bool.true_and, Bool.false_and, Bool.and_true, z00, z11, li_0, li_1, li_10, li_10000000, li_20, lj_0, lj_1, lj_1000000, lj_5, e_59, e_70, e_71, gI_47_26, gR_47_27, gR_47_47, gR_47_48, is_47, t_59, t_70, t_71, h120, e1, ii_eq, ii_jj, jj_neg, d17, ii_lt]
      rw [e2, e3', wq_219_80]
      unfold wyA
      by_cases z0 : wyC (aG A) (vF A v) k 0 (-1) 0 (vM A v) = 0
      · rw [if_pos (.inl z0)]
        simp (disch := omega) only [qB_s, qC_t, qC_f, qI_T, qI_F, qI_t, qI_f, r_I, r_L, r_R, r_V, ii_add, ii_sub, ii_mul, ii_neg, bz_0, bz_1, Bool.true_and, Bool.false_and, Bool.and_true, z00, z11, li_0, li_1, li_10, li_10000000, li_20, lj_0, lj_1, lj_1000000, lj_5, e_59, e_70, e_71, gI_47_26, gR_47_27, gR_47_47, gR_47_48, is_47, t_59, t_70, t_71, hs, ii_lt, lg_eq, wq_219_226]
      · by_cases z1 : wyC (aG A) (vF A v) k 1 (-1) 0 (vM A v) = 0
        · rw [if_pos (.inr z1)]
          simp (disch := omega) only [qB_s, qC_t, qC_f, qI_T, qI_F, qI_t, qI_f, r_I, r_L, r_R, r_V, ii_add, ii_sub, ii_mul, ii_neg, bz_0, bz_1, Bool.true_and, Bool.false_and, Bool.and_true, z00, z11, li_0, li_1, li_10, li_10000000, li_20, lj_0, lj_1, lj_1000000, lj_5, e_59, e_70, e_71, gI_47_26, gR_47_27, gR_47_47, gR_47_48, is_47, t_59, t_70, t_71, hs, ii_lt, lg_eq, wq_219_226]
        · have e4 := d219e (sc := sc) hm (mk := k) g3 (show 0 < wyC (aG A) (vF A v) k 0 (-1) 0 (vM A v) by omega) (show 0 < wyC (aG A) (vF A v) k 1 (-1) 0 (vM A v) by omega)
          rw [if_neg (by omega)]
          simp (disch := omega) only [qB_s, qC_t, qC_f, qI_T, qI_F, qI_t, qI_f, r_I, r_L, r_R, r_V, ii_add, ii_sub, ii_mul, ii_neg, bz_0, bz_1, Bool.true_and, Bool.false_and, Bool.and_true, z00, z11, li_0, li_1, li_10, li_10000000, li_20, lj_0, lj_1, lj_1000000, lj_5, e_59, e_70, e_71, gI_47_26, gR_47_27, gR_47_47, gR_47_48, is_47, t_59, t_70, t_71, hs, ii_lt, lg_eq]
          exact e4
    · rw [if_neg (by omega)]
      exact ⟨w, by
        rw [fq_219]
        simp (disch := omega) only [qB_s, qC_t, qC_f, qI_T, qI_F, qI_t, qI_f, r_I, r_L, r_R, r_V, ii_add, ii_sub, ii_mul, ii_neg, bz_0, bz_1, Bool.true_and, Bool.false_and, Bool.and_true, z00, z11, li_0, li_1, li_10, li_10000000, li_20, lj_0, lj_1, lj_1000000, lj_5, e_59, e_70, e_71, gI_47_26, gR_47_27, gR_47_47, gR_47_48, is_47, t_59, t_70, t_71, wq_219_20, ii_lt, ii_eq, ii_jj, jj_neg, h120, ii_jj, d17], fr_r _ _⟩
  · rw [if_neg (by omega)]
    exact ⟨w, by
      rw [fq_219]
      simp (disch := omega) only [qB_s, qC_t, qC_f, qI_T, qI_F, qI_t, qI_f, r_I, r_L, r_R, r_V, ii_add, ii_sub, ii_mul, ii_neg, bz_0, bz_1, Bool.true_and, Bool.false_and, Bool.and_true, z00, z11, li_0, li_1, li_10, li_10000000, li_20, lj_0, lj_1, lj_1000000, lj_5, e_59, e_70, e_71, gI_47_26, gR_47_27, gR_47_47, gR_47_48, is_47, t_59, t_70, t_71, wq_219_20, ii_lt, ii_eq, ii_jj, jj_neg, h120], fr_r _ _⟩

end L40
