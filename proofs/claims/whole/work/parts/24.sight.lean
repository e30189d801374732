/-! SIGHTS -/
section L24
variable {sc : am_X} {w : wo} {A : ab} {ow : Nat → Nat} {n : Int} {g : Int → Int → Int}
/-- from which stage on one is there at a sight (0, 1; 2: in all), from which on one passes -/
def sA (z : Int) : Int := if z = 1 then 1 else 0
def sB (z : Int) : Int := if z = 0 then 1 else 2
theorem aL_s (g : Int → Int → Int) (f : Nat → Int) (st tr o : Int) (k : Nat) : aL g f st tr o (k + 1) = aL g f st tr o k + bz (g (f k) 0 = tr ∧ st ≤ g (f k) 2 ∧ (o = -1 ∨ g (f k) 1 = o)) := rfl
theorem d210 (hM : MS w n g) (hg : gK n g) {m : Nat} {f : Nat → Int} (hT : MK w m f) (hm : m ≤ 200) (hf : ∀ i, i < m → 0 ≤ f i ∧ f i < n) {z o : Int} (hz : z = 0 ∨ z = 1 ∨ z = 2) (ho : -1 ≤ o ∧ o ≤ 7) : ∃ v, am_F sc 210 [am_R (some 47), am_I (ii z), am_I (ii o)] (wst w) = some (none, wst v) ∧ fr [6899, 6999] w v ∧ (wA v 68 0 = aL g f (sA z) 0 o m ∧ wA v 68 1 = aL g f (sA z) 1 o m ∧ wA v 69 0 = aL g f (sB z) 0 o m ∧ wA v 69 1 = aL g f (sB z) 1 o m) := by
  obtain ⟨w1, ew, ⟨f1, i3, i4⟩⟩ := lp_s0 (am_W sc 210) (fun (k : Nat) (v : wo) => (2, [some (am_R (some 47)), some (am_I (ii z)), some (am_I (ii o)), some (am_I (ii k)), none, none], [], wst v)) (fun k v => fr [6899, 6999] w v ∧ (1 ≤ k → wA v 68 0 = 0 ∧ wA v 69 0 = 0) ∧ (2 ≤ k → wA v 68 1 = 0 ∧ wA v 69 1 = 0)) 2 (fun k v hk hi => by
    obtain ⟨f1, i3, i4⟩ := hi
    refine ⟨uA (uA v 68 (fu (wA v 68) k 0)) 69 (fu (wA v 69) k 0), ?_, fr_uA (fr_uA f1 rfl) rfl, fun _ => ?_, fun _ => ?_⟩
    · rw [wq_210_2]
      simp (disch := omega) only [qB_s, qC_t, qC_f, qI_T, qI_F, qI_t, qI_f, r_I, r_L, r_R, r_V, ii_add, ii_sub, ii_mul, ii_neg, bz_0, bz_1, Bool.true_and, Bool.false_and, Bool.and_true, z00, z11, li_0, li_1, li_10, li_2, e_48, e_59, e_68, e_69, gI_47_26, gR_47_1, gR_47_27, gR_47_45, gR_47_46, is_47, t_48, t_59, t_68, t_69, ii_lt, nat_1, uA_A, if_false, Nat.reduceEqDiff]
    · rw [rAn _ _ rfl, rA, rA, fu_at, fu_at]
      by_cases q : (0 : Int) = k
      · rw [if_pos q, if_pos q]; exact ⟨rfl, rfl⟩
      · rw [if_neg q, if_neg q]; exact i3 (by omega)
    · rw [rAn _ _ rfl, rA, rA, fu_at, fu_at, if_pos (by omega), if_pos (by omega)]
      exact ⟨rfl, rfl⟩) w ⟨fr_r _ _, fun h => absurd h (by decide), fun h => absurd h (by decide)⟩
  obtain ⟨v, e, ⟨hfr, ha0, ha1, ha2, ha3⟩⟩ := lp_s0 (am_W sc 210) (fun (k : Nat) (v : wo) => (29, [some (am_R (some 47)), some (am_I (ii z)), some (am_I (ii o)), some (am_I (ii k)), none, none], [], wst v)) (fun k v => fr [6899, 6999] w v ∧ (wA v 68 0 = aL g f (sA z) 0 o k ∧ wA v 68 1 = aL g f (sA z) 1 o k ∧ wA v 69 0 = aL g f (sB z) 0 o k ∧ wA v 69 1 = aL g f (sB z) 1 o k)) m (fun k v hk hi => by
    obtain ⟨hfr, ha0, ha1, ha2, ha3⟩ := hi
    have hMv := MS_fr hM hfr rfl
    have hn200 := hM.2.2.1
    have hfk := hf k hk
    have hgk := hg (f k) hfk.1 hfk.2
    have hs : wI v 47 26 = m := by rw [fr_I hfr rfl]; exact hT.1
    have hl : wA v 59 k = f k := by rw [fr_A (a := 59) hfr rfl]; exact hT.2 k hk
    have c1 := hMv.2.2.2 (f k) 1 hfk.1 hfk.2 (by decide) (by decide)
    have c2 := hMv.2.2.2 (f k) 2 hfk.1 hfk.2 (by decide) (by decide)
    simp only [aL_s]
    obtain ⟨a, ha⟩ : ∃ a, a = sA z := ⟨_, rfl⟩
    obtain ⟨b, hb⟩ : ∃ b, b = sB z := ⟨_, rfl⟩
    have hab : (z = 0 ∧ a = 0 ∧ b = 1) ∨ (z = 1 ∧ a = 1 ∧ b = 2) ∨ (z = 2 ∧ a = 0 ∧ b = 2) := by
      rcases hz with rfl | rfl | rfl
      · exact .inl ⟨rfl, ha, hb⟩
      · exact .inr (.inl ⟨rfl, ha, hb⟩)
      · exact .inr (.inr ⟨rfl, ha, hb⟩)
    rw [← ha] at ha0 ha1 ⊢
    rw [← hb] at ha2 ha3 ⊢
    obtain ⟨t0, ht0⟩ : ∃ t0, t0 = g (f k) 0 := ⟨_, rfl⟩
    obtain ⟨s0, hs0⟩ : ∃ s0, s0 = g (f k) 2 := ⟨_, rfl⟩
    obtain ⟨o0, ho0⟩ : ∃ o0, o0 = g (f k) 1 := ⟨_, rfl⟩
    rw [← hs0] at c2
    rw [← ho0] at c1
    rw [← ht0, ← hs0, ← ho0] at hgk ⊢
    by_cases q : a ≤ s0 ∧ (o = -1 ∨ o0 = o)
    · obtain ⟨wc, hwc⟩ : ∃ wc, wc = uA v 68 (fu (wA v 68) t0 (wA v 68 t0 + 1)) := ⟨_, rfl⟩
      have fc : fr [6899, 6999] w wc := by rw [hwc]; exact fr_uA hfr rfl
      have p1 := d122 (sc := sc) hMv hfk.1 hfk.2
      have p2 := d122 (sc := sc) (MS_fr hM fc rfl) hfk.1 hfk.2
      rw [← ht0] at p1 p2
      have hc69 : wA wc 69 = wA v 69 := by rw [hwc, rAn _ _ rfl]
      refine ⟨uA wc 69 (fu (wA wc 69) t0 (wA wc 69 t0 + bz (b ≤ s0))), ?_, fr_uA fc rfl, ?_⟩
      · rw [wq_210_29]
        have hq : (∃ _ : True, o = -1) ∨ (o0 = o ∧ ¬ o = -1) := by
          by_cases y : o = -1
          · exact .inl ⟨trivial, y⟩
          · exact .inr ⟨by omega, y⟩
        by_cases y : b ≤ s0
        · rw [bz_t y]
          by_cases y2 : s0 = 2
          · rcases hq with ⟨-, y3⟩ | ⟨y3, y4⟩
            · rcases hab with ⟨y5, y6, y7⟩ | ⟨y5, y6, y7⟩ | ⟨y5, y6, y7⟩
              all_goals simp (disch := omega) only [qB_s, qC_t, qC_f, qI_T, qI_F, qI_t, qI_f, r_I, r_L, r_R, r_V, ii_add, ii_sub, ii_mul, ii_neg, bz_0, bz_1, Bool.true_and, Bool.false_and, Bool.and_true, z00, z11, li_0, li_1, li_10, li_2, e_48, e_59, e_68, e_69, gI_47_26, gR_47_1, gR_47_27, gR_47_45, gR_47_46, is_47, t_48, t_59, t_68, t_69, hs, ii_lt, ii_eq, hl, c2, wq_210_92, p1, ← hwc, p2, nat_1]
            · rcases hab with ⟨y5, y6, y7⟩ | ⟨y5, y6, y7⟩ | ⟨y5, y6, y7⟩
              all_goals simp (disch := omega) only [qB_s, qC_t, qC_f, qI_T, qI_F, qI_t, qI_f, r_I, r_L, r_R, r_V, ii_add, ii_sub, ii_mul, ii_neg, bz_0, bz_1, Bool.true_and, Bool.false_and, Bool.and_true, z00, z11, li_0, li_1, li_10, li_2, e_48, e_59, e_68, e_69, gI_47_26, gR_47_1, gR_47_27, gR_47_45, gR_47_46, is_47, t_48, t_59, t_68, t_69, hs, ii_lt, ii_eq, hl, c1, c2, wq_210_92, p1, ← hwc, p2, nat_1]
          · have y5 : z = 0 ∧ s0 = 1 := by omega
            rcases hq with ⟨-, y3⟩ | ⟨y3, y4⟩
            · simp (disch := omega) only [qB_s, qC_t, qC_f, qI_T, qI_F, qI_t, qI_f, r_I, r_L, r_R, r_V, ii_add, ii_sub, ii_mul, ii_neg, bz_0, bz_1, Bool.true_and, Bool.false_and, Bool.and_true, z00, z11, li_0, li_1, li_10, li_2, e_48, e_59, e_68, e_69, gI_47_26, gR_47_1, gR_47_27, gR_47_45, gR_47_46, is_47, t_48, t_59, t_68, t_69, hs, ii_lt, ii_eq, hl, c2, wq_210_92, p1, ← hwc, p2, nat_1]
            · simp (disch := omega) only [qB_s, qC_t, qC_f, qI_T, qI_F, qI_t, qI_f, r_I, r_L, r_R, r_V, ii_add, ii_sub, ii_mul, ii_neg, bz_0, bz_1, Bool.true_and, Bool.false_and, Bool.and_true, z00, z11, li_0, li_1, li_10, li_2, e_48, e_59, e_68, e_69, gI_47_26, gR_47_1, gR_47_27, gR_47_45, gR_47_46, is_47, t_48, t_59, t_68, t_69, hs, ii_lt, ii_eq, hl, c1, c2, wq_210_92, p1, ← hwc, p2, nat_1]
        · rw [bz_f y]
          rcases hq with ⟨-, y3⟩ | ⟨y3, y4⟩
          · rcases hab with ⟨y5, y6, y7⟩ | ⟨y5, y6, y7⟩ | ⟨y5, y6, y7⟩
            all_goals simp (disch := omega) only [qB_s, qC_t, qC_f, qI_T, qI_F, qI_t, qI_f, r_I, r_L, r_R, r_V, ii_add, ii_sub, ii_mul, ii_neg, bz_0, bz_1, Bool.true_and, Bool.false_and, Bool.and_true, z00, z11, li_0, li_1, li_10, li_2, e_48, e_59, e_68, e_69, gI_47_26, gR_47_1, gR_47_27, gR_47_45, gR_47_46, is_47, t_48, t_59, t_68, t_69, hs, ii_lt, ii_eq, hl, c2, wq_210_92, p1, ← hwc, p2, nat_1]
          · rcases hab with ⟨y5, y6, y7⟩ | ⟨y5, y6, y7⟩ | ⟨y5, y6, y7⟩
            all_goals simp (disch := omega) only [qB_s, qC_t, qC_f, qI_T, qI_F, qI_t, qI_f, r_I, r_L, r_R, r_V, ii_add, ii_sub, ii_mul, ii_neg, bz_0, bz_1, Bool.true_and, Bool.false_and, Bool.and_true, z00, z11, li_0, li_1, li_10, li_2, e_48, e_59, e_68, e_69, gI_47_26, gR_47_1, gR_47_27, gR_47_45, gR_47_46, is_47, t_48, t_59, t_68, t_69, hs, ii_lt, ii_eq, hl, c1, c2, wq_210_92, p1, ← hwc, p2, nat_1]
      · rw [rAn _ _ rfl, rA, hc69, show wA wc 68 = fu (wA v 68) t0 (wA v 68 t0 + 1) from by rw [hwc, rA]]
        simp only [fu_at]
        have ht01 : t0 = 0 ∨ t0 = 1 := by omega
        have hbb : ∀ c d : Int, bz (c = d ∧ b ≤ s0 ∧ (o = -1 ∨ o0 = o)) = if c = d then bz (b ≤ s0) else 0 := fun c d => by
          by_cases y : c = d
          · rw [if_pos y]; exact bz_c ⟨fun x => x.2.1, fun x => ⟨y, x, q.2⟩⟩
          · rw [if_neg y]; exact bz_f (fun x => y x.1)
        have hba : ∀ c d : Int, bz (c = d ∧ a ≤ s0 ∧ (o = -1 ∨ o0 = o)) = if c = d then 1 else 0 := fun c d => by
          by_cases y : c = d
          · rw [if_pos y]; exact bz_t ⟨y, q⟩
          · rw [if_neg y]; exact bz_f (fun x => y x.1)
        rw [hbb, hbb, hba, hba]
        rcases ht01 with y | y
        · rw [y, ha0, ha1, ha2, ha3]
          simp
        · rw [y, ha0, ha1, ha2, ha3]
          simp
    · refine ⟨v, ?_, hfr, ?_⟩
      · rw [wq_210_29]
        by_cases y : a ≤ s0
        · rcases hab with ⟨y5, y6, y7⟩ | ⟨y5, y6, y7⟩ | ⟨y5, y6, y7⟩
          all_goals simp (disch := omega) only [qB_s, qC_t, qC_f, qI_T, qI_F, qI_t, qI_f, r_I, r_L, r_R, r_V, ii_add, ii_sub, ii_mul, ii_neg, bz_0, bz_1, Bool.true_and, Bool.false_and, Bool.and_true, z00, z11, li_0, li_1, li_10, li_2, e_48, e_59, e_68, e_69, gI_47_26, gR_47_1, gR_47_27, gR_47_45, gR_47_46, is_47, t_48, t_59, t_68, t_69, hs, ii_lt, ii_eq, hl, c1, c2, nat_1]
        · have y5 : z = 1 ∧ s0 = 0 := by omega
          simp (disch := omega) only [qB_s, qC_t, qC_f, qI_T, qI_F, qI_t, qI_f, r_I, r_L, r_R, r_V, ii_add, ii_sub, ii_mul, ii_neg, bz_0, bz_1, Bool.true_and, Bool.false_and, Bool.and_true, z00, z11, li_0, li_1, li_10, li_2, e_48, e_59, e_68, e_69, gI_47_26, gR_47_1, gR_47_27, gR_47_45, gR_47_46, is_47, t_48, t_59, t_68, t_69, hs, ii_lt, ii_eq, hl, c2, nat_1]
      · rw [bz_f (fun x => q x.2), bz_f (fun x => q x.2), bz_f (by omega), bz_f (by omega), Int.add_zero, Int.add_zero, Int.add_zero, Int.add_zero]
        exact ⟨ha0, ha1, ha2, ha3⟩) w1 ⟨f1, (i3 (by decide)).1, (i4 (by decide)).1, (i3 (by decide)).2, (i4 (by decide)).2⟩
  have hs : wI v 47 26 = m := by rw [fr_I hfr rfl]; exact hT.1
  refine ⟨v, ?_, hfr, ha0, ha1, ha2, ha3⟩
  rw [fq_210]
  have e' : am_W sc 210 (2, [some (am_R (some 47)), some (am_I (ii z)), some (am_I (ii o)), some (am_I (ii 0)), none, none], [], wst w) = _ := ew
  have e2 : am_W sc 210 (29, [some (am_R (some 47)), some (am_I (ii z)), some (am_I (ii o)), some (am_I (ii 0)), none, none], [], wst w1) = _ := e
  rw [li_0, e', wq_210_2]
  simp (disch := omega) only [qB_s, qC_t, qC_f, qI_T, qI_F, qI_t, qI_f, r_I, r_L, r_R, r_V, ii_add, ii_sub, ii_mul, ii_neg, bz_0, bz_1, Bool.true_and, Bool.false_and, Bool.and_true, z00, z11, li_0, li_1, li_10, li_2, e_48, e_59, e_68, e_69, gI_47_26, gR_47_1, gR_47_27, gR_47_45, gR_47_46, is_47, t_48, t_59, t_68, t_69, ii_lt, Int.cast_ofNat_Int, Int.reduceLT]
  rw [e2, wq_210_29]
  simp (disch := omega) only [qB_s, qC_t, qC_f, qI_T, qI_F, qI_t, qI_f, r_I, r_L, r_R, r_V, ii_add, ii_sub, ii_mul, ii_neg, bz_0, bz_1, Bool.true_and, Bool.false_and, Bool.and_true, z00, z11, li_0, li_1, li_10, li_2, e_48, e_59, e_68, e_69, gI_47_26, gR_47_1, gR_47_27, gR_47_45, gR_47_46, is_47, t_48, t_59, t_68, t_69, hs, ii_lt]
theorem x_209 (hC : RC ow w A) (hA : okA A) {v z t o : Int} (hv1 : -2147483648 ≤ v) (hv2 : v ≤ 2147483647) (hz1 : -2147483648 ≤ z) (hz2 : z ≤ 2147483647) (ht1 : -2147483648 ≤ t) (ht2 : t ≤ 2147483647) (ho1 : -2147483648 ≤ o) (ho2 : o ≤ 2147483647) : ∃ u, am_F sc 209 [am_R (some 0), am_I (ii v), am_I (ii z), am_I (ii t), am_I (ii o)] (wst w) = some (some (am_I (ii (if (z = 0 ∨ z = 1) ∧ (t = 0 ∨ t = 1) ∧ (o = 0 ∨ o = 1) ∧ (0 ≤ v ∧ v < A.2.2.1.1) then if o = 0 then aL (aG A) (vF A v) (sA z) t (-1) (vM A v) else aL (aG A) (vF A v) (sB z) t (-1) (vM A v) else -1))), wst u) ∧ fr scC w u := by
  have hn8 := hA.2.2.1.2.1
  have hn0 := hA.2.2.1.1
  by_cases q1 : z = 0 ∨ z = 1
  · skip
    by_cases q2 : t = 0 ∨ t = 1
    · skip
      by_cases q3 : o = 0 ∨ o = 1
      · skip
        by_cases q4 : 0 ≤ v ∧ v < A.2.2.1.1
        · skip
          rw [if_pos (by omega)]
          obtain ⟨u, e1, f1, t1, -⟩ := (c117 (sc := sc) hC hA hv1 hv2).1 q4
          have hCu := RC_c hC (fr_m f1 rfl)
          have hm := vM_le hA v
          have hg := hA.1.2.2.1
          have hst := stg hA v
          have hok : ∀ i, i < vM A v → 0 ≤ vF A v i ∧ vF A v i < A.1.1 := fun i hi => vF_ok hA v hi
          refine ⟨u, ?_, fr_m f1 rfl⟩
          have e2 := c127 (sc := sc) hCu.1 hg t1 hm hok (st := z + o) (tr := t) (o := -1) (by omega) (by omega) (by decide)
          rw [fq_209]
          have hz : (if o = 0 then aL (aG A) (vF A v) (sA z) t (-1) (vM A v) else aL (aG A) (vF A v) (sB z) t (-1) (vM A v)) = aL A.1.2.1 (vF A v) (z + o) t (-1) (vM A v) := by
            rcases q1 with y | y <;> rcases q3 with y2 | y2 <;> subst y <;> subst y2 <;> rfl
          rw [hz]
          simp (disch := omega) only [qB_s, qC_t, qC_f, qI_T, qI_F, qI_t, qI_f, r_I, r_L, r_R, r_V, ii_add, ii_sub, ii_mul, ii_neg, bz_0, bz_1, Bool.true_and, Bool.false_and, Bool.and_true, z00, z11, li_0, li_1, gR_0_9, is_0, is_22, s11, s126, e1, ii_eq, e2]
        · rw [if_neg (by omega)]
          have h117 := (c117 (sc := sc) hC hA hv1 hv2).2 q4
          exact ⟨w, by
            rw [fq_209]
            simp (disch := omega) only [qB_s, qC_t, qC_f, qI_T, qI_F, qI_t, qI_f, r_I, r_L, r_R, r_V, ii_add, ii_sub, ii_mul, ii_neg, bz_0, bz_1, Bool.true_and, Bool.false_and, Bool.and_true, z00, z11, li_0, li_1, gR_0_9, is_0, is_22, ii_lt, ii_eq, ii_jj, jj_neg, h117, s126, s126, s11, s126, s11], fr_r _ _⟩
      · rw [if_neg (by omega)]
        exact ⟨w, by
          rw [fq_209]
          simp (disch := omega) only [qB_s, qC_t, qC_f, qI_T, qI_F, qI_t, qI_f, r_I, r_L, r_R, r_V, ii_add, ii_sub, ii_mul, ii_neg, bz_0, bz_1, Bool.true_and, Bool.false_and, Bool.and_true, z00, z11, li_0, li_1, gR_0_9, is_0, is_22, ii_lt, ii_eq, ii_jj, jj_neg, s126, s11], fr_r _ _⟩
    · rw [if_neg (by omega)]
      exact ⟨w, by
        rw [fq_209]
        simp (disch := omega) only [qB_s, qC_t, qC_f, qI_T, qI_F, qI_t, qI_f, r_I, r_L, r_R, r_V, ii_add, ii_sub, ii_mul, ii_neg, bz_0, bz_1, Bool.true_and, Bool.false_and, Bool.and_true, z00, z11, li_0, li_1, gR_0_9, is_0, is_22, ii_lt, ii_eq, ii_jj, jj_neg, s126, s11], fr_r _ _⟩
  · rw [if_neg (by omega)]
    exact ⟨w, by
      rw [fq_209]
      simp (disch := omega) only [qB_s, qC_t, qC_f, qI_T, qI_F, qI_t, qI_f, r_I, r_L, r_R, r_V, ii_add, ii_sub, ii_mul, ii_neg, bz_0, bz_1, Bool.true_and, Bool.false_and, Bool.and_true, z00, z11, li_0, li_1, gR_0_9, is_0, is_22, ii_lt, ii_eq, ii_jj, jj_neg, s126], fr_r _ _⟩

theorem y_211 (hM : RM w A) (hA : okA A) {v z t o : Int} (hv1 : -2147483648 ≤ v) (hv2 : v ≤ 2147483647) (hz1 : -2147483648 ≤ z) (hz2 : z ≤ 2147483647) (ht1 : -2147483648 ≤ t) (ht2 : t ≤ 2147483647) (ho1 : -2147483648 ≤ o) (ho2 : o ≤ 2147483647) : ∃ u, am_F sc 211 [am_R (some 47), am_I (ii v), am_I (ii z), am_I (ii t), am_I (ii o)] (wst w) = some (some (am_I (ii (if (0 ≤ v ∧ v < A.2.2.1.1) ∧ (z = 0 ∨ z = 1) ∧ (t = 0 ∨ t = 1) ∧ (o = 0 ∨ o = 1) then if o = 0 then aL (aG A) (vF A v) (sA z) t (-1) (vM A v) else aL (aG A) (vF A v) (sB z) t (-1) (vM A v) else -1))), wst u) ∧ fr scM w u := by
  have hn8 := hA.2.2.1.2.1
  have hn0 := hA.2.2.1.1
  have h120 := d120 (sc := sc) hM hn8 hn0 (v := v) hv1 hv2
  by_cases q1 : 0 ≤ v ∧ v < A.2.2.1.1
  · skip
    by_cases q2 : z = 0 ∨ z = 1
    · skip
      by_cases q3 : t = 0 ∨ t = 1
      · skip
        by_cases q4 : o = 0 ∨ o = 1
        · skip
          rw [if_pos (by omega)]
          obtain ⟨u, e1, f1, t1, -⟩ := d124v (sc := sc) hM hA q1
          have hMu := RM_m hM (fr_m f1 rfl)
          have hm := vM_le hA v
          have hok : ∀ i, i < vM A v → 0 ≤ vF A v i ∧ vF A v i < A.1.1 := fun i hi => vF_ok hA v hi
          obtain ⟨u2, e2, f2, a0, a1, a2, a3⟩ := d210 (sc := sc) hMu.1 hA.1.2.2.1 t1 hm hok (z := z) (o := -1) (by omega) (by decide)
          refine ⟨u2, ?_, fr_t (fr_m f1 rfl) (fr_m f2 rfl)⟩
          rw [fq_211]
          have ht : t = 0 ∨ t = 1 := by omega
          have ho : o = 0 ∨ o = 1 := by omega
          rcases ht with y | y <;> rcases ho with y2 | y2 <;> subst y <;> subst y2
          · simp (disch := omega) only [qB_s, qC_t, qC_f, qI_T, qI_F, qI_t, qI_f, r_I, r_L, r_R, r_V, ii_add, ii_sub, ii_mul, ii_neg, bz_0, bz_1, Bool.true_and, Bool.false_and, Bool.and_true, z00, z11, li_0, li_1, lj_0, lj_1, e_68, e_69, gR_47_45, gR_47_46, is_47, h120, e1, ii_eq, ii_jj, d17, e2, a0, if_true]
            rfl
          · simp (disch := omega) only [qB_s, qC_t, qC_f, qI_T, qI_F, qI_t, qI_f, r_I, r_L, r_R, r_V, ii_add, ii_sub, ii_mul, ii_neg, bz_0, bz_1, Bool.true_and, Bool.false_and, Bool.and_true, z00, z11, li_0, li_1, lj_0, lj_1, e_68, e_69, gR_47_45, gR_47_46, is_47, h120, e1, ii_eq, ii_jj, d17, e2, a2, Int.reduceEq, if_false]
            rfl
          · simp (disch := omega) only [qB_s, qC_t, qC_f, qI_T, qI_F, qI_t, qI_f, r_I, r_L, r_R, r_V, ii_add, ii_sub, ii_mul, ii_neg, bz_0, bz_1, Bool.true_and, Bool.false_and, Bool.and_true, z00, z11, li_0, li_1, lj_0, lj_1, e_68, e_69, gR_47_45, gR_47_46, is_47, h120, e1, ii_eq, ii_jj, d17, e2, a1, if_true]
            rfl
          · simp (disch := omega) only [qB_s, qC_t, qC_f, qI_T, qI_F, qI_t, qI_f, r_I, r_L, r_R, r_V, ii_add, ii_sub, ii_mul, ii_neg, bz_0, bz_1, Bool.true_and, Bool.false_and, Bool.and_true, z00, z11, li_0, li_1, lj_0, lj_1, e_68, e_69, gR_47_45, gR_47_46, is_47, h120, e1, ii_eq, ii_jj, d17, e2, a3, Int.reduceEq, if_false]
            rfl
        · rw [if_neg (by omega)]
          exact ⟨w, by
            rw [fq_211]
            simp (disch := omega) only [qB_s, qC_t, qC_f, qI_T, qI_F, qI_t, qI_f, r_I, r_L, r_R, r_V, ii_add, ii_sub, ii_mul, ii_neg, bz_0, bz_1, Bool.true_and, Bool.false_and, Bool.and_true, z00, z11, li_0, li_1, lj_0, lj_1, e_68, e_69, gR_47_45, gR_47_46, is_47, ii_lt, ii_eq, ii_jj, jj_neg, h120, d17], fr_r _ _⟩
      · rw [if_neg (by omega)]
        exact ⟨w, by
          rw [fq_211]
          simp (disch := omega) only [qB_s, qC_t, qC_f, qI_T, qI_F, qI_t, qI_f, r_I, r_L, r_R, r_V, ii_add, ii_sub, ii_mul, ii_neg, bz_0, bz_1, Bool.true_and, Bool.false_and, Bool.and_true, z00, z11, li_0, li_1, lj_0, lj_1, e_68, e_69, gR_47_45, gR_47_46, is_47, ii_lt, ii_eq, ii_jj, jj_neg, h120, d17], fr_r _ _⟩
    · rw [if_neg (by omega)]
      exact ⟨w, by
        rw [fq_211]
        simp (disch := omega) only [qB_s, qC_t, qC_f, qI_T, qI_F, qI_t, qI_f, r_I, r_L, r_R, r_V, ii_add, ii_sub, ii_mul, ii_neg, bz_0, bz_1, Bool.true_and, Bool.false_and, Bool.and_true, z00, z11, li_0, li_1, lj_0, lj_1, e_68, e_69, gR_47_45, gR_47_46, is_47, ii_lt, ii_eq, ii_jj, jj_neg, h120, d17], fr_r _ _⟩
  · rw [if_neg (by omega)]
    exact ⟨w, by
      rw [fq_211]
      simp (disch := omega) only [qB_s, qC_t, qC_f, qI_T, qI_F, qI_t, qI_f, r_I, r_L, r_R, r_V, ii_add, ii_sub, ii_mul, ii_neg, bz_0, bz_1, Bool.true_and, Bool.false_and, Bool.and_true, z00, z11, li_0, li_1, lj_0, lj_1, e_68, e_69, gR_47_45, gR_47_46, is_47, ii_lt, ii_eq, ii_jj, jj_neg, h120], fr_r _ _⟩

end L24
