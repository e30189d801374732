/-! MEASURES, IN THE OTHER -/
section L27
variable {sc : am_X} {w : wo} {A : ab} {ow : Nat → Nat} {n : Int} {g : Int → Int → Int}
/-- who is in, and let -/
def LK (w : wo) (m : Nat) (inn lt : Nat → Bool) : Prop := ∀ i : Nat, i < m → wA w 72 i = bz (inn i = true) ∧ wA w 73 i = bz (lt i = true)
theorem d226 (hM : MS w n g) (hg : gK n g) {m : Nat} {f : Nat → Int} (hT : MK w m f) (hm : m ≤ 200) (hf : ∀ i, i < m → 0 ≤ f i ∧ f i < n) : ∃ v, am_F sc 226 [am_R (some 47)] (wst w) = some (none, wst v) ∧ fr [7299, 7399] w v ∧ LK v m (fun _ => true) (lt0 g f) := by
  obtain ⟨v, e, hfr, hl⟩ := lp_s0 (am_W sc 226) (fun (k : Nat) (v : wo) => (2, [some (am_R (some 47)), some (am_I (ii k))], [], wst v)) (fun k v => fr [7299, 7399] w v ∧ LK v k (fun _ => true) (lt0 g f)) m (fun k v hk hi => by
    obtain ⟨hfr, hl⟩ := hi
    have hfk := hf k hk
    have hs : wI v 47 26 = m := by rw [fr_I hfr rfl]; exact hT.1
    have hl9 : wA v 59 k = f k := by rw [fr_A (a := 59) hfr rfl]; exact hT.2 k hk
    have f1 : fr [7299, 7399] w (uA v 72 (fu (wA v 72) k 1)) := fr_uA hfr rfl
    have p1 := d123 (sc := sc) (MS_fr hM f1 rfl) hg hfk.1 hfk.2
    have hb : bz (lt0 g f k = true) = bz (g (f k) 2 = 2) := bz_c (by unfold lt0; simp)
    have hb2 : bz (g (f k) 2 = 2) = 0 ∨ bz (g (f k) 2 = 2) = 1 := by have := bz_ran (p := g (f k) 2 = 2); omega
    refine ⟨uA (uA v 72 (fu (wA v 72) k 1)) 73 (fu (wA v 73) k (bz (g (f k) 2 = 2))), ?_, fr_uA f1 rfl, fun i hi => ?_⟩
    · rw [wq_226_2]
      obtain ⟨b, hbb⟩ : ∃ b, b = bz (g (f k) 2 = 2) := ⟨_, rfl⟩
      rw [← hbb] at p1 hb2 ⊢
      simp (disch := omega) only [qB_s, qC_t, qC_f, qI_T, qI_F, qI_t, qI_f, r_I, r_L, r_R, r_V, ii_add, ii_sub, ii_mul, ii_neg, bz_0, bz_1, Bool.true_and, Bool.false_and, Bool.and_true, z00, z11, li_0, li_1, e_59, e_72, e_73, gI_47_26, gR_47_27, gR_47_49, gR_47_50, is_47, t_72, t_73, hs, ii_lt, uA_A, if_false, Nat.reduceEqDiff, hl9, p1, nat_1]
    · rw [rAn _ _ rfl, rA, rA, fu_at, fu_at]
      by_cases q : (i : Int) = k
      · rw [if_pos q, if_pos q, show i = k from by omega, hb]
        exact ⟨rfl, rfl⟩
      · rw [if_neg q, if_neg q]
        exact hl i (by omega)) w ⟨fr_r _ _, fun i hi => absurd hi (Nat.not_lt_zero i)⟩
  have hs : wI v 47 26 = m := by rw [fr_I hfr rfl]; exact hT.1
  refine ⟨v, ?_, hfr, hl⟩
  rw [fq_226, li_0]
  have e' : am_W sc 226 (2, [some (am_R (some 47)), some (am_I (ii 0))], [], wst w) = _ := e
  rw [e', wq_226_2]
  simp (disch := omega) only [qB_s, qC_t, qC_f, qI_T, qI_F, qI_t, qI_f, r_I, r_L, r_R, r_V, ii_add, ii_sub, ii_mul, ii_neg, bz_0, bz_1, Bool.true_and, Bool.false_and, Bool.and_true, z00, z11, li_0, li_1, e_59, e_72, e_73, gI_47_26, gR_47_27, gR_47_49, gR_47_50, is_47, t_72, t_73, hs, ii_lt]
theorem d227 (hM : MS w n g) (hg : gK n g) {m : Nat} {f : Nat → Int} (hT : MK w m f) (hm : m ≤ 200) (hf : ∀ i, i < m → 0 ≤ f i ∧ f i < n) {inn lt : Nat → Bool} (hL : LK w m inn lt) {ms : Int} (hms : 0 ≤ ms ∧ ms ≤ 3) : ∃ v, am_F sc 227 [am_R (some 47), am_I (ii ms)] (wst w) = some (none, wst v) ∧ fr [6899, 6999, 4730, 4731] w v ∧ wJ v 47 30 = frU (pS g f inn lt ms 0 m) (jS g f inn lt ms 0 m) (pS g f inn lt ms 1 m) (jS g f inn lt ms 1 m) ∧ wJ v 47 31 = frD (pS g f inn lt ms 0 m) (jS g f inn lt ms 0 m) (pS g f inn lt ms 1 m) (jS g f inn lt ms 1 m) := by
  obtain ⟨w1, ew, ⟨f1, i3, i4⟩⟩ := lp_s0 (am_W sc 227) (fun (k : Nat) (v : wo) => (2, [some (am_R (some 47)), some (am_I (ii ms)), some (am_I (ii k)), none, none, none], [], wst v)) (fun k v => fr [6899, 6999] w v ∧ (1 ≤ k → wA v 68 0 = 0 ∧ wA v 69 0 = 0) ∧ (2 ≤ k → wA v 68 1 = 0 ∧ wA v 69 1 = 0)) 2 (fun k v hk hi => by
    obtain ⟨f1, i3, i4⟩ := hi
    refine ⟨uA (uA v 68 (fu (wA v 68) k 0)) 69 (fu (wA v 69) k 0), ?_, fr_uA (fr_uA f1 rfl) rfl, fun _ => ?_, fun _ => ?_⟩
    · rw [wq_227_2]
      simp (disch := omega) only [qB_s, qC_t, qC_f, qI_T, qI_F, qI_t, qI_f, r_I, r_L, r_R, r_V, ii_add, ii_sub, ii_mul, ii_neg, bz_0, bz_1, Bool.true_and, Bool.false_and, Bool.and_true, z00, z11, li_0, li_1, li_10, li_2, li_3, e_48, e_59, e_68, e_69, e_72, e_73, gI_47_26, gR_47_1, gR_47_27, gR_47_45, gR_47_46, gR_47_49, gR_47_50, is_47, t_48, t_59, t_68, t_69, ii_lt, nat_1, uA_A, if_false, Nat.reduceEqDiff]
    · rw [rAn _ _ rfl, rA, rA, fu_at, fu_at]
      by_cases q : (0 : Int) = k
      · rw [if_pos q, if_pos q]; exact ⟨rfl, rfl⟩
      · rw [if_neg q, if_neg q]; exact i3 (by omega)
    · rw [rAn _ _ rfl, rA, rA, fu_at, fu_at, if_pos (by omega), if_pos (by omega)]
      exact ⟨rfl, rfl⟩) w ⟨fr_r _ _, fun h => absurd h (by decide), fun h => absurd h (by decide)⟩
  obtain ⟨v, e, ⟨hfr, ha0, ha1, ha2, ha3⟩⟩ := lp_s0 (am_W sc 227) (fun (k : Nat) (v : wo) => (29, [some (am_R (some 47)), some (am_I (ii ms)), some (am_I (ii k)), none, none, none], [], wst v)) (fun k v => fr [6899, 6999] w v ∧ (wA v 68 0 = jS g f inn lt ms 0 k ∧ wA v 68 1 = jS g f inn lt ms 1 k ∧ wA v 69 0 = pS g f inn lt ms 0 k ∧ wA v 69 1 = pS g f inn lt ms 1 k)) m (fun k v hk hi => by
    obtain ⟨hfr, ha0, ha1, ha2, ha3⟩ := hi
    have hMv := MS_fr hM hfr rfl
    have hn200 := hM.2.2.1
    have hfk := hf k hk
    have hgk := hg (f k) hfk.1 hfk.2
    have hs : wI v 47 26 = m := by rw [fr_I hfr rfl]; exact hT.1
    have hl : wA v 59 k = f k := by rw [fr_A (a := 59) hfr rfl]; exact hT.2 k hk
    have h72 : wA v 72 k = bz (inn k = true) := by rw [fr_A (a := 72) hfr rfl]; exact (hL k hk).1
    have h73 : wA v 73 k = bz (lt k = true) := by rw [fr_A (a := 73) hfr rfl]; exact (hL k hk).2
    have c3 := hMv.2.2.2 (f k) 3 hfk.1 hfk.2 (by decide) (by decide)
    simp only [jS_s, pS_s]
    obtain ⟨t0, ht0⟩ : ∃ t0, t0 = g (f k) 0 := ⟨_, rfl⟩
    obtain ⟨c0, hc0⟩ : ∃ c0, c0 = g (f k) 3 := ⟨_, rfl⟩
    obtain ⟨lv, hlv⟩ : ∃ lv, lv = bz (lt k = true) := ⟨_, rfl⟩
    rw [← hc0] at c3
    rw [← hlv] at h73
    rw [← ht0, ← hc0] at hgk ⊢
    cases qi : inn k with
    | false =>
      rw [qi, bz_f (by simp)] at h72
      refine ⟨v, ?_, hfr, ?_⟩
      · rw [wq_227_29]
        simp (disch := omega) only [qB_s, qC_t, qC_f, qI_T, qI_F, qI_t, qI_f, r_I, r_L, r_R, r_V, ii_add, ii_sub, ii_mul, ii_neg, bz_0, bz_1, Bool.true_and, Bool.false_and, Bool.and_true, z00, z11, li_0, li_1, li_10, li_2, li_3, e_48, e_59, e_68, e_69, e_72, e_73, gI_47_26, gR_47_1, gR_47_27, gR_47_45, gR_47_46, gR_47_49, gR_47_50, is_47, t_48, t_59, t_68, t_69, hs, ii_lt, ii_eq, h72, nat_1]
      · rw [bz_f (by simp), bz_f (by simp), bz_f (by simp), bz_f (by simp), Int.add_zero, Int.add_zero, Int.add_zero, Int.add_zero]
        exact ⟨ha0, ha1, ha2, ha3⟩
    | true =>
      rw [qi, bz_t (by simp)] at h72
      have hl01 : lv = 0 ∨ lv = 1 := by have := bz_ran (p := lt k = true); omega
      have hlt : lt k = decide (lv = 1) := by
        rw [hlv]
        cases lt k <;> decide
      have hm4 : ms = 0 ∨ ms = 1 ∨ ms = 2 ∨ ms = 3 := by omega
      have hc4 : c0 = -1 ∨ c0 = 0 ∨ c0 = 1 := by omega
      cases qj : jB ms c0 (lt k) with
      | false =>
        have hj : ¬ (ms = 0 ∨ (ms = 1 ∧ c0 = 1) ∨ (ms = 2 ∧ c0 = 0) ∨ (ms = 3 ∧ lv = 1 ∧ 0 ≤ c0)) := by
          rw [hlt] at qj
          simpa [jB] using qj
        refine ⟨v, ?_, hfr, ?_⟩
        · rw [wq_227_29]
          clear ha0 ha1 ha2 ha3 hL hT hg hM hf hMv ew i3 i4 f1
          rcases hm4 with y | y | y | y <;> rcases hc4 with y2 | y2 | y2 <;> rcases hl01 with y3 | y3
          all_goals first
            | (exfalso; omega)
            | simp (disch := omega) only [qB_s, qC_t, qC_f, qI_T, qI_F, qI_t, qI_f, r_I, r_L, r_R, r_V, ii_add, ii_sub, ii_mul, ii_neg, bz_0, bz_1, Bool.true_and, Bool.false_and, Bool.and_true, z00, z11, li_0, li_1, li_10, li_2, li_3, e_48, e_59, e_68, e_69, e_72, e_73, gI_47_26, gR_47_1, gR_47_27, gR_47_45, gR_47_46, gR_47_49, gR_47_50, is_47, t_48, t_59, t_68, t_69, hs, ii_lt, ii_eq, h72, h73, hl, c3, wq_227_117, nat_1]
        · rw [bz_f (by simp), bz_f (by simp), bz_f (by simp), bz_f (by simp), Int.add_zero, Int.add_zero, Int.add_zero, Int.add_zero]
          exact ⟨ha0, ha1, ha2, ha3⟩
      | true =>
        have hj : ms = 0 ∨ (ms = 1 ∧ c0 = 1) ∨ (ms = 2 ∧ c0 = 0) ∨ (ms = 3 ∧ lv = 1 ∧ 0 ≤ c0) := by
          rw [hlt] at qj
          simpa [jB] using qj
        obtain ⟨b, hb⟩ : ∃ b, b = bz (mB ms c0 (lt k) = true) := ⟨_, rfl⟩
        have hbv : b = if ms < 3 then lv else c0 := by
          rw [hb, hlt]
          unfold mB
          by_cases y : ms = 3
          · rw [if_pos y, if_neg (by omega)]
            have : c0 = 0 ∨ c0 = 1 := by omega
            rcases this with h | h <;> rw [h] <;> decide
          · rw [if_neg y, if_pos (by omega)]
            rcases hl01 with h | h <;> rw [h] <;> decide
        obtain ⟨wc, hwc⟩ : ∃ wc, wc = uA v 68 (fu (wA v 68) t0 (wA v 68 t0 + 1)) := ⟨_, rfl⟩
        have fc : fr [6899, 6999] w wc := by rw [hwc]; exact fr_uA hfr rfl
        have p1 := d122 (sc := sc) hMv hfk.1 hfk.2
        have p2 := d122 (sc := sc) (MS_fr hM fc rfl) hfk.1 hfk.2
        rw [← ht0] at p1 p2
        have hc69 : wA wc 69 = wA v 69 := by rw [hwc, rAn _ _ rfl]
        have hc73 : wA wc 73 k = lv := by rw [hwc, rAn _ _ rfl]; exact h73
        refine ⟨uA wc 69 (fu (wA wc 69) t0 (wA wc 69 t0 + b)), ?_, fr_uA fc rfl, ?_⟩
        · rw [wq_227_29]
          clear ha0 ha1 ha2 ha3 hL hT hg hM hf hMv ew i3 i4 f1 hb qj
          have hb0 : ms < 3 → lv = 0 → b = 0 := fun h1 h2 => by rw [hbv, if_pos h1, h2]
          have hb1 : ms < 3 → lv = 1 → b = 1 := fun h1 h2 => by rw [hbv, if_pos h1, h2]
          have hb3 : ms = 3 → b = c0 := fun h1 => by rw [hbv, if_neg (by omega)]
          have hm5 : ms < 3 ∨ ms = 3 := by omega
          rcases hm5 with y | y
          · have y2 : (ms = 0 ∨ (ms = 1 ∧ c0 = 1) ∨ (ms = 2 ∧ c0 = 0)) := by omega
            rcases hl01 with y3 | y3
            · rw [hb0 y y3]
              rcases y2 with y4 | y4 | y4
              · simp (disch := omega) only [qB_s, qC_t, qC_f, qI_T, qI_F, qI_t, qI_f, r_I, r_L, r_R, r_V, ii_add, ii_sub, ii_mul, ii_neg, bz_0, bz_1, Bool.true_and, Bool.false_and, Bool.and_true, z00, z11, li_0, li_1, li_10, li_2, li_3, e_48, e_59, e_68, e_69, e_72, e_73, gI_47_26, gR_47_1, gR_47_27, gR_47_45, gR_47_46, gR_47_49, gR_47_50, is_47, t_48, t_59, t_68, t_69, hs, ii_lt, ii_eq, h72, h73, hl, c3, wq_227_113, p1, ← hwc, p2, hc73, nat_1]
              · simp (disch := omega) only [qB_s, qC_t, qC_f, qI_T, qI_F, qI_t, qI_f, r_I, r_L, r_R, r_V, ii_add, ii_sub, ii_mul, ii_neg, bz_0, bz_1, Bool.true_and, Bool.false_and, Bool.and_true, z00, z11, li_0, li_1, li_10, li_2, li_3, e_48, e_59, e_68, e_69, e_72, e_73, gI_47_26, gR_47_1, gR_47_27, gR_47_45, gR_47_46, gR_47_49, gR_47_50, is_47, t_48, t_59, t_68, t_69, hs, ii_lt, ii_eq, h72, h73, hl, c3, wq_227_113, p1, ← hwc, p2, hc73, nat_1]
              · simp (disch := omega) only [qB_s, qC_t, qC_f, qI_T, qI_F, qI_t, qI_f, r_I, r_L, r_R, r_V, ii_add, ii_sub, ii_mul, ii_neg, bz_0, bz_1, Bool.true_and, Bool.false_and, Bool.and_true, z00, z11, li_0, li_1, li_10, li_2, li_3, e_48, e_59, e_68, e_69, e_72, e_73, gI_47_26, gR_47_1, gR_47_27, gR_47_45, gR_47_46, gR_47_49, gR_47_50, is_47, t_48, t_59, t_68, t_69, hs, ii_lt, ii_eq, h72, h73, hl, c3, wq_227_113, p1, ← hwc, p2, hc73, nat_1]
            · rw [hb1 y y3]
              rcases y2 with y4 | y4 | y4
              · simp (disch := omega) only [qB_s, qC_t, qC_f, qI_T, qI_F, qI_t, qI_f, r_I, r_L, r_R, r_V, ii_add, ii_sub, ii_mul, ii_neg, bz_0, bz_1, Bool.true_and, Bool.false_and, Bool.and_true, z00, z11, li_0, li_1, li_10, li_2, li_3, e_48, e_59, e_68, e_69, e_72, e_73, gI_47_26, gR_47_1, gR_47_27, gR_47_45, gR_47_46, gR_47_49, gR_47_50, is_47, t_48, t_59, t_68, t_69, hs, ii_lt, ii_eq, h72, h73, hl, c3, wq_227_113, p1, ← hwc, p2, hc73, nat_1]
              · simp (disch := omega) only [qB_s, qC_t, qC_f, qI_T, qI_F, qI_t, qI_f, r_I, r_L, r_R, r_V, ii_add, ii_sub, ii_mul, ii_neg, bz_0, bz_1, Bool.true_and, Bool.false_and, Bool.and_true, z00, z11, li_0, li_1, li_10, li_2, li_3, e_48, e_59, e_68, e_69, e_72, e_73, gI_47_26, gR_47_1, gR_47_27, gR_47_45, gR_47_46, gR_47_49, gR_47_50, is_47, t_48, t_59, t_68, t_69, hs, ii_lt, ii_eq, h72, h73, hl, c3, wq_227_113, p1, ← hwc, p2, hc73, nat_1]
              · simp (disch := omega) only [qB_s, qC_t, qC_f, qI_T, qI_F, qI_t, qI_f, r_I, r_L, r_R, r_V, ii_add, ii_sub, ii_mul, ii_neg, bz_0, bz_1, Bool.true_and, Bool.false_and, Bool.and_true, z00, z11, li_0, li_1, li_10, li_2, li_3, e_48, e_59, e_68, e_69, e_72, e_73, gI_47_26, gR_47_1, gR_47_27, gR_47_45, gR_47_46, gR_47_49, gR_47_50, is_47, t_48, t_59, t_68, t_69, hs, ii_lt, ii_eq, h72, h73, hl, c3, wq_227_113, p1, ← hwc, p2, hc73, nat_1]
          · rw [hb3 y]
            simp (disch := omega) only [qB_s, qC_t, qC_f, qI_T, qI_F, qI_t, qI_f, r_I, r_L, r_R, r_V, ii_add, ii_sub, ii_mul, ii_neg, bz_0, bz_1, Bool.true_and, Bool.false_and, Bool.and_true, z00, z11, li_0, li_1, li_10, li_2, li_3, e_48, e_59, e_68, e_69, e_72, e_73, gI_47_26, gR_47_1, gR_47_27, gR_47_45, gR_47_46, gR_47_49, gR_47_50, is_47, t_48, t_59, t_68, t_69, hs, ii_lt, ii_eq, h72, h73, hl, c3, wq_227_113, p1, ← hwc, p2, hc73, nat_1]
        · rw [rAn _ _ rfl, rA, hc69, show wA wc 68 = fu (wA v 68) t0 (wA v 68 t0 + 1) from by rw [hwc, rA]]
          simp only [fu_at]
          have ht01 : t0 = 0 ∨ t0 = 1 := by omega
          have hba : ∀ d : Int, bz (True ∧ t0 = d ∧ True) = if t0 = d then 1 else 0 := fun d => by
            by_cases y : t0 = d
            · rw [if_pos y]; exact bz_t ⟨trivial, y, trivial⟩
            · rw [if_neg y]; exact bz_f (fun x => y x.2.1)
          have hbb : ∀ d : Int, bz (True ∧ t0 = d ∧ True ∧ mB ms c0 (lt k) = true) = if t0 = d then b else 0 := fun d => by
            by_cases y : t0 = d
            · rw [if_pos y, hb]; exact bz_c ⟨fun x => x.2.2.2, fun x => ⟨trivial, y, trivial, x⟩⟩
            · rw [if_neg y]; exact bz_f (fun x => y x.2.1)
          rw [hbb, hbb, hba, hba]
          rcases ht01 with y | y
          · rw [y, ha0, ha1, ha2, ha3]
            simp
          · rw [y, ha0, ha1, ha2, ha3]
            simp) w1 ⟨f1, (i3 (by decide)).1, (i4 (by decide)).1, (i3 (by decide)).2, (i4 (by decide)).2⟩
  have hs : wI v 47 26 = m := by rw [fr_I hfr rfl]; exact hT.1
  have r1 := pS_ran g f inn lt ms 0 m
  have r2 := jS_ran g f inn lt ms 0 m
  have r3 := pS_ran g f inn lt ms 1 m
  have r4 := jS_ran g f inn lt ms 1 m
  obtain ⟨u, e5, f5, h5⟩ := d136 (sc := sc) (w := v) (a := pS g f inn lt ms 0 m) (b := jS g f inn lt ms 0 m) (c := pS g f inn lt ms 1 m) (d := jS g f inn lt ms 1 m) (by omega) (by omega) (by omega) (by omega)
  refine ⟨u, ?_, fr_t (fr_m hfr rfl) (fr_m f5 rfl), h5⟩
  rw [fq_227, li_0]
  have e' : am_W sc 227 (2, [some (am_R (some 47)), some (am_I (ii ms)), some (am_I (ii 0)), none, none, none], [], wst w) = _ := ew
  have e2 : am_W sc 227 (29, [some (am_R (some 47)), some (am_I (ii ms)), some (am_I (ii 0)), none, none, none], [], wst w1) = _ := e
  rw [e', wq_227_2]
  simp (disch := omega) only [qB_s, qC_t, qC_f, qI_T, qI_F, qI_t, qI_f, r_I, r_L, r_R, r_V, ii_add, ii_sub, ii_mul, ii_neg, bz_0, bz_1, Bool.true_and, Bool.false_and, Bool.and_true, z00, z11, li_0, li_1, li_10, li_2, li_3, e_48, e_59, e_68, e_69, e_72, e_73, gI_47_26, gR_47_1, gR_47_27, gR_47_45, gR_47_46, gR_47_49, gR_47_50, is_47, t_48, t_59, t_68, t_69, ii_lt, Int.cast_ofNat_Int, Int.reduceLT]
  rw [e2, wq_227_29]
  simp (disch := omega) only [qB_s, qC_t, qC_f, qI_T, qI_F, qI_t, qI_f, r_I, r_L, r_R, r_V, ii_add, ii_sub, ii_mul, ii_neg, bz_0, bz_1, Bool.true_and, Bool.false_and, Bool.and_true, z00, z11, li_0, li_1, li_10, li_2, li_3, e_48, e_59, e_68, e_69, e_72, e_73, gI_47_26, gR_47_1, gR_47_27, gR_47_45, gR_47_46, gR_47_49, gR_47_50, is_47, t_48, t_59, t_68, t_69, hs, ii_lt, ha0, ha1, ha2, ha3, ii_jj, e5]
theorem y_228 (hM : RM w A) (hA : okA A) {v ms o : Int} (hv1 : -2147483648 ≤ v) (hv2 : v ≤ 2147483647) (hms1 : -2147483648 ≤ ms) (hms2 : ms ≤ 2147483647) (ho1 : -2147483648 ≤ o) (ho2 : o ≤ 2147483647) : ∃ u, am_F sc 228 [am_R (some 47), am_I (ii v), am_I (ii ms), am_I (ii o)] (wst w) = some (some (am_I (ii (if (0 ≤ v ∧ v < A.2.2.1.1) ∧ (0 ≤ ms ∧ ms < 4) ∧ (o = 0 ∨ o = 1) then if o = 0 then spU A v ms else spD A v ms else -1))), wst u) ∧ fr scM w u := by
  have hn8 := hA.2.2.1.2.1
  have hn0 := hA.2.2.1.1
  have h120 := d120 (sc := sc) hM hn8 hn0 (v := v) hv1 hv2
  by_cases q1 : 0 ≤ v ∧ v < A.2.2.1.1
  · skip
    by_cases q2 : 0 ≤ ms ∧ ms < 4
    · skip
      by_cases q3 : o = 0 ∨ o = 1
      · skip
        rw [if_pos (by omega)]
        obtain ⟨u, e1, f1, t1, -⟩ := d124v (sc := sc) hM hA q1
        have hMu := RM_m hM (fr_m f1 rfl)
        have hm := vM_le hA v
        have hok : ∀ i, i < vM A v → 0 ≤ vF A v i ∧ vF A v i < A.1.1 := fun i hi => vF_ok hA v hi
        obtain ⟨u2, e2, f2, l2⟩ := d226 (sc := sc) hMu.1 hA.1.2.2.1 t1 hm hok
        have hMu2 := RM_m hMu (fr_m f2 (m := scM) rfl)
        have t2 : MK u2 (vM A v) (vF A v) := ⟨by rw [fr_I f2 rfl]; exact t1.1, by rw [fr_A (a := 59) f2 rfl]; exact t1.2⟩
        obtain ⟨u3, e3, f3, j0, j1⟩ := d227 (sc := sc) hMu2.1 hA.1.2.2.1 t2 hm hok l2 (ms := ms) (by omega)
        have j0' : wJ u3 47 30 = spU A v ms := j0
        have j1' : wJ u3 47 31 = spD A v ms := j1
        refine ⟨u3, ?_, fr_t (fr_m f1 rfl) (fr_t (fr_m f2 rfl) (fr_m f3 rfl))⟩
        rw [fq_228]
        by_cases q4 : o = 0
        · rw [if_pos q4]
          simp (disch := omega) only [qB_s, qC_t, qC_f, qI_T, qI_F, qI_t, qI_f, r_I, r_L, r_R, r_V, ii_add, ii_sub, ii_mul, ii_neg, bz_0, bz_1, Bool.true_and, Bool.false_and, Bool.and_true, z00, z11, li_0, li_1, lj_0, lj_1, lj_3, gL_47_30, gL_47_31, is_47, h120, e1, ii_eq, ii_jj, d17, e2, e3, j0', jj_ii]
        · rw [if_neg q4]
          simp (disch := omega) only [qB_s, qC_t, qC_f, qI_T, qI_F, qI_t, qI_f, r_I, r_L, r_R, r_V, ii_add, ii_sub, ii_mul, ii_neg, bz_0, bz_1, Bool.true_and, Bool.false_and, Bool.and_true, z00, z11, li_0, li_1, lj_0, lj_1, lj_3, gL_47_30, gL_47_31, is_47, h120, e1, ii_eq, ii_jj, d17, e2, e3, j1', jj_ii]
      · rw [if_neg (by omega)]
        exact ⟨w, by
          rw [fq_228]
          simp (disch := omega) only [qB_s, qC_t, qC_f, qI_T, qI_F, qI_t, qI_f, r_I, r_L, r_R, r_V, ii_add, ii_sub, ii_mul, ii_neg, bz_0, bz_1, Bool.true_and, Bool.false_and, Bool.and_true, z00, z11, li_0, li_1, lj_0, lj_1, lj_3, gL_47_30, gL_47_31, is_47, ii_lt, ii_eq, ii_jj, jj_neg, h120, d17], fr_r _ _⟩
    · rw [if_neg (by omega)]
      exact ⟨w, by
        rw [fq_228]
        simp (disch := omega) only [qB_s, qC_t, qC_f, qI_T, qI_F, qI_t, qI_f, r_I, r_L, r_R, r_V, ii_add, ii_sub, ii_mul, ii_neg, bz_0, bz_1, Bool.true_and, Bool.false_and, Bool.and_true, z00, z11, li_0, li_1, lj_0, lj_1, lj_3, gL_47_30, gL_47_31, is_47, ii_lt, ii_eq, ii_jj, jj_neg, h120, d17], fr_r _ _⟩
  · rw [if_neg (by omega)]
    exact ⟨w, by
      rw [fq_228]
      simp (disch := omega) only [qB_s, qC_t, qC_f, qI_T, qI_F, qI_t, qI_f, r_I, r_L, r_R, r_V, ii_add, ii_sub, ii_mul, ii_neg, bz_0, bz_1, Bool.true_and, Bool.false_and, Bool.and_true, z00, z11, li_0, li_1, lj_0, lj_1, lj_3, gL_47_30, gL_47_31, is_47, ii_lt, ii_eq, ii_jj, jj_neg, h120], fr_r _ _⟩

theorem y_233 (hM : RM w A) (hA : okA A) {v ms t : Int} (hv1 : -2147483648 ≤ v) (hv2 : v ≤ 2147483647) (hms1 : -2147483648 ≤ ms) (hms2 : ms ≤ 2147483647) (ht1 : -2147483648 ≤ t) (ht2 : t ≤ 2147483647) : ∃ u, am_F sc 233 [am_R (some 47), am_I (ii v), am_I (ii ms), am_I (ii t)] (wst w) = some (some (am_I (ii (if (0 ≤ v ∧ v < A.2.2.1.1) ∧ (0 ≤ ms ∧ ms < 4) ∧ (0 ≤ t ∧ t ≤ 1000) then bz (wiB (spU A v ms) (spD A v ms) t = true) else -1))), wst u) ∧ fr scM w u := by
  have hn8 := hA.2.2.1.2.1
  have hn0 := hA.2.2.1.1
  have h120 := d120 (sc := sc) hM hn8 hn0 (v := v) hv1 hv2
  by_cases q1 : 0 ≤ v ∧ v < A.2.2.1.1
  · skip
    by_cases q2 : 0 ≤ ms ∧ ms < 4
    · skip
      by_cases q3 : 0 ≤ t ∧ t ≤ 1000
      · skip
        rw [if_pos (by omega)]
        obtain ⟨u, e1, f1, t1, -⟩ := d124v (sc := sc) hM hA q1
        have hMu := RM_m hM (fr_m f1 rfl)
        have hm := vM_le hA v
        have hok : ∀ i, i < vM A v → 0 ≤ vF A v i ∧ vF A v i < A.1.1 := fun i hi => vF_ok hA v hi
        obtain ⟨u2, e2, f2, l2⟩ := d226 (sc := sc) hMu.1 hA.1.2.2.1 t1 hm hok
        have hMu2 := RM_m hMu (fr_m f2 (m := scM) rfl)
        have t2 : MK u2 (vM A v) (vF A v) := ⟨by rw [fr_I f2 rfl]; exact t1.1, by rw [fr_A (a := 59) f2 rfl]; exact t1.2⟩
        obtain ⟨u3, e3, f3, j0, j1⟩ := d227 (sc := sc) hMu2.1 hA.1.2.2.1 t2 hm hok l2 (ms := ms) (by omega)
        have j0' : wJ u3 47 30 = spU A v ms := j0
        have j1' : wJ u3 47 31 = spD A v ms := j1
        obtain ⟨hU, hD⟩ := sp_ran hA v ms
        have e4 := d232 (sc := sc) q3 j0' j1' hU hD
        refine ⟨u3, ?_, fr_t (fr_m f1 rfl) (fr_t (fr_m f2 rfl) (fr_m f3 rfl))⟩
        rw [fq_233]
        cases q : wiB (spU A v ms) (spD A v ms) t
        all_goals rw [q] at e4
        all_goals simp (disch := omega) only [qB_s, qC_t, qC_f, qI_T, qI_F, qI_t, qI_f, r_I, r_L, r_R, r_V, ii_add, ii_sub, ii_mul, ii_neg, bz_0, bz_1, Bool.true_and, Bool.false_and, Bool.and_true, z00, z11, li_0, li_1, lj_0, lj_1000, lj_3, is_47, h120, e1, ii_eq, ii_jj, d17, e2, e3, e4, Bool.false_eq_true, not_false_eq_true, not_true_eq_false]
        all_goals rfl
      · rw [if_neg (by omega)]
        exact ⟨w, by
          rw [fq_233]
          simp (disch := omega) only [qB_s, qC_t, qC_f, qI_T, qI_F, qI_t, qI_f, r_I, r_L, r_R, r_V, ii_add, ii_sub, ii_mul, ii_neg, bz_0, bz_1, Bool.true_and, Bool.false_and, Bool.and_true, z00, z11, li_0, li_1, lj_0, lj_1000, lj_3, is_47, ii_lt, ii_eq, ii_jj, jj_neg, h120, d17], fr_r _ _⟩
    · rw [if_neg (by omega)]
      exact ⟨w, by
        rw [fq_233]
        simp (disch := omega) only [qB_s, qC_t, qC_f, qI_T, qI_F, qI_t, qI_f, r_I, r_L, r_R, r_V, ii_add, ii_sub, ii_mul, ii_neg, bz_0, bz_1, Bool.true_and, Bool.false_and, Bool.and_true, z00, z11, li_0, li_1, lj_0, lj_1000, lj_3, is_47, ii_lt, ii_eq, ii_jj, jj_neg, h120, d17], fr_r _ _⟩
  · rw [if_neg (by omega)]
    exact ⟨w, by
      rw [fq_233]
      simp (disch := omega) only [qB_s, qC_t, qC_f, qI_T, qI_F, qI_t, qI_f, r_I, r_L, r_R, r_V, ii_add, ii_sub, ii_mul, ii_neg, bz_0, bz_1, Bool.true_and, Bool.false_and, Bool.and_true, z00, z11, li_0, li_1, lj_0, lj_1000, lj_3, is_47, ii_lt, ii_eq, ii_jj, jj_neg, h120], fr_r _ _⟩

end L27
