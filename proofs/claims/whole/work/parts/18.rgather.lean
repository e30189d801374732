/-! WHOM A VIEW TAKES, IN THE OTHER; LOOKING A VIEW UP -/
theorem sm_tg (F : Int → Int) {p : Int → Bool} {k : Nat} (h : p k = true) : sm (fun i => F ((tg p (k + 1)).2 i)) (tg p (k + 1)).1 = sm (fun i => F ((tg p k).2 i)) (tg p k).1 + F k := by
  rw [tg_t h]
  dsimp only
  rw [sm_s, Nat.beq_refl]
  congr 1
  refine sm_c (fun i hi => ?_)
  rw [nbeq_f (by omega)]
  rfl
/-- how many of a trait -/
def cA (g : Int → Int → Int) (f : Nat → Int) (t : Int) (m : Nat) : Int := sm (fun i => bz (g (f i) 0 = t)) m
/-- how many of these are let -/
def cL (g : Int → Int → Int) (f : Nat → Int) (t : Int) (m : Nat) : Int := sm (fun i => bz (g (f i) 0 = t ∧ g (f i) 2 = 2)) m
theorem cA_ran (g : Int → Int → Int) (f : Nat → Int) (t : Int) (m : Nat) : 0 ≤ cA g f t m ∧ cA g f t m ≤ m := sm_bz m
theorem cL_ran (g : Int → Int → Int) (f : Nat → Int) (t : Int) (m : Nat) : 0 ≤ cL g f t m ∧ cL g f t m ≤ m := sm_bz m
theorem cL_cA (g : Int → Int → Int) (f : Nat → Int) (t : Int) (m : Nat) : cL g f t m ≤ cA g f t m :=
  sm_le (fun i _ => by
    unfold bz
    split
    · rename_i h
      rw [if_pos h.1]
      omega
    · split <;> omega)
theorem cA_2 {g : Int → Int → Int} {f : Nat → Int} {m : Nat} (h : ∀ i, i < m → 0 ≤ g (f i) 0 ∧ g (f i) 0 ≤ 1) : cA g f 0 m + cA g f 1 m = m := by
  unfold cA
  rw [← sm_add]
  have : ∀ i, i < m → bz (g (f i) 0 = 0) + bz (g (f i) 0 = 1) = (fun _ : Nat => (1 : Int)) i := fun i hi => by
    have := h i hi
    by_cases q : g (f i) 0 = 0
    · rw [bz_t q, bz_f (by omega)]
      rfl
    · rw [bz_f q, bz_t (by omega)]
      rfl
  rw [sm_c this]
  clear this h
  induction m with
  | zero => rfl
  | succ m ih =>
    rw [sm_s, ih]
    rfl
section L18
variable {sc : am_X} {w : wo} {n : Int} {g : Int → Int → Int}
theorem d124 (hM : MS w n g) (hg : gK n g) {t : Int} {x : vw} (hV : MVo w t x) (hx : okV x) (ht0 : 0 ≤ t) (ht : t < 8) {l o : Int} (hlo : ii x.2.1 ||| ii o = ii l) (hl0 : 0 ≤ l) (hl : l < 64) : ∃ v, am_F sc 124 [am_R (some 47), am_I (ii t), am_I (ii o)] (wst w) = some (none, wst v) ∧ fr [4725, 4726, 5999, 6099, 6199, 4723, 4724, 5899] w v ∧ MK v (tg (pT g x.1 l) n.toNat).1 (tg (pT g x.1 l) n.toNat).2 ∧ wI v 47 25 = l ∧ (wA v 60 0 = cA g (tg (pT g x.1 l) n.toNat).2 0 (tg (pT g x.1 l) n.toNat).1 ∧ wA v 60 1 = cA g (tg (pT g x.1 l) n.toNat).2 1 (tg (pT g x.1 l) n.toNat).1 ∧ wA v 61 0 = cL g (tg (pT g x.1 l) n.toNat).2 0 (tg (pT g x.1 l) n.toNat).1 ∧ wA v 61 1 = cL g (tg (pT g x.1 l) n.toNat).2 1 (tg (pT g x.1 l) n.toNat).1) := by
  obtain ⟨hn, h0, h1, h2⟩ := id hM
  obtain ⟨hv1, hv2, hv3, hv4⟩ := id hV
  obtain ⟨w1, ew, ⟨f1, i1, i2, i3, i4⟩⟩ := lp_s0 (am_W sc 124) (fun (k : Nat) (v : wo) => (19, [some (am_R (some 47)), some (am_I (ii t)), none, some (am_I (ii k))], [], wst v)) (fun k v => fr [4725, 4726, 5999, 6099, 6199, 4723, 4724, 5899] w v ∧ wI v 47 25 = l ∧ wI v 47 26 = 0 ∧ (1 ≤ k → wA v 60 0 = 0 ∧ wA v 61 0 = 0) ∧ (2 ≤ k → wA v 60 1 = 0 ∧ wA v 61 1 = 0)) 2 (fun k v hk hi => by
    obtain ⟨f1, i1, i2, i3, i4⟩ := hi
    refine ⟨uA (uA v 60 (fu (wA v 60) k 0)) 61 (fu (wA v 61) k 0), ?_, fr_uA (fr_uA f1 rfl) rfl, i1, i2, fun _ => ?_, fun _ => ?_⟩
    · rw [wq_124_19]
      simp (disch := omega) only [qB_s, qC_t, qC_f, qI_T, qI_F, qI_t, qI_f, r_I, r_L, r_R, r_V, ii_add, ii_sub, ii_mul, ii_neg, bz_0, bz_1, Bool.true_and, Bool.false_and, Bool.and_true, z00, z11, li_0, li_1, li_2, e_53, e_54, e_59, e_60, e_61, gI_47_0, gI_47_26, gR_47_10, gR_47_11, gR_47_27, gR_47_28, gR_47_29, is_47, pI_47_25, pI_47_26, t_54, t_59, t_60, t_61, ii_lt, nat_1, uA_A, if_false, Nat.reduceEqDiff]
    · rw [rAn _ _ rfl, rA, rA, fu_at, fu_at]
      by_cases q : (0 : Int) = k
      · rw [if_pos q, if_pos q]; exact ⟨rfl, rfl⟩
      · rw [if_neg q, if_neg q]; exact i3 (by omega)
    · rw [rAn _ _ rfl, rA, rA, fu_at, fu_at, if_pos (by omega), if_pos (by omega)]
      exact ⟨rfl, rfl⟩) (uI (uI w 47 25 l) 47 26 0) ⟨fr_uI (fr_uI (fr_r _ _) rfl) rfl, by rw [rIn _ _ rfl, rI], rI _ _ _ _, fun h => absurd h (by decide), fun h => absurd h (by decide)⟩
  obtain ⟨v, e, ⟨hf, hl4, hs, ht, ha⟩⟩ := lp_s0 (am_W sc 124) (fun (k : Nat) (v : wo) => (46, [some (am_R (some 47)), some (am_I (ii t)), none, some (am_I (ii k))], [], wst v)) (fun k v => fr [4725, 4726, 5999, 6099, 6199, 4723, 4724, 5899] w v ∧ wI v 47 25 = l ∧ wI v 47 26 = ((tg (pT g x.1 l) k).1 : Int) ∧ (∀ i : Nat, i < (tg (pT g x.1 l) k).1 → wA v 59 i = (tg (pT g x.1 l) k).2 i) ∧ (wA v 60 0 = cA g (tg (pT g x.1 l) k).2 0 (tg (pT g x.1 l) k).1 ∧ wA v 60 1 = cA g (tg (pT g x.1 l) k).2 1 (tg (pT g x.1 l) k).1 ∧ wA v 61 0 = cL g (tg (pT g x.1 l) k).2 0 (tg (pT g x.1 l) k).1 ∧ wA v 61 1 = cL g (tg (pT g x.1 l) k).2 1 (tg (pT g x.1 l) k).1)) n.toNat (fun k v hk hi => by
    obtain ⟨hf, hl4, hs, ht', ha0, ha1, ha2, ha3⟩ := hi
    have hMv := MS_fr hM hf rfl
    have hVv := MVo_fr hV hf rfl
    have hle := tg_le (pT g x.1 l) k
    have hn1 := hMv.1
    have hgk := hg k (by omega) (by omega)
    have hlm := d121 (sc := sc) hMv hg hl4 (k := (k : Int)) (by omega) (by omega) hl0 hl
    cases q1 : lm g k l with
    | true =>
      have hp : pT g x.1 l k = false := by unfold pT; rw [q1]; rfl
      rw [tg_f hp]
      refine ⟨v, ?_, hf, hl4, hs, ht', ha0, ha1, ha2, ha3⟩
      rw [wq_124_46]
      simp (disch := omega) only [qB_s, qC_t, qC_f, qI_T, qI_F, qI_t, qI_f, r_I, r_L, r_R, r_V, ii_add, ii_sub, ii_mul, ii_neg, bz_0, bz_1, Bool.true_and, Bool.false_and, Bool.and_true, z00, z11, li_0, li_1, li_2, e_53, e_54, e_59, e_60, e_61, gI_47_0, gI_47_26, gR_47_10, gR_47_11, gR_47_27, gR_47_28, gR_47_29, is_47, pI_47_25, pI_47_26, t_54, t_59, t_60, t_61, hn1, hs, ii_lt, hlm, q1, not_true_eq_false, nat_1]
    | false =>
      have hu : ∃ u, (fr [4723, 4724, 5899] v u ∧ ((wA v 53 t = 0 ∧ u = v) ∨ (wA v 53 t = 1 ∧ am_F sc 111 [am_R (some 47), am_I (ii t), am_I (ii k)] (wst v) = some (some (am_I (ii (bz (pam x.1 (rw1 g k) = true)))), wst u)))) ∧ (wA v 53 t = 0 → pam x.1 (rw1 g k) = true) := by
        rcases hVv.1 with ⟨q2, q3⟩ | ⟨P, q2, q3, q4⟩
        · exact ⟨v, ⟨fr_r _ _, .inl ⟨q3, rfl⟩⟩, fun _ => by rw [q2]; rfl⟩
        · obtain ⟨u, e5, f5⟩ := d111 (sc := sc) hMv hg (hx.1 P q2) q4 (k := (k : Int)) (by omega) (by omega) ht0 (by omega)
          refine ⟨u, ⟨f5, .inr ⟨q3, ?_⟩⟩, fun z => absurd z (by omega)⟩
          rw [q2]
          exact e5
      obtain ⟨u, ⟨f5, hu⟩, hu2⟩ := hu
      have hfu := fr_t hf (fr_m f5 (m := [4725, 4726, 5999, 6099, 6199, 4723, 4724, 5899]) rfl)
      have hs5 : wI u 47 26 = ((tg (pT g x.1 l) k).1 : Int) := by rw [fr_I f5 rfl]; exact hs
      have hl5 : wI u 47 25 = l := by rw [fr_I f5 rfl]; exact hl4
      have a59 : wA u 59 = wA v 59 := fr_A f5 rfl
      have a60 : wA u 60 = wA v 60 := fr_A f5 rfl
      have a61 : wA u 61 = wA v 61 := fr_A f5 rfl
      cases q2 : pam x.1 (rw1 g k) with
      | false =>
        have hp : pT g x.1 l k = false := by unfold pT; rw [q1, q2]; rfl
        rw [tg_f hp]
        refine ⟨u, ?_, hfu, hl5, hs5, by rw [a59]; exact ht', by rw [a60, a61]; exact ⟨ha0, ha1, ha2, ha3⟩⟩
        rw [wq_124_46]
        rcases hu with ⟨q3, q4⟩ | ⟨q3, q4⟩
        · exact absurd (hu2 q3) (by rw [q2]; decide)
        · rw [q2] at q4
          simp (disch := omega) only [qB_s, qC_t, qC_f, qI_T, qI_F, qI_t, qI_f, r_I, r_L, r_R, r_V, ii_add, ii_sub, ii_mul, ii_neg, bz_0, bz_1, Bool.true_and, Bool.false_and, Bool.and_true, z00, z11, li_0, li_1, li_2, e_53, e_54, e_59, e_60, e_61, gI_47_0, gI_47_26, gR_47_10, gR_47_11, gR_47_27, gR_47_28, gR_47_29, is_47, pI_47_25, pI_47_26, t_54, t_59, t_60, t_61, hn1, hs, ii_lt, ii_eq, hlm, q1, Bool.false_eq_true, not_false_eq_true, q3, Int.reduceEq, q4, nat_1]
      | true =>
        have hp : pT g x.1 l k = true := by unfold pT; rw [q1, q2]; rfl
        have c0 := sm_tg (fun z => bz (g z 0 = 0)) hp
        have c1 := sm_tg (fun z => bz (g z 0 = 1)) hp
        have c2 := sm_tg (fun z => bz (g z 0 = 0 ∧ g z 2 = 2)) hp
        have c3 := sm_tg (fun z => bz (g z 0 = 1 ∧ g z 2 = 2)) hp
        unfold cA at ha0 ha1
        unfold cL at ha2 ha3
        unfold cA cL
        rw [c0, c1, c2, c3]
        rw [tg_t hp]
        dsimp only
        obtain ⟨m, hm⟩ : ∃ m : Nat, m = (tg (pT g x.1 l) k).1 := ⟨_, rfl⟩
        obtain ⟨t0, ht0'⟩ : ∃ t0, t0 = g k 0 := ⟨_, rfl⟩
        rw [← hm] at hs hs5 ⊢
        obtain ⟨b, hb⟩ : ∃ b, b = bz (g k 2 = 2) := ⟨_, rfl⟩
        obtain ⟨wb, hwb⟩ : ∃ wb, wb = uI (uA u 59 (fu (wA u 59) m k)) 47 26 (m + 1) := ⟨_, rfl⟩
        obtain ⟨wc, hwc⟩ : ∃ wc, wc = uA wb 60 (fu (wA wb 60) t0 (wA wb 60 t0 + 1)) := ⟨_, rfl⟩
        have fb : fr [4725, 4726, 5999, 6099, 6199, 4723, 4724, 5899] w wb := by rw [hwb]; exact fr_uI (fr_uA hfu rfl) rfl
        have fc : fr [4725, 4726, 5999, 6099, 6199, 4723, 4724, 5899] w wc := by rw [hwc]; exact fr_uA fb rfl
        have p1 := d122 (sc := sc) (MS_fr hM fb rfl) (k := (k : Int)) (by omega) (by omega)
        have p2 := d122 (sc := sc) (MS_fr hM fc rfl) (k := (k : Int)) (by omega) (by omega)
        have p3 := d123 (sc := sc) (MS_fr hM fc rfl) hg (k := (k : Int)) (by omega) (by omega)
        rw [← ht0'] at p1 p2
        rw [← ht0'] at hgk
        have hb60 : wA wb 60 = wA v 60 := by rw [hwb, uI_A, rAn _ _ rfl, a60]
        have hc61 : wA wc 61 = wA v 61 := by rw [hwc, rAn _ _ rfl, hwb, uI_A, rAn _ _ rfl, a61]
        have hb1 : b = 0 ∨ b = 1 := by
          have := bz_ran (p := g k 2 = 2)
          omega
        have hm200 : m < 200 := by omega
        refine ⟨uA wc 61 (fu (wA wc 61) t0 (wA wc 61 t0 + b)), ?_, fr_uA fc rfl, ?_, ?_, ?_, ?_⟩
        · rw [wq_124_46]
          rw [q2] at hu
          by_cases q5 : g k 2 = 2
          · rw [bz_t q5] at hb
            rcases hu with ⟨q3, q4⟩ | ⟨q3, q4⟩
            · subst q4
              simp (disch := omega) only [qB_s, qC_t, qC_f, qI_T, qI_F, qI_t, qI_f, r_I, r_L, r_R, r_V, ii_add, ii_sub, ii_mul, ii_neg, bz_0, bz_1, Bool.true_and, Bool.false_and, Bool.and_true, z00, z11, li_0, li_1, li_2, e_53, e_54, e_59, e_60, e_61, gI_47_0, gI_47_26, gR_47_10, gR_47_11, gR_47_27, gR_47_28, gR_47_29, is_47, pI_47_25, pI_47_26, t_54, t_59, t_60, t_61, hn1, hs, ii_lt, ii_eq, hlm, q1, Bool.false_eq_true, not_false_eq_true, not_true_eq_false, q3, Int.reduceEq, nat_1, uA_I, ← hwb, p1, ← hwc, p2, p3, q5, hb]
            · simp (disch := omega) only [qB_s, qC_t, qC_f, qI_T, qI_F, qI_t, qI_f, r_I, r_L, r_R, r_V, ii_add, ii_sub, ii_mul, ii_neg, bz_0, bz_1, Bool.true_and, Bool.false_and, Bool.and_true, z00, z11, li_0, li_1, li_2, e_53, e_54, e_59, e_60, e_61, gI_47_0, gI_47_26, gR_47_10, gR_47_11, gR_47_27, gR_47_28, gR_47_29, is_47, pI_47_25, pI_47_26, t_54, t_59, t_60, t_61, hn1, hs5, ii_lt, ii_eq, hlm, q1, Bool.false_eq_true, not_false_eq_true, not_true_eq_false, q3, Int.reduceEq, q4, nat_1, uA_I, ← hwb, p1, ← hwc, p2, p3, q5, hb]
          · rw [bz_f q5] at hb
            rcases hu with ⟨q3, q4⟩ | ⟨q3, q4⟩
            · subst q4
              simp (disch := omega) only [qB_s, qC_t, qC_f, qI_T, qI_F, qI_t, qI_f, r_I, r_L, r_R, r_V, ii_add, ii_sub, ii_mul, ii_neg, bz_0, bz_1, Bool.true_and, Bool.false_and, Bool.and_true, z00, z11, li_0, li_1, li_2, e_53, e_54, e_59, e_60, e_61, gI_47_0, gI_47_26, gR_47_10, gR_47_11, gR_47_27, gR_47_28, gR_47_29, is_47, pI_47_25, pI_47_26, t_54, t_59, t_60, t_61, hn1, hs, ii_lt, ii_eq, hlm, q1, Bool.false_eq_true, not_false_eq_true, not_true_eq_false, q3, Int.reduceEq, nat_1, uA_I, ← hwb, p1, ← hwc, p2, p3, q5, hb]
            · simp (disch := omega) only [qB_s, qC_t, qC_f, qI_T, qI_F, qI_t, qI_f, r_I, r_L, r_R, r_V, ii_add, ii_sub, ii_mul, ii_neg, bz_0, bz_1, Bool.true_and, Bool.false_and, Bool.and_true, z00, z11, li_0, li_1, li_2, e_53, e_54, e_59, e_60, e_61, gI_47_0, gI_47_26, gR_47_10, gR_47_11, gR_47_27, gR_47_28, gR_47_29, is_47, pI_47_25, pI_47_26, t_54, t_59, t_60, t_61, hn1, hs5, ii_lt, ii_eq, hlm, q1, Bool.false_eq_true, not_false_eq_true, not_true_eq_false, q3, Int.reduceEq, q4, nat_1, uA_I, ← hwb, p1, ← hwc, p2, p3, q5, hb]
        · rw [uA_I, hwc, uA_I, hwb, rIn _ _ rfl, uA_I, hl5]
        · rw [uA_I, hwc, uA_I, hwb, rI]
          rfl
        · intro i hi
          rw [rAn _ _ rfl, hwc, rAn _ _ rfl, hwb, uI_A, rA, fu_at, a59]
          by_cases q : i = m
          · rw [q, if_pos rfl, Nat.beq_refl]
            rfl
          · rw [if_neg (by omega), nbeq_f q]
            exact ht' i (by omega)
        · rw [rAn _ _ rfl, rA, hc61, show wA wc 60 = fu (wA v 60) t0 (wA v 60 t0 + 1) from by rw [hwc, rA, hb60]]
          simp only [fu_at]
          rw [← ht0']
          have ht01 : t0 = 0 ∨ t0 = 1 := by omega
          rcases ht01 with z | z
          · rw [z]
            rw [if_pos rfl, if_neg (by decide), if_pos rfl, if_neg (by decide), ha0, ha1, ha2, ha3, bz_t (p := (0 : Int) = 0) rfl, bz_f (p := (0 : Int) = 1) (by decide), bz_c (p := (0 : Int) = 0 ∧ g k 2 = 2) (q := g k 2 = 2) (by simp), bz_f (p := (0 : Int) = 1 ∧ g k 2 = 2) (by simp), ← hb]
            rw [← hm]
            simp only [Int.add_zero, and_self]
          · rw [z]
            rw [if_neg (by decide), if_pos rfl, if_neg (by decide), if_pos rfl, ha0, ha1, ha2, ha3, bz_t (p := (1 : Int) = 1) rfl, bz_f (p := (1 : Int) = 0) (by decide), bz_c (p := (1 : Int) = 1 ∧ g k 2 = 2) (q := g k 2 = 2) (by simp), bz_f (p := (1 : Int) = 0 ∧ g k 2 = 2) (by simp), ← hb]
            rw [← hm]
            simp only [Int.add_zero, and_self]) w1 ⟨f1, i1, i2, fun i hi => absurd hi (Nat.not_lt_zero i), (i3 (by decide)).1, (i4 (by decide)).1, (i3 (by decide)).2, (i4 (by decide)).2⟩
  have hle := tg_le (pT g x.1 l) n.toNat
  have hMv := MS_fr hM hf rfl
  have hn1 := hMv.1
  refine ⟨v, ?_, hf, ⟨hs, ht⟩, hl4, ha⟩
  rw [fq_124]
  simp (disch := omega) only [qB_s, qC_t, qC_f, qI_T, qI_F, qI_t, qI_f, r_I, r_L, r_R, r_V, ii_add, ii_sub, ii_mul, ii_neg, bz_0, bz_1, Bool.true_and, Bool.false_and, Bool.and_true, z00, z11, li_0, li_1, li_2, e_53, e_54, e_59, e_60, e_61, gI_47_0, gI_47_26, gR_47_10, gR_47_11, gR_47_27, gR_47_28, gR_47_29, is_47, pI_47_25, pI_47_26, t_54, t_59, t_60, t_61, hv2, hlo]
  have e' : am_W sc 124 (19, [some (am_R (some 47)), some (am_I (ii t)), none, some (am_I (ii 0))], [], wst (uI (uI w 47 25 l) 47 26 0)) = _ := ew
  have e2 : am_W sc 124 (46, [some (am_R (some 47)), some (am_I (ii t)), none, some (am_I (ii 0))], [], wst w1) = _ := e
  rw [e', wq_124_19]
  simp (disch := omega) only [qB_s, qC_t, qC_f, qI_T, qI_F, qI_t, qI_f, r_I, r_L, r_R, r_V, ii_add, ii_sub, ii_mul, ii_neg, bz_0, bz_1, Bool.true_and, Bool.false_and, Bool.and_true, z00, z11, li_0, li_1, li_2, e_53, e_54, e_59, e_60, e_61, gI_47_0, gI_47_26, gR_47_10, gR_47_11, gR_47_27, gR_47_28, gR_47_29, is_47, pI_47_25, pI_47_26, t_54, t_59, t_60, t_61, ii_lt, Int.cast_ofNat_Int, Int.reduceLT]
  rw [e2, wq_124_46]
  simp (disch := omega) only [qB_s, qC_t, qC_f, qI_T, qI_F, qI_t, qI_f, r_I, r_L, r_R, r_V, ii_add, ii_sub, ii_mul, ii_neg, bz_0, bz_1, Bool.true_and, Bool.false_and, Bool.and_true, z00, z11, li_0, li_1, li_2, e_53, e_54, e_59, e_60, e_61, gI_47_0, gI_47_26, gR_47_10, gR_47_11, gR_47_27, gR_47_28, gR_47_29, is_47, pI_47_25, pI_47_26, t_54, t_59, t_60, t_61, hn1, hs, ii_lt]
end L18
