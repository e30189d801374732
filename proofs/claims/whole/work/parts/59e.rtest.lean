/-! THE OTHER READS -/
theorem tK_0 {b : Nat → Int} {j : Nat} (h1 : b (tS b j) ≠ -1) (h2 : ¬ alp (b (tS b j)) = true) (h3 : ¬ dig (b (tS b j)) = true) : tK b j = (if (b (tS b j) = 60 ∨ b (tS b j) = 62) ∧ b (tS b j + 1) = 61 then (if b (tS b j) = 60 then 201 else 202) else if b (tS b j) = 59 ∨ b (tS b j) = 91 ∨ b (tS b j) = 93 ∨ b (tS b j) = 43 ∨ b (tS b j) = 45 ∨ b (tS b j) = 60 ∨ b (tS b j) = 61 ∨ b (tS b j) = 62 then b (tS b j) else 203) ∧ tkE b (tS b j) = if (b (tS b j) = 60 ∨ b (tS b j) = 62) ∧ b (tS b j + 1) = 61 then tS b j + 2 else tS b j + 1 := by
  constructor
  · unfold tK tkK
    rw [if_neg h1, if_neg h2, if_neg h3]
  · unfold tkE
    rw [if_neg h1, if_neg h2, if_neg h3]
theorem tK_1 {b : Nat → Int} {j : Nat} (h : 18 ≤ tK b j ∧ tK b j < 200 ∨ tK b j = 201 ∨ tK b j = 202) : b (tS b j) ≠ -1 ∧ ¬ alp (b (tS b j)) = true ∧ ¬ dig (b (tS b j)) = true := by
  unfold tK tkK at h
  by_cases y1 : b (tS b j) = -1
  · rw [if_pos y1] at h
    omega
  · rw [if_neg y1] at h
    by_cases y2 : alp (b (tS b j)) = true
    · rw [if_pos y2] at h
      have := wco_r b (tS b j) (rn b aln (400 - tS b j) (tS b j) - tS b j)
      omega
    · rw [if_neg y2] at h
      by_cases y3 : dig (b (tS b j)) = true
      · rw [if_pos y3] at h
        omega
      · exact ⟨y1, y2, y3⟩
theorem tK_2 {x : Int} (h : x = 59 ∨ x = 91 ∨ x = 93 ∨ x = 43 ∨ x = 45 ∨ x = 60 ∨ x = 61 ∨ x = 62) : x ≠ -1 ∧ ¬ alp x = true ∧ ¬ dig x = true := ⟨by omega, fun y => by have := alp_r y; omega, fun y => by have := dig_r y; omega⟩
/-- signs of one byte -/
theorem tK_s {b : Nat → Int} {j : Nat} {c : Int} (hc : c = 59 ∨ c = 91 ∨ c = 93 ∨ c = 43 ∨ c = 45 ∨ c = 61) : (tK b j = c ↔ b (tS b j) = c) ∧ (tK b j = c → tkE b (tS b j) = tS b j + 1) := by
  have key : b (tS b j) = c → tK b j = c ∧ tkE b (tS b j) = tS b j + 1 := fun e => by
    obtain ⟨a1, a2, a3⟩ := tK_2 (x := b (tS b j)) (by omega)
    obtain ⟨e1, e2⟩ := tK_0 a1 a2 a3
    rw [if_neg (by omega)] at e1 e2
    rw [if_pos (by omega)] at e1
    exact ⟨e1.trans e, e2⟩
  have back : tK b j = c → b (tS b j) = c := fun e => by
    obtain ⟨a1, a2, a3⟩ := tK_1 (b := b) (j := j) (by omega)
    obtain ⟨e1, e2⟩ := tK_0 a1 a2 a3
    by_cases y : (b (tS b j) = 60 ∨ b (tS b j) = 62) ∧ b (tS b j + 1) = 61
    · rw [if_pos y] at e1
      split at e1 <;> omega
    · rw [if_neg y] at e1
      split at e1 <;> omega
  exact ⟨⟨back, fun e => (key e).1⟩, fun e => (key (back e)).2⟩
/-- signs that compare -/
theorem tK_c {b : Nat → Int} {j : Nat} : (tK b j = 60 ↔ b (tS b j) = 60 ∧ b (tS b j + 1) ≠ 61) ∧ (tK b j = 201 ↔ b (tS b j) = 60 ∧ b (tS b j + 1) = 61) ∧ (tK b j = 62 ↔ b (tS b j) = 62 ∧ b (tS b j + 1) ≠ 61) ∧ (tK b j = 202 ↔ b (tS b j) = 62 ∧ b (tS b j + 1) = 61) ∧ (b (tS b j) = 60 ∨ b (tS b j) = 62 → tkE b (tS b j) = if b (tS b j + 1) = 61 then tS b j + 2 else tS b j + 1) := by
  have key : b (tS b j) = 60 ∨ b (tS b j) = 62 → tK b j = (if b (tS b j + 1) = 61 then (if b (tS b j) = 60 then 201 else 202) else b (tS b j)) ∧ tkE b (tS b j) = if b (tS b j + 1) = 61 then tS b j + 2 else tS b j + 1 := fun e => by
    obtain ⟨a1, a2, a3⟩ := tK_2 (x := b (tS b j)) (by omega)
    obtain ⟨e1, e2⟩ := tK_0 a1 a2 a3
    by_cases y : b (tS b j + 1) = 61
    · rw [if_pos ⟨e, y⟩] at e1 e2
      rw [if_pos y, if_pos y]
      exact ⟨e1, e2⟩
    · rw [if_neg (fun z => y z.2)] at e1 e2
      rw [if_pos (by omega)] at e1
      rw [if_neg y, if_neg y]
      exact ⟨e1, e2⟩
  have back : tK b j = 60 ∨ tK b j = 201 ∨ tK b j = 62 ∨ tK b j = 202 → b (tS b j) = 60 ∨ b (tS b j) = 62 := fun e => by
    obtain ⟨a1, a2, a3⟩ := tK_1 (b := b) (j := j) (by omega)
    obtain ⟨e1, e2⟩ := tK_0 a1 a2 a3
    by_cases y : (b (tS b j) = 60 ∨ b (tS b j) = 62) ∧ b (tS b j + 1) = 61
    · exact y.1
    · rw [if_neg y] at e1
      split at e1 <;> omega
  refine ⟨⟨fun e => ?_, fun e => ?_⟩, ⟨fun e => ?_, fun e => ?_⟩, ⟨fun e => ?_, fun e => ?_⟩, ⟨fun e => ?_, fun e => ?_⟩, fun e => (key e).2⟩
  · have k := (key (back (.inl e))).1
    by_cases y : b (tS b j + 1) = 61
    · rw [if_pos y] at k
      split at k <;> omega
    · rw [if_neg y] at k
      omega
  · rw [(key (.inl e.1)).1, if_neg e.2, e.1]
  · have k := (key (back (.inr (.inl e)))).1
    by_cases y : b (tS b j + 1) = 61
    · rw [if_pos y] at k
      split at k <;> omega
    · rw [if_neg y] at k
      have := back (.inr (.inl e))
      omega
  · rw [(key (.inl e.1)).1, if_pos e.2, if_pos e.1]
  · have k := (key (back (.inr (.inr (.inl e))))).1
    by_cases y : b (tS b j + 1) = 61
    · rw [if_pos y] at k
      split at k <;> omega
    · rw [if_neg y] at k
      omega
  · rw [(key (.inr e.1)).1, if_neg e.2, e.1]
  · have k := (key (back (.inr (.inr (.inr e))))).1
    by_cases y : b (tS b j + 1) = 61
    · rw [if_pos y] at k
      split at k <;> omega
    · rw [if_neg y] at k
      have := back (.inr (.inr (.inr e)))
      omega
  · rw [(key (.inr e.1)).1, if_pos e.2, if_neg (by omega)]
def om (x : Int) : Int := if x = 6 then 3 else if x = 5 then 2 else if x = 4 then 1 else 91
theorem pof_mo {P : pg} {k : Nat} : ∀ d, pof P k + d ≤ pof P (k + d)
  | 0 => by
    show pof P k + ((0 : Nat) : Int) ≤ pof P k
    omega
  | d + 1 => by
    have ih := pof_mo (P := P) (k := k) d
    have := bz_ran (p := P.2.1 (k + d) = 1 ∨ P.2.1 (k + d) = 2)
    show _ ≤ pof P ((k + d) + 1)
    rw [pof_s]
    omega
theorem pof_lt {P : pg} {k n : Nat} (h : k < n) : pof P k + (1 + bz (P.2.1 k = 1 ∨ P.2.1 k = 2)) ≤ pof P n := by
  have := pof_mo (P := P) (k := k + 1) (n - (k + 1))
  rw [show k + 1 + (n - (k + 1)) = n by omega, pof_s] at this
  omega
theorem pof_0 (P : pg) (k : Nat) : 0 ≤ pof P k := by
  have h := pof_mo (P := P) (k := 0) k
  rw [Nat.zero_add] at h
  have e : pof P 0 = 0 := rfl
  omega
/-- the steps of a text, so far -/
def PMr (w : wo) (t : Int) (P : pg) : Prop := wA w 52 t = pof P P.1 ∧ ∀ k : Nat, k < P.1 → wA w 51 (400 * t + pof P k) = pcl (P.2.1 k) (P.2.2 k) + 16 * pch (P.2.1 k) (P.2.2 k) ∧ ((P.2.1 k = 1 ∨ P.2.1 k = 2) → wA w 51 (400 * t + pof P k + 1) = 1 + P.2.1 k)
theorem PMr_pu {w u : wo} {t : Int} {P : pg} {kd on : Int} (h : PMr w t P) (h1 : wA u 51 (400 * t + pof P P.1) = pcl kd on + 16 * pch kd on) (h2 : (kd = 1 ∨ kd = 2) → wA u 51 (400 * t + pof P P.1 + 1) = 1 + kd) (h3 : ∀ z, z < 400 * t + pof P P.1 → wA u 51 z = wA w 51 z) (h4 : wA u 52 t = pof P P.1 + (1 + bz (kd = 1 ∨ kd = 2))) : PMr u t (pu P kd on) := by
  refine ⟨by rw [h4]; exact pof_pu.symm, fun k hk => ?_⟩
  have hk : k < P.1 + 1 := hk
  rw [pof_pk (by omega)]
  by_cases z : k = P.1
  · rw [z, (pu_e (P := P) (kd := kd) (on := on)).1, (pu_e (P := P) (kd := kd) (on := on)).2]
    exact ⟨h1, h2⟩
  · obtain ⟨e1, e2⟩ := pu_k (P := P) (kd := kd) (on := on) (k := k) (by omega)
    rw [e1, e2]
    have hl := pof_lt (P := P) (k := k) (n := P.1) (by omega)
    have hb := bz_ran (p := P.2.1 k = 1 ∨ P.2.1 k = 2)
    rw [h3 _ (by omega)]
    refine ⟨(h.2 k (by omega)).1, fun y => ?_⟩
    rw [bz_t y] at hl
    rw [h3 _ (by omega)]
    exact (h.2 k (by omega)).2 y
def lM : List Nat := [4714, 4715, 4716, 4718, 4719, 4721, 5199, 5299, 5799]
/-- only text t is written -/
def gM (t : Int) (w u : wo) : Prop := fr lM w u ∧ (∀ z, z < 400 * t ∨ 400 * t + 400 ≤ z → wA u 51 z = wA w 51 z) ∧ ∀ z, z ≠ t → wA u 52 z = wA w 52 z
theorem gM_t {t : Int} {w v u : wo} (h : gM t w v) (k : gM t v u) : gM t w u := ⟨fr_t h.1 k.1, fun z hz => (k.2.1 z hz).trans (h.2.1 z hz), fun z hz => (k.2.2 z hz).trans (h.2.2 z hz)⟩
theorem gM_r (t : Int) (w : wo) : gM t w w := ⟨fr_r _ _, fun _ _ => rfl, fun _ _ => rfl⟩
theorem gM_fr {t : Int} {w u : wo} {l : List Nat} (f : fr l w u) (q : fsub l lM = true) (q2 : (fhas l 5199 || fhas l 5299) = false) : gM t w u := by
  rw [Bool.or_eq_false_iff] at q2
  exact ⟨fr_m f q, fun z _ => by rw [fr_A f q2.1], fun z _ => by rw [fr_A f q2.2]⟩
section L59e
variable {sc : am_X} {w : wo} {b : Nat → Int} {L T : Nat} {t : Int}
def MW (w : wo) (b : Nat → Int) (L : Nat) (t : Int) (s : st) : Prop := oP w b L s.1 ∧ wI w 47 15 = 0 ∧ wI w 47 17 = t ∧ wI w 47 18 = s.2.1 ∧ wI w 47 19 = dpt s.2.2.1 ∧ (wI w 47 21 = s.2.2.1.length ∧ skr (s.2.2.1.map om) (wA w 57)) ∧ PMr w t s.2.2.2
def oR (w : wo) (b : Nat → Int) (L : Nat) (t : Int) (r : Sum Int st) (x : Int) : Prop := match r with
  | .inl c => x = 0 ∧ wI w 47 15 = c
  | .inr s => x = 1 ∧ MW w b L t s
/-- but for where one looks -/
theorem MW_n {s s' : st} {u : wo} (h : MW w b L t s) (f : fr [4714] w u) (e : s'.2 = s.2) (hp : oP u b L s'.1) : MW u b L t s' := by
  obtain ⟨h1, h2, h3, h4, h5, ⟨h6, h7⟩, h8⟩ := h
  unfold MW
  rw [e]
  refine ⟨hp, by rw [fr_I f rfl]; exact h2, by rw [fr_I f rfl]; exact h3, by rw [fr_I f rfl]; exact h4, by rw [fr_I f rfl]; exact h5, ⟨by rw [fr_I f rfl]; exact h6, by rw [fr_A (a := 57) f rfl]; exact h7⟩, ?_⟩
  unfold PMr
  rw [fr_A (a := 51) f rfl, fr_A (a := 52) f rfl]
  exact h8
theorem d84 {m x : Int} (h18 : wI w 47 18 = m) (hm : 0 ≤ m ∧ m ≤ 40) (h15 : wI w 47 15 = 0) : am_F sc 84 [am_R (some 47), am_I (ii x)] (wst w) = some (some (am_I (ii (bz (¬ 40 ≤ m)))), wst (if 40 ≤ m then uI w 47 15 (1 + 8 * x + 3) else uI w 47 18 (m + 1))) := by
  rw [fq_84]
  by_cases y : 40 ≤ m
  · rw [if_pos y, bz_f (fun z => z y)]
    have e80 := d80 (sc := sc) (c := 3) (x := x) h15
    simp (disch := omega) only [qB_s, qC_t, qC_f, qI_T, qI_F, qI_t, qI_f, r_I, r_L, r_R, r_V, ii_add, ii_sub, ii_mul, ii_neg, bz_0, bz_1, Bool.true_and, Bool.false_and, Bool.and_true, z00, z11, li_0, li_1, li_3, li_40, gI_47_18, is_47, pI_47_18, ii_eq, h18, e80]
  · rw [if_neg y, bz_t y]
    simp (disch := omega) only [qB_s, qC_t, qC_f, qI_T, qI_F, qI_t, qI_f, r_I, r_L, r_R, r_V, ii_add, ii_sub, ii_mul, ii_neg, bz_0, bz_1, Bool.true_and, Bool.false_and, Bool.and_true, z00, z11, li_0, li_1, li_3, li_40, gI_47_18, is_47, pI_47_18, ii_eq, h18]
theorem d85 (h17 : wI w 47 17 = t) (ht : 0 ≤ t ∧ t < 16) {n : Int} (h52 : wA w 52 t = n) (hn : 0 ≤ n ∧ n < 400) {x v : Int} : am_F sc 85 [am_R (some 47), am_I (ii x), am_I (ii v)] (wst w) = some (none, wst (uA (uA w 51 (fu (wA w 51) (400 * t + n) (x + 16 * v))) 52 (fu (wA w 52) t (n + 1)))) := by
  rw [fq_85]
  simp (disch := omega) only [qB_s, qC_t, qC_f, qI_T, qI_F, qI_t, qI_f, r_I, r_L, r_R, r_V, ii_add, ii_sub, ii_mul, ii_neg, bz_0, bz_1, Bool.true_and, Bool.false_and, Bool.and_true, z00, z11, li_0, li_1, li_16, li_400, e_51, e_52, gI_47_17, gR_47_6, gR_47_7, t_51, t_52, h17, h52, uI_I, uA_I, uI_A, uA_A, Nat.reduceEqDiff, and_self, and_false, and_true, if_true, if_false]
theorem d79w (hT : TT b L T) {j : Nat} (h : oP w b L j) {k : Nat} {K V : Int} (hk : k < 18) (hK : (k : Int) = K) (hV : Wc k = V) : ∃ u, am_F sc 79 [am_R (some 47), am_L (jj V)] (wst w) = some (some (am_I (ii (bz (tK b j = K)))), wst u) ∧ fr [4714] w u ∧ oQ u b L j := by
  subst hK
  subst hV
  exact d79 hT h hk
theorem d86l (hT : TT b L T) {j : Nat} : ∀ (d m : Nat) (w : wo), m + d = 6 → oQ w b L j → (∀ i : Nat, i < m → tK b j ≠ i) → ∃ u, am_W sc 86 (2, [some (am_R (some 47)), some (am_I (ii m))], [], wst w) = some (some (am_I (ii (if tK b j < 11 then tK b j else -1))), wst u) ∧ fr [4714] w u ∧ oQ u b L j
  | 0, m, w, hd, hQ, hm => by
    have hm6 : m = 6 := by omega
    subst hm6
    have e6 : ((6 : Nat) : Int) = 6 := rfl
    have hk := tK_r hT.1 j
    rw [e6]
    have n0 := hm 0 (by decide)
    have n1 := hm 1 (by decide)
    have n2 := hm 2 (by decide)
    have n3 := hm 3 (by decide)
    have n4 := hm 4 (by decide)
    have n5 := hm 5 (by decide)
    obtain ⟨c6, c7, c8, c9, c10, -⟩ := Wc_v
    obtain ⟨u6, a6, f6, q6⟩ := d79w (sc := sc) hT (oP_of hT hQ) (k := 6) (K := 6) (by decide) rfl c6
    obtain ⟨u7, a7, f7, q7⟩ := d79w (sc := sc) hT (oP_of hT q6) (k := 7) (K := 7) (by decide) rfl c7
    obtain ⟨u8, a8, f8, q8⟩ := d79w (sc := sc) hT (oP_of hT q7) (k := 8) (K := 8) (by decide) rfl c8
    obtain ⟨u9, a9, f9, q9⟩ := d79w (sc := sc) hT (oP_of hT q8) (k := 9) (K := 9) (by decide) rfl c9
    obtain ⟨u10, a10, f10, q10⟩ := d79w (sc := sc) hT (oP_of hT q9) (k := 10) (K := 10) (by decide) rfl c10
    by_cases y6 : tK b j = 6
    · rw [bz_t y6] at a6
      refine ⟨u6, ?_, f6, q6⟩
      rw [y6, if_pos (by decide), wq_86_2]
      simp (disch := omega) only [qB_s, qC_t, qC_f, qI_T, qI_F, qI_t, qI_f, r_I, r_L, r_R, r_V, ii_add, ii_sub, ii_mul, ii_neg, bz_0, bz_1, Bool.true_and, Bool.false_and, Bool.and_true, z00, z11, li_0, li_1, li_10, li_6, li_7, li_8, li_9, lj_122485595530085, lj_1667329381, lj_28001, lj_461414299502, lj_495873779557, lj_500135192948, is_47, ii_lt, ii_eq, a6]
    · rw [bz_f y6] at a6
      by_cases y7 : tK b j = 7
      · rw [bz_t y7] at a7
        refine ⟨u7, ?_, fr_t f6 f7, q7⟩
        rw [y7, if_pos (by decide), wq_86_2]
        simp (disch := omega) only [qB_s, qC_t, qC_f, qI_T, qI_F, qI_t, qI_f, r_I, r_L, r_R, r_V, ii_add, ii_sub, ii_mul, ii_neg, bz_0, bz_1, Bool.true_and, Bool.false_and, Bool.and_true, z00, z11, li_0, li_1, li_10, li_6, li_7, li_8, li_9, lj_122485595530085, lj_1667329381, lj_28001, lj_461414299502, lj_495873779557, lj_500135192948, is_47, ii_lt, ii_eq, a6, a7]
      · rw [bz_f y7] at a7
        by_cases y8 : tK b j = 8
        · rw [bz_t y8] at a8
          refine ⟨u8, ?_, fr_t (fr_t f6 f7) f8, q8⟩
          rw [y8, if_pos (by decide), wq_86_2]
          simp (disch := omega) only [qB_s, qC_t, qC_f, qI_T, qI_F, qI_t, qI_f, r_I, r_L, r_R, r_V, ii_add, ii_sub, ii_mul, ii_neg, bz_0, bz_1, Bool.true_and, Bool.false_and, Bool.and_true, z00, z11, li_0, li_1, li_10, li_6, li_7, li_8, li_9, lj_122485595530085, lj_1667329381, lj_28001, lj_461414299502, lj_495873779557, lj_500135192948, is_47, ii_lt, ii_eq, a6, a7, a8]
        · rw [bz_f y8] at a8
          by_cases y9 : tK b j = 9
          · rw [bz_t y9] at a9
            refine ⟨u9, ?_, fr_t (fr_t (fr_t f6 f7) f8) f9, q9⟩
            rw [y9, if_pos (by decide), wq_86_2]
            simp (disch := omega) only [qB_s, qC_t, qC_f, qI_T, qI_F, qI_t, qI_f, r_I, r_L, r_R, r_V, ii_add, ii_sub, ii_mul, ii_neg, bz_0, bz_1, Bool.true_and, Bool.false_and, Bool.and_true, z00, z11, li_0, li_1, li_10, li_6, li_7, li_8, li_9, lj_122485595530085, lj_1667329381, lj_28001, lj_461414299502, lj_495873779557, lj_500135192948, is_47, ii_lt, ii_eq, a6, a7, a8, a9]
          · rw [bz_f y9] at a9
            by_cases y10 : tK b j = 10
            · rw [bz_t y10] at a10
              refine ⟨u10, ?_, fr_t (fr_t (fr_t (fr_t f6 f7) f8) f9) f10, q10⟩
              rw [y10, if_pos (by decide), wq_86_2]
              simp (disch := omega) only [qB_s, qC_t, qC_f, qI_T, qI_F, qI_t, qI_f, r_I, r_L, r_R, r_V, ii_add, ii_sub, ii_mul, ii_neg, bz_0, bz_1, Bool.true_and, Bool.false_and, Bool.and_true, z00, z11, li_0, li_1, li_10, li_6, li_7, li_8, li_9, lj_122485595530085, lj_1667329381, lj_28001, lj_461414299502, lj_495873779557, lj_500135192948, is_47, ii_lt, ii_eq, a6, a7, a8, a9, a10]
            · rw [bz_f y10] at a10
              refine ⟨u10, ?_, fr_t (fr_t (fr_t (fr_t f6 f7) f8) f9) f10, q10⟩
              rw [if_neg (by omega), wq_86_2]
              simp (disch := omega) only [qB_s, qC_t, qC_f, qI_T, qI_F, qI_t, qI_f, r_I, r_L, r_R, r_V, ii_add, ii_sub, ii_mul, ii_neg, bz_0, bz_1, Bool.true_and, Bool.false_and, Bool.and_true, z00, z11, li_0, li_1, li_10, li_6, li_7, li_8, li_9, lj_122485595530085, lj_1667329381, lj_28001, lj_461414299502, lj_495873779557, lj_500135192948, is_47, ii_lt, ii_eq, a6, a7, a8, a9, a10]
  | d + 1, m, w, hd, hQ, hm => by
    obtain ⟨u, a, f, q⟩ := d79 (sc := sc) hT (oP_of hT hQ) (k := m) (by omega)
    rw [Wc_m (by omega)] at a
    have e : (28001 : Int64) + (ii (m : Int)).toInt64 = jj (28001 + (m : Int)) := by
      rw [ii_jj (by omega) (by omega), lj_28001, jj_add]
    by_cases y : tK b j = m
    · rw [bz_t y] at a
      refine ⟨u, ?_, f, q⟩
      rw [y, if_pos (by omega), wq_86_2, e, li_6, qI_t (by rw [ii_lt] <;> omega), is_47, qC_t, a, r_I, qB_s, qI_f (show ¬ (ii 1 = (0 : Int32)) by decide)]
    · rw [bz_f y] at a
      obtain ⟨u2, k1, k2, k3⟩ := d86l hT d (m + 1) u (by omega) q (fun i hi => by
        by_cases z : i = m
        · rw [z]; exact y
        · exact hm i (by omega))
      refine ⟨u2, ?_, fr_t f k2, k3⟩
      rw [← k1, wq_86_2, e, li_6, qI_t (by rw [ii_lt] <;> omega), is_47, qC_t, a, r_I, qB_s, qI_t (show ii 0 = (0 : Int32) by decide), li_1, ii_add, nat_1]
theorem d86 (hT : TT b L T) {j : Nat} (hQ : oQ w b L j) : ∃ u, am_F sc 86 [am_R (some 47)] (wst w) = some (some (am_I (ii (if tK b j < 11 then tK b j else -1))), wst u) ∧ fr [4714] w u ∧ oQ u b L j := by
  rw [fq_86]
  exact d86l hT 6 0 w rfl hQ (fun i hi => absurd hi (Nat.not_lt_zero i))
/-- what a value is -/
def aVo (b : Nat → Int) (s : st) : Sum Int Int :=
  if tK b s.1 = 200 then (if tVl b s.1 = -1 then .inl (fl b s.1 1) else if 40 ≤ s.2.1 then .inl (fl b s.1 3) else .inr (tVl b s.1))
  else if tK b s.1 < 11 then (if 40 ≤ s.2.1 then .inl (fl b s.1 3) else .inr (10000 + tK b s.1))
  else .inl (fl b s.1 0)
theorem aVal_o (b : Nat → Int) (kd : Int) (s : st) : aVal b kd s = bd (aVo b s) fun on => .inr (s.1 + 1, s.2.1 + 1, s.2.2.1, pu s.2.2.2 kd on) := by
  unfold aVal aVo
  by_cases y1 : tK b s.1 = 200
  · rw [if_pos y1, if_pos y1]
    by_cases y2 : tVl b s.1 = -1
    · rw [if_pos y2, if_pos y2]; rfl
    · rw [if_neg y2, if_neg y2]
      by_cases y3 : 40 ≤ s.2.1
      · rw [if_pos y3, if_pos y3]; rfl
      · rw [if_neg y3, if_neg y3]; rfl
  · rw [if_neg y1, if_neg y1]
    by_cases y2 : tK b s.1 < 11
    · rw [if_pos y2, if_pos y2]
      by_cases y3 : 40 ≤ s.2.1
      · rw [if_pos y3, if_pos y3]; rfl
      · rw [if_neg y3, if_neg y3]; rfl
    · rw [if_neg y2, if_neg y2]; rfl
/-- a value stands in the row -/
def MV1 (w u : wo) (b : Nat → Int) (L : Nat) (t : Int) (s : st) (on : Int) : Prop := oP u b L (s.1 + 1) ∧ wI u 47 15 = 0 ∧ wI u 47 17 = t ∧ wI u 47 18 = s.2.1 + 1 ∧ wI u 47 19 = dpt s.2.2.1 ∧ (wI u 47 21 = s.2.2.1.length ∧ skr (s.2.2.1.map om) (wA u 57)) ∧ (∀ z, z < 400 * t + pof s.2.2.2 s.2.2.2.1 → wA u 51 z = wA w 51 z) ∧ wA u 51 (400 * t + pof s.2.2.2 s.2.2.2.1) = pcl 0 on + 16 * pch 0 on ∧ wA u 52 t = pof s.2.2.2 s.2.2.2.1 + 1
def MVR (w u : wo) (b : Nat → Int) (L : Nat) (t : Int) (s : st) (r : Sum Int Int) (x : Int) : Prop := match r with
  | .inl c => x = 0 ∧ wI u 47 15 = c
  | .inr on => x = 1 ∧ MV1 w u b L t s on
theorem d87 (hT : TT b L T) (ht : 0 ≤ t ∧ t < 16) {s : st} (hW : MW w b L t s) {z ph e : Int} (hI : aI b T z ph e s) (hz : 0 ≤ z) : ∃ (u : wo) (x : Int), am_F sc 87 [am_R (some 47)] (wst w) = some (some (am_I (ii x)), wst u) ∧ gM t w u ∧ MVR w u b L t s (aVo b s) x := by
  have hn := aI_n hT hI hz
  have hp := hI.2.1
  have hp0 := pof_0 s.2.2.2 s.2.2.2.1
  have hk := tK_r hT.1 s.1
  have hv := tVl_r hT.1 s.1
  have hr := (tS_r hT.1 s.1).1
  have hL := hT.1.1
  obtain ⟨h1, h2, h3, h4, h5, ⟨h6, h7⟩, h8, -⟩ := hW
  obtain ⟨u1, k1, k2, k3⟩ := d76 (sc := sc) hT h1
  obtain ⟨hB, hS⟩ := id k3
  have h78 := d78 (sc := sc) hT hB (p := tS b s.1) (by omega)
  -- the state at the end
  have fin : ∀ (u : wo) (cl v on : Int), fr [4714, 4715, 4716, 4718] w u → oP u b L (s.1 + 1) → wI u 47 15 = 0 → wI u 47 18 = s.2.1 + 1 → pcl 0 on = cl → pch 0 on = v → ∃ u', am_F sc 85 [am_R (some 47), am_I (ii cl), am_I (ii v)] (wst u) = some (none, wst u') ∧ gM t w u' ∧ MV1 w u' b L t s on := fun u cl v on f p1 p2 p3 p4 p5 => by
    have e17 : wI u 47 17 = t := by rw [fr_I f rfl]; exact h3
    have e52 : wA u 52 t = pof s.2.2.2 s.2.2.2.1 := by rw [fr_A (a := 52) f rfl]; exact h8
    have e := d85 (sc := sc) e17 ht e52 ⟨hp0, by omega⟩ (x := cl) (v := v)
    refine ⟨_, e, gM_t (gM_fr f rfl rfl) ⟨fr_uA (fr_uA (fr_r _ _) rfl) rfl, fun q hq => ?_, fun q hq => ?_⟩, ?_, ?_, ?_, ?_, ?_, ⟨?_, ?_⟩, fun q hq => ?_, ?_, ?_⟩
    · rw [rAn _ _ rfl, rA, fu_at, if_neg (by omega)]
    · rw [rA, fu_at, if_neg hq]
    · exact ⟨p1.1, p1.2⟩
    · exact p2
    · exact e17
    · exact p3
    · show wI u 47 19 = _
      rw [fr_I f rfl]; exact h5
    · show wI u 47 21 = _
      rw [fr_I f rfl]; exact h6
    · show skr _ (wA u 57)
      rw [fr_A (a := 57) f rfl]; exact h7
    · rw [rAn _ _ rfl, rA, fu_at, if_neg (by omega), fr_A (a := 51) f rfl]
    · rw [rAn _ _ rfl, rA, fu_at, if_pos rfl, p4, p5]
    · rw [rA, fu_at, if_pos rfl]
  have h15 : wI u1 47 15 = 0 := by rw [fr_I k2 rfl]; exact h2
  unfold aVo
  cases y1 : dig (b (tS b s.1)) with
  | true =>
    rw [y1, bz_tt] at h78
    have eK : tK b s.1 = 200 := by
      have hne : b (tS b s.1) ≠ -1 := fun y => by rw [y] at y1; cases y1
      have hd := dig_r y1
      have na : ¬ alp (b (tS b s.1)) = true := fun y => by have := alp_r y; omega
      unfold tK tkK
      rw [if_neg hne, if_neg na, if_pos y1]
    rw [if_pos eK]
    obtain ⟨u2, x, m1, m2, m3⟩ := d83 (sc := sc) hT (oP_of hT k3) h15 (lo := 0) (hi := 9999) ⟨by decide, by decide⟩ ⟨by decide, by decide⟩
    have f2 : fr [4714, 4715, 4716] w u2 := fr_t (fr_m k2 rfl) m2
    revert m3
    unfold aNum
    rw [if_pos eK]
    by_cases y2 : tVl b s.1 = -1
    · rw [if_pos y2, if_pos (by omega)]
      intro m3
      obtain ⟨m3, m4⟩ := m3
      subst m3
      refine ⟨u2, 0, ?_, gM_fr f2 rfl rfl, rfl, m4⟩
      rw [fq_87]
      simp (disch := omega) only [qB_s, qC_t, qC_f, qI_T, qI_F, qI_t, qI_f, r_I, r_L, r_R, r_V, ii_add, ii_sub, ii_mul, ii_neg, bz_0, bz_1, Bool.true_and, Bool.false_and, Bool.and_true, z00, z11, li_0, li_1, li_9999, gI_47_14, gI_47_16, is_47, ii_eq, k1, hS, h78, m1]
    · rw [if_neg y2, if_neg (by omega)]
      intro m3
      obtain ⟨m3, m4, m5, m6⟩ := m3
      subst m3
      have e18 : wI u2 47 18 = s.2.1 := by rw [fr_I f2 rfl]; exact h4
      have e84 := d84 (sc := sc) (x := tS b s.1) e18 hp m6
      by_cases y3 : 40 ≤ s.2.1
      · rw [if_pos y3]
        rw [if_pos y3, bz_f (fun q => q y3)] at e84
        refine ⟨uI u2 47 15 (1 + 8 * (tS b s.1 : Int) + 3), 0, ?_, gM_t (gM_fr f2 rfl rfl) (gM_fr (l := [4715]) (fr_uI (fr_r _ _) rfl) rfl rfl), rfl, rI _ _ _ _⟩
        rw [fq_87]
        simp (disch := omega) only [qB_s, qC_t, qC_f, qI_T, qI_F, qI_t, qI_f, r_I, r_L, r_R, r_V, ii_add, ii_sub, ii_mul, ii_neg, bz_0, bz_1, Bool.true_and, Bool.false_and, Bool.and_true, z00, z11, li_0, li_1, li_9999, gI_47_14, gI_47_16, is_47, ii_eq, k1, hS, h78, m1, e84]
      · rw [if_neg y3]
        rw [if_neg y3, bz_t y3] at e84
        have f3 : fr [4714, 4715, 4716, 4718] w (uI u2 47 18 (s.2.1 + 1)) := fr_uI (fr_m f2 rfl) rfl
        obtain ⟨u3, n1, n2, n3⟩ := fin (uI u2 47 18 (s.2.1 + 1)) 0 (tVl b s.1) (tVl b s.1) f3 ⟨oB_fr m5.1 (l := [4718]) (fr_uI (fr_r _ _) rfl) rfl, m5.2⟩ m6 (rI _ _ _ _) (by unfold pcl; rw [if_pos (by decide), bz_f (by omega)]) (by unfold pch; rw [if_pos (by decide), if_pos (by omega)])
        refine ⟨u3, 1, ?_, n2, rfl, n3⟩
        have e16 : wI (uI u2 47 18 (s.2.1 + 1)) 47 16 = tVl b s.1 := m4
        rw [fq_87]
        simp (disch := omega) only [qB_s, qC_t, qC_f, qI_T, qI_F, qI_t, qI_f, r_I, r_L, r_R, r_V, ii_add, ii_sub, ii_mul, ii_neg, bz_0, bz_1, Bool.true_and, Bool.false_and, Bool.and_true, z00, z11, li_0, li_1, li_9999, gI_47_14, gI_47_16, is_47, ii_eq, k1, hS, h78, m1, e84, e16, n1]
  | false =>
    rw [y1, bz_ff] at h78
    have eK : tK b s.1 ≠ 200 := fun y => by
      have := tK_dig hT y
      rw [y1] at this
      cases this
    rw [if_neg eK]
    obtain ⟨u2, m1, m2, m3⟩ := d86 (sc := sc) hT k3
    have f2 : fr [4714] w u2 := fr_t k2 m2
    have h15' : wI u2 47 15 = 0 := by rw [fr_I m2 rfl]; exact h15
    by_cases y2 : tK b s.1 < 11
    · rw [if_pos y2]
      rw [if_pos y2] at m1
      have e18 : wI u2 47 18 = s.2.1 := by rw [fr_I f2 rfl]; exact h4
      have e84 := d84 (sc := sc) (x := tS b s.1) e18 hp h15'
      by_cases y3 : 40 ≤ s.2.1
      · rw [if_pos y3]
        rw [if_pos y3, bz_f (fun q => q y3)] at e84
        refine ⟨uI u2 47 15 (1 + 8 * (tS b s.1 : Int) + 3), 0, ?_, gM_t (gM_fr f2 rfl rfl) (gM_fr (l := [4715]) (fr_uI (fr_r _ _) rfl) rfl rfl), rfl, rI _ _ _ _⟩
        rw [fq_87]
        simp (disch := omega) only [qB_s, qC_t, qC_f, qI_T, qI_F, qI_t, qI_f, r_I, r_L, r_R, r_V, ii_add, ii_sub, ii_mul, ii_neg, bz_0, bz_1, Bool.true_and, Bool.false_and, Bool.and_true, z00, z11, li_0, li_1, li_9999, gI_47_14, gI_47_16, is_47, ii_lt, ii_eq, k1, hS, h78, m1, e84]
      · rw [if_neg y3]
        rw [if_neg y3, bz_t y3] at e84
        have f3 : fr [4714, 4715, 4716, 4718] w (uI u2 47 18 (s.2.1 + 1)) := fr_uI (fr_m f2 rfl) rfl
        have q3 : oQ (uI u2 47 18 (s.2.1 + 1)) b L s.1 := ⟨oB_fr m3.1 (l := [4718]) (fr_uI (fr_r _ _) rfl) rfl, m3.2⟩
        obtain ⟨kk, hkk⟩ : ∃ kk : Nat, tK b s.1 = kk := ⟨(tK b s.1).toNat, by omega⟩
        obtain ⟨u3, n1, n2, n3⟩ := d81 (sc := sc) hT q3 (k := kk) (by omega) hkk
        obtain ⟨u4, o1, o2, o3⟩ := fin u3 1 (tK b s.1) (10000 + tK b s.1) (fr_t f3 (fr_m n2 rfl)) n3 (by rw [fr_I n2 rfl]; exact h15') (by rw [fr_I n2 rfl]; exact rI _ _ _ _) (by unfold pcl; rw [if_pos (by decide), bz_t (by omega)]) (by unfold pch; rw [if_pos (by decide), if_neg (by omega)]; omega)
        refine ⟨u4, 1, ?_, o2, rfl, o3⟩
        rw [fq_87]
        simp (disch := omega) only [qB_s, qC_t, qC_f, qI_T, qI_F, qI_t, qI_f, r_I, r_L, r_R, r_V, ii_add, ii_sub, ii_mul, ii_neg, bz_0, bz_1, Bool.true_and, Bool.false_and, Bool.and_true, z00, z11, li_0, li_1, li_9999, gI_47_14, gI_47_16, is_47, ii_lt, ii_eq, k1, hS, h78, m1, e84, n1, o1]
    · rw [if_neg y2]
      rw [if_neg y2] at m1
      have e80 := d80 (sc := sc) (c := 0) (x := tS b s.1) h15'
      refine ⟨uI u2 47 15 (1 + 8 * (tS b s.1 : Int) + 0), 0, ?_, gM_t (gM_fr f2 rfl rfl) (gM_fr (l := [4715]) (fr_uI (fr_r _ _) rfl) rfl rfl), rfl, rI _ _ _ _⟩
      rw [fq_87]
      simp (disch := omega) only [qB_s, qC_t, qC_f, qI_T, qI_F, qI_t, qI_f, r_I, r_L, r_R, r_V, ii_add, ii_sub, ii_mul, ii_neg, bz_0, bz_1, Bool.true_and, Bool.false_and, Bool.and_true, z00, z11, li_0, li_1, li_9999, gI_47_14, gI_47_16, is_47, ii_lt, ii_eq, k1, hS, h78, m1, e80]
/-- the first value of a sum -/
theorem MV1_0 {u : wo} {s : st} {on : Int} (hW : MW w b L t s) (h : MV1 w u b L t s on) : MW u b L t (s.1 + 1, s.2.1 + 1, s.2.2.1, pu s.2.2.2 0 on) := by
  obtain ⟨h1, h2, h3, h4, h5, h6, h7, h8, h9⟩ := h
  refine ⟨h1, h2, h3, h4, h5, h6, PMr_pu hW.2.2.2.2.2.2 h8 (fun y => by omega) h7 ?_⟩
  rw [h9, bz_f (by decide)]
  rfl
/-- a further one -/
theorem MV1_k {u : wo} {s : st} {on kd : Int} (ht : 0 ≤ t ∧ t < 16) (hW : MW w b L t s) (h : MV1 w u b L t s on) (hk : kd = 1 ∨ kd = 2) (hp : pof s.2.2.2 s.2.2.2.1 ≤ 300) : ∃ v, am_F sc 85 [am_R (some 47), am_I (ii (1 + kd)), am_I (ii 0)] (wst u) = some (none, wst v) ∧ gM t u v ∧ MW v b L t (s.1 + 1, s.2.1 + 1, s.2.2.1, pu s.2.2.2 kd on) := by
  have hp0 := pof_0 s.2.2.2 s.2.2.2.1
  obtain ⟨h1, h2, h3, h4, h5, h6, h7, h8, h9⟩ := h
  have e := d85 (sc := sc) h3 ht h9 ⟨by omega, by omega⟩ (x := 1 + kd) (v := 0)
  refine ⟨_, e, ⟨fr_uA (fr_uA (fr_r _ _) rfl) rfl, fun q hq => ?_, fun q hq => ?_⟩, h1, h2, h3, h4, h5, h6, PMr_pu hW.2.2.2.2.2.2 ?_ (fun y => ?_) (fun z hz => ?_) ?_⟩
  · rw [rAn _ _ rfl, rA, fu_at, if_neg (by omega)]
  · rw [rA, fu_at, if_neg hq]
  · show wA (uA (uA u 51 _) 52 _) 51 (400 * t + pof s.2.2.2 s.2.2.2.1) = _
    rw [rAn _ _ rfl, rA, fu_at, if_neg (by omega), h8]
    rw [show pcl kd on = pcl 0 on by unfold pcl; rw [if_pos (show kd ≤ 2 by omega), if_pos (show (0 : Int) ≤ 2 by decide)], show pch kd on = pch 0 on by unfold pch; rw [if_pos (show kd ≤ 2 by omega), if_pos (show (0 : Int) ≤ 2 by decide)]]
  · show wA (uA (uA u 51 _) 52 _) 51 (400 * t + pof s.2.2.2 s.2.2.2.1 + 1) = _
    rw [rAn _ _ rfl, rA, fu_at, if_pos (by omega)]
    omega
  · show wA (uA (uA u 51 _) 52 _) 51 z = _
    have hz : z < 400 * t + pof s.2.2.2 s.2.2.2.1 := hz
    rw [rAn _ _ rfl, rA, fu_at, if_neg (by omega)]
    exact h7 z hz
  · show wA (uA (uA u 51 _) 52 _) 52 t = pof s.2.2.2 s.2.2.2.1 + (1 + bz (kd = 1 ∨ kd = 2))
    rw [rA, fu_at, if_pos rfl, bz_t hk]
    omega
/-- what stands where one looks -/
theorem oQ_e {j : Nat} (hT : TT b L T) (h : oQ w b L j) (hj : tS b j < L) : am_eI (wst w) 50 1 (ii (tS b j)) = some (ii (sBy (b (tS b j)))) ∧ wA w 50 (tS b j) = sBy (b (tS b j)) := by
  have e := h.1.2 (tS b j) hj
  have hL := hT.1.1
  exact ⟨by rw [e_50 w (by omega) (by omega), e], e⟩
theorem d88l (hT : TT b L T) (ht : 0 ≤ t ∧ t < 16) {z ph e : Int} (hz : 0 ≤ z) (hp : 1 ≤ ph) : ∀ (d : Nat) (w : wo) (s : st), T < s.1 + d → MW w b L t s → aI b T z ph e s → ∃ (u : wo) (x : Int), am_W sc 88 (9, [some (am_R (some 47)), none], [], wst w) = some (some (am_I (ii x)), wst u) ∧ gM t w u ∧ oR u b L t (aSmL b d s) x
  | 0, w, s, hd, hW, hI => by
    have := hI.1
    omega
  | d + 1, w, s, hd, hW, hI => by
    have hn := aI_n hT hI hz
    have hr := (tS_r hT.1 s.1).1
    have hL := hT.1.1
    have hb := TP_b hT.1 (tS b s.1)
    obtain ⟨u1, k1, k2, k3⟩ := d76 (sc := sc) hT hW.1
    obtain ⟨u1', k1', k2', k3'⟩ := d76 (sc := sc) hT (oP_of hT k3)
    have go : ∀ (kd : Int) (v : wo), (kd = 1 ∧ tK b s.1 = 43) ∨ (kd = 2 ∧ tK b s.1 = 45) → fr [4714] w v → oQ v b L s.1 → aSmL b (d + 1) s = bd (aVal b kd (s.1 + 1, s.2)) (aSmL b d) → (∀ u2 : wo, am_F sc 87 [am_R (some 47)] (wst (uI v 47 14 (tS b s.1 + 1))) = some (some (am_I (ii 0)), wst u2) → am_W sc 88 (9, [some (am_R (some 47)), none], [], wst w) = some (some (am_I (ii 0)), wst u2)) → (∀ u2 u3 : wo, am_F sc 87 [am_R (some 47)] (wst (uI v 47 14 (tS b s.1 + 1))) = some (some (am_I (ii 1)), wst u2) → am_F sc 85 [am_R (some 47), am_I (ii (1 + kd)), am_I (ii 0)] (wst u2) = some (none, wst u3) → am_W sc 88 (9, [some (am_R (some 47)), none], [], wst w) = am_W sc 88 (9, [some (am_R (some 47)), none], [], wst u3)) → ∃ (u : wo) (x : Int), am_W sc 88 (9, [some (am_R (some 47)), none], [], wst w) = some (some (am_I (ii x)), wst u) ∧ gM t w u ∧ oR u b L t (aSmL b (d + 1) s) x := fun kd v hk fv hv hu run1 run2 => by
      have hlt := TT_lt hT hI.1 (by omega)
      have eE := (tK_s (b := b) (j := s.1) (c := tK b s.1) (by omega)).2 rfl
      have f2 : fr [4714] v (uI v 47 14 (tS b s.1 + 1)) := fr_uI (fr_r _ _) rfl
      have hW1 : MW (uI v 47 14 (tS b s.1 + 1)) b L t (s.1 + 1, s.2) := MW_n hW (fr_t fv f2) rfl (oP_1 hT hv f2 rfl hlt.2.2 (by rw [rI, eE]; omega))
      have hI1 := aI_1 hT hI (by omega)
      obtain ⟨u2, x, m1, m2, m3⟩ := d87 (sc := sc) hT ht hW1 hI1 hz
      have g1 : gM t w u2 := gM_t (gM_fr (fr_t fv f2) rfl rfl) m2
      rw [hu, aVal_o]
      revert m3
      cases hr2 : aVo b (s.1 + 1, s.2) with
      | inl c =>
        intro m3
        obtain ⟨m3, m4⟩ := m3
        subst m3
        exact ⟨u2, 0, run1 u2 m1, g1, rfl, m4⟩
      | inr on =>
        intro m3
        obtain ⟨m3, m4⟩ := m3
        subst m3
        obtain ⟨v3, n1, n2, n3⟩ := MV1_k (sc := sc) ht hW1 m4 (kd := kd) (by omega) (by show pof s.2.2.2 s.2.2.2.1 ≤ 300; omega)
        have hs : aVal b kd (s.1 + 1, s.2) = .inr (s.1 + 1 + 1, s.2.1 + 1, s.2.2.1, pu s.2.2.2 kd on) := by rw [aVal_o, hr2]; rfl
        obtain ⟨a1, a2, a3⟩ := aVal_I hT hI1 (.inr ⟨by omega, hp⟩) hs
        rw [if_neg (by omega)] at a1
        obtain ⟨u, y, o1, o2, o3⟩ := d88l hT ht hz hp d v3 _ (by show T < s.1 + 1 + 1 + d; omega) n3 a1
        exact ⟨u, y, (run2 u2 v3 m1 n1).trans o1, gM_t (gM_t g1 n2) o2, o3⟩
    by_cases y1 : tK b s.1 = 43
    · have hlt := TT_lt hT hI.1 (by omega)
      have eb := (tK_s (b := b) (j := s.1) (c := 43) (by omega)).1.mp y1
      have e50 := (oQ_e hT k3 hlt.2.2).1
      rw [eb, show sBy 43 = 43 from rfl] at e50
      rw [eb] at k1
      have hS := k3.2
      refine go 1 u1 (.inl ⟨rfl, y1⟩) k2 k3 (if_pos y1) (fun u2 m1 => ?_) (fun u2 u3 m1 n1 => ?_)
      · rw [wq_88_9]
        simp (disch := omega) only [qB_s, qC_t, qC_f, qI_T, qI_F, qI_t, qI_f, r_I, r_L, r_R, r_V, ii_add, ii_sub, ii_mul, ii_neg, bz_0, bz_1, Bool.true_and, Bool.false_and, Bool.and_true, z00, z11, li_0, li_1, li_2, li_3, li_43, li_45, e_50, gI_47_14, gR_47_4, is_47, pI_47_14, ii_eq, k1, hS, e50, m1]
      · have n1 : am_F sc 85 [am_R (some 47), am_I (ii 2), am_I (ii 0)] (wst u2) = some (none, wst u3) := n1
        rw [wq_88_9]
        simp (disch := omega) only [qB_s, qC_t, qC_f, qI_T, qI_F, qI_t, qI_f, r_I, r_L, r_R, r_V, ii_add, ii_sub, ii_mul, ii_neg, bz_0, bz_1, Bool.true_and, Bool.false_and, Bool.and_true, z00, z11, li_0, li_1, li_2, li_3, li_43, li_45, e_50, gI_47_14, gR_47_4, is_47, pI_47_14, ii_eq, k1, hS, e50, m1, n1]
    · by_cases y2 : tK b s.1 = 45
      · have hlt := TT_lt hT hI.1 (by omega)
        have eb := (tK_s (b := b) (j := s.1) (c := 45) (by omega)).1.mp y2
        have e50 := (oQ_e hT k3' hlt.2.2).1
        rw [eb, show sBy 45 = 45 from rfl] at e50
        rw [eb] at k1 k1'
        have hS := k3'.2
        refine go 2 u1' (.inr ⟨rfl, y2⟩) (fr_t k2 k2') k3' (by
          show (if tK b s.1 = 43 then _ else _) = _
          rw [if_neg y1, if_pos y2]) (fun u2 m1 => ?_) (fun u2 u3 m1 n1 => ?_)
        · rw [wq_88_9]
          simp (disch := omega) only [qB_s, qC_t, qC_f, qI_T, qI_F, qI_t, qI_f, r_I, r_L, r_R, r_V, ii_add, ii_sub, ii_mul, ii_neg, bz_0, bz_1, Bool.true_and, Bool.false_and, Bool.and_true, z00, z11, li_0, li_1, li_2, li_3, li_43, li_45, e_50, gI_47_14, gR_47_4, is_47, pI_47_14, ii_eq, k1, k1', hS, e50, m1]
        · have n1 : am_F sc 85 [am_R (some 47), am_I (ii 3), am_I (ii 0)] (wst u2) = some (none, wst u3) := n1
          rw [wq_88_9]
          simp (disch := omega) only [qB_s, qC_t, qC_f, qI_T, qI_F, qI_t, qI_f, r_I, r_L, r_R, r_V, ii_add, ii_sub, ii_mul, ii_neg, bz_0, bz_1, Bool.true_and, Bool.false_and, Bool.and_true, z00, z11, li_0, li_1, li_2, li_3, li_43, li_45, e_50, gI_47_14, gR_47_4, is_47, pI_47_14, ii_eq, k1, k1', hS, e50, m1, n1]
      · rw [show aSmL b (d + 1) s = .inr s by
          show (if tK b s.1 = 43 then _ else _) = _
          rw [if_neg y1, if_neg y2]]
        have b1 : b (tS b s.1) ≠ 43 := fun y => y1 ((tK_s (b := b) (j := s.1) (c := 43) (by omega)).1.mpr y)
        have b2 : b (tS b s.1) ≠ 45 := fun y => y2 ((tK_s (b := b) (j := s.1) (c := 45) (by omega)).1.mpr y)
        refine ⟨u1', 1, ?_, gM_fr (fr_t k2 k2') rfl rfl, rfl, MW_n hW (fr_t k2 k2') rfl (oP_of hT k3')⟩
        rw [wq_88_9]
        simp (disch := omega) only [qB_s, qC_t, qC_f, qI_T, qI_F, qI_t, qI_f, r_I, r_L, r_R, r_V, ii_add, ii_sub, ii_mul, ii_neg, bz_0, bz_1, Bool.true_and, Bool.false_and, Bool.and_true, z00, z11, li_0, li_1, li_2, li_3, li_43, li_45, e_50, gI_47_14, gR_47_4, is_47, pI_47_14, ii_eq, k1, k1']
theorem d88 (hT : TT b L T) (ht : 0 ≤ t ∧ t < 16) {s : st} (hW : MW w b L t s) {z ph e : Int} (hI : aI b T z ph e s) (hz : 0 ≤ z) (hp : 0 ≤ ph ∧ ph ≤ 1) : ∃ (u : wo) (x : Int), am_F sc 88 [am_R (some 47)] (wst w) = some (some (am_I (ii x)), wst u) ∧ gM t w u ∧ oR u b L t (aSum b s) x := by
  have hT4 := hT.2.1
  obtain ⟨u1, x, k1, k2, k3⟩ := d87 (sc := sc) hT ht hW hI hz
  unfold aSum
  rw [aVal_o]
  revert k3
  cases hr : aVo b s with
  | inl c =>
    intro k3
    obtain ⟨k3, k4⟩ := k3
    subst k3
    refine ⟨u1, 0, ?_, k2, rfl, k4⟩
    rw [fq_88]
    simp (disch := omega) only [qB_s, qC_t, qC_f, qI_T, qI_F, qI_t, qI_f, r_I, r_L, r_R, r_V, ii_add, ii_sub, ii_mul, ii_neg, bz_0, bz_1, Bool.true_and, Bool.false_and, Bool.and_true, z00, z11, li_0, li_1, li_2, li_3, li_43, li_45, e_50, gI_47_14, gR_47_4, is_47, pI_47_14, ii_eq, k1]
  | inr on =>
    intro k3
    obtain ⟨k3, k4⟩ := k3
    subst k3
    have hs : aVal b 0 s = .inr (s.1 + 1, s.2.1 + 1, s.2.2.1, pu s.2.2.2 0 on) := by rw [aVal_o, hr]; rfl
    obtain ⟨a1, a2, a3⟩ := aVal_I hT hI (.inl ⟨rfl, hp.2⟩) hs
    rw [if_pos rfl] at a1
    obtain ⟨u, y, o1, o2, o3⟩ := d88l (sc := sc) hT ht hz (by omega) 400 u1 _ (by show T < s.1 + 1 + 400; omega) (MV1_0 hW k4) a1
    refine ⟨u, y, ?_, gM_t k2 o2, o3⟩
    rw [← o1, fq_88]
    simp (disch := omega) only [qB_s, qC_t, qC_f, qI_T, qI_F, qI_t, qI_f, r_I, r_L, r_R, r_V, ii_add, ii_sub, ii_mul, ii_neg, bz_0, bz_1, Bool.true_and, Bool.false_and, Bool.and_true, z00, z11, li_0, li_1, li_2, li_3, li_43, li_45, e_50, gI_47_14, gR_47_4, is_47, pI_47_14, ii_eq, k1]
end L59e
