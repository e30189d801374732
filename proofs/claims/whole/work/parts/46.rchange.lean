/-! CHANGE IN THE OTHER -/
/-- a case told otherwise in one mark -/
def gUc (g : Int → Int → Int) (k : Int) (m v : Nat) : Int → Int → Int := fun c j => if c = k ∧ j = 4 + (m : Int) then (v : Int) else g c j
theorem gU_K {n : Int} {g : Int → Int → Int} (hg : gK n g) (k : Int) {m v : Nat} (hm : m < 6) (hv : v < 10) : gK n (gUc g k m v) := fun c c0 c1 => by
  have h := hg c c0 c1
  unfold gUc
  refine ⟨?_, ?_, ?_, ?_, fun j j0 j1 => ?_⟩
  · rw [if_neg (by omega)]; exact h.1
  · rw [if_neg (by omega)]; exact h.2.1
  · rw [if_neg (by omega)]; exact h.2.2.1
  · rw [if_neg (by omega)]; exact h.2.2.2.1
  · split
    · omega
    · exact h.2.2.2.2 j j0 j1
theorem rw1_m (g : Int → Int → Int) (k : Int) {m : Nat} (hm : m < 6) : rw1 g k m = g k (4 + m) := by
  unfold rw1
  rw [if_pos (by omega)]
theorem rw1_U (g : Int → Int → Int) (k : Int) {m v : Nat} (hm : m < 6) : rw1 (gUc g k m v) k = rS (rw1 g k) m v := by
  funext j
  unfold rS
  rw [fu_at]
  unfold rw1 gUc
  by_cases q : j = m
  · rw [if_pos q, if_pos (by omega), if_pos ⟨rfl, by omega⟩]
  · rw [if_neg q]
    by_cases q2 : j < 6
    · rw [if_pos q2, if_pos q2, if_neg (by omega)]
    · rw [if_neg q2, if_neg q2]
      simp only [show ¬ (0 : Int) = 4 + (m : Int) by omega, show ¬ (1 : Int) = 4 + (m : Int) by omega, show ¬ (2 : Int) = 4 + (m : Int) by omega, show ¬ (3 : Int) = 4 + (m : Int) by omega, and_false, if_false]
theorem fr_bk {l : List Nat} {w u : wo} {a : Nat} {f F : Int → Int} (h : fr l (uA w a f) u) (e : F = wA w a) : fr l w (uA u a F) := by
  refine ⟨h.1, fun b q => ?_, h.2.2⟩
  have hb := h.2.1 b q
  rw [uA_A, uA_B] at *
  by_cases z : b = a
  · rw [if_pos z, e, z]
    rw [z] at hb
    exact ⟨rfl, hb.2⟩
  · rw [if_neg z] at *
    exact hb
/-- how many marks are told otherwise -/
def cnt (s : cst) : Int := if s.2.1 = -1 then 0 else if s.2.2.2.1 = -1 then 1 else 2
/-- what the other keeps -/
def KM (w : wo) (s : cst) : Prop := (s.1 = 1000 ∧ wA w 74 0 = -1) ∨ ((0 ≤ s.1 ∧ s.1 < 1000) ∧ wA w 74 0 = s.1 ∧ wA w 74 1 = cnt s ∧ wA w 74 2 = s.2.1 ∧ wA w 74 3 = s.2.2.1 ∧ wA w 74 4 = s.2.2.2.1 ∧ wA w 74 5 = s.2.2.2.2)
def sRG : List Nat := [4723, 4724, 5899, 7499]
theorem KM_fr {w v : wo} {s : cst} {l : List Nat} (h : KM w s) (q : fr l w v) (z : fhas l 7499 = false) : KM v s := by
  unfold KM
  rw [fr_A (a := 74) q z]
  exact h
section L46
variable {sc : am_X} {w : wo} {A : ab} {n : Int} {g : Int → Int → Int} {P : pg}
theorem MS_U (hM : MS w n g) {k : Int} {m v : Nat} (hm : m < 6) : MS (uA w 48 (fu (wA w 48) (10 * k + 4 + m) v)) n (gUc g k m v) := by
  obtain ⟨h1, h2, h3, h4⟩ := hM
  refine ⟨h1, h2, h3, fun c j c0 c1 j0 j1 => ?_⟩
  rw [rA, fu_at]
  unfold gUc
  by_cases z : c = k ∧ j = 4 + (m : Int)
  · rw [if_pos (by omega), if_pos z]
  · rw [if_neg (by omega), if_neg z]
    exact h4 c j c0 c1 j0 j1
theorem PM_U {t : Int} (h : PM w t P) (f : Int → Int) : PM (uA w 48 f) t P := by
  unfold PM
  rw [rAn _ _ rfl, rAn _ _ rfl]
  exact h
theorem d274 {s : cst} (hK : KM w s) {d : Int} (hd : 0 ≤ d ∧ d < 1000) {m v m2 v2 : Int} : ∃ u, am_F sc 274 [am_R (some 47), am_I (ii d), am_I (ii (cnt (d, m, v, m2, v2))), am_I (ii m), am_I (ii v), am_I (ii m2), am_I (ii v2)] (wst w) = some (none, wst u) ∧ fr [7499] w u ∧ KM u (if d < s.1 then (d, m, v, m2, v2) else s) := by
  have hw : ∀ c, KM (uA (uA (uA (uA (uA (uA w 74 (fu (wA w 74) 0 d)) 74 (fu (fu (wA w 74) 0 d) 1 c)) 74 (fu (fu (fu (wA w 74) 0 d) 1 c) 2 m)) 74 (fu (fu (fu (fu (wA w 74) 0 d) 1 c) 2 m) 3 v)) 74 (fu (fu (fu (fu (fu (wA w 74) 0 d) 1 c) 2 m) 3 v) 4 m2)) 74 (fu (fu (fu (fu (fu (fu (wA w 74) 0 d) 1 c) 2 m) 3 v) 4 m2) 5 v2)) (d, m, v, m2, v2) ∨ c ≠ cnt (d, m, v, m2, v2) := fun c => by
    by_cases z : c = cnt (d, m, v, m2, v2)
    · refine .inl (.inr ⟨hd, ?_, ?_, ?_, ?_, ?_, ?_⟩)
      all_goals rw [rA]
      all_goals simp [fu_at, z]
    · exact .inr z
  have hf : ∀ c, fr [7499] w (uA (uA (uA (uA (uA (uA w 74 (fu (wA w 74) 0 d)) 74 (fu (fu (wA w 74) 0 d) 1 c)) 74 (fu (fu (fu (wA w 74) 0 d) 1 c) 2 m)) 74 (fu (fu (fu (fu (wA w 74) 0 d) 1 c) 2 m) 3 v)) 74 (fu (fu (fu (fu (fu (wA w 74) 0 d) 1 c) 2 m) 3 v) 4 m2)) 74 (fu (fu (fu (fu (fu (fu (wA w 74) 0 d) 1 c) 2 m) 3 v) 4 m2) 5 v2)) := fun c => fr_uA (fr_uA (fr_uA (fr_uA (fr_uA (fr_uA (fr_r _ _) rfl) rfl) rfl) rfl) rfl) rfl
  rw [fq_274]
  rcases hK with ⟨h1, h2⟩ | ⟨h0, h1, h2⟩
  · rw [if_pos (by omega)]
    refine ⟨_, ?_, hf _, (hw (cnt (d, m, v, m2, v2))).resolve_right (fun z => z rfl)⟩
    simp (disch := omega) only [qB_s, qC_t, qC_f, qI_T, qI_F, qI_t, qI_f, r_I, r_L, r_R, r_V, ii_add, ii_sub, ii_mul, ii_neg, bz_0, bz_1, Bool.true_and, Bool.false_and, Bool.and_true, z00, z11, li_0, li_1, li_2, li_3, li_4, li_5, e_74, gR_47_54, t_74, ii_lt, h2, rA]
  · by_cases q : d < s.1
    · rw [if_pos q]
      refine ⟨_, ?_, hf _, (hw (cnt (d, m, v, m2, v2))).resolve_right (fun z => z rfl)⟩
      simp (disch := omega) only [qB_s, qC_t, qC_f, qI_T, qI_F, qI_t, qI_f, r_I, r_L, r_R, r_V, ii_add, ii_sub, ii_mul, ii_neg, bz_0, bz_1, Bool.true_and, Bool.false_and, Bool.and_true, z00, z11, li_0, li_1, li_2, li_3, li_4, li_5, e_74, gR_47_54, t_74, ii_lt, h1, rA]
    · rw [if_neg q]
      refine ⟨w, ?_, fr_r _ _, .inr ⟨h0, h1, h2⟩⟩
      simp (disch := omega) only [qB_s, qC_t, qC_f, qI_T, qI_F, qI_t, qI_f, r_I, r_L, r_R, r_V, ii_add, ii_sub, ii_mul, ii_neg, bz_0, bz_1, Bool.true_and, Bool.false_and, Bool.and_true, z00, z11, li_0, li_1, li_2, li_3, li_4, li_5, e_74, gR_47_54, t_74, ii_lt, h1]
theorem d275a (hM : MS w n g) (hg : gK n g) {x k : Int} (hP : okP P) (hPM : PM w (8 + x) P) (hx : 0 ≤ x ∧ x < 8) (hk : 0 ≤ k ∧ k < n) {m v : Nat} (hm : m < 6) (hv : v < 10) : ∃ u, am_F sc 275 [am_R (some 47), am_I (ii x), am_I (ii k), am_I (ii m), am_I (ii v), am_I (ii (-1)), am_I (ii (-1))] (wst w) = some (some (am_I (ii (bB (evP P (rS (rw1 g k) m v))))), wst u) ∧ fr [4723, 4724, 5899] w u := by
  have hn200 := hM.2.2.1
  have p1 := d107 (sc := sc) hM hk.1 hk.2 (m := m) (by omega) (by omega)
  obtain ⟨u, e, f⟩ := d111 (sc := sc) (MS_U (v := v) hM hm) (gU_K hg k hm hv) hP (PM_U hPM _) hk.1 hk.2 (t := 8 + x) (by omega) (by omega)
  rw [rw1_U g k hm] at e
  have hA : wA u 48 = fu (wA w 48) (10 * k + 4 + m) v := by rw [fr_A (a := 48) f rfl, rA]
  have h48 := hM.2.2.2 k (4 + m) hk.1 hk.2 (by omega) (by omega)
  have hback : fu (wA u 48) (10 * k + 4 + m) (g k (4 + m)) = wA w 48 := by
    rw [hA]
    funext j
    rw [fu_at, fu_at]
    split
    · rename_i z
      rw [z, ← h48]
      refine congrArg (wA w 48) ?_
      omega
    · rfl
  refine ⟨uA u 48 (fu (wA u 48) (10 * k + 4 + m) (g k (4 + m))), ?_, fr_bk f hback⟩
  rw [fq_275]
  have e' : am_F sc 111 [am_R (some 47), am_I (ii (8 + x)), am_I (ii k)] (wst (uA w 48 (fu (wA w 48) (10 * k + 4 + m) v))) = some (some (am_I (ii (bB (evP P (rS (rw1 g k) m v))))), wst u) := by
    rw [e]
    show some (some (am_I (ii (bz (evP P (rS (rw1 g k) m v) = true)))), wst u) = _
    cases evP P (rS (rw1 g k) m v) <;> rfl
  cases hT : evP P (rS (rw1 g k) m v)
  all_goals rw [hT] at e'
  all_goals simp only [bB_t, bB_f] at e' ⊢
  all_goals simp (disch := omega) only [qB_s, qC_t, qC_f, qI_T, qI_F, qI_t, qI_f, r_I, r_L, r_R, r_V, ii_add, ii_sub, ii_mul, ii_neg, bz_0, bz_1, Bool.true_and, Bool.false_and, Bool.and_true, z00, z11, li_0, li_10, li_4, li_8, gR_47_1, is_47, t_48, li_1, ii_lt, ii_eq, p1, e']
theorem d275b (hM : MS w n g) (hg : gK n g) {x k : Int} (hP : okP P) (hPM : PM w (8 + x) P) (hx : 0 ≤ x ∧ x < 8) (hk : 0 ≤ k ∧ k < n) {m v m2 v2 : Nat} (hm : m < 6) (hv : v < 10) (hm2 : m2 < 6) (hv2 : v2 < 10) (hne : m < m2) : ∃ u, am_F sc 275 [am_R (some 47), am_I (ii x), am_I (ii k), am_I (ii m), am_I (ii v), am_I (ii m2), am_I (ii v2)] (wst w) = some (some (am_I (ii (bB (evP P (rS (rS (rw1 g k) m v) m2 v2))))), wst u) ∧ fr [4723, 4724, 5899] w u := by
  have hn200 := hM.2.2.1
  have p1 := d107 (sc := sc) hM hk.1 hk.2 (m := m) (by omega) (by omega)
  have p2 := d107 (sc := sc) hM hk.1 hk.2 (m := m2) (by omega) (by omega)
  obtain ⟨u, e, f⟩ := d111 (sc := sc) (MS_U (v := v2) (MS_U (v := v) hM hm) hm2) (gU_K (gU_K hg k hm hv) k hm2 hv2) hP (PM_U (PM_U hPM _) _) hk.1 hk.2 (t := 8 + x) (by omega) (by omega)
  rw [rw1_U _ k hm2, rw1_U g k hm, rA] at e
  have hA : wA u 48 = fu (fu (wA w 48) (10 * k + 4 + m) v) (10 * k + 4 + m2) v2 := by rw [fr_A (a := 48) f rfl, rA, rA]
  have h48 := hM.2.2.2 k (4 + m) hk.1 hk.2 (by omega) (by omega)
  have h482 := hM.2.2.2 k (4 + m2) hk.1 hk.2 (by omega) (by omega)
  have hback : fu (fu (wA u 48) (10 * k + 4 + m) (g k (4 + m))) (10 * k + 4 + m2) (g k (4 + m2)) = wA w 48 := by
    rw [hA]
    funext j
    rw [fu_at, fu_at, fu_at, fu_at]
    split
    · rename_i z
      rw [z, ← h482]
      refine congrArg (wA w 48) ?_
      omega
    · split
      · rename_i z
        rw [z, ← h48]
        refine congrArg (wA w 48) ?_
        omega
      · rfl
  have f2 : fr [4723, 4724, 5899] (uA w 48 (fu (fu (wA w 48) (10 * k + 4 + m) v) (10 * k + 4 + m2) v2)) u := by
    refine fr_t ?_ f
    refine ⟨fun b j _ => ⟨rfl, rfl⟩, fun b _ => ⟨?_, rfl⟩, fun _ _ => rfl, fun _ => rfl, fun _ => rfl, rfl, rfl⟩
    rw [rA, uA_A, uA_A, uA_A]
    split <;> rfl
  have f3 := fr_bk f2 hback
  have f4 : fr [4723, 4724, 5899] w (uA (uA u 48 (fu (wA u 48) (10 * k + 4 + m) (g k (4 + m)))) 48 (fu (fu (wA u 48) (10 * k + 4 + m) (g k (4 + m))) (10 * k + 4 + m2) (g k (4 + m2)))) := by
    refine fr_t f3 ?_
    refine ⟨fun b j _ => ⟨rfl, rfl⟩, fun b _ => ⟨?_, rfl⟩, fun _ _ => rfl, fun _ => rfl, fun _ => rfl, rfl, rfl⟩
    rw [uA_A, uA_A, uA_A]
    split <;> rfl
  refine ⟨_, ?_, f4⟩
  rw [fq_275]
  have e' : am_F sc 111 [am_R (some 47), am_I (ii (8 + x)), am_I (ii k)] (wst (uA (uA w 48 (fu (wA w 48) (10 * k + 4 + m) v)) 48 (fu (fu (wA w 48) (10 * k + 4 + m) v) (10 * k + 4 + m2) v2))) = some (some (am_I (ii (bB (evP P (rS (rS (rw1 g k) m v) m2 v2))))), wst u) := by
    rw [e]
    show some (some (am_I (ii (bz (evP P (rS (rS (rw1 g k) m v) m2 v2) = true)))), wst u) = _
    cases evP P (rS (rS (rw1 g k) m v) m2 v2) <;> rfl
  cases hT : evP P (rS (rS (rw1 g k) m v) m2 v2)
  all_goals rw [hT] at e'
  all_goals simp only [bB_t, bB_f] at e' ⊢
  all_goals simp (disch := omega) only [qB_s, qC_t, qC_f, qI_T, qI_F, qI_t, qI_f, r_I, r_L, r_R, r_V, ii_add, ii_sub, ii_mul, ii_neg, bz_0, bz_1, Bool.true_and, Bool.false_and, Bool.and_true, z00, z11, li_0, li_10, li_4, li_8, gR_47_1, is_47, t_48, li_1, ii_lt, ii_eq, p1, p2, rA, e']
theorem d276 (hM : MS w n g) (hg : gK n g) {k : Int} (hk : 0 ≤ k ∧ k < n) {m v : Nat} (hm : m < 6) (hv : v < 10) : am_F sc 276 [am_R (some 47), am_I (ii k), am_I (ii m), am_I (ii v)] (wst w) = some (some (am_I (ii (dst (rw1 g k m) v))), wst w) := by
  have hn200 := hM.2.2.1
  have p1 := d107 (sc := sc) hM hk.1 hk.2 (m := m) (by omega) (by omega)
  have r3 := gK_m hg hk.1 hk.2 (m := m) (by omega) (by omega)
  rw [fq_276, rw1_m g k hm]
  unfold dst na
  by_cases q : g k (4 + m) < 0
  · rw [if_pos (by omega)]
    simp (disch := omega) only [qB_s, qC_t, qC_f, qI_T, qI_F, qI_t, qI_f, r_I, r_L, r_R, r_V, ii_add, ii_sub, ii_mul, ii_neg, bz_0, bz_1, Bool.true_and, Bool.false_and, Bool.and_true, z00, z11, li_0, li_10, is_47, ii_lt, p1]
  · rw [if_neg (by omega)]
    by_cases q2 : g k (4 + m) < v
    · rw [if_neg (by omega), show -(g k (4 + m) - v) = v - g k (4 + m) by omega]
      simp (disch := omega) only [qB_s, qC_t, qC_f, qI_T, qI_F, qI_t, qI_f, r_I, r_L, r_R, r_V, ii_add, ii_sub, ii_mul, ii_neg, bz_0, bz_1, Bool.true_and, Bool.false_and, Bool.and_true, z00, z11, li_0, li_10, is_47, ii_lt, p1]
    · rw [if_pos (by omega)]
      simp (disch := omega) only [qB_s, qC_t, qC_f, qI_T, qI_F, qI_t, qI_f, r_I, r_L, r_R, r_V, ii_add, ii_sub, ii_mul, ii_neg, bz_0, bz_1, Bool.true_and, Bool.false_and, Bool.and_true, z00, z11, li_0, li_10, is_47, ii_lt, p1]
/-- the other's loops -/
def MG (w0 w : wo) (s : cst) : Prop := fr sRG w0 w ∧ KM w s
theorem d277 {w0 : wo} (hM : MS w0 n g) (hg : gK n g) {x k : Int} (hP : okP P) (hPM : PM w0 (8 + x) P) (hx : 0 ≤ x ∧ x < 8) (hk : 0 ≤ k ∧ k < n) {m v : Nat} (hm : m < 6) (hv : v < 10) (hne : g k (4 + m) ≠ v) {s : cst} (hS : MG w0 w s) : ∃ u, am_F sc 277 [am_R (some 47), am_I (ii x), am_I (ii k), am_I (ii m), am_I (ii v)] (wst w) = some (none, wst u) ∧ MG w0 u (fld (fun m2 s => ph3 (evP P) (fun _ => true) (rw1 g k) m v m2 s) s 6) := by
  have hn200 := hM.2.2.1
  have rm := gK_m hg hk.1 hk.2 (m := m) (by omega) (by omega)
  have hd : 0 < dst (rw1 g k m) v := by
    rw [rw1_m g k hm]
    exact (dst_0 rm.1).mpr hne
  have hd2 := dst_ran (a := rw1 g k m) (by rw [rw1_m g k hm]; exact rm) hv
  have hst : fld (fun m2 s => ph3 (evP P) (fun _ => true) (rw1 g k) m v m2 s) s (m + 1) = s := fld_id (fun k hk => ph3_s (by omega))
  obtain ⟨u, e, -, hu⟩ := lp_s (am_W sc 277) (fun (i : Nat) (u : wo) => (5, [some (am_R (some 47)), some (am_I (ii x)), some (am_I (ii k)), some (am_I (ii m)), some (am_I (ii v)), some (am_I (ii i)), none, none], [], wst u)) (fun i u => m + 1 ≤ i ∧ MG w0 u (fld (fun m2 s => ph3 (evP P) (fun _ => true) (rw1 g k) m v m2 s) s i)) 6 (fun i u hi hu => by
    obtain ⟨hmi, hu⟩ := hu
    rw [fld_s]
    generalize fld (fun m2 s => ph3 (evP P) (fun _ => true) (rw1 g k) m v m2 s) s i = t at *
    have ri := gK_m hg hk.1 hk.2 (m := i) (by omega) (by omega)
    obtain ⟨y, ey, hy⟩ := lp_s0 (am_W sc 277) (fun (j : Nat) (y : wo) => (15, [some (am_R (some 47)), some (am_I (ii x)), some (am_I (ii k)), some (am_I (ii m)), some (am_I (ii v)), some (am_I (ii i)), some (am_I (ii j)), none], [], wst y)) (fun j y => MG w0 y (fld (fun v2 s => cg2 (evP P) (rw1 g k) m v i v2 s) t j)) 10 (fun j y hj hy => by
      obtain ⟨fy, ky⟩ := hy
      rw [fld_s]
      generalize fld (fun v2 s => cg2 (evP P) (rw1 g k) m v i v2 s) t j = z at *
      have hMy := MS_fr hM fy rfl
      have p1 := d276 (sc := sc) hMy hg hk hm hv
      have p2 := d276 (sc := sc) hMy hg hk hi hj
      have p3 := d107 (sc := sc) hMy hk.1 hk.2 (m := i) (by omega) (by omega)
      have d0 := dst_ran (a := rw1 g k i) (by rw [rw1_m g k hi]; exact ri) hj
      have d1 := dst_0 (a := rw1 g k i) (by rw [rw1_m g k hi]; exact ri.1) (v := j)
      rw [rw1_m g k hi] at d1
      rw [wq_277_15]
      by_cases q1 : g k (4 + i) = j
      · refine ⟨y, ?_, fy, ?_⟩
        · simp (disch := omega) only [qB_s, qC_t, qC_f, qI_T, qI_F, qI_t, qI_f, r_I, r_L, r_R, r_V, ii_add, ii_sub, ii_mul, ii_neg, bz_0, bz_1, Bool.true_and, Bool.false_and, Bool.and_true, z00, z11, li_0, li_1, li_10, li_2, li_6, e_74, gR_47_54, is_47, ii_lt, ii_eq, p1, p2, p3, nat_1]
        · rw [show cg2 (evP P) (rw1 g k) m v i j z = z from if_neg (fun q => by
            have := q.2.1
            rw [rw1_m g k hi] at this
            omega)]
          exact ky
      · have q2 : 0 < dst (rw1 g k i) j := by rw [rw1_m g k hi]; exact d1.mpr q1
        obtain ⟨y2, p4, f4⟩ := d275b (sc := sc) hMy hg hP (PM_fr hPM fy rfl) hx hk hm hv hi hj (by omega)
        have k4 := KM_fr ky f4 rfl
        by_cases q3 : dst (rw1 g k m) v + dst (rw1 g k i) j < z.1
        · cases hT : evP P (rS (rS (rw1 g k) m v) i j) with
          | false =>
            rw [hT, bB_f] at p4
            refine ⟨y2, ?_, fr_t fy (fr_m f4 rfl), ?_⟩
            · rcases ky with ⟨y1, y3⟩ | ⟨y0, y1, y3⟩
              · simp (disch := omega) only [qB_s, qC_t, qC_f, qI_T, qI_F, qI_t, qI_f, r_I, r_L, r_R, r_V, ii_add, ii_sub, ii_mul, ii_neg, bz_0, bz_1, Bool.true_and, Bool.false_and, Bool.and_true, z00, z11, li_0, li_1, li_10, li_2, li_6, e_74, gR_47_54, is_47, ii_lt, ii_eq, p1, p2, p3, p4, y3, nat_1]
              · simp (disch := omega) only [qB_s, qC_t, qC_f, qI_T, qI_F, qI_t, qI_f, r_I, r_L, r_R, r_V, ii_add, ii_sub, ii_mul, ii_neg, bz_0, bz_1, Bool.true_and, Bool.false_and, Bool.and_true, z00, z11, li_0, li_1, li_10, li_2, li_6, e_74, gR_47_54, is_47, ii_lt, ii_eq, p1, p2, p3, p4, y1, nat_1]
            · rw [show cg2 (evP P) (rw1 g k) m v i j z = z from if_neg (fun q => by rw [hT] at q; exact absurd q.2.2.2 (by decide))]
              exact k4
          | true =>
            rw [hT, bB_t] at p4
            obtain ⟨y5, p5, f5, k5⟩ := d274 (sc := sc) k4 (d := dst (rw1 g k m) v + dst (rw1 g k i) j) (by omega) (m := m) (v := v) (m2 := i) (v2 := j)
            rw [show cnt (dst (rw1 g k m) v + dst (rw1 g k i) j, (m : Int), (v : Int), (i : Int), (j : Int)) = 2 by
              unfold cnt
              rw [if_neg (by show ¬ (m : Int) = -1; omega), if_neg (by show ¬ (i : Int) = -1; omega)]] at p5
            refine ⟨y5, ?_, fr_t fy (fr_t (fr_m f4 rfl) (fr_m f5 rfl)), ?_⟩
            · rcases ky with ⟨y1, y3⟩ | ⟨y0, y1, y3⟩
              · simp (disch := omega) only [qB_s, qC_t, qC_f, qI_T, qI_F, qI_t, qI_f, r_I, r_L, r_R, r_V, ii_add, ii_sub, ii_mul, ii_neg, bz_0, bz_1, Bool.true_and, Bool.false_and, Bool.and_true, z00, z11, li_0, li_1, li_10, li_2, li_6, e_74, gR_47_54, is_47, ii_lt, ii_eq, p1, p2, p3, p4, p5, y3, nat_1]
              · simp (disch := omega) only [qB_s, qC_t, qC_f, qI_T, qI_F, qI_t, qI_f, r_I, r_L, r_R, r_V, ii_add, ii_sub, ii_mul, ii_neg, bz_0, bz_1, Bool.true_and, Bool.false_and, Bool.and_true, z00, z11, li_0, li_1, li_10, li_2, li_6, e_74, gR_47_54, is_47, ii_lt, ii_eq, p1, p2, p3, p4, p5, y1, nat_1]
            · rw [show cg2 (evP P) (rw1 g k) m v i j z = (dst (rw1 g k m) v + dst (rw1 g k i) j, (m : Int), (v : Int), (i : Int), (j : Int)) from if_pos ⟨hd, q2, q3, hT⟩]
              rw [if_pos q3] at k5
              exact k5
        · refine ⟨y, ?_, fy, ?_⟩
          · rcases ky with ⟨y1, y3⟩ | ⟨y0, y1, y3⟩
            · omega
            · simp (disch := omega) only [qB_s, qC_t, qC_f, qI_T, qI_F, qI_t, qI_f, r_I, r_L, r_R, r_V, ii_add, ii_sub, ii_mul, ii_neg, bz_0, bz_1, Bool.true_and, Bool.false_and, Bool.and_true, z00, z11, li_0, li_1, li_10, li_2, li_6, e_74, gR_47_54, is_47, ii_lt, ii_eq, p1, p2, p3, y1, nat_1]
          · rw [show cg2 (evP P) (rw1 g k) m v i j z = z from if_neg (fun q => q3 q.2.2.1)]
            exact ky) u hu
    have ey' : am_W sc 277 (15, [some (am_R (some 47)), some (am_I (ii x)), some (am_I (ii k)), some (am_I (ii m)), some (am_I (ii v)), some (am_I (ii i)), some (am_I (ii 0)), none], [], wst u) = _ := ey
    refine ⟨y, ?_, by omega, ?_⟩
    · rw [wq_277_5]
      simp (disch := omega) only [qB_s, qC_t, qC_f, qI_T, qI_F, qI_t, qI_f, r_I, r_L, r_R, r_V, ii_add, ii_sub, ii_mul, ii_neg, bz_0, bz_1, Bool.true_and, Bool.false_and, Bool.and_true, z00, z11, li_0, li_1, li_10, li_2, li_6, e_74, gR_47_54, is_47, ii_lt]
      rw [ey', wq_277_15]
      simp (disch := omega) only [qB_s, qC_t, qC_f, qI_T, qI_F, qI_t, qI_f, r_I, r_L, r_R, r_V, ii_add, ii_sub, ii_mul, ii_neg, bz_0, bz_1, Bool.true_and, Bool.false_and, Bool.and_true, z00, z11, li_0, li_1, li_10, li_2, li_6, e_74, gR_47_54, is_47, ii_lt, nat_1]
    · rw [show ph3 (evP P) (fun _ => true) (rw1 g k) m v i t = fld (fun v2 s => cg2 (evP P) (rw1 g k) m v i v2 s) t 10 from if_pos ⟨by omega, rfl⟩]
      exact hy) (5 - m) (m + 1) w (by omega) ⟨Nat.le_refl _, by rw [hst]; exact hS⟩
  have e' : am_W sc 277 (5, [some (am_R (some 47)), some (am_I (ii x)), some (am_I (ii k)), some (am_I (ii m)), some (am_I (ii v)), some (am_I (ii ((m : Int) + 1))), none, none], [], wst w) = _ := e
  refine ⟨u, ?_, hu⟩
  rw [fq_277]
  simp (disch := omega) only [qB_s, qC_t, qC_f, qI_T, qI_F, qI_t, qI_f, r_I, r_L, r_R, r_V, ii_add, ii_sub, ii_mul, ii_neg, bz_0, bz_1, Bool.true_and, Bool.false_and, Bool.and_true, z00, z11, li_0, li_1, li_10, li_2, li_6, e_74, gR_47_54, is_47]
  rw [e', wq_277_5]
  simp (disch := omega) only [qB_s, qC_t, qC_f, qI_T, qI_F, qI_t, qI_f, r_I, r_L, r_R, r_V, ii_add, ii_sub, ii_mul, ii_neg, bz_0, bz_1, Bool.true_and, Bool.false_and, Bool.and_true, z00, z11, li_0, li_1, li_10, li_2, li_6, e_74, gR_47_54, is_47, ii_lt]
theorem d278a {w0 : wo} (hM : MS w0 n g) (hg : gK n g) {x k o : Int} (hP : okP P) (hPM : PM w0 (8 + x) P) (hx : 0 ≤ x ∧ x < 8) (hk : 0 ≤ k ∧ k < n) {m : Nat} (hm : m < 6) {s : cst} (hS : MG w0 w s) : ∃ u, am_W sc 278 (80, [some (am_R (some 47)), some (am_I (ii k)), some (am_I (ii x)), some (am_I (ii o)), some (am_I (ii m)), some (am_I (ii 0))], [], wst w) = am_W sc 278 (70, [some (am_R (some 47)), some (am_I (ii k)), some (am_I (ii x)), some (am_I (ii o)), some (am_I (ii (m + 1 : Nat))), none], [], wst u) ∧ MG w0 u (ph1 (evP P) (fun _ => true) (rw1 g k) m s) := by
  have hn200 := hM.2.2.1
  have rm := gK_m hg hk.1 hk.2 (m := m) (by omega) (by omega)
  obtain ⟨u, e, hu⟩ := lp_s0 (am_W sc 278) (fun (j : Nat) (y : wo) => (80, [some (am_R (some 47)), some (am_I (ii k)), some (am_I (ii x)), some (am_I (ii o)), some (am_I (ii m)), some (am_I (ii j))], [], wst y)) (fun j y => MG w0 y (fld (fun v s => cg1 (evP P) (rw1 g k) m v s) s j)) 10 (fun j y hj hy => by
    obtain ⟨fy, ky⟩ := hy
    rw [fld_s]
    generalize fld (fun v s => cg1 (evP P) (rw1 g k) m v s) s j = z at *
    have hMy := MS_fr hM fy rfl
    have p3 := d107 (sc := sc) hMy hk.1 hk.2 (m := m) (by omega) (by omega)
    have d0 := dst_ran (a := rw1 g k m) (by rw [rw1_m g k hm]; exact rm) hj
    have d1 := dst_0 (a := rw1 g k m) (by rw [rw1_m g k hm]; exact rm.1) (v := j)
    rw [rw1_m g k hm] at d1
    rw [wq_278_80]
    by_cases q1 : g k (4 + m) = j
    · refine ⟨y, ?_, fy, ?_⟩
      · simp (disch := omega) only [qB_s, qC_t, qC_f, qI_T, qI_F, qI_t, qI_f, r_I, r_L, r_R, r_V, ii_add, ii_sub, ii_mul, ii_neg, bz_0, bz_1, Bool.true_and, Bool.false_and, Bool.and_true, z00, z11, li_0, li_1, li_10, li_2, li_6, li_8, lj_0, lj_5, e_74, gI_47_9, gR_47_54, is_47, t_74, ii_lt, ii_eq, p3, nat_1]
      · rw [show cg1 (evP P) (rw1 g k) m j z = z from if_neg (fun q => by
          have := q.1
          rw [rw1_m g k hm] at this
          omega)]
        exact ky
    · have q2 : 0 < dst (rw1 g k m) j := by rw [rw1_m g k hm]; exact d1.mpr q1
      obtain ⟨y2, p4, f4⟩ := d275a (sc := sc) hMy hg hP (PM_fr hPM fy rfl) hx hk hm hj
      have k4 := KM_fr ky f4 rfl
      have p1 := d276 (sc := sc) (MS_fr hMy f4 rfl) hg hk hm hj
      cases hT : evP P (rS (rw1 g k) m j) with
      | false =>
        rw [hT, bB_f] at p4
        refine ⟨y2, ?_, fr_t fy (fr_m f4 rfl), ?_⟩
        · simp (disch := omega) only [qB_s, qC_t, qC_f, qI_T, qI_F, qI_t, qI_f, r_I, r_L, r_R, r_V, ii_add, ii_sub, ii_mul, ii_neg, bz_0, bz_1, Bool.true_and, Bool.false_and, Bool.and_true, z00, z11, li_0, li_1, li_10, li_2, li_6, li_8, lj_0, lj_5, e_74, gI_47_9, gR_47_54, is_47, t_74, ii_lt, ii_eq, p3, p4, nat_1]
        · rw [show cg1 (evP P) (rw1 g k) m j z = z from if_neg (fun q => by rw [hT] at q; exact absurd q.2.2 (by decide))]
          exact k4
      | true =>
        rw [hT, bB_t] at p4
        obtain ⟨y5, p5, f5, k5⟩ := d274 (sc := sc) k4 (d := dst (rw1 g k m) j) (by omega) (m := m) (v := j) (m2 := -1) (v2 := -1)
        rw [show cnt (dst (rw1 g k m) j, (m : Int), (j : Int), -1, -1) = 1 by
          unfold cnt
          rw [if_neg (by show ¬ (m : Int) = -1; omega), if_pos rfl]] at p5
        refine ⟨y5, ?_, fr_t fy (fr_t (fr_m f4 rfl) (fr_m f5 rfl)), ?_⟩
        · simp (disch := omega) only [qB_s, qC_t, qC_f, qI_T, qI_F, qI_t, qI_f, r_I, r_L, r_R, r_V, ii_add, ii_sub, ii_mul, ii_neg, bz_0, bz_1, Bool.true_and, Bool.false_and, Bool.and_true, z00, z11, li_0, li_1, li_10, li_2, li_6, li_8, lj_0, lj_5, e_74, gI_47_9, gR_47_54, is_47, t_74, ii_lt, ii_eq, p3, p4, p1, p5, nat_1]
        · unfold cg1
          by_cases q3 : dst (rw1 g k m) j < z.1
          · rw [if_pos ⟨q2, q3, hT⟩]
            rw [if_pos q3] at k5
            exact k5
          · rw [if_neg (fun q => q3 q.2.1)]
            rw [if_neg q3] at k5
            exact k5) w hS
  have e' : am_W sc 278 (80, [some (am_R (some 47)), some (am_I (ii k)), some (am_I (ii x)), some (am_I (ii o)), some (am_I (ii m)), some (am_I (ii 0))], [], wst w) = _ := e
  refine ⟨u, ?_, ?_⟩
  · rw [e', wq_278_80]
    simp (disch := omega) only [qB_s, qC_t, qC_f, qI_T, qI_F, qI_t, qI_f, r_I, r_L, r_R, r_V, ii_add, ii_sub, ii_mul, ii_neg, bz_0, bz_1, Bool.true_and, Bool.false_and, Bool.and_true, z00, z11, li_0, li_1, li_10, li_2, li_6, li_8, lj_0, lj_5, e_74, gI_47_9, gR_47_54, is_47, t_74, ii_lt, nat_1]
  · unfold ph1
    rw [if_pos rfl]
    exact hu
theorem d278b {w0 : wo} (hM : MS w0 n g) (hg : gK n g) {x k o : Int} (hP : okP P) (hPM : PM w0 (8 + x) P) (hx : 0 ≤ x ∧ x < 8) (hk : 0 ≤ k ∧ k < n) {m : Nat} (hm : m < 6) {s : cst} (hS : MG w0 w s) : ∃ u, am_W sc 278 (159, [some (am_R (some 47)), some (am_I (ii k)), some (am_I (ii x)), some (am_I (ii o)), some (am_I (ii m)), some (am_I (ii 0))], [], wst w) = am_W sc 278 (149, [some (am_R (some 47)), some (am_I (ii k)), some (am_I (ii x)), some (am_I (ii o)), some (am_I (ii (m + 1 : Nat))), none], [], wst u) ∧ MG w0 u (ph2 (evP P) (fun _ => true) (rw1 g k) m s) := by
  have hn200 := hM.2.2.1
  have rm := gK_m hg hk.1 hk.2 (m := m) (by omega) (by omega)
  obtain ⟨u, e, hu⟩ := lp_s0 (am_W sc 278) (fun (j : Nat) (y : wo) => (159, [some (am_R (some 47)), some (am_I (ii k)), some (am_I (ii x)), some (am_I (ii o)), some (am_I (ii m)), some (am_I (ii j))], [], wst y)) (fun j y => MG w0 y (fld (fun v s => fld (fun m2 s => ph3 (evP P) (fun _ => true) (rw1 g k) m v m2 s) s 6) s j)) 10 (fun j y hj hy => by
    rw [fld_s]
    generalize fld (fun v s => fld (fun m2 s => ph3 (evP P) (fun _ => true) (rw1 g k) m v m2 s) s 6) s j = z at *
    have hMy := MS_fr hM hy.1 rfl
    have p3 := d107 (sc := sc) hMy hk.1 hk.2 (m := m) (by omega) (by omega)
    have d1 := dst_0 (a := rw1 g k m) (by rw [rw1_m g k hm]; exact rm.1) (v := j)
    rw [rw1_m g k hm] at d1
    rw [wq_278_159]
    by_cases q1 : g k (4 + m) = j
    · refine ⟨y, ?_, ?_⟩
      · simp (disch := omega) only [qB_s, qC_t, qC_f, qI_T, qI_F, qI_t, qI_f, r_I, r_L, r_R, r_V, ii_add, ii_sub, ii_mul, ii_neg, bz_0, bz_1, Bool.true_and, Bool.false_and, Bool.and_true, z00, z11, li_0, li_1, li_10, li_2, li_6, li_8, lj_0, lj_5, e_74, gI_47_9, gR_47_54, is_47, t_74, ii_lt, ii_eq, p3, nat_1]
      · rw [ph3_0 (fun q => by
          have := q.1
          rw [rw1_m g k hm] at this
          omega)]
        exact hy
    · obtain ⟨y2, p4, h4⟩ := d277 (sc := sc) hM hg hP hPM hx hk hm hj q1 hy
      refine ⟨y2, ?_, h4⟩
      simp (disch := omega) only [qB_s, qC_t, qC_f, qI_T, qI_F, qI_t, qI_f, r_I, r_L, r_R, r_V, ii_add, ii_sub, ii_mul, ii_neg, bz_0, bz_1, Bool.true_and, Bool.false_and, Bool.and_true, z00, z11, li_0, li_1, li_10, li_2, li_6, li_8, lj_0, lj_5, e_74, gI_47_9, gR_47_54, is_47, t_74, ii_lt, ii_eq, p3, p4, nat_1]) w hS
  have e' : am_W sc 278 (159, [some (am_R (some 47)), some (am_I (ii k)), some (am_I (ii x)), some (am_I (ii o)), some (am_I (ii m)), some (am_I (ii 0))], [], wst w) = _ := e
  refine ⟨u, ?_, ?_⟩
  · rw [e', wq_278_159]
    simp (disch := omega) only [qB_s, qC_t, qC_f, qI_T, qI_F, qI_t, qI_f, r_I, r_L, r_R, r_V, ii_add, ii_sub, ii_mul, ii_neg, bz_0, bz_1, Bool.true_and, Bool.false_and, Bool.and_true, z00, z11, li_0, li_1, li_10, li_2, li_6, li_8, lj_0, lj_5, e_74, gI_47_9, gR_47_54, is_47, t_74, ii_lt, nat_1]
  · unfold ph2
    rw [if_pos rfl]
    exact hu
theorem ph_no {F : Nat → cst → cst} {s : cst} (hF : ∀ m, m < 6 → F m s = s) : fld F s 6 = s := fld_id hF
theorem ph1_at0 {T : (Int → Int) → Bool} {N : Nat → Bool} {r : Int → Int} (hr : okr r) {m : Nat} (hm : m < 6) {s : cst} (h : s.1 = 0) : ph1 T N r m s = s := by
  unfold ph1
  split
  · refine fld_id (fun v hv => ?_)
    have := dst_ran (hr m (by omega) (by omega)) hv
    unfold cg1
    rw [if_neg (by omega)]
  · rfl
theorem ph2_at0 {T : (Int → Int) → Bool} {N : Nat → Bool} {r : Int → Int} {m : Nat} {s : cst} (h : s.1 = 0) : ph2 T N r m s = s := by
  unfold ph2
  split
  · exact fld_id (fun v hv => ph3_0 (by omega))
  · rfl
theorem d278 {w0 : wo} (hM : MS w0 n g) (hg : gK n g) {x k o : Int} (hP : okP P) (hPM : PM w0 (8 + x) P) (hx : 0 ≤ x ∧ x < 8) (hk : 0 ≤ k ∧ k < n) (ho : 0 ≤ o ∧ o ≤ 5) {s : cst} (hS : MG w0 w s) : ∃ u s', am_W sc 278 (70, [some (am_R (some 47)), some (am_I (ii k)), some (am_I (ii x)), some (am_I (ii o)), some (am_I (ii 0)), none], [], wst w) = some (some (am_I (ii (cgA s' o))), wst u) ∧ fr sRG w0 u ∧ s' = fld (fun m s => ph2 (evP P) (fun _ => true) (rw1 g k) m s) (fld (fun m s => ph1 (evP P) (fun _ => true) (rw1 g k) m s) s 6) 6 := by
  obtain ⟨v, e, hv⟩ := lp_s0 (am_W sc 278) (fun (m : Nat) (y : wo) => (70, [some (am_R (some 47)), some (am_I (ii k)), some (am_I (ii x)), some (am_I (ii o)), some (am_I (ii m)), none], [], wst y)) (fun m y => MG w0 y (fld (fun m s => ph1 (evP P) (fun _ => true) (rw1 g k) m s) s m)) 6 (fun m y hm hy => by
    obtain ⟨y2, e2, h2⟩ := d278a (sc := sc) hM hg (o := o) hP hPM hx hk hm hy
    refine ⟨y2, ?_, h2⟩
    rw [← e2, wq_278_70]
    simp (disch := omega) only [qB_s, qC_t, qC_f, qI_T, qI_F, qI_t, qI_f, r_I, r_L, r_R, r_V, ii_add, ii_sub, ii_mul, ii_neg, bz_0, bz_1, Bool.true_and, Bool.false_and, Bool.and_true, z00, z11, li_0, li_1, li_10, li_2, li_6, li_8, lj_0, lj_5, e_74, gI_47_9, gR_47_54, is_47, t_74, ii_lt]) w hS
  obtain ⟨u, e3, hu⟩ := lp_s0 (am_W sc 278) (fun (m : Nat) (y : wo) => (149, [some (am_R (some 47)), some (am_I (ii k)), some (am_I (ii x)), some (am_I (ii o)), some (am_I (ii m)), none], [], wst y)) (fun m y => MG w0 y (fld (fun m s => ph2 (evP P) (fun _ => true) (rw1 g k) m s) (fld (fun m s => ph1 (evP P) (fun _ => true) (rw1 g k) m s) s 6) m)) 6 (fun m y hm hy => by
    obtain ⟨y2, e2, h2⟩ := d278b (sc := sc) hM hg (o := o) hP hPM hx hk hm hy
    refine ⟨y2, ?_, h2⟩
    rw [← e2, wq_278_149]
    simp (disch := omega) only [qB_s, qC_t, qC_f, qI_T, qI_F, qI_t, qI_f, r_I, r_L, r_R, r_V, ii_add, ii_sub, ii_mul, ii_neg, bz_0, bz_1, Bool.true_and, Bool.false_and, Bool.and_true, z00, z11, li_0, li_1, li_10, li_2, li_6, li_8, lj_0, lj_5, e_74, gI_47_9, gR_47_54, is_47, t_74, ii_lt]) v hv
  have e' : am_W sc 278 (70, [some (am_R (some 47)), some (am_I (ii k)), some (am_I (ii x)), some (am_I (ii o)), some (am_I (ii 0)), none], [], wst w) = _ := e
  have e3' : am_W sc 278 (149, [some (am_R (some 47)), some (am_I (ii k)), some (am_I (ii x)), some (am_I (ii o)), some (am_I (ii 0)), none], [], wst v) = _ := e3
  refine ⟨u, _, ?_, hu.1, rfl⟩
  generalize fld (fun m s => ph2 (evP P) (fun _ => true) (rw1 g k) m s) (fld (fun m s => ph1 (evP P) (fun _ => true) (rw1 g k) m s) s 6) 6 = t at *
  rw [e', wq_278_70]
  simp (disch := omega) only [qB_s, qC_t, qC_f, qI_T, qI_F, qI_t, qI_f, r_I, r_L, r_R, r_V, ii_add, ii_sub, ii_mul, ii_neg, bz_0, bz_1, Bool.true_and, Bool.false_and, Bool.and_true, z00, z11, li_0, li_1, li_10, li_2, li_6, li_8, lj_0, lj_5, e_74, gI_47_9, gR_47_54, is_47, t_74, ii_lt]
  rw [e3', wq_278_149]
  unfold cgA
  rcases hu.2 with ⟨y1, y3⟩ | ⟨y0, y1, y2, y3, y4, y5, y6⟩
  · rw [if_pos y1]
    simp (disch := omega) only [qB_s, qC_t, qC_f, qI_T, qI_F, qI_t, qI_f, r_I, r_L, r_R, r_V, ii_add, ii_sub, ii_mul, ii_neg, bz_0, bz_1, Bool.true_and, Bool.false_and, Bool.and_true, z00, z11, li_0, li_1, li_10, li_2, li_6, li_8, lj_0, lj_5, e_74, gI_47_9, gR_47_54, is_47, t_74, ii_lt, y3]
  · rw [if_neg (by omega)]
    have hz : wA u 74 o = if o = 0 then t.1 else if o = 1 then (if t.2.1 = -1 then 0 else if t.2.2.2.1 = -1 then 1 else 2) else if o = 2 then t.2.1 else if o = 3 then t.2.2.1 else if o = 4 then t.2.2.2.1 else t.2.2.2.2 := by
      have : o = 0 ∨ o = 1 ∨ o = 2 ∨ o = 3 ∨ o = 4 ∨ o = 5 := by omega
      rcases this with rfl | rfl | rfl | rfl | rfl | rfl
      · exact y1
      · exact y2
      · exact y3
      · exact y4
      · exact y5
      · exact y6
    rw [← hz]
    simp (disch := omega) only [qB_s, qC_t, qC_f, qI_T, qI_F, qI_t, qI_f, r_I, r_L, r_R, r_V, ii_add, ii_sub, ii_mul, ii_neg, bz_0, bz_1, Bool.true_and, Bool.false_and, Bool.and_true, z00, z11, li_0, li_1, li_10, li_2, li_6, li_8, lj_0, lj_5, e_74, gI_47_9, gR_47_54, is_47, t_74, ii_lt, y1]
theorem y_278 (hM : RM w A) (hA : okA A) {k r x : Int} (hk1 : -2147483648 ≤ k) (hk2 : k ≤ 2147483647) (hr1 : -2147483648 ≤ r) (hr2 : r ≤ 2147483647) (hx1 : -2147483648 ≤ x) (hx2 : x ≤ 2147483647) : ∃ u, am_F sc 278 [am_R (some 47), am_I (ii k), am_I (ii r), am_I (ii x)] (wst w) = some (some (am_I (ii (if (0 ≤ k ∧ k < A.1.1) ∧ (0 ≤ r ∧ r < A.2.2.2.1.1) ∧ (0 ≤ x ∧ x ≤ 5) then cgA (cgF A r k) x else -1))), wst u) ∧ fr scM w u := by
  have hn8 := hA.2.2.1.2.1
  have hn0 := hA.2.2.1.1
  by_cases q1 : 0 ≤ k ∧ k < A.1.1
  · skip
    by_cases q2 : 0 ≤ r ∧ r < A.2.2.2.1.1
    · skip
      by_cases q3 : 0 ≤ x ∧ x ≤ 5
      · skip
        rw [if_pos (by omega)]
        have h9 := hM.2.2.2.2.1.1
        have h98 := hA.2.2.2.1.2.1
        have h90 := hA.2.2.2.1.1
        have h24 := d24 (sc := sc) hM.1 (k := k) hk1 hk2
        have hg := hA.1.2.2.1
        have hP := hA.2.2.2.1.2.2 r q2.1 q2.2
        have hPM := hM.2.2.2.2.1.2 r q2.1 q2.2
        have f0 : fr sRG w (uA w 74 (fu (wA w 74) 0 (-1))) := fr_uA (fr_r _ _) rfl
        have k0 : KM (uA w 74 (fu (wA w 74) 0 (-1))) (1000, -1, -1, -1, -1) := .inl ⟨rfl, by rw [rA, fu_at, if_pos rfl]⟩
        obtain ⟨u1, e1, f1⟩ := d111 (sc := sc) (MS_fr hM.1 f0 rfl) hg hP (PM_fr hPM f0 rfl) q1.1 q1.2 (by omega) (by omega)
        have k1 := KM_fr k0 f1 rfl
        have f01 : fr sRG w u1 := fr_t f0 (fr_m f1 rfl)
        have e1' : am_F sc 111 [am_R (some 47), am_I (ii (8 + r)), am_I (ii k)] (wst (uA w 74 (fu (wA w 74) 0 (-1)))) = some (some (am_I (ii (bB (evP (A.2.2.2.1.2 r) (rw1 (aG A) k))))), wst u1) := by
          rw [e1]
          show some (some (am_I (ii (bz (evP (A.2.2.2.1.2 r) (rw1 (aG A) k) = true)))), wst u1) = _
          cases evP (A.2.2.2.1.2 r) (rw1 (aG A) k) <;> rfl
        rw [fq_278]
        unfold cgF chg
        cases hT : evP (A.2.2.2.1.2 r) (rw1 (aG A) k) with
        | true =>
          rw [hT, bB_t] at e1'
          rw [if_pos rfl]
          obtain ⟨u2, e2, f2, k2⟩ := d274 (sc := sc) k1 (d := 0) (by decide) (m := -1) (v := -1) (m2 := -1) (v2 := -1)
          rw [show cnt (0, -1, -1, -1, -1) = 0 from rfl] at e2
          rw [if_pos (by decide)] at k2
          obtain ⟨u3, s', e3, f3, h3⟩ := d278 (sc := sc) hM.1 hg (o := x) hP hPM (by omega) q1 q3 (⟨fr_t f01 (fr_m f2 rfl), k2⟩ : MG w u2 _)
          have hr0 := rw1_ok hg q1.1 q1.2
          have hs : s' = (0, -1, -1, -1, -1) := by
            rw [h3, ph_no (fun m hm => ph1_at0 hr0 hm rfl), ph_no (fun m hm => ph2_at0 rfl)]
          rw [hs] at e3
          refine ⟨u3, ?_, fr_m f3 rfl⟩
          simp (disch := omega) only [qB_s, qC_t, qC_f, qI_T, qI_F, qI_t, qI_f, r_I, r_L, r_R, r_V, ii_add, ii_sub, ii_mul, ii_neg, bz_0, bz_1, Bool.true_and, Bool.false_and, Bool.and_true, z00, z11, li_0, li_1, li_10, li_2, li_6, li_8, lj_0, lj_5, e_74, gI_47_9, gR_47_54, is_47, t_74, h24, h9, ii_jj, d17, ii_eq, e1', e2]
          exact e3
        | false =>
          rw [hT, bB_f] at e1'
          rw [if_neg (by decide)]
          obtain ⟨u3, s', e3, f3, h3⟩ := d278 (sc := sc) hM.1 hg (o := x) hP hPM (by omega) q1 q3 (⟨f01, k1⟩ : MG w u1 _)
          refine ⟨u3, ?_, fr_m f3 rfl⟩
          simp (disch := omega) only [qB_s, qC_t, qC_f, qI_T, qI_F, qI_t, qI_f, r_I, r_L, r_R, r_V, ii_add, ii_sub, ii_mul, ii_neg, bz_0, bz_1, Bool.true_and, Bool.false_and, Bool.and_true, z00, z11, li_0, li_1, li_10, li_2, li_6, li_8, lj_0, lj_5, e_74, gI_47_9, gR_47_54, is_47, t_74, h24, h9, ii_jj, d17, ii_eq, e1']
          rw [e3, h3]
          rfl
      · rw [if_neg (by omega)]
        have h9 := hM.2.2.2.2.1.1
        have h98 := hA.2.2.2.1.2.1
        have h90 := hA.2.2.2.1.1
        have h24 := d24 (sc := sc) hM.1 (k := k) hk1 hk2
        exact ⟨w, by
          rw [fq_278]
          simp (disch := omega) only [qB_s, qC_t, qC_f, qI_T, qI_F, qI_t, qI_f, r_I, r_L, r_R, r_V, ii_add, ii_sub, ii_mul, ii_neg, bz_0, bz_1, Bool.true_and, Bool.false_and, Bool.and_true, z00, z11, li_0, li_1, li_10, li_2, li_6, li_8, lj_0, lj_5, e_74, gI_47_9, gR_47_54, is_47, t_74, ii_lt, ii_eq, ii_jj, jj_neg, h24, h9, d17], fr_r _ _⟩
    · rw [if_neg (by omega)]
      have h9 := hM.2.2.2.2.1.1
      have h98 := hA.2.2.2.1.2.1
      have h90 := hA.2.2.2.1.1
      have h24 := d24 (sc := sc) hM.1 (k := k) hk1 hk2
      exact ⟨w, by
        rw [fq_278]
        simp (disch := omega) only [qB_s, qC_t, qC_f, qI_T, qI_F, qI_t, qI_f, r_I, r_L, r_R, r_V, ii_add, ii_sub, ii_mul, ii_neg, bz_0, bz_1, Bool.true_and, Bool.false_and, Bool.and_true, z00, z11, li_0, li_1, li_10, li_2, li_6, li_8, lj_0, lj_5, e_74, gI_47_9, gR_47_54, is_47, t_74, ii_lt, ii_eq, ii_jj, jj_neg, h24, h9, d17], fr_r _ _⟩
  · rw [if_neg (by omega)]
    have h9 := hM.2.2.2.2.1.1
    have h98 := hA.2.2.2.1.2.1
    have h90 := hA.2.2.2.1.1
    have h24 := d24 (sc := sc) hM.1 (k := k) hk1 hk2
    exact ⟨w, by
      rw [fq_278]
      simp (disch := omega) only [qB_s, qC_t, qC_f, qI_T, qI_F, qI_t, qI_f, r_I, r_L, r_R, r_V, ii_add, ii_sub, ii_mul, ii_neg, bz_0, bz_1, Bool.true_and, Bool.false_and, Bool.and_true, z00, z11, li_0, li_1, li_10, li_2, li_6, li_8, lj_0, lj_5, e_74, gI_47_9, gR_47_54, is_47, t_74, ii_lt, ii_eq, ii_jj, jj_neg, h24], fr_r _ _⟩

end L46
