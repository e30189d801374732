/-! THE LAW'S CALLS -/
theorem ii_o32 (a : Int32) : ii a.toInt = a := Int32.ofInt_toInt a
theorem if_cg {p q : Prop} [Decidable p] [Decidable q] {α : Type} {a b : α} (h : p ↔ q) : (if p then a else b) = (if q then a else b) := by
  by_cases z : p
  · rw [if_pos z, if_pos (h.mp z)]
  · rw [if_neg z, if_neg (fun y => z (h.mpr y))]
theorem i32r (a : Int32) : -2147483648 ≤ a.toInt ∧ a.toInt ≤ 2147483647 := by
  have h1 := Int32.le_toInt a
  have h2 := Int32.toInt_lt a
  exact ⟨by omega, by omega⟩
/-- what holds before each call: cells at most c, slots at most s -/
def LI (w : wo) (c s : Nat) : Prop := ∃ ow A, RC ow w A ∧ RM w A ∧ okA A ∧ wI w 47 36 = -1 ∧ WY w ∧ wn w ≤ c ∧ wl w ≤ s
theorem LI_m {w : wo} {c s c' s' : Nat} (h : LI w c s) (hc : c ≤ c') (hs : s ≤ s') : LI w c' s' := by
  obtain ⟨ow, A, h1, h2, h3, h4, h5, h6, h7⟩ := h
  exact ⟨ow, A, h1, h2, h3, h4, h5, Nat.le_trans h6 hc, Nat.le_trans h7 hs⟩
/-- class and other answer alike -/
def LQ (sc : am_X) (w : wo) (fc fm : Nat) (args : List am_V) (c s : Nat) : Prop := ∃ (x : Int32) (u v : wo), am_F sc fc (am_R (some 0) :: args) (wst w) = some (some (am_I x), wst u) ∧ am_F sc fm (am_R (some 47) :: args) (wst u) = some (some (am_I x), wst v) ∧ LI v c s
def LQL (sc : am_X) (w : wo) (fc fm : Nat) (args : List am_V) (c s : Nat) : Prop := ∃ (x : Int64) (u v : wo), am_F sc fc (am_R (some 0) :: args) (wst w) = some (some (am_L x), wst u) ∧ am_F sc fm (am_R (some 47) :: args) (wst u) = some (some (am_L x), wst v) ∧ LI v c s
theorem LI_fr {ow : Nat → Nat} {w u v : wo} {A : ab} {l m : List Nat} {c s : Nat} (f1 : fr l w u) (f2 : fr m u v) (hC : RC ow v A) (hM : RM v A) (hA : okA A) (hk : wI w 47 36 = -1) (hw : WY w) (q1 : (fhas l 4736 || fhas l 6299) = false) (q2 : (fhas m 4736 || fhas m 6299) = false) (hc : wn w ≤ c) (hs : wl w ≤ s) : LI v c s := by
  rw [Bool.or_eq_false_iff] at q1 q2
  exact ⟨ow, A, hC, hM, hA, by rw [fr_I f2 q2.1, fr_I f1 q1.1]; exact hk, WY_fr (WY_fr hw f1 q1.2) f2 q2.2, by rw [fr_n f2, fr_n f1]; exact hc, by rw [fr_l f2, fr_l f1]; exact hs⟩
section L69
variable {sc : am_X} {w : wo} {c s : Nat}
theorem lq_30 (h : LI w c s) (a1 a2 : Int32) : LQ sc w 30 31 [am_I a1, am_I a2] c s := by
  obtain ⟨ow, A, hC, hM, hA, hk, hw, hc, hs⟩ := h
  have ra1 := i32r a1
  have ra2 := i32r a2
  obtain ⟨u, e1, f1⟩ := x_30 (sc := sc) hC hA ra1.1 ra1.2 ra2.1 ra2.2
  have hM1 := RM_c hM f1
  have hk1 : wI u 47 36 = -1 := by rw [fr_I f1 rfl]; exact hk
  have hw1 := WY_fr hw f1 rfl
  obtain ⟨v, e2, f2⟩ := y_31 (sc := sc) hM1 hA ra1.1 ra1.2 ra2.1 ra2.2
  simp only [ii_o32] at e1 e2
  refine ⟨_, u, v, e1, e2.trans ?_, LI_fr f1 f2 (RC_m (RC_c hC f1) f2) (RM_m hM1 f2) hA hk hw rfl rfl hc hs⟩
  first | rfl | exact congrArg (fun z => (some (some (am_I (ii z)), wst v) : Option am_Y)) (if_cg ⟨fun h => by omega, fun h => by omega⟩)

theorem lq_105 (h : LI w c s) (a1 a2 : Int32) : LQ sc w 105 112 [am_I a1, am_I a2] c s := by
  obtain ⟨ow, A, hC, hM, hA, hk, hw, hc, hs⟩ := h
  have ra1 := i32r a1
  have ra2 := i32r a2
  obtain ⟨u, e1, f1⟩ := x_105 (sc := sc) hC hA ra1.1 ra1.2 ra2.1 ra2.2
  have hM1 := RM_c hM f1
  have hk1 : wI u 47 36 = -1 := by rw [fr_I f1 rfl]; exact hk
  have hw1 := WY_fr hw f1 rfl
  obtain ⟨v, e2, f2⟩ := y_112 (sc := sc) hM1 hA ra1.1 ra1.2 ra2.1 ra2.2
  simp only [ii_o32] at e1 e2
  refine ⟨_, u, v, e1, e2.trans ?_, LI_fr f1 f2 (RC_m (RC_c hC f1) f2) (RM_m hM1 f2) hA hk hw rfl rfl hc hs⟩
  first | rfl | exact congrArg (fun z => (some (some (am_I (ii z)), wst v) : Option am_Y)) (if_cg ⟨fun h => by omega, fun h => by omega⟩)

theorem lq_119 (h : LI w c s) (a1 a2 : Int32) : LQ sc w 119 125 [am_I a1, am_I a2] c s := by
  obtain ⟨ow, A, hC, hM, hA, hk, hw, hc, hs⟩ := h
  have ra1 := i32r a1
  have ra2 := i32r a2
  obtain ⟨u, e1, f1⟩ := x_119 (sc := sc) hC hA ra1.1 ra1.2 ra2.1 ra2.2
  have hM1 := RM_c hM f1
  have hk1 : wI u 47 36 = -1 := by rw [fr_I f1 rfl]; exact hk
  have hw1 := WY_fr hw f1 rfl
  obtain ⟨v, e2, f2⟩ := y_125 (sc := sc) hM1 hA ra1.1 ra1.2 ra2.1 ra2.2
  simp only [ii_o32] at e1 e2
  refine ⟨_, u, v, e1, e2.trans ?_, LI_fr f1 f2 (RC_m (RC_c hC f1) f2) (RM_m hM1 f2) hA hk hw rfl rfl hc hs⟩
  first | rfl | exact congrArg (fun z => (some (some (am_I (ii z)), wst v) : Option am_Y)) (if_cg ⟨fun h => by omega, fun h => by omega⟩)

theorem lq_128 (h : LI w c s) (a1 a2 a3 : Int32) : LQ sc w 128 129 [am_I a1, am_I a2, am_I a3] c s := by
  obtain ⟨ow, A, hC, hM, hA, hk, hw, hc, hs⟩ := h
  have ra1 := i32r a1
  have ra2 := i32r a2
  have ra3 := i32r a3
  obtain ⟨u, e1, f1⟩ := x_128 (sc := sc) hC hA ra1.1 ra1.2 ra2.1 ra2.2 ra3.1 ra3.2
  have hM1 := RM_c hM f1
  have hk1 : wI u 47 36 = -1 := by rw [fr_I f1 rfl]; exact hk
  have hw1 := WY_fr hw f1 rfl
  obtain ⟨v, e2, f2⟩ := y_129 (sc := sc) hM1 hA ra1.1 ra1.2 ra2.1 ra2.2 ra3.1 ra3.2
  simp only [ii_o32] at e1 e2
  refine ⟨_, u, v, e1, e2.trans ?_, LI_fr f1 f2 (RC_m (RC_c hC f1) f2) (RM_m hM1 f2) hA hk hw rfl rfl hc hs⟩
  first | rfl | exact congrArg (fun z => (some (some (am_I (ii z)), wst v) : Option am_Y)) (if_cg ⟨fun h => by omega, fun h => by omega⟩)

theorem lq_134 (h : LI w c s) (a1 a2 : Int32) : LQ sc w 134 137 [am_I a1, am_I a2] c s := by
  obtain ⟨ow, A, hC, hM, hA, hk, hw, hc, hs⟩ := h
  have ra1 := i32r a1
  have ra2 := i32r a2
  obtain ⟨u, e1, f1⟩ := x_134 (sc := sc) hC hA ra1.1 ra1.2 ra2.1 ra2.2
  have hM1 := RM_c hM f1
  have hk1 : wI u 47 36 = -1 := by rw [fr_I f1 rfl]; exact hk
  have hw1 := WY_fr hw f1 rfl
  obtain ⟨v, e2, f2⟩ := y_137 (sc := sc) hM1 hA ra1.1 ra1.2 ra2.1 ra2.2
  simp only [ii_o32] at e1 e2
  refine ⟨_, u, v, e1, e2.trans ?_, LI_fr f1 f2 (RC_m (RC_c hC f1) f2) (RM_m hM1 f2) hA hk hw rfl rfl hc hs⟩
  first | rfl | exact congrArg (fun z => (some (some (am_I (ii z)), wst v) : Option am_Y)) (if_cg ⟨fun h => by omega, fun h => by omega⟩)

theorem lq_139 (h : LI w c s) (a1 a2 : Int32) : LQL sc w 139 141 [am_I a1, am_I a2] c s := by
  obtain ⟨ow, A, hC, hM, hA, hk, hw, hc, hs⟩ := h
  have ra1 := i32r a1
  have ra2 := i32r a2
  obtain ⟨u, e1, f1⟩ := x_139 (sc := sc) hC hA ra1.1 ra1.2 ra2.1 ra2.2
  have hM1 := RM_c hM f1
  have hk1 : wI u 47 36 = -1 := by rw [fr_I f1 rfl]; exact hk
  have hw1 := WY_fr hw f1 rfl
  obtain ⟨v, e2, f2, w2⟩ := y_141 (sc := sc) hM1 hw1 hA ra1.1 ra1.2 ra2.1 ra2.2
  simp only [ii_o32] at e1 e2
  refine ⟨_, u, v, e1, e2.trans ?_, ow, A, RC_fr (RC_c hC f1) f2 rfl rfl, RM_fr hM1 f2 rfl, hA, by rw [fr_I f2 rfl]; exact hk1, w2, by rw [fr_n f2, fr_n f1]; exact hc, by rw [fr_l f2, fr_l f1]; exact hs⟩
  first | rfl | exact congrArg (fun z => (some (some (am_L (jj z)), wst v) : Option am_Y)) (if_cg ⟨fun h => by omega, fun h => by omega⟩)

theorem lq_150 (h : LI w c s) (a1 a2 a3 : Int32) : LQ sc w 150 155 [am_I a1, am_I a2, am_I a3] c s := by
  obtain ⟨ow, A, hC, hM, hA, hk, hw, hc, hs⟩ := h
  have ra1 := i32r a1
  have ra2 := i32r a2
  have ra3 := i32r a3
  obtain ⟨u, e1, f1⟩ := x_150 (sc := sc) hC hA ra1.1 ra1.2 ra2.1 ra2.2 ra3.1 ra3.2
  have hM1 := RM_c hM f1
  have hk1 : wI u 47 36 = -1 := by rw [fr_I f1 rfl]; exact hk
  have hw1 := WY_fr hw f1 rfl
  obtain ⟨v, e2, f2⟩ := y_155 (sc := sc) hM1 hk1 hA ra1.1 ra1.2 ra2.1 ra2.2 ra3.1 ra3.2
  simp only [ii_o32] at e1 e2
  refine ⟨_, u, v, e1, e2.trans ?_, LI_fr f1 f2 (RC_m (RC_c hC f1) f2) (RM_m hM1 f2) hA hk hw rfl rfl hc hs⟩
  first | rfl | exact congrArg (fun z => (some (some (am_I (ii z)), wst v) : Option am_Y)) (if_cg ⟨fun h => by omega, fun h => by omega⟩)

theorem lq_287 (h : LI w c s) (a1 : Int32) : LQ sc w 287 288 [am_I a1] c s := by
  obtain ⟨ow, A, hC, hM, hA, hk, hw, hc, hs⟩ := h
  have ra1 := i32r a1
  obtain ⟨u, e1, f1⟩ := x_287 (sc := sc) hC hA ra1.1 ra1.2
  have hM1 := RM_c hM f1
  have hk1 : wI u 47 36 = -1 := by rw [fr_I f1 rfl]; exact hk
  have hw1 := WY_fr hw f1 rfl
  obtain ⟨v, e2, f2⟩ := y_288 (sc := sc) hM1 hk1 hA ra1.1 ra1.2
  simp only [ii_o32] at e1 e2
  refine ⟨_, u, v, e1, e2.trans ?_, LI_fr f1 f2 (RC_m (RC_c hC f1) f2) (RM_m hM1 f2) hA hk hw rfl rfl hc hs⟩
  first | rfl | exact congrArg (fun z => (some (some (am_I (ii z)), wst v) : Option am_Y)) (if_cg ⟨fun h => by omega, fun h => by omega⟩)

theorem lq_170 (h : LI w c s) (a1 a2 : Int32) : LQ sc w 170 173 [am_I a1, am_I a2] c s := by
  obtain ⟨ow, A, hC, hM, hA, hk, hw, hc, hs⟩ := h
  have ra1 := i32r a1
  have ra2 := i32r a2
  obtain ⟨u, e1, f1⟩ := x_170 (sc := sc) hC hA ra1.1 ra1.2 ra2.1 ra2.2
  have hM1 := RM_c hM f1
  have hk1 : wI u 47 36 = -1 := by rw [fr_I f1 rfl]; exact hk
  have hw1 := WY_fr hw f1 rfl
  obtain ⟨v, e2, f2⟩ := y_173 (sc := sc) hM1 hA ra1.1 ra1.2 ra2.1 ra2.2
  simp only [ii_o32] at e1 e2
  refine ⟨_, u, v, e1, e2.trans ?_, LI_fr f1 f2 (RC_m (RC_c hC f1) f2) (RM_m hM1 f2) hA hk hw rfl rfl hc hs⟩
  first | rfl | exact congrArg (fun z => (some (some (am_I (ii z)), wst v) : Option am_Y)) (if_cg ⟨fun h => by omega, fun h => by omega⟩)

theorem lq_175 (h : LI w c s) (a1 : Int32) : LQ sc w 175 176 [am_I a1] c s := by
  obtain ⟨ow, A, hC, hM, hA, hk, hw, hc, hs⟩ := h
  have ra1 := i32r a1
  obtain ⟨u, e1, f1⟩ := x_175 (sc := sc) hC hA ra1.1 ra1.2
  have hM1 := RM_c hM f1
  have hk1 : wI u 47 36 = -1 := by rw [fr_I f1 rfl]; exact hk
  have hw1 := WY_fr hw f1 rfl
  obtain ⟨v, e2, f2⟩ := y_176 (sc := sc) hM1 hk1 hA ra1.1 ra1.2
  simp only [ii_o32] at e1 e2
  refine ⟨_, u, v, e1, e2.trans ?_, LI_fr f1 f2 (RC_m (RC_c hC f1) f2) (RM_m hM1 f2) hA hk hw rfl rfl hc hs⟩
  first | rfl | exact congrArg (fun z => (some (some (am_I (ii z)), wst v) : Option am_Y)) (if_cg ⟨fun h => by omega, fun h => by omega⟩)

theorem lq_178 (h : LI w c s) (a1 a2 : Int32) : LQ sc w 178 179 [am_I a1, am_I a2] c s := by
  obtain ⟨ow, A, hC, hM, hA, hk, hw, hc, hs⟩ := h
  have ra1 := i32r a1
  have ra2 := i32r a2
  obtain ⟨u, e1, f1⟩ := x_178 (sc := sc) hC hA ra1.1 ra1.2 ra2.1 ra2.2
  have hM1 := RM_c hM f1
  have hk1 : wI u 47 36 = -1 := by rw [fr_I f1 rfl]; exact hk
  have hw1 := WY_fr hw f1 rfl
  obtain ⟨v, e2, f2⟩ := y_179 (sc := sc) hM1 hk1 hA ra1.1 ra1.2 ra2.1 ra2.2
  simp only [ii_o32] at e1 e2
  refine ⟨_, u, v, e1, e2.trans ?_, LI_fr f1 f2 (RC_m (RC_c hC f1) f2) (RM_m hM1 f2) hA hk hw rfl rfl hc hs⟩
  first | rfl | exact congrArg (fun z => (some (some (am_I (ii z)), wst v) : Option am_Y)) (if_cg ⟨fun h => by omega, fun h => by omega⟩)

theorem lq_187 (h : LI w c s) (a1 a2 : Int32) : LQ sc w 187 189 [am_I a1, am_I a2] c s := by
  obtain ⟨ow, A, hC, hM, hA, hk, hw, hc, hs⟩ := h
  have ra1 := i32r a1
  have ra2 := i32r a2
  obtain ⟨u, e1, f1⟩ := x_187 (sc := sc) hC hA ra1.1 ra1.2 ra2.1 ra2.2
  have hM1 := RM_c hM f1
  have hk1 : wI u 47 36 = -1 := by rw [fr_I f1 rfl]; exact hk
  have hw1 := WY_fr hw f1 rfl
  obtain ⟨v, e2, f2⟩ := y_189 (sc := sc) hM1 hA ra1.1 ra1.2 ra2.1 ra2.2
  simp only [ii_o32] at e1 e2
  refine ⟨_, u, v, e1, e2.trans ?_, LI_fr f1 f2 (RC_m (RC_c hC f1) f2) (RM_m hM1 f2) hA hk hw rfl rfl hc hs⟩
  first | rfl | exact congrArg (fun z => (some (some (am_I (ii z)), wst v) : Option am_Y)) (if_cg ⟨fun h => by omega, fun h => by omega⟩)

theorem lq_192 (h : LI w c s) (a1 a2 : Int32) : LQL sc w 192 193 [am_I a1, am_I a2] c s := by
  obtain ⟨ow, A, hC, hM, hA, hk, hw, hc, hs⟩ := h
  have ra1 := i32r a1
  have ra2 := i32r a2
  obtain ⟨u, e1, f1⟩ := x_192 (sc := sc) hC hA ra1.1 ra1.2 ra2.1 ra2.2
  have hM1 := RM_c hM f1
  have hk1 : wI u 47 36 = -1 := by rw [fr_I f1 rfl]; exact hk
  have hw1 := WY_fr hw f1 rfl
  obtain ⟨v, e2, f2, w2⟩ := y_193 (sc := sc) hM1 hw1 hA ra1.1 ra1.2 ra2.1 ra2.2
  simp only [ii_o32] at e1 e2
  refine ⟨_, u, v, e1, e2.trans ?_, ow, A, RC_fr (RC_c hC f1) f2 rfl rfl, RM_fr hM1 f2 rfl, hA, by rw [fr_I f2 rfl]; exact hk1, w2, by rw [fr_n f2, fr_n f1]; exact hc, by rw [fr_l f2, fr_l f1]; exact hs⟩
  first | rfl | exact congrArg (fun z => (some (some (am_L (jj z)), wst v) : Option am_Y)) (if_cg ⟨fun h => by omega, fun h => by omega⟩)

theorem lq_194 (h : LI w c s) (a1 a2 a3 : Int32) : LQL sc w 194 197 [am_I a1, am_I a2, am_I a3] c s := by
  obtain ⟨ow, A, hC, hM, hA, hk, hw, hc, hs⟩ := h
  have ra1 := i32r a1
  have ra2 := i32r a2
  have ra3 := i32r a3
  obtain ⟨u, e1, f1⟩ := x_194 (sc := sc) hC hA ra1.1 ra1.2 ra2.1 ra2.2 ra3.1 ra3.2
  have hM1 := RM_c hM f1
  have hk1 : wI u 47 36 = -1 := by rw [fr_I f1 rfl]; exact hk
  have hw1 := WY_fr hw f1 rfl
  obtain ⟨v, e2, f2, w2⟩ := y_197 (sc := sc) hM1 hw1 hA ra1.1 ra1.2 ra2.1 ra2.2 ra3.1 ra3.2
  simp only [ii_o32] at e1 e2
  refine ⟨_, u, v, e1, e2.trans ?_, ow, A, RC_fr (RC_c hC f1) f2 rfl rfl, RM_fr hM1 f2 rfl, hA, by rw [fr_I f2 rfl]; exact hk1, w2, by rw [fr_n f2, fr_n f1]; exact hc, by rw [fr_l f2, fr_l f1]; exact hs⟩
  first | rfl | exact congrArg (fun z => (some (some (am_L (jj z)), wst v) : Option am_Y)) (if_cg ⟨fun h => by omega, fun h => by omega⟩)

theorem lq_198 (h : LI w c s) (a1 : Int32) : LQ sc w 198 199 [am_I a1] c s := by
  obtain ⟨ow, A, hC, hM, hA, hk, hw, hc, hs⟩ := h
  have ra1 := i32r a1
  obtain ⟨u, e1, f1⟩ := x_198 (sc := sc) hC hA ra1.1 ra1.2
  have hM1 := RM_c hM f1
  have hk1 : wI u 47 36 = -1 := by rw [fr_I f1 rfl]; exact hk
  have hw1 := WY_fr hw f1 rfl
  obtain ⟨v, e2, f2, w2⟩ := y_199 (sc := sc) hM1 hw1 hA ra1.1 ra1.2
  simp only [ii_o32] at e1 e2
  refine ⟨_, u, v, e1, e2.trans ?_, ow, A, RC_fr (RC_c hC f1) f2 rfl rfl, RM_fr hM1 f2 rfl, hA, by rw [fr_I f2 rfl]; exact hk1, w2, by rw [fr_n f2, fr_n f1]; exact hc, by rw [fr_l f2, fr_l f1]; exact hs⟩
  first | rfl | exact congrArg (fun z => (some (some (am_I (ii z)), wst v) : Option am_Y)) (if_cg ⟨fun h => by omega, fun h => by omega⟩)

theorem lq_201 (h : LI w c s) (a1 a2 a3 a4 : Int32) : LQ sc w 201 205 [am_I a1, am_I a2, am_I a3, am_I a4] c s := by
  obtain ⟨ow, A, hC, hM, hA, hk, hw, hc, hs⟩ := h
  have ra1 := i32r a1
  have ra2 := i32r a2
  have ra3 := i32r a3
  have ra4 := i32r a4
  obtain ⟨u, e1, f1⟩ := x_201 (sc := sc) hC hA ra1.1 ra1.2 ra2.1 ra2.2 ra3.1 ra3.2 ra4.1 ra4.2
  have hM1 := RM_c hM f1
  have hk1 : wI u 47 36 = -1 := by rw [fr_I f1 rfl]; exact hk
  have hw1 := WY_fr hw f1 rfl
  obtain ⟨v, e2, f2⟩ := y_205 (sc := sc) hM1 hA ra1.1 ra1.2 ra2.1 ra2.2 ra3.1 ra3.2 ra4.1 ra4.2
  simp only [ii_o32] at e1 e2
  refine ⟨_, u, v, e1, e2.trans ?_, LI_fr f1 f2 (RC_m (RC_c hC f1) f2) (RM_m hM1 f2) hA hk hw rfl rfl hc hs⟩
  first | rfl | exact congrArg (fun z => (some (some (am_I (ii z)), wst v) : Option am_Y)) (if_cg ⟨fun h => by omega, fun h => by omega⟩)

theorem lq_207 (h : LI w c s) (a1 a2 a3 a4 : Int32) : LQ sc w 207 208 [am_I a1, am_I a2, am_I a3, am_I a4] c s := by
  obtain ⟨ow, A, hC, hM, hA, hk, hw, hc, hs⟩ := h
  have ra1 := i32r a1
  have ra2 := i32r a2
  have ra3 := i32r a3
  have ra4 := i32r a4
  obtain ⟨u, e1, f1⟩ := x_207 (sc := sc) hC hA ra1.1 ra1.2 ra2.1 ra2.2 ra3.1 ra3.2 ra4.1 ra4.2
  have hM1 := RM_c hM f1
  have hk1 : wI u 47 36 = -1 := by rw [fr_I f1 rfl]; exact hk
  have hw1 := WY_fr hw f1 rfl
  obtain ⟨v, e2, f2⟩ := y_208 (sc := sc) hM1 hA ra1.1 ra1.2 ra2.1 ra2.2 ra3.1 ra3.2 ra4.1 ra4.2
  simp only [ii_o32] at e1 e2
  refine ⟨_, u, v, e1, e2.trans ?_, LI_fr f1 f2 (RC_m (RC_c hC f1) f2) (RM_m hM1 f2) hA hk hw rfl rfl hc hs⟩
  first | rfl | exact congrArg (fun z => (some (some (am_I (ii z)), wst v) : Option am_Y)) (if_cg ⟨fun h => by omega, fun h => by omega⟩)

theorem lq_209 (h : LI w c s) (a1 a2 a3 a4 : Int32) : LQ sc w 209 211 [am_I a1, am_I a2, am_I a3, am_I a4] c s := by
  obtain ⟨ow, A, hC, hM, hA, hk, hw, hc, hs⟩ := h
  have ra1 := i32r a1
  have ra2 := i32r a2
  have ra3 := i32r a3
  have ra4 := i32r a4
  obtain ⟨u, e1, f1⟩ := x_209 (sc := sc) hC hA ra1.1 ra1.2 ra2.1 ra2.2 ra3.1 ra3.2 ra4.1 ra4.2
  have hM1 := RM_c hM f1
  have hk1 : wI u 47 36 = -1 := by rw [fr_I f1 rfl]; exact hk
  have hw1 := WY_fr hw f1 rfl
  obtain ⟨v, e2, f2⟩ := y_211 (sc := sc) hM1 hA ra1.1 ra1.2 ra2.1 ra2.2 ra3.1 ra3.2 ra4.1 ra4.2
  simp only [ii_o32] at e1 e2
  refine ⟨_, u, v, e1, e2.trans ?_, LI_fr f1 f2 (RC_m (RC_c hC f1) f2) (RM_m hM1 f2) hA hk hw rfl rfl hc hs⟩
  first | rfl | exact congrArg (fun z => (some (some (am_I (ii z)), wst v) : Option am_Y)) (if_cg ⟨fun h => by omega, fun h => by omega⟩)

theorem lq_214 (h : LI w c s) (a1 a2 : Int32) : LQ sc w 214 216 [am_I a1, am_I a2] c s := by
  obtain ⟨ow, A, hC, hM, hA, hk, hw, hc, hs⟩ := h
  have ra1 := i32r a1
  have ra2 := i32r a2
  obtain ⟨u, e1, f1⟩ := x_214 (sc := sc) hC hA ra1.1 ra1.2 ra2.1 ra2.2
  have hM1 := RM_c hM f1
  have hk1 : wI u 47 36 = -1 := by rw [fr_I f1 rfl]; exact hk
  have hw1 := WY_fr hw f1 rfl
  obtain ⟨v, e2, f2⟩ := y_216 (sc := sc) hM1 hA ra1.1 ra1.2 ra2.1 ra2.2
  simp only [ii_o32] at e1 e2
  refine ⟨_, u, v, e1, e2.trans ?_, LI_fr f1 f2 (RC_m (RC_c hC f1) f2) (RM_m hM1 f2) hA hk hw rfl rfl hc hs⟩
  first | rfl | exact congrArg (fun z => (some (some (am_I (ii z)), wst v) : Option am_Y)) (if_cg ⟨fun h => by omega, fun h => by omega⟩)

theorem lq_218 (h : LI w c s) (a1 a2 : Int32) : LQ sc w 218 219 [am_I a1, am_I a2] c s := by
  obtain ⟨ow, A, hC, hM, hA, hk, hw, hc, hs⟩ := h
  have ra1 := i32r a1
  have ra2 := i32r a2
  obtain ⟨u, e1, f1⟩ := x_218 (sc := sc) hC hA ra1.1 ra1.2 ra2.1 ra2.2
  have hM1 := RM_c hM f1
  have hk1 : wI u 47 36 = -1 := by rw [fr_I f1 rfl]; exact hk
  have hw1 := WY_fr hw f1 rfl
  obtain ⟨v, e2, f2⟩ := y_219 (sc := sc) hM1 hA ra1.1 ra1.2 ra2.1 ra2.2
  simp only [ii_o32] at e1 e2
  refine ⟨_, u, v, e1, e2.trans ?_, LI_fr f1 f2 (RC_m (RC_c hC f1) f2) (RM_m hM1 f2) hA hk hw rfl rfl hc hs⟩
  first | rfl | exact congrArg (fun z => (some (some (am_I (ii z)), wst v) : Option am_Y)) (if_cg ⟨fun h => by omega, fun h => by omega⟩)

theorem lq_225 (h : LI w c s) (a1 a2 a3 : Int32) : LQ sc w 225 228 [am_I a1, am_I a2, am_I a3] c s := by
  obtain ⟨ow, A, hC, hM, hA, hk, hw, hc, hs⟩ := h
  have ra1 := i32r a1
  have ra2 := i32r a2
  have ra3 := i32r a3
  obtain ⟨u, e1, f1⟩ := x_225 (sc := sc) hC hA ra1.1 ra1.2 ra2.1 ra2.2 ra3.1 ra3.2
  have hM1 := RM_c hM f1
  have hk1 : wI u 47 36 = -1 := by rw [fr_I f1 rfl]; exact hk
  have hw1 := WY_fr hw f1 rfl
  obtain ⟨v, e2, f2⟩ := y_228 (sc := sc) hM1 hA ra1.1 ra1.2 ra2.1 ra2.2 ra3.1 ra3.2
  simp only [ii_o32] at e1 e2
  refine ⟨_, u, v, e1, e2.trans ?_, LI_fr f1 f2 (RC_m (RC_c hC f1) f2) (RM_m hM1 f2) hA hk hw rfl rfl hc hs⟩
  first | rfl | exact congrArg (fun z => (some (some (am_I (ii z)), wst v) : Option am_Y)) (if_cg ⟨fun h => by omega, fun h => by omega⟩)

theorem lq_231 (h : LI w c s) (a1 a2 a3 : Int32) : LQ sc w 231 233 [am_I a1, am_I a2, am_I a3] c s := by
  obtain ⟨ow, A, hC, hM, hA, hk, hw, hc, hs⟩ := h
  have ra1 := i32r a1
  have ra2 := i32r a2
  have ra3 := i32r a3
  obtain ⟨u, e1, f1⟩ := x_231 (sc := sc) hC hA ra1.1 ra1.2 ra2.1 ra2.2 ra3.1 ra3.2
  have hM1 := RM_c hM f1
  have hk1 : wI u 47 36 = -1 := by rw [fr_I f1 rfl]; exact hk
  have hw1 := WY_fr hw f1 rfl
  obtain ⟨v, e2, f2⟩ := y_233 (sc := sc) hM1 hA ra1.1 ra1.2 ra2.1 ra2.2 ra3.1 ra3.2
  simp only [ii_o32] at e1 e2
  refine ⟨_, u, v, e1, e2.trans ?_, LI_fr f1 f2 (RC_m (RC_c hC f1) f2) (RM_m hM1 f2) hA hk hw rfl rfl hc hs⟩
  first | rfl | exact congrArg (fun z => (some (some (am_I (ii z)), wst v) : Option am_Y)) (if_cg ⟨fun h => by omega, fun h => by omega⟩)

theorem lq_241 (h : LI w c s) (a1 a2 a3 a4 a5 : Int32) : LQ sc w 241 243 [am_I a1, am_I a2, am_I a3, am_I a4, am_I a5] c s := by
  obtain ⟨ow, A, hC, hM, hA, hk, hw, hc, hs⟩ := h
  have ra1 := i32r a1
  have ra2 := i32r a2
  have ra3 := i32r a3
  have ra4 := i32r a4
  have ra5 := i32r a5
  obtain ⟨u, e1, f1⟩ := x_241 (sc := sc) hC hA ra1.1 ra1.2 ra2.1 ra2.2 ra3.1 ra3.2 ra4.1 ra4.2 ra5.1 ra5.2
  have hM1 := RM_c hM f1
  have hk1 : wI u 47 36 = -1 := by rw [fr_I f1 rfl]; exact hk
  have hw1 := WY_fr hw f1 rfl
  obtain ⟨v, e2, f2⟩ := y_243 (sc := sc) hM1 hA ra1.1 ra1.2 ra2.1 ra2.2 ra3.1 ra3.2 ra4.1 ra4.2 ra5.1 ra5.2
  simp only [ii_o32] at e1 e2
  refine ⟨_, u, v, e1, e2.trans ?_, LI_fr f1 f2 (RC_m (RC_c hC f1) f2) (RM_m hM1 f2) hA hk hw rfl rfl hc hs⟩
  first | rfl | exact congrArg (fun z => (some (some (am_I (ii z)), wst v) : Option am_Y)) (if_cg ⟨fun h => by omega, fun h => by omega⟩)

theorem lq_244 (h : LI w c s) (a1 a2 a3 a4 a5 : Int32) : LQ sc w 244 245 [am_I a1, am_I a2, am_I a3, am_I a4, am_I a5] c s := by
  obtain ⟨ow, A, hC, hM, hA, hk, hw, hc, hs⟩ := h
  have ra1 := i32r a1
  have ra2 := i32r a2
  have ra3 := i32r a3
  have ra4 := i32r a4
  have ra5 := i32r a5
  obtain ⟨u, e1, f1⟩ := x_244 (sc := sc) hC hA ra1.1 ra1.2 ra2.1 ra2.2 ra3.1 ra3.2 ra4.1 ra4.2 ra5.1 ra5.2
  have hM1 := RM_c hM f1
  have hk1 : wI u 47 36 = -1 := by rw [fr_I f1 rfl]; exact hk
  have hw1 := WY_fr hw f1 rfl
  obtain ⟨v, e2, f2⟩ := y_245 (sc := sc) hM1 hA ra1.1 ra1.2 ra2.1 ra2.2 ra3.1 ra3.2 ra4.1 ra4.2 ra5.1 ra5.2
  simp only [ii_o32] at e1 e2
  refine ⟨_, u, v, e1, e2.trans ?_, LI_fr f1 f2 (RC_m (RC_c hC f1) f2) (RM_m hM1 f2) hA hk hw rfl rfl hc hs⟩
  first | rfl | exact congrArg (fun z => (some (some (am_I (ii z)), wst v) : Option am_Y)) (if_cg ⟨fun h => by omega, fun h => by omega⟩)

theorem lq_255 (h : LI w c s) (a1 a2 : Int32) : LQ sc w 255 260 [am_I a1, am_I a2] c s := by
  obtain ⟨ow, A, hC, hM, hA, hk, hw, hc, hs⟩ := h
  have ra1 := i32r a1
  have ra2 := i32r a2
  obtain ⟨u, e1, f1⟩ := x_255 (sc := sc) hC hA ra1.1 ra1.2 ra2.1 ra2.2
  have hM1 := RM_c hM f1
  have hk1 : wI u 47 36 = -1 := by rw [fr_I f1 rfl]; exact hk
  have hw1 := WY_fr hw f1 rfl
  obtain ⟨v, e2, f2⟩ := y_260 (sc := sc) hM1 hA ra1.1 ra1.2 ra2.1 ra2.2
  simp only [ii_o32] at e1 e2
  refine ⟨_, u, v, e1, e2.trans ?_, LI_fr f1 f2 (RC_m (RC_c hC f1) f2) (RM_m hM1 f2) hA hk hw rfl rfl hc hs⟩
  first | rfl | exact congrArg (fun z => (some (some (am_I (ii z)), wst v) : Option am_Y)) (if_cg ⟨fun h => by omega, fun h => by omega⟩)

theorem lq_261 (h : LI w c s) (a1 a2 a3 : Int32) : LQ sc w 261 262 [am_I a1, am_I a2, am_I a3] c s := by
  obtain ⟨ow, A, hC, hM, hA, hk, hw, hc, hs⟩ := h
  have ra1 := i32r a1
  have ra2 := i32r a2
  have ra3 := i32r a3
  obtain ⟨u, e1, f1⟩ := x_261 (sc := sc) hC hA ra1.1 ra1.2 ra2.1 ra2.2 ra3.1 ra3.2
  have hM1 := RM_c hM f1
  have hk1 : wI u 47 36 = -1 := by rw [fr_I f1 rfl]; exact hk
  have hw1 := WY_fr hw f1 rfl
  obtain ⟨v, e2, f2⟩ := y_262 (sc := sc) hM1 hA ra1.1 ra1.2 ra2.1 ra2.2 ra3.1 ra3.2
  simp only [ii_o32] at e1 e2
  refine ⟨_, u, v, e1, e2.trans ?_, LI_fr f1 f2 (RC_m (RC_c hC f1) f2) (RM_m hM1 f2) hA hk hw rfl rfl hc hs⟩
  first | rfl | exact congrArg (fun z => (some (some (am_I (ii z)), wst v) : Option am_Y)) (if_cg ⟨fun h => by omega, fun h => by omega⟩)

theorem lq_263 (h : LI w c s) (a1 a2 a3 : Int32) : LQ sc w 263 264 [am_I a1, am_I a2, am_I a3] c s := by
  obtain ⟨ow, A, hC, hM, hA, hk, hw, hc, hs⟩ := h
  have ra1 := i32r a1
  have ra2 := i32r a2
  have ra3 := i32r a3
  obtain ⟨u, e1, f1⟩ := x_263 (sc := sc) hC hA ra1.1 ra1.2 ra2.1 ra2.2 ra3.1 ra3.2
  have hM1 := RM_c hM f1
  have hk1 : wI u 47 36 = -1 := by rw [fr_I f1 rfl]; exact hk
  have hw1 := WY_fr hw f1 rfl
  obtain ⟨v, e2, f2⟩ := y_264 (sc := sc) hM1 hA ra1.1 ra1.2 ra2.1 ra2.2 ra3.1 ra3.2
  simp only [ii_o32] at e1 e2
  refine ⟨_, u, v, e1, e2.trans ?_, LI_fr f1 f2 (RC_m (RC_c hC f1) f2) (RM_m hM1 f2) hA hk hw rfl rfl hc hs⟩
  first | rfl | exact congrArg (fun z => (some (some (am_I (ii z)), wst v) : Option am_Y)) (if_cg ⟨fun h => by omega, fun h => by omega⟩)

theorem lq_273 (h : LI w c s) (a1 a2 a3 : Int32) : LQ sc w 273 278 [am_I a1, am_I a2, am_I a3] c s := by
  obtain ⟨ow, A, hC, hM, hA, hk, hw, hc, hs⟩ := h
  have ra1 := i32r a1
  have ra2 := i32r a2
  have ra3 := i32r a3
  obtain ⟨u, e1, f1⟩ := x_273 (sc := sc) hC hA ra1.1 ra1.2 ra2.1 ra2.2 ra3.1 ra3.2
  have hM1 := RM_c hM f1
  have hk1 : wI u 47 36 = -1 := by rw [fr_I f1 rfl]; exact hk
  have hw1 := WY_fr hw f1 rfl
  obtain ⟨v, e2, f2⟩ := y_278 (sc := sc) hM1 hA ra1.1 ra1.2 ra2.1 ra2.2 ra3.1 ra3.2
  simp only [ii_o32] at e1 e2
  refine ⟨_, u, v, e1, e2.trans ?_, LI_fr f1 f2 (RC_m (RC_c hC f1) f2) (RM_m hM1 f2) hA hk hw rfl rfl hc hs⟩
  first | rfl | exact congrArg (fun z => (some (some (am_I (ii z)), wst v) : Option am_Y)) (if_cg ⟨fun h => by omega, fun h => by omega⟩)

theorem lq_16 (h : LI w c s) (a1 a2 a3 a4 : Int32) : LQ sc w 16 18 [am_I a1, am_I a2, am_I a3, am_I a4] c s := by
  obtain ⟨ow, A, hC, hM, hA, hk, hw, hc, hs⟩ := h
  have ra1 := i32r a1
  have ra2 := i32r a2
  have ra3 := i32r a3
  have ra4 := i32r a4
  by_cases q : asOk A a1.toInt a2.toInt a3.toInt a4.toInt
  · obtain ⟨u, e1, f1, hC1⟩ := x_16 (sc := sc) hC q
    have hM1 := RM_fr hM f1 rfl
    obtain ⟨v, e2, f2, hM2⟩ := y_18 (sc := sc) hM1 q
    simp only [ii_o32] at e1 e2
    exact ⟨_, u, v, e1, e2, LI_fr f1 f2 (RC_fr hC1 f2 rfl rfl) hM2 (ok_asks hA q) hk hw rfl rfl hc hs⟩
  · have e1 := x_16n (sc := sc) hC ra1.1 ra1.2 ra2.1 ra2.2 ra3.1 ra3.2 ra4.1 ra4.2 q
    have e2 := y_18n (sc := sc) hM ra1.1 ra1.2 ra2.1 ra2.2 ra3.1 ra3.2 ra4.1 ra4.2 q
    simp only [ii_o32] at e1 e2
    exact ⟨_, w, w, e1, e2, ow, A, hC, hM, hA, hk, hw, hc, hs⟩

theorem lq_23 (h : LI w c s) (a1 a2 a3 : Int32) : LQ sc w 23 25 [am_I a1, am_I a2, am_I a3] c s := by
  obtain ⟨ow, A, hC, hM, hA, hk, hw, hc, hs⟩ := h
  have ra1 := i32r a1
  have ra2 := i32r a2
  have ra3 := i32r a3
  by_cases q : mkOk A a1.toInt a2.toInt a3.toInt
  · obtain ⟨u, e1, f1, hC1⟩ := x_23 (sc := sc) hC q
    have hM1 := RM_fr hM f1 rfl
    obtain ⟨v, e2, f2, hM2⟩ := y_25 (sc := sc) hM1 q
    simp only [ii_o32] at e1 e2
    exact ⟨_, u, v, e1, e2, LI_fr f1 f2 (RC_fr hC1 f2 rfl rfl) hM2 (ok_mark hA q) hk hw rfl rfl hc hs⟩
  · have e1 := x_23n (sc := sc) hC ra1.1 ra1.2 ra2.1 ra2.2 ra3.1 ra3.2 q
    have e2 := y_25n (sc := sc) hM ra1.1 ra1.2 ra2.1 ra2.2 ra3.1 ra3.2 q
    simp only [ii_o32] at e1 e2
    exact ⟨_, w, w, e1, e2, ow, A, hC, hM, hA, hk, hw, hc, hs⟩

theorem lq_33 (h : LI w c s) (a1 a2 a3 a4 a5 : Int32) : LQ sc w 33 35 [am_I a1, am_I a2, am_I a3, am_I a4, am_I a5] c s := by
  obtain ⟨ow, A, hC, hM, hA, hk, hw, hc, hs⟩ := h
  have ra1 := i32r a1
  have ra2 := i32r a2
  have ra3 := i32r a3
  have ra4 := i32r a4
  have ra5 := i32r a5
  by_cases q : fdOk A
  · obtain ⟨u, e1, f1, hC1⟩ := x_33 (sc := sc) hC hA q (x1 := a1.toInt) (x2 := a2.toInt) (x3 := a3.toInt) (x4 := a4.toInt) (x5 := a5.toInt)
    have hM1 := RM_fr hM f1 rfl
    obtain ⟨v, e2, f2, hM2⟩ := y_35 (sc := sc) hM1 hA q ra1.1 ra1.2 ra2.1 ra2.2 ra3.1 ra3.2 ra4.1 ra4.2 ra5.1 ra5.2
    simp only [ii_o32] at e1 e2
    exact ⟨_, u, v, e1, e2, LI_fr f1 f2 (RC_fr hC1 f2 rfl rfl) hM2 (ok_feed hA q _ _ _ _ _) hk hw rfl rfl hc hs⟩
  · have e1 := x_33n (sc := sc) hC hA q (x1 := a1.toInt) (x2 := a2.toInt) (x3 := a3.toInt) (x4 := a4.toInt) (x5 := a5.toInt)
    have e2 := y_35n (sc := sc) hM hA q (x1 := a1.toInt) (x2 := a2.toInt) (x3 := a3.toInt) (x4 := a4.toInt) (x5 := a5.toInt)
    simp only [ii_o32] at e1 e2
    exact ⟨_, w, w, e1, e2, ow, A, hC, hM, hA, hk, hw, hc, hs⟩

theorem lq_36 (h : LI w c s) (a1 : Int32) : LQ sc w 36 37 [am_I a1] c s := by
  obtain ⟨ow, A, hC, hM, hA, hk, hw, hc, hs⟩ := h
  have ra1 := i32r a1
  by_cases q : endOk A a1.toInt
  · obtain ⟨u, e1, f1, hC1⟩ := x_36 (sc := sc) hC hA q
    have hM1 := RM_fr hM f1 rfl
    obtain ⟨v, e2, f2, hM2⟩ := y_37 (sc := sc) hM1 hA q
    simp only [ii_o32] at e1 e2
    exact ⟨_, u, v, e1, e2, LI_fr f1 f2 (RC_fr hC1 f2 rfl rfl) hM2 (ok_end hA q) hk hw rfl rfl hc hs⟩
  · have e1 := x_36n (sc := sc) hC hA ra1.1 ra1.2 q
    have e2 := y_37n (sc := sc) hM hA ra1.1 ra1.2 q
    simp only [ii_o32] at e1 e2
    exact ⟨_, w, w, e1, e2, ow, A, hC, hM, hA, hk, hw, hc, hs⟩

theorem lq_181 (h : LI w c s) (a1 : Int32) {b1 b2 : Int} (h1 : b1 = 0 ∨ b1 = 1) (h2 : b2 = 0 ∨ b2 = 1) : LQ sc w 181 182 [am_I a1, am_I (ii b1), am_I (ii b2)] c s := by
  obtain ⟨ow, A, hC, hM, hA, hk, hw, hc, hs⟩ := h
  have ra1 := i32r a1
  by_cases q : ltOk A a1.toInt
  · obtain ⟨u, e1, f1, hC1⟩ := x_181 (sc := sc) hC hA q h1 h2
    have hM1 := RM_fr hM f1 rfl
    obtain ⟨v, e2, f2, hM2⟩ := y_182 (sc := sc) hM1 hA q h1 h2
    simp only [ii_o32] at e1 e2
    exact ⟨_, u, v, e1, e2, LI_fr f1 f2 (RC_fr hC1 f2 rfl rfl) hM2 (ok_letter hA q h1 h2) hk hw rfl rfl hc hs⟩
  · have e1 := x_181n (sc := sc) (a := b1) (b := b2) hC hA ra1.1 ra1.2 q
    have e2 := y_182n (sc := sc) (a := b1) (b := b2) hM hA ra1.1 ra1.2 q
    simp only [ii_o32] at e1 e2
    exact ⟨_, w, w, e1, e2, ow, A, hC, hM, hA, hk, hw, hc, hs⟩
theorem lq_285 (h : LI w c s) (a1 : Int32) : LQ sc w 285 286 [am_I a1] c s := by
  obtain ⟨ow, A, hC, hM, hA, hk, hw, hc, hs⟩ := h
  have ra1 := i32r a1
  have e1 := x_285 (sc := sc) hC ra1.1 ra1.2
  have e2 := y_286 (sc := sc) hM ra1.1 ra1.2
  simp only [ii_o32] at e1 e2
  exact ⟨_, w, w, e1, e2, ow, A, hC, hM, hA, hk, hw, hc, hs⟩
theorem lq_283 (h : LI w c s) (a1 : Int32) : LQ sc w 283 284 [am_I a1] c s := by
  obtain ⟨ow, A, hC, hM, hA, hk, hw, hc, hs⟩ := h
  have ra1 := i32r a1
  by_cases q : ∃ (n : Nat) (d : cl), a1.toInt = n ∧ n < 4 ∧ A.2.2.2.2 n = some d
  · obtain ⟨n, d, en, hn, hd⟩ := q
    obtain ⟨u, e1, f1, hC1⟩ := x_283 (sc := sc) hC hA hn hd
    have hM1 := RM_fr hM f1 rfl
    obtain ⟨v, e2, f2, hM2⟩ := y_284 (sc := sc) hM1 hA hn hd
    rw [← en] at e1 e2
    simp only [ii_o32] at e1 e2
    exact ⟨_, u, v, e1, e2, LI_fr f1 f2 (RC_fr hC1 f2 rfl rfl) hM2 (ok_back hA hn hd) hk hw rfl rfl hc hs⟩
  · have hq : ∀ n : Nat, a1.toInt = n → n < 4 → A.2.2.2.2 n = none := fun n en hn => by
      cases e : A.2.2.2.2 n with
      | none => rfl
      | some d => exact absurd ⟨n, d, en, hn, e⟩ q
    have e1 := x_283n (sc := sc) hC ra1.1 ra1.2 hq
    have e2 := y_284n (sc := sc) hM ra1.1 ra1.2 hq
    simp only [ii_o32] at e1 e2
    exact ⟨_, w, w, e1, e2, ow, A, hC, hM, hA, hk, hw, hc, hs⟩
theorem WY_k {u : wo} (h : WY w) (k : kM w u) : WY u := by
  unfold WY WYr at *
  rw [(k 62 (by decide) (by decide)).2.2]
  exact h
theorem lq_281 (h : LI w c s) (a1 : Int32) : LQ sc w 281 282 [am_I a1] (c + 10) (s + 2610) := by
  obtain ⟨ow, A, hC, hM, hA, hk, hw, hc, hs⟩ := h
  have ra1 := i32r a1
  by_cases q : 0 ≤ a1.toInt ∧ a1.toInt < 4
  · obtain ⟨n, en⟩ : ∃ n : Nat, a1.toInt = n := ⟨a1.toInt.toNat, by omega⟩
    have hn : n < 4 := by omega
    have key : ∃ u ow', am_F sc 281 [am_R (some 0), am_I (ii n)] (wst w) = some (some (am_I (ii A.1.1)), wst u) ∧ kM w u ∧ RC ow' u (imA A n) ∧ wn u ≤ wn w + 10 ∧ wl u ≤ wl w + 2610 := by
      cases e : A.2.2.2.2 n with
      | none =>
        obtain ⟨u, ow', e1, k1, hC1, n1, l1⟩ := x_281o (sc := sc) hC hA hn e
        exact ⟨u, ow', e1, k1, hC1, by omega, by omega⟩
      | some d =>
        obtain ⟨u, e1, k1, hC1, n1, l1⟩ := x_281r (sc := sc) hC hA hn e
        exact ⟨u, ow, e1, k1, hC1, by omega, by omega⟩
    obtain ⟨u, ow', e1, k1, hC1, n1, l1⟩ := key
    obtain ⟨v, e2, f2, hM2⟩ := y_282 (sc := sc) (RM_k hM k1) hA hn
    rw [← en] at e1 e2
    simp only [ii_o32] at e1 e2
    refine ⟨_, u, v, e1, e2, ow', imA A n, RC_fr hC1 f2 rfl rfl, hM2, ok_image hA n, ?_, WY_fr (WY_k hw k1) f2 rfl, by rw [fr_n f2]; omega, by rw [fr_l f2]; omega⟩
    rw [fr_I f2 rfl, ((k1 47 (by decide) (by decide)).1 36).1]
    exact hk
  · have e1 := x_281n (sc := sc) (w := w) ra1.1 ra1.2 q
    have e2 := y_282n (sc := sc) (w := w) ra1.1 ra1.2 q
    simp only [ii_o32] at e1 e2
    exact ⟨_, w, w, e1, e2, ow, A, hC, hM, hA, hk, hw, by omega, by omega⟩
theorem okA_e {A : ab} (h : okA A) : okA (eA A) := ⟨h.1, ⟨Int.le_refl _, (by decide : (0 : Int) ≤ 400), fun i i0 i1 => by have i1 : i < 0 := i1; omega⟩, h.2.2⟩
theorem okA_v {A : ab} (h : okA A) (h8 : A.2.2.1.1 < 8) {x : vw} (hx : okV x) : okA (vA A x) := by
  obtain ⟨a1, a2, ⟨a3, a4, a5⟩, a6⟩ := h
  refine ⟨a1, ⟨Int.le_refl _, (by decide : (0 : Int) ≤ 400), fun i i0 i1 => by have i1 : i < 0 := i1; omega⟩, ⟨?_, ?_, fun v v0 v1 => ?_⟩, a6⟩
  · show 0 ≤ A.2.2.1.1 + 1
    omega
  · show A.2.2.1.1 + 1 ≤ 8
    omega
  · have v1 : v < A.2.2.1.1 + 1 := v1
    show okV (if v = A.2.2.1.1 then x else A.2.2.1.2 v)
    by_cases z : v = A.2.2.1.1
    · rw [if_pos z]
      exact hx
    · rw [if_neg z]
      exact a5 v v0 (by omega)
theorem okA_r {A : ab} (h : okA A) (h8 : A.2.2.2.1.1 < 8) {P : pg} (hP : okP P) : okA (rA' A P) := by
  obtain ⟨a1, a2, a3, ⟨a4, a5, a6⟩, a7⟩ := h
  refine ⟨a1, ⟨Int.le_refl _, (by decide : (0 : Int) ≤ 400), fun i i0 i1 => by have i1 : i < 0 := i1; omega⟩, a3, ⟨?_, ?_, fun v v0 v1 => ?_⟩, a7⟩
  · show 0 ≤ A.2.2.2.1.1 + 1
    omega
  · show A.2.2.2.1.1 + 1 ≤ 8
    omega
  · have v1 : v < A.2.2.2.1.1 + 1 := v1
    show okP (if v = A.2.2.2.1.1 then P else A.2.2.2.1.2 v)
    by_cases z : v = A.2.2.2.1.1
    · rw [if_pos z]
      exact hP
    · rw [if_neg z]
      exact a6 v v0 (by omega)
theorem LI_8 {ow' : Nat → Nat} {u v : wo} {A B : ab} (hk : kM w u) (f2 : fr lF u v) (hC : RC ow' u B) (hM : RM v B) (hB : okA B) (h36 : wI w 47 36 = -1) (hw : WY w) (hc : wn w ≤ c) (hs : wl w ≤ s) (hn : wn u ≤ wn w + 4) (hl : wl u ≤ wl w + 300) (hC2 : RC ow' v B) : LI v (c + 20) (s + 3000) := by
  refine ⟨ow', B, hC2, hM, hB, ?_, ?_, ?_, ?_⟩
  · rw [fr_I f2 rfl, ((hk 47 (by decide) (by decide)).1 36).1]
    exact h36
  · refine WY_fr (w := u) ?_ f2 rfl
    unfold WY WYr at hw ⊢
    rw [(hk 62 (by decide) (by decide)).2.2]
    exact hw
  · rw [fr_n f2]
    omega
  · rw [fr_l f2]
    omega
theorem lq_74 (h : LI w c s) : LQ sc w 74 96 [] (c + 20) (s + 3000) := by
  obtain ⟨ow, A, hC, hM, hA, hk, hw, hc, hs⟩ := h
  have h7 : wI w 0 7 = A.2.2.1.1 := hC.2.2.2.2.1.1
  have h8 : wI w 47 8 = A.2.2.1.1 := hM.2.2.2.1.1
  by_cases q : A.2.2.1.1 < 8
  · have hx := x_74 (sc := sc) hC hA q
    revert hx
    cases hr : aVw (tB A) with
    | inl e =>
      rintro ⟨h1, u, ow', e1, k1, c1, n1, l1⟩
      have hM1 : RM u A := RM_k hM k1
      have hy := y_96 (sc := sc) hM1 hA q (fun c hc => by
        rw [hr] at hc
        cases hc
        exact h1)
      rw [hr] at hy
      obtain ⟨v, e2, f2, m2⟩ := hy
      exact ⟨_, u, v, e1, e2, LI_8 (A := A) k1 f2 c1 m2 (okA_e hA) hk hw hc hs n1 l1 (RC_fr c1 f2 rfl rfl)⟩
    | inr e =>
      rintro ⟨h1, u, ow', e1, k1, c1, n1, l1⟩
      have hM1 : RM u A := RM_k hM k1
      have hy := y_96 (sc := sc) hM1 hA q (fun c hc => by
        rw [hr] at hc
        cases hc)
      rw [hr] at hy
      obtain ⟨v, e2, f2, m2⟩ := hy
      exact ⟨_, u, v, e1, e2, LI_8 (A := A) k1 f2 c1 m2 (okA_v hA q h1) hk hw hc hs n1 l1 (RC_fr c1 f2 rfl rfl)⟩
  · have h9 := hA.2.2.1.2.1
    have e1 := x_74n (sc := sc) (w := w) (by omega)
    have e2 := y_96n (sc := sc) (w := w) (by omega)
    exact ⟨_, w, w, e1, e2, ow, A, hC, hM, hA, hk, hw, by omega, by omega⟩
theorem lq_98 (h : LI w c s) : LQ sc w 98 99 [] (c + 20) (s + 3000) := by
  obtain ⟨ow, A, hC, hM, hA, hk, hw, hc, hs⟩ := h
  have h7 : wI w 0 8 = A.2.2.2.1.1 := hC.2.2.2.2.2.1.1
  have h8 : wI w 47 9 = A.2.2.2.1.1 := hM.2.2.2.2.1.1
  by_cases q : A.2.2.2.1.1 < 8
  · have hx := x_98 (sc := sc) hC hA q
    revert hx
    cases hr : aRul (tB A) with
    | inl e =>
      rintro ⟨h1, u, ow', e1, k1, c1, n1, l1⟩
      have hM1 : RM u A := RM_k hM k1
      have hy := y_99 (sc := sc) hM1 hA q (fun c hc => by
        rw [hr] at hc
        cases hc
        exact h1)
      rw [hr] at hy
      obtain ⟨v, e2, f2, m2⟩ := hy
      exact ⟨_, u, v, e1, e2, LI_8 (A := A) k1 f2 c1 m2 (okA_e hA) hk hw hc hs n1 l1 (RC_fr c1 f2 rfl rfl)⟩
    | inr e =>
      rintro ⟨h1, u, ow', e1, k1, c1, n1, l1⟩
      have hM1 : RM u A := RM_k hM k1
      have hy := y_99 (sc := sc) hM1 hA q (fun c hc => by
        rw [hr] at hc
        cases hc)
      rw [hr] at hy
      obtain ⟨v, e2, f2, m2⟩ := hy
      exact ⟨_, u, v, e1, e2, LI_8 (A := A) k1 f2 c1 m2 (okA_r hA q h1) hk hw hc hs n1 l1 (RC_fr c1 f2 rfl rfl)⟩
  · have h9 := hA.2.2.2.1.2.1
    have e1 := x_98n (sc := sc) (w := w) (by omega)
    have e2 := y_99n (sc := sc) (w := w) (by omega)
    exact ⟨_, w, w, e1, e2, ow, A, hC, hM, hA, hk, hw, by omega, by omega⟩
end L69
