/-! THE STATE THAT BOTH HOLD -/
/-- a view: among, like, near (0: not named), within (-1: without) -/
abbrev vw : Type := Option pg × Int × (Int → Int) × Int
/-- cases and letters -/
abbrev cl : Type := Int × (Int → Int → Int) × Int × (Int → Int → Int)
/-- cases and letters, tape, views, rules, images -/
abbrev ab : Type := cl × (Int × (Int → Int)) × (Int × (Int → vw)) × (Int × (Int → pg)) × (Nat → Option cl)
def okC (c : cl) : Prop := 0 ≤ c.1 ∧ c.1 ≤ 200 ∧ gK c.1 c.2.1 ∧ 0 ≤ c.2.2.1 ∧ c.2.2.1 ≤ 200 ∧ ∀ k, 0 ≤ k → k < c.2.2.1 → (0 ≤ c.2.2.2 k 0 ∧ c.2.2.2 k 0 ≤ 7) ∧ (c.2.2.2 k 1 = 0 ∨ c.2.2.2 k 1 = 1) ∧ (c.2.2.2 k 2 = 0 ∨ c.2.2.2 k 2 = 1)
def okV (x : vw) : Prop := (∀ P, x.1 = some P → okP P) ∧ (0 ≤ x.2.1 ∧ x.2.1 < 64) ∧ (∀ m, 0 ≤ m → m < 6 → 0 ≤ x.2.2.1 m ∧ x.2.2.1 m ≤ 99) ∧ (-1 ≤ x.2.2.2 ∧ x.2.2.2 ≤ 999)
def okA (A : ab) : Prop := okC A.1 ∧ (0 ≤ A.2.1.1 ∧ A.2.1.1 ≤ 400 ∧ ∀ i, 0 ≤ i → i < A.2.1.1 → 0 ≤ A.2.1.2 i ∧ A.2.1.2 i ≤ 255) ∧ (0 ≤ A.2.2.1.1 ∧ A.2.2.1.1 ≤ 8 ∧ ∀ v, 0 ≤ v → v < A.2.2.1.1 → okV (A.2.2.1.2 v)) ∧ (0 ≤ A.2.2.2.1.1 ∧ A.2.2.2.1.1 ≤ 8 ∧ ∀ r, 0 ≤ r → r < A.2.2.2.1.1 → okP (A.2.2.2.1.2 r)) ∧ ∀ k c, k < 4 → A.2.2.2.2 k = some c → okC c
-- the class' cells (ow: to whom a later cell belongs: cell j of image k has 10 * k + j, all others 100)
def LTS (w : wo) (n : Int) (t : Int → Int → Int) : Prop := wI w 7 3 = n ∧ ∀ k, 0 ≤ k → k < n → wA w 8 k = t k 0 ∧ wA w 9 k = t k 1 ∧ wA w 10 k = t k 2
def TS (w : wo) (n : Int) (t : Int → Int) : Prop := wI w 13 1 = n ∧ ∀ i, 0 ≤ i → i < n → wA w 14 i = t i
def PTo (ow : Nat → Nat) (w : wo) (a : Nat) (P : pg) : Prop := (77 ≤ a ∧ a < wn w ∧ ow a = 100 ∧ wS w a = some (0, 9, 0)) ∧ (∃ b, wF w a 0 = some b ∧ (77 ≤ b ∧ b < wn w ∧ ow b = 100 ∧ wS w b = some (1, 0, P.1)) ∧ ∀ k : Nat, k < P.1 → wA w b k = P.2.1 k * 65536 + P.2.2 k) ∧ (0 ≤ wI w a 1 ∧ wI w a 1 < 64) ∧ ∀ (k : Nat) (m : Int), k < P.1 → P.2.1 k ≤ 2 → 0 ≤ m → m < 6 → P.2.2 k = 10000 + m → bt (wI w a 1) m = 1
def CVo (ow : Nat → Nat) (w : wo) (a : Nat) (x : vw) : Prop := (77 ≤ a ∧ a < wn w ∧ ow a = 100 ∧ wS w a = some (0, 10, 0)) ∧ ((x.1 = none ∧ wF w a 0 = none) ∨ (∃ P t, x.1 = some P ∧ wF w a 0 = some t ∧ PTo ow w t P)) ∧ wI w a 1 = x.2.1 ∧ (0 ≤ wI w a 2 ∧ wI w a 2 < 64 ∧ ∀ m, 0 ≤ m → m < 6 → (bt (wI w a 2) m = 1 ↔ x.2.2.1 m ≠ 0)) ∧ (∃ b, wF w a 3 = some b ∧ (77 ≤ b ∧ b < wn w ∧ ow b = 100 ∧ wS w b = some (1, 0, 6)) ∧ ∀ m, 0 ≤ m → m < 6 → x.2.2.1 m ≠ 0 → wA w b m = x.2.2.1 m) ∧ wI w a 4 = x.2.2.2
def CIo (ow : Nat → Nat) (w : wo) (k p : Nat) (c : cl) : Prop := (77 ≤ p ∧ p + 10 ≤ wn w) ∧ (∀ j, j < 10 → ow (p + j) = 10 * k + j) ∧ (wS w p = some (0, 1, 0) ∧ wS w (p + 1) = some (1, 0, 200) ∧ wS w (p + 2) = some (1, 0, 200) ∧ wS w (p + 3) = some (1, 0, 200) ∧ wS w (p + 4) = some (1, 0, 200) ∧ wS w (p + 5) = some (1, 0, 1200) ∧ wS w (p + 6) = some (0, 4, 0) ∧ wS w (p + 7) = some (1, 0, 200) ∧ wS w (p + 8) = some (1, 1, 200) ∧ wS w (p + 9) = some (1, 1, 200)) ∧ (wF w p 0 = some (p + 1) ∧ wF w p 1 = some (p + 2) ∧ wF w p 2 = some (p + 3) ∧ wF w p 3 = some (p + 4) ∧ wF w p 4 = some (p + 5) ∧ wF w (p + 6) 0 = some (p + 7) ∧ wF w (p + 6) 1 = some (p + 8) ∧ wF w (p + 6) 2 = some (p + 9)) ∧ (wI w p 5 = c.1 ∧ ∀ k, 0 ≤ k → k < c.1 → wA w (p + 1) k = c.2.1 k 0 ∧ wA w (p + 2) k = c.2.1 k 1 ∧ wA w (p + 3) k = c.2.1 k 2 ∧ wA w (p + 4) k = c.2.1 k 3 ∧ ∀ m, 0 ≤ m → m < 6 → wA w (p + 5) (k * 6 + m) = c.2.1 k (4 + m)) ∧ (wI w (p + 6) 3 = c.2.2.1 ∧ ∀ k, 0 ≤ k → k < c.2.2.1 → wA w (p + 7) k = c.2.2.2 k 0 ∧ wA w (p + 8) k = c.2.2.2 k 1 ∧ wA w (p + 9) k = c.2.2.2 k 2) ∧ (∀ i, (wA w (p + 8) i = 0 ∨ wA w (p + 8) i = 1) ∧ (wA w (p + 9) i = 0 ∨ wA w (p + 9) i = 1))
def VS (ow : Nat → Nat) (w : wo) (n : Int) (x : Int → vw) : Prop := wI w 0 7 = n ∧ ∀ v, 0 ≤ v → v < n → ∃ a, wR w 20 v = some a ∧ CVo ow w a (x v)
def RS (ow : Nat → Nat) (w : wo) (n : Int) (x : Int → pg) : Prop := wI w 0 8 = n ∧ ∀ r, 0 ≤ r → r < n → ∃ a, wR w 21 r = some a ∧ PTo ow w a (x r)
def IS (ow : Nat → Nat) (w : wo) (x : Nat → Option cl) : Prop := ∀ k, k < 4 → (x k = none ∧ wR w 11 k = none ∧ wR w 12 k = none) ∨ (∃ c p, x k = some c ∧ wR w 11 k = some p ∧ wR w 12 k = some (p + 6) ∧ CIo ow w k p c)
/-- booleans of letters: in the rows all through -/
def BS (w : wo) : Prop := ∀ i, (wA w 9 i = 0 ∨ wA w 9 i = 1) ∧ (wA w 10 i = 0 ∨ wA w 10 i = 1)
def RC (ow : Nat → Nat) (w : wo) (A : ab) : Prop := CS w A.1.1 A.1.2.1 ∧ LTS w A.1.2.2.1 A.1.2.2.2 ∧ BS w ∧ TS w A.2.1.1 A.2.1.2 ∧ VS ow w A.2.2.1.1 A.2.2.1.2 ∧ RS ow w A.2.2.2.1.1 A.2.2.2.1.2 ∧ IS ow w A.2.2.2.2 ∧ 77 ≤ wn w
-- the other's cells
def ML (w : wo) (n : Int) (t : Int → Int → Int) : Prop := wI w 47 2 = n ∧ ∀ k j, 0 ≤ k → k < n → 0 ≤ j → j < 3 → wA w 49 (3 * k + j) = t k j
def MT (w : wo) (n : Int) (t : Int → Int) : Prop := wI w 47 5 = n ∧ ∀ i, 0 ≤ i → i < n → wA w 50 i = (t i).bmod 256
def MVo (w : wo) (v : Int) (x : vw) : Prop := ((x.1 = none ∧ wA w 53 v = 0) ∨ (∃ P, x.1 = some P ∧ wA w 53 v = 1 ∧ PM w v P)) ∧ wA w 54 v = x.2.1 ∧ (∀ m, 0 ≤ m → m < 6 → wA w 55 (6 * v + m) = x.2.2.1 m) ∧ wA w 56 v = x.2.2.2
def MV (w : wo) (n : Int) (x : Int → vw) : Prop := wI w 47 8 = n ∧ ∀ v, 0 ≤ v → v < n → MVo w v (x v)
def MR (w : wo) (n : Int) (x : Int → pg) : Prop := wI w 47 9 = n ∧ ∀ r, 0 ≤ r → r < n → PM w (8 + r) (x r)
def MIo (w : wo) (b : Int) (c : cl) : Prop := wA w 75 b = c.1 ∧ wA w 75 (b + 1) = c.2.2.1 ∧ (∀ k j, 0 ≤ k → k < c.1 → 0 ≤ j → j < 10 → wA w 75 (b + 2 + (10 * k + j)) = c.2.1 k j) ∧ ∀ k j, 0 ≤ k → k < c.2.2.1 → 0 ≤ j → j < 3 → wA w 75 (b + 2002 + (3 * k + j)) = c.2.2.2 k j
def MI (w : wo) (x : Nat → Option cl) : Prop := ∀ k : Nat, k < 4 → (x k = none ∧ wA w 76 k = 0) ∨ (∃ c, x k = some c ∧ wA w 76 k = 1 ∧ MIo w (2602 * k) c)
def RM (w : wo) (A : ab) : Prop := MS w A.1.1 A.1.2.1 ∧ ML w A.1.2.2.1 A.1.2.2.2 ∧ MT w A.2.1.1 A.2.1.2 ∧ MV w A.2.2.1.1 A.2.2.1.2 ∧ MR w A.2.2.2.1.1 A.2.2.2.1.2 ∧ MI w A.2.2.2.2
-- frames
def fno (m l : List Nat) : Bool := m.all fun c => !(fhas l c)
theorem fno_of {m l : List Nat} (h : fno m l = true) {c : Nat} (q : fhas m c = true) : fhas l c = false := by
  have := List.all_eq_true.mp h c (fhas_of.mp q)
  simpa using this
/-- later cells that p names are the same -/
def dsm (p : Nat → Prop) (w v : wo) : Prop := (∀ a, 77 ≤ a → p a → (∀ k, wI v a k = wI w a k ∧ wF v a k = wF w a k) ∧ wA v a = wA w a ∧ wS v a = wS w a) ∧ wn w ≤ wn v
theorem fr_d {l : List Nat} {w v : wo} (h : fr l w v) (q : flow l = true) (p : Nat → Prop) : dsm p w v :=
  ⟨fun a ha _ => ⟨fun k => ⟨fr_I h (flow_of q ha), fr_F h a k⟩, fr_A h (flow_of q ha), fr_S h a⟩, Nat.le_of_eq (fr_n h).symm⟩
theorem PTo_d {ow : Nat → Nat} {w v : wo} {a : Nat} {P : pg} (h : PTo ow w a P) (d : dsm (fun a => ow a = 100) w v) : PTo ow v a P := by
  obtain ⟨⟨h1, h2, h3, h4⟩, ⟨b, h5, ⟨h6, h7, h8, h9⟩, h10⟩, h11, h12⟩ := h
  obtain ⟨d1, d2⟩ := d
  obtain ⟨e1, e2, e3⟩ := d1 a h1 h3
  obtain ⟨f1, f2, f3⟩ := d1 b h6 h8
  refine ⟨⟨h1, by omega, h3, by rw [e3]; exact h4⟩, ⟨b, by rw [(e1 0).2]; exact h5, ⟨h6, by omega, h8, by rw [f3]; exact h9⟩, by rw [f2]; exact h10⟩, ?_⟩
  rw [(e1 1).1]
  exact ⟨h11, h12⟩
theorem CVo_d {ow : Nat → Nat} {w v : wo} {a : Nat} {x : vw} (h : CVo ow w a x) (d : dsm (fun a => ow a = 100) w v) : CVo ow v a x := by
  have d' := d
  obtain ⟨⟨h1, h2, h3, h4⟩, h5, h6, h7, ⟨b, h8, ⟨h9, h10, h11, h12⟩, h13⟩, h14⟩ := h
  obtain ⟨d1, d2⟩ := d
  obtain ⟨e1, e2, e3⟩ := d1 a h1 h3
  obtain ⟨f1, f2, f3⟩ := d1 b h9 h11
  refine ⟨⟨h1, by omega, h3, by rw [e3]; exact h4⟩, ?_, by rw [(e1 1).1]; exact h6, by rw [(e1 2).1]; exact h7, ⟨b, by rw [(e1 3).2]; exact h8, ⟨h9, by omega, h11, by rw [f3]; exact h12⟩, by rw [f2]; exact h13⟩, by rw [(e1 4).1]; exact h14⟩
  rcases h5 with ⟨q1, q2⟩ | ⟨P, t, q1, q2, q3⟩
  · exact .inl ⟨q1, by rw [(e1 0).2]; exact q2⟩
  · exact .inr ⟨P, t, q1, by rw [(e1 0).2]; exact q2, PTo_d q3 d'⟩
theorem CIo_d {ow : Nat → Nat} {w v : wo} {k p : Nat} {c : cl} (h : CIo ow w k p c) (d : dsm (fun a => 10 * k ≤ ow a ∧ ow a < 10 * k + 10) w v) : CIo ow v k p c := by
  obtain ⟨⟨h1, h2⟩, h3, h4, h5, h6, h7, h8⟩ := h
  obtain ⟨d1, d2⟩ := d
  have hj : ∀ j, j < 10 → (∀ k, wI v (p + j) k = wI w (p + j) k ∧ wF v (p + j) k = wF w (p + j) k) ∧ wA v (p + j) = wA w (p + j) ∧ wS v (p + j) = wS w (p + j) := fun j hj => d1 (p + j) (by omega) (by have := h3 j hj; dsimp only; omega)
  have j0 := hj 0 (by decide)
  have j1 := hj 1 (by decide)
  have j2 := hj 2 (by decide)
  have j3 := hj 3 (by decide)
  have j4 := hj 4 (by decide)
  have j5 := hj 5 (by decide)
  have j6 := hj 6 (by decide)
  have j7 := hj 7 (by decide)
  have j8 := hj 8 (by decide)
  have j9 := hj 9 (by decide)
  rw [Nat.add_zero] at j0
  refine ⟨⟨h1, by omega⟩, h3, ?_, ?_, ?_, ?_, ?_⟩
  · rw [j0.2.2, j1.2.2, j2.2.2, j3.2.2, j4.2.2, j5.2.2, j6.2.2, j7.2.2, j8.2.2, j9.2.2]
    exact h4
  · rw [(j0.1 0).2, (j0.1 1).2, (j0.1 2).2, (j0.1 3).2, (j0.1 4).2, (j6.1 0).2, (j6.1 1).2, (j6.1 2).2]
    exact h5
  · rw [(j0.1 5).1, j1.2.1, j2.2.1, j3.2.1, j4.2.1, j5.2.1]
    exact h6
  · rw [(j6.1 3).1, j7.2.1, j8.2.1, j9.2.1]
    exact h7
  · rw [j8.2.1, j9.2.1]
    exact h8
/-- the class' lasting cells -/
def lsC : List Nat := [105, 299, 399, 499, 599, 699, 703, 899, 999, 1099, 1301, 1499, 7, 8]
def lsM : List Nat := [4700, 4899, 4702, 4999, 4705, 5099, 4708, 4709, 5199, 5299, 5399, 5499, 5599, 5699, 7599, 7699]
theorem LTS_fr {l : List Nat} {w v : wo} {n : Int} {t : Int → Int → Int} (h : LTS w n t) (f : fr l w v) (q : fno lsC l = true) : LTS v n t := by
  unfold LTS at h ⊢
  rw [fr_I f (fno_of q (c := 703) rfl), fr_A (a := 8) f (fno_of q rfl), fr_A (a := 9) f (fno_of q rfl), fr_A (a := 10) f (fno_of q rfl)]
  exact h
theorem BS_fr {l : List Nat} {w v : wo} (h : BS w) (f : fr l w v) (q : fno lsC l = true) : BS v := by
  unfold BS at h ⊢
  rw [fr_A (a := 9) f (fno_of q rfl), fr_A (a := 10) f (fno_of q rfl)]
  exact h
theorem TS_fr {l : List Nat} {w v : wo} {n : Int} {t : Int → Int} (h : TS w n t) (f : fr l w v) (q : fno lsC l = true) : TS v n t := by
  unfold TS at h ⊢
  rw [fr_I f (fno_of q (c := 1301) rfl), fr_A (a := 14) f (fno_of q rfl)]
  exact h
theorem VS_fr {ow : Nat → Nat} {l : List Nat} {w v : wo} {n : Int} {x : Int → vw} (h : VS ow w n x) (f : fr l w v) (q : fno lsC l = true) (z : flow l = true) : VS ow v n x := by
  obtain ⟨h1, h2⟩ := h
  refine ⟨by rw [fr_I f (fno_of q (c := 7) rfl)]; exact h1, fun u a b => ?_⟩
  obtain ⟨c, e1, e2⟩ := h2 u a b
  exact ⟨c, by rw [fr_R f]; exact e1, CVo_d e2 (fr_d f z _)⟩
theorem RS_fr {ow : Nat → Nat} {l : List Nat} {w v : wo} {n : Int} {x : Int → pg} (h : RS ow w n x) (f : fr l w v) (q : fno lsC l = true) (z : flow l = true) : RS ow v n x := by
  obtain ⟨h1, h2⟩ := h
  refine ⟨by rw [fr_I f (fno_of q (c := 8) rfl)]; exact h1, fun u a b => ?_⟩
  obtain ⟨c, e1, e2⟩ := h2 u a b
  exact ⟨c, by rw [fr_R f]; exact e1, PTo_d e2 (fr_d f z _)⟩
theorem IS_fr {ow : Nat → Nat} {l : List Nat} {w v : wo} {x : Nat → Option cl} (h : IS ow w x) (f : fr l w v) (z : flow l = true) : IS ow v x := by
  intro k hk
  rcases h k hk with ⟨h1, h2, h3⟩ | ⟨c, p, h1, h2, h3, h4⟩
  · exact .inl ⟨h1, by rw [fr_R f]; exact h2, by rw [fr_R f]; exact h3⟩
  · exact .inr ⟨c, p, h1, by rw [fr_R f]; exact h2, by rw [fr_R f]; exact h3, CIo_d h4 (fr_d f z _)⟩
theorem CS_fl {l : List Nat} {w v : wo} {n : Int} {g : Int → Int → Int} (h : CS w n g) (f : fr l w v) (q : fno lsC l = true) : CS v n g :=
  CS_fr h f (by rw [fno_of q (c := 105) rfl, fno_of q (c := 299) rfl, fno_of q (c := 399) rfl, fno_of q (c := 499) rfl, fno_of q (c := 599) rfl, fno_of q (c := 699) rfl]; rfl)
theorem RC_fr {ow : Nat → Nat} {l : List Nat} {w v : wo} {A : ab} (h : RC ow w A) (f : fr l w v) (q : fno lsC l = true) (z : flow l = true) : RC ow v A := by
  obtain ⟨h1, h2, h3, h4, h5, h6, h7, h8⟩ := h
  exact ⟨CS_fl h1 f q, LTS_fr h2 f q, BS_fr h3 f q, TS_fr h4 f q, VS_fr h5 f q z, RS_fr h6 f q z, IS_fr h7 f z, by rw [fr_n f]; exact h8⟩
theorem PM_fr {l : List Nat} {w v : wo} {t : Int} {P : pg} (h : PM w t P) (f : fr l w v) (q : fno lsM l = true) : PM v t P := by
  unfold PM at h ⊢
  rw [fr_A (a := 52) f (fno_of q rfl), fr_A (a := 51) f (fno_of q rfl)]
  exact h
theorem MVo_fr {l : List Nat} {w v : wo} {t : Int} {x : vw} (h : MVo w t x) (f : fr l w v) (q : fno lsM l = true) : MVo v t x := by
  obtain ⟨h1, h2⟩ := h
  refine ⟨?_, ?_⟩
  · rw [fr_A (a := 53) f (fno_of q rfl)]
    rcases h1 with h | ⟨P, h3, h4, h5⟩
    · exact .inl h
    · exact .inr ⟨P, h3, h4, PM_fr h5 f q⟩
  · rw [fr_A (a := 54) f (fno_of q rfl), fr_A (a := 55) f (fno_of q rfl), fr_A (a := 56) f (fno_of q rfl)]
    exact h2
theorem MS_fl {l : List Nat} {w v : wo} {n : Int} {g : Int → Int → Int} (h : MS w n g) (f : fr l w v) (q : fno lsM l = true) : MS v n g :=
  MS_fr h f (by rw [fno_of q (c := 4700) rfl, fno_of q (c := 4899) rfl]; rfl)
theorem RM_fr {l : List Nat} {w v : wo} {A : ab} (h : RM w A) (f : fr l w v) (q : fno lsM l = true) : RM v A := by
  obtain ⟨h1, h2, h3, ⟨h4, h4'⟩, ⟨h5, h5'⟩, h6⟩ := h
  refine ⟨MS_fl h1 f q, ?_, ?_, ⟨?_, fun u a b => MVo_fr (h4' u a b) f q⟩, ⟨?_, fun u a b => PM_fr (h5' u a b) f q⟩, ?_⟩
  · unfold ML at h2 ⊢
    rw [fr_I f (fno_of q (c := 4702) rfl), fr_A (a := 49) f (fno_of q rfl)]
    exact h2
  · unfold MT at h3 ⊢
    rw [fr_I f (fno_of q (c := 4705) rfl), fr_A (a := 50) f (fno_of q rfl)]
    exact h3
  · rw [fr_I f (fno_of q (c := 4708) rfl)]; exact h4
  · rw [fr_I f (fno_of q (c := 4709) rfl)]; exact h5
  · unfold MI MIo at h6 ⊢
    rw [fr_A (a := 75) f (fno_of q rfl), fr_A (a := 76) f (fno_of q rfl)]
    exact h6
