/-! FRAMES, LOOPS, SUMS -/
def fhas : List Nat → Nat → Bool
  | [], _ => false
  | a :: r, b => Nat.beq a b || fhas r b
def fsub (l m : List Nat) : Bool := l.all (fhas m)
/-- v is w but for the cells of the list: field k of a is a * 100 + k, what the array a holds a * 100 + 99 -/
def fr (l : List Nat) (w v : wo) : Prop := (∀ a k, fhas l (a * 100 + k) = false → wI v a k = wI w a k ∧ wJ v a k = wJ w a k) ∧ (∀ a, fhas l (a * 100 + 99) = false → wA v a = wA w a ∧ wB v a = wB w a) ∧ (∀ a k, wF v a k = wF w a k) ∧ (∀ a, wR v a = wR w a) ∧ (∀ a, wS v a = wS w a) ∧ wn v = wn w ∧ wl v = wl w
theorem fhas_of : ∀ {l : List Nat} {c : Nat}, fhas l c = true ↔ c ∈ l
  | [], c => by simp [fhas]
  | a :: r, c => by
    simp only [fhas, Bool.or_eq_true, List.mem_cons]
    rw [fhas_of (l := r)]
    constructor
    · rintro (h | h)
      · exact .inl (Nat.eq_of_beq_eq_true h).symm
      · exact .inr h
    · rintro (h | h)
      · exact .inl (by rw [h]; exact Nat.beq_refl a)
      · exact .inr h
theorem fsub_of {l m : List Nat} (h : fsub l m = true) {c : Nat} (q : fhas m c = false) : fhas l c = false := by
  cases e : fhas l c with
  | false => rfl
  | true =>
    have := List.all_eq_true.mp h c (fhas_of.mp e)
    rw [q] at this
    cases this
theorem fr_r (l : List Nat) (w : wo) : fr l w w := ⟨fun _ _ _ => ⟨rfl, rfl⟩, fun _ _ => ⟨rfl, rfl⟩, fun _ _ => rfl, fun _ => rfl, fun _ => rfl, rfl, rfl⟩
theorem fr_t {l : List Nat} {w v u : wo} (h : fr l w v) (k : fr l v u) : fr l w u :=
  ⟨fun a b q => ⟨(k.1 a b q).1.trans (h.1 a b q).1, (k.1 a b q).2.trans (h.1 a b q).2⟩, fun a q => ⟨(k.2.1 a q).1.trans (h.2.1 a q).1, (k.2.1 a q).2.trans (h.2.1 a q).2⟩, fun a b => (k.2.2.1 a b).trans (h.2.2.1 a b), fun a => (k.2.2.2.1 a).trans (h.2.2.2.1 a), fun a => (k.2.2.2.2.1 a).trans (h.2.2.2.2.1 a), k.2.2.2.2.2.1.trans h.2.2.2.2.2.1, k.2.2.2.2.2.2.trans h.2.2.2.2.2.2⟩
theorem fr_m {l m : List Nat} {w v : wo} (h : fr l w v) (q : fsub l m = true) : fr m w v :=
  ⟨fun a b e => h.1 a b (fsub_of q e), fun a e => h.2.1 a (fsub_of q e), h.2.2⟩
theorem fr_I {l : List Nat} {w v : wo} (h : fr l w v) {a k : Nat} (q : fhas l (a * 100 + k) = false) : wI v a k = wI w a k := (h.1 a k q).1
theorem fr_J {l : List Nat} {w v : wo} (h : fr l w v) {a k : Nat} (q : fhas l (a * 100 + k) = false) : wJ v a k = wJ w a k := (h.1 a k q).2
theorem fr_A {l : List Nat} {w v : wo} (h : fr l w v) {a : Nat} (q : fhas l (a * 100 + 99) = false) : wA v a = wA w a := (h.2.1 a q).1
theorem fr_B {l : List Nat} {w v : wo} (h : fr l w v) {a : Nat} (q : fhas l (a * 100 + 99) = false) : wB v a = wB w a := (h.2.1 a q).2
theorem fr_F {l : List Nat} {w v : wo} (h : fr l w v) (a k : Nat) : wF v a k = wF w a k := h.2.2.1 a k
theorem fr_R {l : List Nat} {w v : wo} (h : fr l w v) (a : Nat) : wR v a = wR w a := h.2.2.2.1 a
theorem fr_S {l : List Nat} {w v : wo} (h : fr l w v) (a : Nat) : wS v a = wS w a := h.2.2.2.2.1 a
theorem fr_n {l : List Nat} {w v : wo} (h : fr l w v) : wn v = wn w := h.2.2.2.2.2.1
theorem fr_l {l : List Nat} {w v : wo} (h : fr l w v) : wl v = wl w := h.2.2.2.2.2.2
theorem fr_shp {l : List Nat} {w v : wo} (h : fr l w v) (a : Nat) : shp v a = shp w a := by
  unfold shp
  rw [fr_S h]
theorem fr_ref {l : List Nat} {w v : wo} (h : fr l w v) (a k : Nat) : ref v a k = ref w a k := by
  unfold ref
  rw [fr_F h]
/-- an address of a later cell is in no list of the first ones -/
def flow (l : List Nat) : Bool := l.all fun c => Nat.blt c 7700
theorem flow_of {l : List Nat} (h : flow l = true) {a k : Nat} (ha : 77 ≤ a) : fhas l (a * 100 + k) = false := by
  cases e : fhas l (a * 100 + k) with
  | false => rfl
  | true =>
    have := Nat.le_of_ble_eq_true (List.all_eq_true.mp h _ (fhas_of.mp e))
    omega
theorem fr_uI {l : List Nat} {w v : wo} (h : fr l w v) {a k : Nat} {x : Int} (q : fhas l (a * 100 + k) = true) : fr l w (uI v a k x) := by
  refine ⟨fun b j e => ⟨?_, (h.1 b j e).2⟩, h.2⟩
  have : ¬ (b = a ∧ j = k) := by
    rintro ⟨rfl, rfl⟩
    rw [q] at e
    cases e
  show (if b = a ∧ j = k then x else wI v b j) = _
  rw [if_neg this, (h.1 b j e).1]
theorem fr_uJ {l : List Nat} {w v : wo} (h : fr l w v) {a k : Nat} {x : Int} (q : fhas l (a * 100 + k) = true) : fr l w (uJ v a k x) := by
  refine ⟨fun b j e => ⟨(h.1 b j e).1, ?_⟩, h.2⟩
  have : ¬ (b = a ∧ j = k) := by
    rintro ⟨rfl, rfl⟩
    rw [q] at e
    cases e
  show (if b = a ∧ j = k then x else wJ v b j) = _
  rw [if_neg this, (h.1 b j e).2]
theorem fr_uA {l : List Nat} {w v : wo} (h : fr l w v) {a : Nat} {f : Int → Int} (q : fhas l (a * 100 + 99) = true) : fr l w (uA v a f) := by
  refine ⟨h.1, fun b e => ⟨?_, (h.2.1 b e).2⟩, h.2.2⟩
  have : ¬ (b = a) := by
    rintro rfl
    rw [q] at e
    cases e
  show (if b = a then f else wA v b) = _
  rw [if_neg this, (h.2.1 b e).1]
theorem fr_uB {l : List Nat} {w v : wo} (h : fr l w v) {a : Nat} {f : Int → Int} (q : fhas l (a * 100 + 99) = true) : fr l w (uB v a f) := by
  refine ⟨h.1, fun b e => ⟨(h.2.1 b e).1, ?_⟩, h.2.2⟩
  have : ¬ (b = a) := by
    rintro rfl
    rw [q] at e
    cases e
  show (if b = a then f else wB v b) = _
  rw [if_neg this, (h.2.1 b e).2]
-- what an update leaves, written cell by cell
theorem rI (w : wo) (a k : Nat) (v : Int) : wI (uI w a k v) a k = v := if_pos ⟨rfl, rfl⟩
theorem rIn (w : wo) {a k b j : Nat} (v : Int) (h : (Nat.beq b a && Nat.beq j k) = false) : wI (uI w a k v) b j = wI w b j := by
  refine if_neg ?_
  rintro ⟨rfl, rfl⟩
  simp at h
theorem rJ (w : wo) (a k : Nat) (v : Int) : wJ (uJ w a k v) a k = v := if_pos ⟨rfl, rfl⟩
theorem rA (w : wo) (a : Nat) (f : Int → Int) : wA (uA w a f) a = f := if_pos rfl
theorem rAn (w : wo) {a b : Nat} (f : Int → Int) (h : Nat.beq b a = false) : wA (uA w a f) b = wA w b := by
  refine if_neg ?_
  rintro rfl
  simp at h
theorem rB (w : wo) (a : Nat) (f : Int → Int) : wB (uB w a f) a = f := if_pos rfl
theorem uI_I (w : wo) (a k b j : Nat) (v : Int) : wI (uI w a k v) b j = if b = a ∧ j = k then v else wI w b j := rfl
theorem uI_A (w : wo) (a k b : Nat) (v : Int) : wA (uI w a k v) b = wA w b := rfl
theorem uI_B (w : wo) (a k b : Nat) (v : Int) : wB (uI w a k v) b = wB w b := rfl
theorem uI_J (w : wo) (a k b j : Nat) (v : Int) : wJ (uI w a k v) b j = wJ w b j := rfl
theorem uA_I (w : wo) (a b j : Nat) (f : Int → Int) : wI (uA w a f) b j = wI w b j := rfl
theorem uA_J (w : wo) (a b j : Nat) (f : Int → Int) : wJ (uA w a f) b j = wJ w b j := rfl
theorem uA_A (w : wo) (a b : Nat) (f : Int → Int) : wA (uA w a f) b = if b = a then f else wA w b := rfl
theorem uA_B (w : wo) (a b : Nat) (f : Int → Int) : wB (uA w a f) b = wB w b := rfl
theorem uJ_I (w : wo) (a k b j : Nat) (v : Int) : wI (uJ w a k v) b j = wI w b j := rfl
theorem uJ_J (w : wo) (a k b j : Nat) (v : Int) : wJ (uJ w a k v) b j = if b = a ∧ j = k then v else wJ w b j := rfl
theorem uJ_A (w : wo) (a k b : Nat) (v : Int) : wA (uJ w a k v) b = wA w b := rfl
theorem uJ_B (w : wo) (a k b : Nat) (v : Int) : wB (uJ w a k v) b = wB w b := rfl
theorem uB_I (w : wo) (a b j : Nat) (f : Int → Int) : wI (uB w a f) b j = wI w b j := rfl
theorem uB_J (w : wo) (a b j : Nat) (f : Int → Int) : wJ (uB w a f) b j = wJ w b j := rfl
theorem uB_A (w : wo) (a b : Nat) (f : Int → Int) : wA (uB w a f) b = wA w b := rfl
theorem uB_B (w : wo) (a b : Nat) (f : Int → Int) : wB (uB w a f) b = if b = a then f else wB w b := rfl
-- loops
section AmLp
variable {α ρ β : Type}
theorem lp_p (W : α → Option ρ) (S : Nat → α) (n : Nat) (step : ∀ k, k < n → W (S k) = W (S (k + 1))) : ∀ d k, k + d = n → W (S k) = W (S n)
  | 0, k, h => by rw [show k = n from by omega]
  | d + 1, k, h => (step k (by omega)).trans (lp_p W S n step d (k + 1) (by omega))
theorem lp_0 (W : α → Option ρ) (S : Nat → α) (n : Nat) (step : ∀ k, k < n → W (S k) = W (S (k + 1))) : W (S 0) = W (S n) := lp_p W S n step n 0 (by omega)
theorem lp_s (W : α → Option ρ) (S : Nat → β → α) (I : Nat → β → Prop) (n : Nat) (step : ∀ k w, k < n → I k w → ∃ v, W (S k w) = W (S (k + 1) v) ∧ I (k + 1) v) : ∀ d k w, k + d = n → I k w → ∃ v, W (S k w) = W (S n v) ∧ I n v
  | 0, k, w, h, i => ⟨w, by rw [show k = n from by omega], by rw [← show k = n from by omega]; exact i⟩
  | d + 1, k, w, h, i => by
    obtain ⟨v, e, j⟩ := step k w (by omega) i
    obtain ⟨u, e2, j2⟩ := lp_s W S I n step d (k + 1) v (by omega) j
    exact ⟨u, e.trans e2, j2⟩
theorem lp_s0 (W : α → Option ρ) (S : Nat → β → α) (I : Nat → β → Prop) (n : Nat) (step : ∀ k w, k < n → I k w → ∃ v, W (S k w) = W (S (k + 1) v) ∧ I (k + 1) v) (w : β) (i : I 0 w) : ∃ v, W (S 0 w) = W (S n v) ∧ I n v := lp_s W S I n step n 0 w (by omega) i
end AmLp
-- the first of n for which p is true; n if there is none
def ff (p : Nat → Bool) : Nat → Nat
  | 0 => 0
  | n + 1 => bif Nat.blt (ff p n) n then ff p n else bif p n then n else n + 1
theorem ff_le (p : Nat → Bool) : ∀ n, ff p n ≤ n
  | 0 => Nat.le_refl 0
  | n + 1 => by
    have h := ff_le p n
    unfold ff
    cases e : Nat.blt (ff p n) n with
    | true => dsimp only [cond_true]; omega
    | false =>
      dsimp only [cond_false]
      cases p n with
      | true => dsimp only [cond_true]; omega
      | false => dsimp only [cond_false]; omega
theorem ff_no (p : Nat → Bool) : ∀ n k, k < ff p n → p k = false
  | 0, k, h => absurd h (Nat.not_lt_zero k)
  | n + 1, k, h => by
    have h1 := ff_le p n
    have ih := ff_no p n k
    unfold ff at h
    cases e : Nat.blt (ff p n) n with
    | true => rw [e] at h; exact ih h
    | false =>
      rw [e] at h
      have hx : ¬ (ff p n < n) := fun q => by rw [show Nat.blt (ff p n) n = true from Nat.ble_eq_true_of_le q] at e; cases e
      cases e2 : p n with
      | true => rw [e2] at h; exact ih (by dsimp only [cond_false, cond_true] at h; omega)
      | false =>
        rw [e2] at h
        dsimp only [cond_false] at h
        by_cases hk : k = n
        · rw [hk]; exact e2
        · exact ih (by omega)
theorem ff_yes (p : Nat → Bool) : ∀ n, ff p n < n → p (ff p n) = true
  | 0, h => absurd h (Nat.not_lt_zero _)
  | n + 1, h => by
    have h1 := ff_le p n
    have ih := ff_yes p n
    unfold ff at h ⊢
    cases e : Nat.blt (ff p n) n with
    | true =>
      rw [e] at h
      exact ih (Nat.le_of_ble_eq_true e)
    | false =>
      rw [e] at h
      cases e2 : p n with
      | true => exact e2
      | false => rw [e2] at h; dsimp only [cond_false] at h; omega
theorem ff_all {p : Nat → Bool} {n : Nat} (h : ∀ k, k < n → p k = false) : ff p n = n := by
  by_cases q : ff p n < n
  · have := ff_yes p n q
    rw [h _ q] at this
    cases this
  · have := ff_le p n
    omega
theorem ff_eq {p : Nat → Bool} {n k : Nat} (hk : k < n) (h1 : p k = true) (h2 : ∀ j, j < k → p j = false) : ff p n = k := by
  have a := ff_le p n
  by_cases q : ff p n < k
  · have := ff_yes p n (by omega)
    rw [h2 _ q] at this
    cases this
  · by_cases q2 : k < ff p n
    · have := ff_no p n k q2
      rw [h1] at this
      cases this
    · omega
-- sums
def sm (f : Nat → Int) : Nat → Int
  | 0 => 0
  | n + 1 => sm f n + f n
theorem sm_c {f g : Nat → Int} : ∀ {n : Nat}, (∀ i, i < n → f i = g i) → sm f n = sm g n
  | 0, _ => rfl
  | n + 1, h => by
    unfold sm
    rw [sm_c (n := n) (fun i hi => h i (by omega)), h n (by omega)]
theorem sm_ran {f : Nat → Int} {a b : Int} : ∀ {n : Nat}, (∀ i, i < n → a ≤ f i ∧ f i ≤ b) → n * a ≤ sm f n ∧ sm f n ≤ n * b
  | 0, _ => by simp [sm]
  | n + 1, h => by
    have ih := sm_ran (n := n) (fun i hi => h i (by omega))
    have h1 := h n (by omega)
    unfold sm
    rw [Int.natCast_add, Int.add_mul, Int.add_mul, Int.natCast_one, Int.one_mul, Int.one_mul]
    omega
theorem sm_bz {P : Nat → Prop} [∀ i, Decidable (P i)] (n : Nat) : 0 ≤ sm (fun i => bz (P i)) n ∧ sm (fun i => bz (P i)) n ≤ n := by
  have := sm_ran (f := fun i => bz (P i)) (a := 0) (b := 1) (n := n) (fun i _ => bz_ran)
  omega
theorem sm_add (f g : Nat → Int) : ∀ n, sm (fun i => f i + g i) n = sm f n + sm g n
  | 0 => rfl
  | n + 1 => by
    unfold sm
    rw [sm_add f g n]
    omega
theorem sm_0 : ∀ n, sm (fun _ => 0) n = 0
  | 0 => rfl
  | n + 1 => by
    unfold sm
    rw [sm_0 n]
    rfl
theorem sm_le {f g : Nat → Int} : ∀ {n : Nat}, (∀ i, i < n → f i ≤ g i) → sm f n ≤ sm g n
  | 0, _ => Int.le_refl _
  | n + 1, h => by
    have a := sm_le (n := n) (fun i hi => h i (by omega))
    have b := h n (by omega)
    unfold sm
    omega
theorem sm_nn {f : Nat → Int} {n : Nat} (h : ∀ i, i < n → 0 ≤ f i) : 0 ≤ sm f n := by
  have := sm_le (f := fun _ => 0) (g := f) (n := n) h
  rw [sm_0] at this
  exact this
theorem sm_s (f : Nat → Int) (n : Nat) : sm f (n + 1) = sm f n + f n := rfl
theorem nat_1 (n : Nat) : ((n + 1 : Nat) : Int) = (n : Int) + 1 := rfl
theorem maxI_ii {a b : Int} (h1 : -2147483648 ≤ a) (h2 : a ≤ 2147483647) (h3 : -2147483648 ≤ b) (h4 : b ≤ 2147483647) : am_maxI (ii a) (ii b) = ii (if a < b then b else a) := by
  unfold am_maxI
  by_cases q : a < b
  · rw [if_pos q, if_pos (by rw [ii_lt h1 h2 h3 h4]; exact q)]
  · rw [if_neg q, if_neg (by rw [ii_lt h1 h2 h3 h4]; exact q)]
theorem minI_ii {a b : Int} (h1 : -2147483648 ≤ a) (h2 : a ≤ 2147483647) (h3 : -2147483648 ≤ b) (h4 : b ≤ 2147483647) : am_minI (ii a) (ii b) = ii (if b < a then b else a) := by
  unfold am_minI
  by_cases q : b < a
  · rw [if_pos q, if_pos (by rw [ii_lt h3 h4 h1 h2]; exact q)]
  · rw [if_neg q, if_neg (by rw [ii_lt h3 h4 h1 h2]; exact q)]
theorem absI_ii {a : Int} (h1 : -2147483648 ≤ a) (h2 : a ≤ 2147483647) : am_absI (ii a) = ii (if 0 ≤ a then a else -a) := by
  unfold am_absI
  by_cases q : 0 ≤ a
  · rw [if_pos q, if_pos (by rw [Int32.le_iff_toInt_le, ii_val h1 h2]; exact q)]
  · rw [if_neg q, if_neg (by rw [Int32.le_iff_toInt_le, ii_val h1 h2]; exact q)]
    show ii 0 - ii a = _
    rw [ii_sub, Int.zero_sub]
theorem absL_jj {a : Int} (h1 : -9223372036854775808 ≤ a) (h2 : a ≤ 9223372036854775807) : am_absL (jj a) = jj (if 0 < a then a else -a) := by
  unfold am_absL
  by_cases q : 0 < a
  · rw [if_pos q, if_pos (by rw [Int64.lt_iff_toInt_lt, jj_val h1 h2]; exact q)]
  · rw [if_neg q, if_neg (by rw [Int64.lt_iff_toInt_lt, jj_val h1 h2]; exact q), jj_neg]
theorem rJm (w : wo) (a : Nat) {k j : Nat} (v : Int) (h : j ≠ k) : wJ (uJ w a k v) a j = wJ w a j := if_neg fun z => h z.2
theorem rIm (w : wo) (a : Nat) {k j : Nat} (v : Int) (h : j ≠ k) : wI (uI w a k v) a j = wI w a j := if_neg fun z => h z.2
theorem rIa (w : wo) {a b : Nat} (k j : Nat) (v : Int) (h : b ≠ a) : wI (uI w a k v) b j = wI w b j := if_neg fun z => h z.1
theorem rAa (w : wo) {a b : Nat} (f : Int → Int) (h : b ≠ a) : wA (uA w a f) b = wA w b := if_neg h
theorem rBa (w : wo) {a b : Nat} (f : Int → Int) (h : b ≠ a) : wB (uB w a f) b = wB w b := if_neg h
