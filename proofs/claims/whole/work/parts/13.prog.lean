/-! BITS, AND PROGRAMS OF TESTS -/
theorem ii_nat32 (n : Nat) : (ii (n : Int)).toBitVec = BitVec.ofNat 32 n := by
  unfold ii
  rw [Int32.toBitVec_ofInt, BitVec.ofInt_natCast]
theorem jj_nat64 (n : Nat) : (jj (n : Int)).toBitVec = BitVec.ofNat 64 n := by
  unfold jj
  rw [Int64.toBitVec_ofInt, BitVec.ofInt_natCast]
theorem jj_and (a b : Nat) : jj (a : Int) &&& jj (b : Int) = jj ((a &&& b : Nat) : Int) := by
  apply Int64.toBitVec.inj
  rw [Int64.toBitVec_and, jj_nat64, jj_nat64, jj_nat64]
  apply BitVec.eq_of_toNat_eq
  rw [BitVec.toNat_and, BitVec.toNat_ofNat, BitVec.toNat_ofNat, BitVec.toNat_ofNat, Nat.and_mod_two_pow]
theorem jj_or (a b : Nat) : jj (a : Int) ||| jj (b : Int) = jj ((a ||| b : Nat) : Int) := by
  apply Int64.toBitVec.inj
  rw [Int64.toBitVec_or, jj_nat64, jj_nat64, jj_nat64]
  apply BitVec.eq_of_toNat_eq
  rw [BitVec.toNat_or, BitVec.toNat_ofNat, BitVec.toNat_ofNat, BitVec.toNat_ofNat, Nat.or_mod_two_pow]
theorem jj_xor (a b : Nat) : jj (a : Int) ^^^ jj (b : Int) = jj ((a ^^^ b : Nat) : Int) := by
  apply Int64.toBitVec.inj
  rw [Int64.toBitVec_xor, jj_nat64, jj_nat64, jj_nat64]
  apply BitVec.eq_of_toNat_eq
  rw [BitVec.toNat_xor, BitVec.toNat_ofNat, BitVec.toNat_ofNat, BitVec.toNat_ofNat, Nat.xor_mod_two_pow]
theorem ii_and (a b : Nat) : ii (a : Int) &&& ii (b : Int) = ii ((a &&& b : Nat) : Int) := by
  apply Int32.toBitVec.inj
  rw [Int32.toBitVec_and, ii_nat32, ii_nat32, ii_nat32]
  apply BitVec.eq_of_toNat_eq
  rw [BitVec.toNat_and, BitVec.toNat_ofNat, BitVec.toNat_ofNat, BitVec.toNat_ofNat, Nat.and_mod_two_pow]
theorem ii_or (a b : Nat) : ii (a : Int) ||| ii (b : Int) = ii ((a ||| b : Nat) : Int) := by
  apply Int32.toBitVec.inj
  rw [Int32.toBitVec_or, ii_nat32, ii_nat32, ii_nat32]
  apply BitVec.eq_of_toNat_eq
  rw [BitVec.toNat_or, BitVec.toNat_ofNat, BitVec.toNat_ofNat, BitVec.toNat_ofNat, Nat.or_mod_two_pow]
theorem jj_and1 {x : Int} (h0 : 0 ≤ x) : jj x &&& jj 1 = jj (x % 2) := by
  obtain ⟨n, rfl⟩ := Int.eq_ofNat_of_zero_le h0
  have := jj_and n 1
  rw [Nat.and_one_is_mod] at this
  exact this
theorem nat_even_or (n b : Nat) (hb : b < 2) : 2 * n ||| b = 2 * n + b := by
  have := Nat.two_pow_add_eq_or_of_lt (i := 1) (b := b) hb n
  simpa using this.symm
theorem jj_or1 {x b : Int} (h0 : 0 ≤ x) (hb : 0 ≤ b ∧ b ≤ 1) : jj (2 * x) ||| jj b = jj (2 * x + b) := by
  obtain ⟨n, rfl⟩ := Int.eq_ofNat_of_zero_le h0
  obtain ⟨c, rfl⟩ := Int.eq_ofNat_of_zero_le hb.1
  have := jj_or (2 * n) c
  rw [nat_even_or n c (by omega)] at this
  exact this
theorem nat_xor1 (n : Nat) : n ^^^ 1 = 2 * (n / 2) + (1 - n % 2) := by
  apply Nat.eq_of_testBit_eq
  intro i
  cases i with
  | zero =>
    rw [Nat.testBit_xor, Nat.testBit_zero, Nat.testBit_zero, Nat.testBit_zero]
    have : n % 2 = 0 ∨ n % 2 = 1 := by omega
    rcases this with h | h
    · rw [h]
      have : (2 * (n / 2) + (1 - 0)) % 2 = 1 := by omega
      rw [this]
      decide
    · rw [h]
      have : (2 * (n / 2) + (1 - 1)) % 2 = 0 := by omega
      rw [this]
      decide
  | succ i =>
    rw [Nat.testBit_xor, Nat.testBit_succ, Nat.testBit_succ, Nat.testBit_succ]
    have : (2 * (n / 2) + (1 - n % 2)) / 2 = n / 2 := by omega
    rw [this]
    simp
theorem jj_xor1 {x b : Int} (h0 : 0 ≤ x) (hb : 0 ≤ b ∧ b ≤ 1) : jj (2 * x + b) ^^^ jj 1 = jj (2 * x + (1 - b)) := by
  obtain ⟨n, rfl⟩ := Int.eq_ofNat_of_zero_le h0
  obtain ⟨c, rfl⟩ := Int.eq_ofNat_of_zero_le hb.1
  have := jj_xor (2 * n + c) 1
  rw [nat_xor1] at this
  rw [show (2 * (n : Int) + (c : Int)) = ((2 * n + c : Nat) : Int) from by omega, show (2 * (n : Int) + (1 - (c : Int))) = ((2 * ((2 * n + c) / 2) + (1 - (2 * n + c) % 2) : Nat) : Int) from by omega]
  exact this
theorem jj_shl1 (x : Int) : jj x <<< jj 1 = jj (2 * x) := by
  apply Int64.toBitVec.inj
  rw [Int64.toBitVec_shiftLeft]
  rw [show ((jj 1).toBitVec.smod 64 : BitVec 64) = 1#64 from by decide]
  unfold jj
  rw [Int64.toBitVec_ofInt, Int64.toBitVec_ofInt, BitVec.ofInt_mul]
  rw [show (BitVec.ofInt 64 x <<< 1#64 : BitVec 64) = BitVec.ofInt 64 x <<< 1 from rfl]
  apply BitVec.eq_of_toNat_eq
  rw [BitVec.toNat_shiftLeft, BitVec.toNat_mul, Nat.shiftLeft_eq]
  rw [show (BitVec.ofInt 64 2).toNat = 2 from by decide, Nat.mul_comm]
theorem jj_shr1 {x : Int} (h1 : -9223372036854775808 ≤ x) (h2 : x ≤ 9223372036854775807) : jj x >>> jj 1 = jj (x / 2) := by
  apply Int64.toBitVec.inj
  rw [Int64.toBitVec_shiftRight]
  rw [show ((jj 1).toBitVec.smod 64 : BitVec 64) = 1#64 from by decide]
  rw [show (jj x).toBitVec.sshiftRight' 1#64 = (jj x).toBitVec.sshiftRight 1 from rfl, BitVec.sshiftRight_eq]
  rw [show (jj x).toBitVec.toInt = (jj x).toInt from rfl, jj_val h1 h2, Int.shiftRight_eq_div_pow]
  rfl
theorem nat_and_m2 {n : Nat} (h : n < 2 ^ 64) : n &&& 18446744073709551614 = 2 * (n / 2) := by
  apply Nat.eq_of_testBit_eq
  intro i
  rw [Nat.testBit_and, show (18446744073709551614 : Nat) = 2 ^ 64 - (1 + 1) from rfl, Nat.testBit_two_pow_sub_succ (by decide)]
  cases i with
  | zero =>
    rw [Nat.testBit_zero, Nat.testBit_zero, Nat.testBit_zero]
    have : (2 * (n / 2)) % 2 = 0 := by omega
    rw [this]
    simp
  | succ i =>
    rw [Nat.testBit_succ, Nat.testBit_succ, Nat.testBit_succ]
    have : (2 * (n / 2)) / 2 = n / 2 := by omega
    rw [this]
    by_cases hi : i + 1 < 64
    · simp [hi]
    · have : Nat.testBit (n / 2) i = false := by
        apply Nat.testBit_lt_two_pow
        have : 2 ^ 63 ≤ 2 ^ i := Nat.pow_le_pow_right (by decide) (by omega)
        omega
      rw [this]
      simp
theorem jj_andm2 {x : Int} (h0 : 0 ≤ x) (h2 : x ≤ 9223372036854775807) : jj x &&& jj (-2) = jj (2 * (x / 2)) := by
  obtain ⟨n, rfl⟩ := Int.eq_ofNat_of_zero_le h0
  have e : jj (-2) = jj ((18446744073709551614 : Nat) : Int) := by decide
  have := jj_and n 18446744073709551614
  rw [nat_and_m2 (by omega)] at this
  rw [e, this]
  rfl
/-- a program: how many steps, the kind of each, what it works on -/
abbrev pg : Type := Nat × (Nat → Int) × (Nat → Int)
def pv (r : Int → Int) (o : Int) : Int := if o < 10000 then o else r (o - 10000)
def pcm (x s y : Int) : Bool := if s = 60 then decide (x < y) else if s = 61 then decide (x = y) else if s = 201 then decide (x ≤ y) else if s = 202 then decide (y ≤ x) else decide (y < x)
/-- what is held while a program runs: the answers that wait (the youngest first), left, sum, misses -/
abbrev es : Type := List Int × Int × Int × Int
def bnot : List Int → List Int
  | b :: q => (1 - b) :: q
  | [] => []
def band : List Int → List Int
  | a :: b :: q => (a * b) :: q
  | q => q
def bor : List Int → List Int
  | a :: b :: q => bz (a = 1 ∨ b = 1) :: q
  | q => q
def pms (r : Int → Int) (on ms : Int) : Int := bz (ms = 1 ∨ (10000 ≤ on ∧ on < 10006 ∧ pv r on = -1))
def e1 (r : Int → Int) (kd on : Int) (s : es) : es :=
  if kd = 0 then (s.1, s.2.2.1, pv r on, pms r on s.2.2.2)
  else if kd = 1 then (s.1, s.2.1, s.2.2.1 + pv r on, pms r on s.2.2.2)
  else if kd = 2 then (s.1, s.2.1, s.2.2.1 - pv r on, pms r on s.2.2.2)
  else if kd = 3 then (bz (s.2.2.2 = 0 ∧ pcm s.2.1 on s.2.2.1 = true) :: s.1, s.2.1, s.2.2.1, 0)
  else if kd = 6 then (bnot s.1, s.2)
  else if kd = 5 then (band s.1, s.2)
  else (bor s.1, s.2)
def er (r : Int → Int) (P : pg) : Nat → es
  | 0 => ([], 0, 0, 0)
  | k + 1 => e1 r (P.2.1 k) (P.2.2 k) (er r P k)
/-- what a program says -/
def evp (r : Int → Int) (P : pg) : Bool := decide ((er r P P.1).1.headD 0 = 1)
/-- how many sums there are of the comparison that is being read, how many answers wait -/
def pz (P : pg) : Nat → Int × Int
  | 0 => (0, 0)
  | k + 1 => if P.2.1 k = 0 then ((pz P k).1 + 1, (pz P k).2) else if P.2.1 k = 3 then (0, (pz P k).2 + 1) else if P.2.1 k = 4 ∨ P.2.1 k = 5 then ((pz P k).1, (pz P k).2 - 1) else pz P k
/-- a step may stand there -/
def pok (kd on ph dp : Int) : Prop := (kd = 0 ∧ ph ≤ 1 ∧ 0 ≤ on ∧ on ≤ 10010) ∨ ((kd = 1 ∨ kd = 2) ∧ 1 ≤ ph ∧ 0 ≤ on ∧ on ≤ 10010) ∨ (kd = 3 ∧ ph = 2 ∧ (on = 60 ∨ on = 61 ∨ on = 62 ∨ on = 201 ∨ on = 202)) ∨ (kd = 6 ∧ ph = 0 ∧ 1 ≤ dp ∧ on = 0) ∨ ((kd = 4 ∨ kd = 5) ∧ ph = 0 ∧ 2 ≤ dp ∧ on = 0)
/-- how many values are read -/
def pvn (P : pg) (k : Nat) : Int := sm (fun i => bz (P.2.1 i = 0 ∨ P.2.1 i = 1 ∨ P.2.1 i = 2)) k
def okP (P : pg) : Prop := P.1 ≤ 400 ∧ (∀ k, k < P.1 → pok (P.2.1 k) (P.2.2 k) (pz P k).1 (pz P k).2) ∧ pz P P.1 = (0, 1) ∧ pvn P P.1 ≤ 40
/-- what stands in a row of words -/
def okr (r : Int → Int) : Prop := ∀ j, 0 ≤ j → j < 11 → -1 ≤ r j ∧ r j ≤ 9
def bits : List Int → Prop
  | [] => True
  | b :: q => (b = 0 ∨ b = 1) ∧ bits q
def xv : List Int → Int
  | [] => 0
  | b :: q => 2 * xv q + b
theorem pv_ran {r : Int → Int} (hr : okr r) {on : Int} (h1 : 0 ≤ on) (h2 : on ≤ 10010) : -1 ≤ pv r on ∧ pv r on ≤ 9999 := by
  unfold pv
  split
  · omega
  · have := hr (on - 10000) (by omega) (by omega)
    omega
theorem e1_0 {r : Int → Int} {kd o : Int} {s : es} (e : kd = 0) : e1 r kd o s = (s.1, s.2.2.1, pv r o, pms r o s.2.2.2) := by
  unfold e1
  rw [if_pos e]
theorem e1_1 {r : Int → Int} {kd o : Int} {s : es} (e : kd = 1) : e1 r kd o s = (s.1, s.2.1, s.2.2.1 + pv r o, pms r o s.2.2.2) := by
  unfold e1
  rw [if_neg (by omega), if_pos e]
theorem e1_2 {r : Int → Int} {kd o : Int} {s : es} (e : kd = 2) : e1 r kd o s = (s.1, s.2.1, s.2.2.1 - pv r o, pms r o s.2.2.2) := by
  unfold e1
  rw [if_neg (by omega), if_neg (by omega), if_pos e]
theorem e1_3 {r : Int → Int} {kd o : Int} {s : es} (e : kd = 3) : e1 r kd o s = (bz (s.2.2.2 = 0 ∧ pcm s.2.1 o s.2.2.1 = true) :: s.1, s.2.1, s.2.2.1, 0) := by
  unfold e1
  rw [if_neg (by omega), if_neg (by omega), if_neg (by omega), if_pos e]
theorem e1_6 {r : Int → Int} {kd o : Int} {s : es} (e : kd = 6) : e1 r kd o s = (bnot s.1, s.2) := by
  unfold e1
  rw [if_neg (by omega), if_neg (by omega), if_neg (by omega), if_neg (by omega), if_pos e]
theorem e1_5 {r : Int → Int} {kd o : Int} {s : es} (e : kd = 5) : e1 r kd o s = (band s.1, s.2) := by
  unfold e1
  rw [if_neg (by omega), if_neg (by omega), if_neg (by omega), if_neg (by omega), if_neg (by omega), if_pos e]
theorem e1_4 {r : Int → Int} {kd o : Int} {s : es} (e : kd = 4) : e1 r kd o s = (bor s.1, s.2) := by
  unfold e1
  rw [if_neg (by omega), if_neg (by omega), if_neg (by omega), if_neg (by omega), if_neg (by omega), if_neg (by omega)]
theorem pz_a {P : pg} {k : Nat} (e : P.2.1 k = 0) : pz P (k + 1) = ((pz P k).1 + 1, (pz P k).2) := if_pos e
theorem pz_b {P : pg} {k : Nat} (e : P.2.1 k = 3) : pz P (k + 1) = (0, (pz P k).2 + 1) := by
  conv => lhs; unfold pz
  rw [if_neg (by omega), if_pos e]
theorem pz_c {P : pg} {k : Nat} (e : P.2.1 k = 4 ∨ P.2.1 k = 5) : pz P (k + 1) = ((pz P k).1, (pz P k).2 - 1) := by
  conv => lhs; unfold pz
  rw [if_neg (by omega), if_neg (by omega), if_pos e]
theorem pz_d {P : pg} {k : Nat} (e : P.2.1 k = 1 ∨ P.2.1 k = 2 ∨ P.2.1 k = 6) : pz P (k + 1) = pz P k := by
  conv => lhs; unfold pz
  rw [if_neg (by omega), if_neg (by omega), if_neg (by omega)]
theorem pms_01 (r : Int → Int) (o ms : Int) : pms r o ms = 0 ∨ pms r o ms = 1 := by
  unfold pms
  have := bz_ran (p := ms = 1 ∨ (10000 ≤ o ∧ o < 10006 ∧ pv r o = -1))
  omega
theorem pvn_s (P : pg) (k : Nat) : pvn P (k + 1) = pvn P k + bz (P.2.1 k = 0 ∨ P.2.1 k = 1 ∨ P.2.1 k = 2) := rfl
theorem er_s (r : Int → Int) (P : pg) (k : Nat) : er r P (k + 1) = e1 r (P.2.1 k) (P.2.2 k) (er r P k) := rfl
/-- what holds of a run, step by step -/
theorem er_ok {r : Int → Int} (hr : okr r) {P : pg} (hP : okP P) : ∀ k, k ≤ P.1 → bits (er r P k).1 ∧ ((er r P k).1.length : Int) = (pz P k).2 ∧ 0 ≤ (pz P k).1 ∧ (pz P k).1 ≤ 2 ∧ (pz P k).1 + (pz P k).2 ≤ pvn P k ∧ (-(k * 10000) ≤ (er r P k).2.1 ∧ (er r P k).2.1 ≤ k * 10000) ∧ (-(k * 10000) ≤ (er r P k).2.2.1 ∧ (er r P k).2.2.1 ≤ k * 10000) ∧ ((er r P k).2.2.2 = 0 ∨ (er r P k).2.2.2 = 1)
  | 0, _ => by simp [er, pz, bits, pvn, sm]
  | k + 1, hk => by
    obtain ⟨a1, a2, a3, a4, a5, a6, a7, a8⟩ := er_ok hr hP k (by omega)
    rw [er_s, pvn_s]
    rcases hP.2.1 k (by omega) with ⟨e, h1, h2, h3⟩ | ⟨e, h1, h2, h3⟩ | ⟨e, h1, h2⟩ | ⟨e, h1, h2, h3⟩ | ⟨e, h1, h2, h3⟩
    · have hv := pv_ran hr h2 h3
      rw [e1_0 e, pz_a e, bz_t (.inl e)]
      dsimp only
      exact ⟨a1, a2, by omega, by omega, by omega, by omega, by omega, pms_01 _ _ _⟩
    · have hv := pv_ran hr h2 h3
      rw [pz_d (by omega), bz_t (.inr e)]
      rcases e with e | e
      · rw [e1_1 e]
        dsimp only
        exact ⟨a1, a2, by omega, by omega, by omega, by omega, by omega, pms_01 _ _ _⟩
      · rw [e1_2 e]
        dsimp only
        exact ⟨a1, a2, by omega, by omega, by omega, by omega, by omega, pms_01 _ _ _⟩
    · rw [e1_3 e, pz_b e, bz_f (p := P.2.1 k = 0 ∨ P.2.1 k = 1 ∨ P.2.1 k = 2) (by omega)]
      dsimp only
      refine ⟨⟨?_, a1⟩, ?_, by omega, by omega, by omega, by omega, by omega, .inl rfl⟩
      · have := bz_ran (p := (er r P k).2.2.2 = 0 ∧ pcm (er r P k).2.1 (P.2.2 k) (er r P k).2.2.1 = true)
        omega
      · rw [List.length_cons]
        omega
    · rw [e1_6 e, pz_d (by omega), bz_f (by omega)]
      dsimp only
      revert a1 a2
      generalize (er r P k).1 = bs
      intro a1 a2
      match bs, a1, a2 with
      | [], _, a2 => simp at a2; omega
      | b :: q, a1, a2 => exact ⟨⟨by rcases a1.1 with h | h <;> rw [h] <;> decide, a1.2⟩, by simpa [bnot] using a2, by omega, by omega, by omega, by omega, by omega, a8⟩
    · rw [pz_c (by omega), bz_f (by omega)]
      rcases e with e | e
      · rw [e1_4 e]
        dsimp only
        revert a1 a2
        generalize (er r P k).1 = bs
        intro a1 a2
        match bs, a1, a2 with
        | [], _, a2 => simp at a2; omega
        | [b], _, a2 => simp at a2; omega
        | a :: b :: q, a1, a2 =>
          refine ⟨⟨?_, a1.2.2⟩, ?_, by omega, by omega, by omega, by omega, by omega, a8⟩
          · have := bz_ran (p := a = 1 ∨ b = 1)
            omega
          · simp only [bor, List.length_cons] at a2 ⊢
            omega
      · rw [e1_5 e]
        dsimp only
        revert a1 a2
        generalize (er r P k).1 = bs
        intro a1 a2
        match bs, a1, a2 with
        | [], _, a2 => simp at a2; omega
        | [b], _, a2 => simp at a2; omega
        | a :: b :: q, a1, a2 =>
          refine ⟨⟨?_, a1.2.2⟩, ?_, by omega, by omega, by omega, by omega, by omega, a8⟩
          · rcases a1.1 with h | h <;> rcases a1.2.1 with h' | h' <;> rw [h, h'] <;> decide
          · simp only [band, List.length_cons] at a2 ⊢
            omega
theorem xv_ran : ∀ {l : List Int}, bits l → 0 ≤ xv l ∧ xv l < 2 ^ l.length
  | [], _ => by simp [xv]
  | b :: q, h => by
    have ih := xv_ran h.2
    have hb := h.1
    unfold xv
    rw [List.length_cons, Int.pow_succ]
    omega
