/-! BITS OF A LONG -/
def bn (P : Nat → Bool) : Nat → Nat
  | 0 => 0
  | k + 1 => bn P k + if P k = true then 2 ^ k else 0
theorem bn_lt (P : Nat → Bool) : ∀ k, bn P k < 2 ^ k
  | 0 => by simp [bn]
  | k + 1 => by
    have := bn_lt P k
    unfold bn
    rw [Nat.pow_succ]
    split <;> omega
theorem bn_tb (P : Nat → Bool) (i : Nat) : ∀ k, (bn P k).testBit i = (decide (i < k) && P i)
  | 0 => by simp [bn]
  | k + 1 => by
    have ih := bn_tb P i k
    have hl := bn_lt P k
    have h := Nat.testBit_two_pow_mul_add (if P k = true then 1 else 0) hl i
    have e : bn P (k + 1) = 2 ^ k * (if P k = true then 1 else 0) + bn P k := by
      conv => lhs; unfold bn
      split <;> omega
    rw [e, h, ih]
    by_cases q : i < k
    · rw [if_pos q]
      simp [q, Nat.lt_succ_of_lt q]
    · rw [if_neg q]
      by_cases q2 : i = k
      · subst q2
        simp
        cases P i <;> decide
      · have : ¬ i < k + 1 := by omega
        simp [this]
        have h3 : 0 < i - k := by omega
        split
        · rw [Nat.testBit_lt_two_pow]
          exact Nat.one_lt_two_pow (by omega)
        · exact Nat.zero_testBit _
theorem bn_lo (P : Nat → Bool) : ∀ k, bn P (k + 1) = (if P 0 = true then 1 else 0) + 2 * bn (fun i => P (i + 1)) k
  | 0 => by simp [bn]
  | k + 1 => by
    have ih := bn_lo P k
    rw [show bn P (k + 1 + 1) = bn P (k + 1) + (if P (k + 1) = true then 2 ^ (k + 1) else 0) from rfl, ih, show bn (fun i => P (i + 1)) (k + 1) = bn (fun i => P (i + 1)) k + (if P (k + 1) = true then 2 ^ k else 0) from rfl, Nat.pow_succ]
    split <;> split <;> omega
theorem bn_8 (P : Nat → Bool) (k : Nat) : bn P (k + 8) = bn P 8 + 256 * bn (fun i => P (i + 8)) k := by
  have h8 : ∀ k, bn P (k + 8) = (if P 0 = true then 1 else 0) + 2 * ((if P 1 = true then 1 else 0) + 2 * ((if P 2 = true then 1 else 0) + 2 * ((if P 3 = true then 1 else 0) + 2 * ((if P 4 = true then 1 else 0) + 2 * ((if P 5 = true then 1 else 0) + 2 * ((if P 6 = true then 1 else 0) + 2 * ((if P 7 = true then 1 else 0) + 2 * bn (fun i => P (i + 8)) k))))))) := fun k => by
    rw [show k + 8 = (k + 7) + 1 from rfl, bn_lo, bn_lo _ (k + 6), bn_lo _ (k + 5), bn_lo _ (k + 4), bn_lo _ (k + 3), bn_lo _ (k + 2), bn_lo _ (k + 1), bn_lo _ k]
  have h0 := h8 0
  have h1 := h8 k
  rw [Nat.zero_add, show bn (fun i => P (i + 8)) 0 = 0 from rfl] at h0
  omega
theorem land_8 {a b c d : Nat} (hb : b < 256) (hd : d < 256) : (256 * a + b) &&& (256 * c + d) = 256 * (a &&& c) + (b &&& d) := by
  apply Nat.eq_of_testBit_eq
  intro i
  have h1 := Nat.testBit_two_pow_mul_add a (b := b) (i := 8) hb i
  have h2 := Nat.testBit_two_pow_mul_add c (b := d) (i := 8) hd i
  have hbd : b &&& d < 2 ^ 8 := Nat.lt_of_le_of_lt Nat.and_le_left hb
  have h3 := Nat.testBit_two_pow_mul_add (a &&& c) (b := b &&& d) (i := 8) hbd i
  rw [Nat.testBit_and, show (256 : Nat) = 2 ^ 8 from rfl, h1, h2, h3]
  split
  · rw [Nat.testBit_and]
  · rw [Nat.testBit_and]
def mk8 (c : Nat) : Nat → Nat
  | 0 => 0
  | n + 1 => 256 * mk8 c n + c
def pa (n N : Nat) : Nat := N - ((N / 2) &&& mk8 85 n)
def pb (n N : Nat) : Nat := (pa n N &&& mk8 51 n) + ((pa n N / 4) &&& mk8 51 n)
def pc (n N : Nat) : Nat := (pb n N + pb n N / 16) &&& mk8 15 n
def pa1 (r : Nat) : Nat := r - ((r / 2) &&& 85)
def pb1 (r : Nat) : Nat := (pa1 r &&& 51) + ((pa1 r / 4) &&& 51)
def pc1 (r : Nat) : Nat := (pb1 r + pb1 r / 16) &&& 15
theorem all_lt {p : Nat → Bool} {n : Nat} (h : (List.range n).all p = true) {r : Nat} (hr : r < n) : p r = true :=
  List.all_eq_true.mp h r (List.mem_range.mpr hr)
theorem pa_s (n N : Nat) : pa (n + 1) N = 256 * pa n (N / 256) + pa1 (N % 256) := by
  have e1 : N / 2 = 256 * (N / 256 / 2) + N / 2 % 256 := by omega
  have e2 : (N / 2 % 256 &&& 85) = ((N % 256) / 2 &&& 85) := by
    have := all_lt (p := fun r => Nat.beq (r / 2 &&& 85) ((r % 256) / 2 &&& 85)) (n := 512) (by decide +kernel) (r := N % 512) (by omega)
    have := Nat.eq_of_beq_eq_true this
    rw [show N / 2 % 256 = N % 512 / 2 by omega, this, show N % 512 % 256 = N % 256 by omega]
  unfold pa pa1
  rw [show mk8 85 (n + 1) = 256 * mk8 85 n + 85 from rfl, e1, land_8 (by omega) (by decide), e2]
  have l1 : (N / 256 / 2 &&& mk8 85 n) ≤ N / 256 / 2 := Nat.and_le_left
  have l2 : ((N % 256) / 2 &&& 85) ≤ (N % 256) / 2 := Nat.and_le_left
  omega
theorem pa1_lt {r : Nat} (hr : r < 256) : pa1 r < 256 := by unfold pa1; omega
theorem pb_s (n N : Nat) : pb (n + 1) N = 256 * pb n (N / 256) + pb1 (N % 256) := by
  have h1 := pa1_lt (r := N % 256) (by omega)
  unfold pb pb1
  rw [pa_s]
  generalize pa n (N / 256) = y
  generalize pa1 (N % 256) = z at *
  have e1 : (256 * y + z) / 4 = 256 * (y / 4) + (y % 4 * 64 + z / 4) := by omega
  have e2 : (y % 4 * 64 + z / 4) &&& 51 = z / 4 &&& 51 := by
    have := all_lt (p := fun r => Nat.beq (r &&& 51) (r % 64 &&& 51)) (n := 256) (by decide +kernel) (r := y % 4 * 64 + z / 4) (by omega)
    have := Nat.eq_of_beq_eq_true this
    rw [this, show (y % 4 * 64 + z / 4) % 64 = z / 4 by omega]
  rw [show mk8 51 (n + 1) = 256 * mk8 51 n + 51 from rfl, e1, land_8 h1 (by decide), land_8 (by omega) (by decide), e2]
  omega
theorem pb1_le {r : Nat} (hr : r < 256) : pb1 r ≤ 68 ∧ pb1 r % 16 ≤ 4 ∧ pb1 r / 16 ≤ 4 := by
  have := all_lt (p := fun r => Nat.ble (pb1 r) 68 && Nat.ble (pb1 r % 16) 4 && Nat.ble (pb1 r / 16) 4) (n := 256) (by decide +kernel) hr
  simp only [Bool.and_eq_true, Nat.ble_eq] at this
  omega
theorem pb_16 (N : Nat) : ∀ n, pb n N % 16 ≤ 4
  | 0 => by
    unfold pb mk8
    simp
  | n + 1 => by
    rw [pb_s]
    have := pb1_le (r := N % 256) (by omega)
    omega
theorem pc_s (n N : Nat) : pc (n + 1) N = 256 * pc n (N / 256) + pc1 (N % 256) := by
  have h1 := pb1_le (r := N % 256) (by omega)
  have h2 := pb_16 (N / 256) n
  unfold pc pc1
  rw [pb_s]
  generalize pb n (N / 256) = w at *
  generalize pb1 (N % 256) = v at *
  have e1 : 256 * w + v + (256 * w + v) / 16 = 256 * (w + w / 16) + (w % 16 * 16 + (v + v / 16)) := by omega
  have e2 : (w % 16 * 16 + (v + v / 16)) &&& 15 = (v + v / 16) &&& 15 := by
    rw [show (15 : Nat) = 2 ^ 4 - 1 from rfl, Nat.and_two_pow_sub_one_eq_mod, Nat.and_two_pow_sub_one_eq_mod]
    omega
  rw [show mk8 15 (n + 1) = 256 * mk8 15 n + 15 from rfl, e1, land_8 (by omega) (by decide), e2]
def b1 (b : Bool) : Nat := if b = true then 1 else 0
def q8 (P : Nat → Bool) (i : Nat) : Nat := b1 (P i) + b1 (P (i + 1)) + b1 (P (i + 2)) + b1 (P (i + 3)) + b1 (P (i + 4)) + b1 (P (i + 5)) + b1 (P (i + 6)) + b1 (P (i + 7))
theorem pc1_8 (P : Nat → Bool) : pc1 (bn P 8) = q8 P 0 := by
  have h : ∀ a b c d e f g h : Bool, pc1 ((((((((0 + if a = true then 2 ^ 0 else 0) + if b = true then 2 ^ 1 else 0) + if c = true then 2 ^ 2 else 0) + if d = true then 2 ^ 3 else 0) + if e = true then 2 ^ 4 else 0) + if f = true then 2 ^ 5 else 0) + if g = true then 2 ^ 6 else 0) + if h = true then 2 ^ 7 else 0) = b1 a + b1 b + b1 c + b1 d + b1 e + b1 f + b1 g + b1 h := by decide +kernel
  exact h _ _ _ _ _ _ _ _
theorem pc_8 (P : Nat → Bool) (n k : Nat) : pc (n + 1) (bn P (k + 8)) = 256 * pc n (bn (fun i => P (i + 8)) k) + q8 P 0 := by
  have hl := bn_lt P 8
  rw [pc_s, bn_8 P k, show (bn P 8 + 256 * bn (fun i => P (i + 8)) k) / 256 = bn (fun i => P (i + 8)) k by omega, show (bn P 8 + 256 * bn (fun i => P (i + 8)) k) % 256 = bn P 8 by omega, pc1_8]
theorem pc_64 (P : Nat → Bool) : pc 8 (bn P 64) = q8 P 0 + 256 * (q8 P 8 + 256 * (q8 P 16 + 256 * (q8 P 24 + 256 * (q8 P 32 + 256 * (q8 P 40 + 256 * (q8 P 48 + 256 * q8 P 56)))))) := by
  have e1 : q8 (fun i => P (i + 8)) 0 = q8 P 8 := rfl
  have e2 : q8 (fun i => P (i + 8 + 8)) 0 = q8 P 16 := rfl
  have e3 : q8 (fun i => P (i + 8 + 8 + 8)) 0 = q8 P 24 := rfl
  have e4 : q8 (fun i => P (i + 8 + 8 + 8 + 8)) 0 = q8 P 32 := rfl
  have e5 : q8 (fun i => P (i + 8 + 8 + 8 + 8 + 8)) 0 = q8 P 40 := rfl
  have e6 : q8 (fun i => P (i + 8 + 8 + 8 + 8 + 8 + 8)) 0 = q8 P 48 := rfl
  have e7 : q8 (fun i => P (i + 8 + 8 + 8 + 8 + 8 + 8 + 8)) 0 = q8 P 56 := rfl
  rw [pc_8 P 7 56, pc_8 _ 6 48, pc_8 _ 5 40, pc_8 _ 4 32, pc_8 _ 3 24, pc_8 _ 2 16, pc_8 _ 1 8, pc_8 _ 0 0]
  rw [show ∀ N, pc 0 N = 0 from fun N => by unfold pc mk8; exact Nat.and_zero _]
  try dsimp only
  rw [e1, e2, e3, e4, e5, e6, e7]
  omega
def sb (P : Nat → Bool) : Nat → Nat
  | 0 => 0
  | k + 1 => sb P k + b1 (P k)
theorem sb_64 (P : Nat → Bool) : sb P 64 = q8 P 0 + q8 P 8 + q8 P 16 + q8 P 24 + q8 P 32 + q8 P 40 + q8 P 48 + q8 P 56 := by
  unfold q8
  simp only [sb, Nat.reduceAdd]
  omega
theorem q8_le (P : Nat → Bool) (i : Nat) : q8 P i ≤ 8 := by
  have h : ∀ b, b1 b ≤ 1 := by decide
  unfold q8
  have := h (P i); have := h (P (i+1)); have := h (P (i+2)); have := h (P (i+3)); have := h (P (i+4)); have := h (P (i+5)); have := h (P (i+6)); have := h (P (i+7))
  omega
def pd (C : Nat) : Nat := C + C / 256
def pe (C : Nat) : Nat := pd C + pd C / 65536
def pzz (C : Nat) : Nat := pe C + pe C / 4294967296
theorem dv {k x y : Nat} (h : x < k) : (x + k * y) / k = y := by
  rw [Nat.add_mul_div_left _ _ (Nat.lt_of_le_of_lt (Nat.zero_le _) h), Nat.div_eq_of_lt h, Nat.zero_add]
theorem pzz_s {C a b c d e f g h : Nat} (hC : C = a + 256 * (b + 256 * (c + 256 * (d + 256 * (e + 256 * (f + 256 * (g + 256 * h))))))) (ha : a ≤ 8) (hb : b ≤ 8) (hc : c ≤ 8) (hd : d ≤ 8) (he : e ≤ 8) (hf : f ≤ 8) (hg : g ≤ 8) (hh : h ≤ 8) : pzz C % 128 = a + b + c + d + e + f + g + h ∧ pzz C < 18446744073709551616 ∧ pd C < 18446744073709551616 ∧ pe C < 18446744073709551616 := by
  have lC : C < 600000000000000000 := by omega
  have q1 : C / 256 = b + 256 * (c + 256 * (d + 256 * (e + 256 * (f + 256 * (g + 256 * h))))) := by
    rw [hC]
    exact dv (Nat.lt_of_le_of_lt ha (by decide))
  have h1 : pd C = (a + b) + 256 * (b + c) + 65536 * ((c + 256 * (d + 256 * (e + 256 * (f + 256 * (g + 256 * h))))) + (d + 256 * (e + 256 * (f + 256 * (g + 256 * h))))) := by
    unfold pd
    rw [q1, hC]
    clear q1 hC lC ha hb hc hd he hf hg hh
    omega
  have s1 : (a + b) + 256 * (b + c) < 65536 := by clear q1 hC lC h1; omega
  have q2 : pd C / 65536 = (c + 256 * (d + 256 * (e + 256 * (f + 256 * (g + 256 * h))))) + (d + 256 * (e + 256 * (f + 256 * (g + 256 * h)))) := by
    rw [h1]
    exact dv s1
  have h2 : pe C = ((a + b + c + d) + 256 * (b + c + d + e) + 65536 * (c + d + e + f) + 16777216 * (d + e + f + g)) + 4294967296 * ((e + 256 * (f + 256 * (g + 256 * h))) + (f + 256 * (g + 256 * h)) + (g + 256 * h) + h) := by
    unfold pe
    rw [q2, h1]
    clear q2 h1 s1 q1 hC lC ha hb hc hd he hf hg hh
    omega
  have s2 : (a + b + c + d) + 256 * (b + c + d + e) + 65536 * (c + d + e + f) + 16777216 * (d + e + f + g) < 4294967296 := by clear q1 hC lC h1 q2 h2 s1; omega
  have q3 : pe C / 4294967296 = (e + 256 * (f + 256 * (g + 256 * h))) + (f + 256 * (g + 256 * h)) + (g + 256 * h) + h := by
    rw [h2]
    exact dv s2
  have h3 : pzz C = (a + b + c + d + e + f + g + h) + 128 * (2 * (b + c + d + e + f + g + h) + 512 * (c + d + e + f + g + h) + 131072 * (d + e + f + g + h) + 33554432 * (e + f + g + h) + 8589934592 * (f + g + h) + 2199023255552 * (g + h) + 562949953421312 * h) := by
    unfold pzz
    rw [q3, h2]
    clear q2 h1 s1 q1 hC lC ha hb hc hd he hf hg hh q3 h2 s2
    omega
  have l1 : pd C ≤ C + C := by
    unfold pd
    exact Nat.add_le_add_left (Nat.div_le_self _ _) _
  have l2 : pe C ≤ pd C + pd C := by
    unfold pe
    exact Nat.add_le_add_left (Nat.div_le_self _ _) _
  have l3 : pzz C ≤ pe C + pe C := by
    unfold pzz
    exact Nat.add_le_add_left (Nat.div_le_self _ _) _
  refine ⟨?_, ?_, ?_, ?_⟩
  · rw [h3, Nat.add_mul_mod_self_left]
    exact Nat.mod_eq_of_lt (by clear q1 q2 q3 h1 h2 h3 hC s1 s2 l1 l2 l3 lC; omega)
  all_goals (clear q1 q2 q3 h1 h2 h3 hC s1 s2; omega)
def bwI (P : Nat → Bool) : Int := (bn P 64 : Nat)
def tn (x : Int64) : Nat := x.toBitVec.toNat
theorem tn_lt (x : Int64) : tn x < 18446744073709551616 := x.toBitVec.isLt
theorem tn_bw (P : Nat → Bool) : tn (jj (bwI P)) = bn P 64 := by
  have h := bn_lt P 64
  have e : (jj (bwI P)).toBitVec = BitVec.ofNat 64 (bn P 64) := by
    show BitVec.ofInt 64 (bn P 64 : Nat) = _
    exact BitVec.ofInt_natCast _ _
  unfold tn
  rw [e, BitVec.toNat_ofNat]
  exact Nat.mod_eq_of_lt h
theorem tn_inj {x y : Int64} (h : tn x = tn y) : x = y := Int64.toBitVec_inj.mp (BitVec.eq_of_toNat_eq h)
theorem bw_bit (P : Nat → Bool) {i : Nat} (hi : i < 64) : (jj (bwI P)).toBitVec.getLsbD i = P i := by
  have e := tn_bw P
  unfold tn at e
  rw [BitVec.getLsbD, e, bn_tb]
  simp [hi]
theorem bw_ext {x : Int64} {P : Nat → Bool} (h : ∀ i, i < 64 → x.toBitVec.getLsbD i = P i) : x = jj (bwI P) :=
  Int64.toBitVec_inj.mp (BitVec.eq_of_getLsbD_eq (fun i hi => by rw [h i hi, bw_bit P hi]))
theorem bw_and (P Q : Nat → Bool) : jj (bwI P) &&& jj (bwI Q) = jj (bwI fun i => P i && Q i) :=
  bw_ext (fun i hi => by rw [Int64.toBitVec_and, BitVec.getLsbD_and, bw_bit P hi, bw_bit Q hi])
theorem bw_xor (P Q : Nat → Bool) : jj (bwI P) ^^^ jj (bwI Q) = jj (bwI fun i => P i ^^ Q i) :=
  bw_ext (fun i hi => by rw [Int64.toBitVec_xor, BitVec.getLsbD_xor, bw_bit P hi, bw_bit Q hi])
theorem bw_or (P Q : Nat → Bool) : jj (bwI P) ||| jj (bwI Q) = jj (bwI fun i => P i || Q i) :=
  bw_ext (fun i hi => by rw [Int64.toBitVec_or, BitVec.getLsbD_or, bw_bit P hi, bw_bit Q hi])
theorem bw_0 : bwI (fun _ => false) = 0 := by
  have : ∀ k, bn (fun _ => false) k = 0 := fun k => by
    induction k with
    | zero => rfl
    | succ k ih => unfold bn; rw [ih]; rfl
  unfold bwI
  rw [this]
  rfl
theorem bw_1 {j : Nat} (hj : j < 64) : jj 1 <<< (jj j &&& jj 63) = jj (bwI fun i => Nat.beq i j) := by
  have h := all_lt (p := fun j => decide (tn (jj 1 <<< (jj (j : Nat) &&& jj 63)) = bn (fun i => Nat.beq i j) 64)) (n := 64) (by decide +kernel) hj
  have h2 := of_decide_eq_true h
  exact tn_inj (h2.trans (tn_bw _).symm)
-- the count of bits
def hsh (x : Int64) (k : Int32) : Int64 := (x.toUInt64 >>> (k.toInt64.toUInt64 &&& Int64.toUInt64 63)).toInt64
theorem tn_sh {k : Int32} {m : Nat} (h : (k.toInt64.toUInt64 &&& Int64.toUInt64 63).toNat % 64 = m) (x : Int64) : tn (hsh x k) = tn x / 2 ^ m := by
  show (x.toUInt64 >>> (k.toInt64.toUInt64 &&& Int64.toUInt64 63)).toNat = _
  rw [UInt64.toNat_shiftRight, h, Nat.shiftRight_eq_div_pow]
  rfl
theorem tn_and (x y : Int64) : tn (x &&& y) = (tn x &&& tn y) := by
  unfold tn
  rw [Int64.toBitVec_and, BitVec.toNat_and]
theorem tn_add {x y : Int64} (h : tn x + tn y < 18446744073709551616) : tn (x + y) = tn x + tn y := by
  unfold tn at *
  rw [Int64.toBitVec_add, BitVec.toNat_add]
  exact Nat.mod_eq_of_lt h
theorem tn_sub {x y : Int64} (h : tn y ≤ tn x) : tn (x - y) = tn x - tn y := by
  unfold tn at *
  rw [Int64.toBitVec_sub, BitVec.toNat_sub_of_le h]
def hb1 (x : Int64) : Int64 := x - (hsh x 1 &&& 6148914691236517205)
def hb2 (x : Int64) : Int64 := (hb1 x &&& 3689348814741910323) + (hsh (hb1 x) 2 &&& 3689348814741910323)
def hb3 (x : Int64) : Int64 := (hb2 x + hsh (hb2 x) 4) &&& 1085102592571150095
def hb4 (x : Int64) : Int64 := hb3 x + hsh (hb3 x) 8
def hb5 (x : Int64) : Int64 := hb4 x + hsh (hb4 x) 16
def hb6 (x : Int64) : Int64 := hb5 x + hsh (hb5 x) 32
theorem mk_85 : mk8 85 8 = 6148914691236517205 := by decide +kernel
theorem mk_51 : mk8 51 8 = 3689348814741910323 := by decide +kernel
theorem mk_15 : mk8 15 8 = 1085102592571150095 := by decide +kernel
theorem tn_hb1 (x : Int64) : tn (hb1 x) = pa 8 (tn x) := by
  have e : tn (hsh x 1 &&& 6148914691236517205) = (tn x / 2 &&& mk8 85 8) := by
    rw [tn_and, tn_sh (m := 1) (by decide), mk_85]
    rfl
  have hl : (tn x / 2 &&& mk8 85 8) ≤ tn x / 2 := Nat.and_le_left
  unfold hb1 pa
  rw [tn_sub (by rw [e]; omega), e]
theorem pb_le (n N : Nat) : pb n N ≤ mk8 51 n + mk8 51 n := Nat.add_le_add Nat.and_le_right Nat.and_le_right
theorem tn_hb2 (x : Int64) : tn (hb2 x) = pb 8 (tn x) := by
  have e1 : tn (hb1 x &&& 3689348814741910323) = (pa 8 (tn x) &&& mk8 51 8) := by
    rw [tn_and, tn_hb1, mk_51]
    rfl
  have e2 : tn (hsh (hb1 x) 2 &&& 3689348814741910323) = (pa 8 (tn x) / 4 &&& mk8 51 8) := by
    rw [tn_and, tn_sh (m := 2) (by decide), tn_hb1, mk_51]
    rfl
  have hl := pb_le 8 (tn x)
  rw [mk_51] at hl
  unfold hb2
  rw [tn_add (by rw [e1, e2]; exact Nat.lt_of_le_of_lt hl (by decide)), e1, e2]
  rfl
theorem tn_hb3 (x : Int64) : tn (hb3 x) = pc 8 (tn x) := by
  have hl := pb_le 8 (tn x)
  rw [mk_51] at hl
  have e2 : tn (hsh (hb2 x) 4) = pb 8 (tn x) / 16 := by
    rw [tn_sh (m := 4) (by decide), tn_hb2]
  have h2 : pb 8 (tn x) / 16 ≤ 3689348814741910323 := by omega
  unfold hb3
  rw [tn_and, tn_add (by rw [tn_hb2, e2]; omega), tn_hb2, e2]
  unfold pc
  rw [mk_15]
  rfl
theorem hb_sum (P : Nat → Bool) : tn (hb6 (jj (bwI P))) % 128 = sb P 64 := by
  have h := pzz_s (pc_64 P) (q8_le P 0) (q8_le P 8) (q8_le P 16) (q8_le P 24) (q8_le P 32) (q8_le P 40) (q8_le P 48) (q8_le P 56)
  obtain ⟨h1, h2, h3, h4⟩ := h
  have c3 : tn (hb3 (jj (bwI P))) = pc 8 (bn P 64) := by rw [tn_hb3, tn_bw]
  generalize pc 8 (bn P 64) = C at *
  have c4 : tn (hb4 (jj (bwI P))) = pd C := by
    unfold hb4
    have e : tn (hsh (hb3 (jj (bwI P))) 8) = C / 256 := by
      rw [tn_sh (m := 8) (by decide), c3]
    rw [tn_add (by rw [c3, e]; exact h3), c3, e]
    rfl
  have c5 : tn (hb5 (jj (bwI P))) = pe C := by
    unfold hb5
    have e : tn (hsh (hb4 (jj (bwI P))) 16) = pd C / 65536 := by
      rw [tn_sh (m := 16) (by decide), c4]
    rw [tn_add (by rw [c4, e]; exact h4), c4, e]
    rfl
  have c6 : tn (hb6 (jj (bwI P))) = pzz C := by
    unfold hb6
    have e : tn (hsh (hb5 (jj (bwI P))) 32) = pe C / 4294967296 := by
      rw [tn_sh (m := 32) (by decide), c5]
    rw [tn_add (by rw [c5, e]; exact h2), c5, e]
    rfl
  rw [c6, h1, sb_64]
theorem sb_le (P : Nat → Bool) : ∀ k, sb P k ≤ k
  | 0 => Nat.le_refl 0
  | k + 1 => by
    have h : ∀ b, b1 b ≤ 1 := by decide
    have := sb_le P k
    have := h (P k)
    unfold sb
    omega
theorem hb_all (P : Nat → Bool) : (hb6 (jj (bwI P))).toInt32 &&& 127 = ii (sb P 64 : Nat) := by
  have h := hb_sum P
  have hl := sb_le P 64
  apply Int32.toBitVec_inj.mp
  apply BitVec.eq_of_toNat_eq
  have e : (ii (sb P 64 : Nat)).toBitVec = BitVec.ofNat 32 (sb P 64) := BitVec.ofInt_natCast _ _
  rw [Int32.toBitVec_and, BitVec.toNat_and, e, BitVec.toNat_ofNat, Nat.mod_eq_of_lt (Nat.lt_of_le_of_lt hl (by decide))]
  have e2 : (hb6 (jj (bwI P))).toInt32.toBitVec.toNat = tn (hb6 (jj (bwI P))) % 4294967296 := by
    rw [Int64.toBitVec_toInt32, BitVec.signExtend_eq_setWidth_of_le _ (by decide), BitVec.toNat_setWidth]
    rfl
  rw [e2, show (127 : Int32).toBitVec.toNat = 2 ^ 7 - 1 from rfl, Nat.and_two_pow_sub_one_eq_mod, ← h]
  omega
section L41
variable {sc : am_X} {w : wo}
theorem c250 (P : Nat → Bool) : am_F sc 250 [am_L (jj (bwI P))] (wst w) = some (some (am_I (ii (sb P 64 : Nat))), wst w) := by
  rw [fq_250]
  exact congrArg (fun z => some (some (am_I z), wst w)) (hb_all P)
end L41
