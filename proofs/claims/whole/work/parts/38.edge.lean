/-! EDGE -/
theorem sm_sh (f : Nat → Int) : ∀ n, sm f (n + 1) = f 0 + sm (fun i => f (i + 1)) n
  | 0 => by simp [sm]
  | n + 1 => by
    rw [sm_s, sm_sh f n, sm_s]
    omega
theorem sm_cat (f : Nat → Int) (a : Nat) : ∀ m, sm f (a + m) = sm f a + sm (fun i => f (a + i)) m
  | 0 => by simp [sm]
  | m + 1 => by
    rw [show a + (m + 1) = (a + m) + 1 from rfl, sm_s, sm_cat f a m, sm_s]
    omega
theorem sm_mul (c : Int) (f : Nat → Int) : ∀ n, sm (fun i => c * f i) n = c * sm f n
  | 0 => by simp [sm]
  | n + 1 => by rw [sm_s, sm_s, sm_mul c f n, Int.mul_add]
theorem bin (b : Int) : ∀ n : Nat, sm (fun k => (ch n k : Int) * b ^ k) (n + 1) = (1 + b) ^ n
  | 0 => by simp [sm, ch]
  | n + 1 => by
    have ih := bin b n
    have h1 := sm_sh (fun k => (ch (n + 1) k : Int) * b ^ k) (n + 1)
    have h2 : sm (fun i => (ch (n + 1) (i + 1) : Int) * b ^ (i + 1)) (n + 1) = sm (fun i => b * ((ch n i : Int) * b ^ i) + (ch n (i + 1) : Int) * b ^ (i + 1)) (n + 1) := sm_c (fun i _ => by
      rw [ch_s, Int.natCast_add, Int.add_mul, Int.pow_succ, Int.mul_comm b, Int.mul_assoc])
    have h3 := sm_sh (fun k => (ch n k : Int) * b ^ k) (n + 1)
    have h4 := sm_s (fun k => (ch n k : Int) * b ^ k) (n + 1)
    have h5 : (ch n (n + 1) : Int) = 0 := by rw [ch_no n (n + 1) (by omega)]; rfl
    simp only [h5, Int.zero_mul, Int.add_zero] at h4
    simp only [ch_0, Int.pow_zero, Int.mul_one] at h1 h3
    rw [h1, h2, sm_add, sm_mul, ih, Int.pow_succ, Int.mul_add, Int.mul_one, Int.mul_comm _ b]
    rw [h4, ih] at h3
    omega
theorem hwS_ran {P h b : Int} (hP : 0 ≤ P) (hP2 : P ≤ 60) (hh : 0 ≤ h) (hh2 : h ≤ P) (hb : 0 ≤ b) : 0 ≤ hwS P h b ∧ hwS P h b ≤ (1 + b) ^ P.toNat := by
  have h1 := bin b P.toNat
  have h2 := sm_cat (fun k => (ch P.toNat k : Int) * b ^ k) h.toNat (P + 1 - h).toNat
  rw [show h.toNat + (P + 1 - h).toNat = P.toNat + 1 from by omega, h1] at h2
  have h3 : hwS P h b = sm (fun i => (ch P.toNat (h.toNat + i) : Int) * b ^ (h.toNat + i)) (P + 1 - h).toNat := sm_c (fun i hi => by
    unfold hwF cg
    rw [if_pos (by omega), show (h + (i : Int)).toNat = h.toNat + i from by omega])
  have h4 : 0 ≤ sm (fun k => (ch P.toNat k : Int) * b ^ k) h.toNat := sm_nn (fun i _ => Int.mul_nonneg (by omega) (Int.pow_nonneg hb))
  have h5 : 0 ≤ sm (fun i => (ch P.toNat (h.toNat + i) : Int) * b ^ (h.toNat + i)) (P + 1 - h).toNat := sm_nn (fun i _ => Int.mul_nonneg (by omega) (Int.pow_nonneg hb))
  rw [h3]
  omega
theorem pow_ran {x : Int} {m : Nat} (hx : 1 ≤ x) (hx2 : x ≤ 21) (hm : m ≤ 14) : 1 ≤ x ^ m ∧ x ^ m ≤ 3243919932521508681 := by
  have : ∀ (i : Fin 21) (j : Fin 15), 1 ≤ ((i.val : Int) + 1) ^ j.val ∧ ((i.val : Int) + 1) ^ j.val ≤ 3243919932521508681 := by decide +kernel
  have h := this ⟨(x - 1).toNat, by omega⟩ ⟨m, by omega⟩
  simp only [show (((x - 1).toNat : Nat) : Int) + 1 = x from by omega] at h
  exact h
