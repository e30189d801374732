/-! THE CLASS MATCHES -/
/-- the nearest of the first k -/
def NL (s t : Int → Int) (k near least : Int) : Prop := (near = 0 ∧ least = 1000000000 ∧ ∀ j, 1 ≤ j → j ≤ k → t j = 0 → 1000000000 ≤ s j) ∨ (1 ≤ near ∧ near ≤ k ∧ t near = 0 ∧ s near = least ∧ least ≤ 1000000000 ∧ ∀ j, 1 ≤ j → j ≤ k → t j = 0 → least ≤ s j)
theorem NL_c {s s' t : Int → Int} {k near least : Int} (h : NL s t k near least) (he : ∀ j, 1 ≤ j → j ≤ k → s' j = s j) : NL s' t k near least := by
  rcases h with ⟨h1, h2, h3⟩ | ⟨h1, h2, h3, h4, h5, h6⟩
  · exact Or.inl ⟨h1, h2, fun j a b c => by rw [he j a b]; exact h3 j a b c⟩
  · exact Or.inr ⟨h1, h2, h3, by rw [he near h1 h2]; exact h4, h5, fun j a b c => by rw [he j a b]; exact h6 j a b c⟩
theorem NL_t {s t : Int → Int} {k near least : Int} (h : NL s t k near least) (ht : t (k + 1) = 1) : NL s t (k + 1) near least := by
  have e : ∀ {j}, 1 ≤ j → j ≤ k + 1 → t j = 0 → j ≤ k := fun {j} a b c => by
    by_cases z : j = k + 1
    · rw [z] at c
      omega
    · omega
  rcases h with ⟨h1, h2, h3⟩ | ⟨h1, h2, h3, h4, h5, h6⟩
  · exact Or.inl ⟨h1, h2, fun j a b c => h3 j a (e a b c) c⟩
  · exact Or.inr ⟨h1, by omega, h3, h4, h5, fun j a b c => h6 j a (e a b c) c⟩
theorem NL_n {s t : Int → Int} {k near least : Int} (hk : 0 ≤ k) (h : NL s t k near least) (ht : t (k + 1) = 0) (hs : s (k + 1) < least) : NL s t (k + 1) (k + 1) (s (k + 1)) := by
  have e : ∀ {j}, 1 ≤ j → j ≤ k + 1 → s (k + 1) ≤ s j ∨ j ≤ k := fun {j} a b => by
    by_cases z : j = k + 1
    · rw [z]
      exact Or.inl (Int.le_refl _)
    · omega
  rcases h with ⟨h1, h2, h3⟩ | ⟨h1, h2, h3, h4, h5, h6⟩
  · refine Or.inr ⟨by omega, by omega, ht, rfl, by omega, fun j a b c => ?_⟩
    rcases e a b with q | q
    · exact q
    · have := h3 j a q c
      omega
  · refine Or.inr ⟨by omega, by omega, ht, rfl, by omega, fun j a b c => ?_⟩
    rcases e a b with q | q
    · exact q
    · have := h6 j a q c
      omega
theorem NL_o {s t : Int → Int} {k near least : Int} (h : NL s t k near least) (hs : ¬ s (k + 1) < least) : NL s t (k + 1) near least := by
  have e : ∀ {j}, 1 ≤ j → j ≤ k + 1 → least ≤ s j ∨ j ≤ k := fun {j} a b => by
    by_cases z : j = k + 1
    · rw [z]
      exact Or.inl (by omega)
    · omega
  rcases h with ⟨h1, h2, h3⟩ | ⟨h1, h2, h3, h4, h5, h6⟩
  · refine Or.inl ⟨h1, h2, fun j a b c => ?_⟩
    rcases e a b with q | q
    · omega
    · exact h3 j a q c
  · refine Or.inr ⟨h1, by omega, h3, h4, h5, fun j a b c => ?_⟩
    rcases e a b with q | q
    · exact q
    · exact h6 j a q c
/-- the slack of the first k -/
def SL (C : Int → Int → Int) (w u : wo) (row col k : Int) : Prop := (∀ j, k < j → wA u 37 j = wA w 37 j ∧ wA u 36 j = wA w 36 j) ∧ (∀ j, 1 ≤ j → j ≤ k → wA w 38 j = 0 → (C row j - wA w 33 row - wA w 34 j < wA w 37 j → wA u 37 j = C row j - wA w 33 row - wA w 34 j ∧ wA u 36 j = col) ∧ (¬ C row j - wA w 33 row - wA w 34 j < wA w 37 j → wA u 37 j = wA w 37 j ∧ wA u 36 j = wA w 36 j)) ∧ ∀ j, 1 ≤ j → j ≤ k → wA w 38 j = 1 → wA u 36 j = wA w 36 j
section L66
variable {sc : am_X} {w : wo}
/-- the row at a column -/
theorem c158 {col : Int} (hc : 0 ≤ col ∧ col ≤ 10) (hr : 0 ≤ wA w 35 col ∧ wA w 35 col ≤ 10) : am_F sc 158 [am_R (some 29), am_I (ii col)] (wst w) = some (some (am_I (ii (wA w 35 col))), wst w) := by
  rw [fq_158]
  simp (disch := omega) only [qB_s, qC_t, qC_f, qI_T, qI_F, qI_t, qI_f, r_I, r_L, r_R, r_V, ii_add, ii_sub, ii_mul, ii_neg, bz_0, bz_1, Bool.true_and, Bool.false_and, Bool.and_true, z00, z11, li_0, li_10, e_35, gR_29_5, ii_lt]
theorem c166a {C : Int → Int → Int} {row col : Int} (hr : 1 ≤ row ∧ row ≤ 10) (hc : 0 ≤ col ∧ col ≤ 10) (h32 : ∀ a b, 1 ≤ a → a ≤ 10 → 1 ≤ b → b ≤ 10 → wA w 32 (a * 11 + b) = C a b) (hC : ∀ a b, 1 ≤ a → a ≤ 10 → 1 ≤ b → b ≤ 10 → 0 ≤ C a b ∧ C a b ≤ 100000) (hu : 0 ≤ wA w 33 row ∧ wA w 33 row ≤ 100000) (hv : ∀ b, 1 ≤ b → b ≤ 10 → -100000 ≤ wA w 34 b ∧ wA w 34 b ≤ 0) (ht : ∀ b, 0 ≤ b → b ≤ 10 → wA w 38 b = 0 ∨ wA w 38 b = 1) (hs : ∀ j, 1 ≤ j → j ≤ 10 → wA w 38 j = 0 → -200000 ≤ wA w 37 j ∧ wA w 37 j ≤ 1000000000) : ∃ (u : wo) (near least : Int), am_W sc 166 (15, [some (am_R (some 29)), some (am_I (ii col)), some (am_I (ii row)), some (am_I (ii 0)), some (am_I (ii 1000000000)), some (am_I (ii 1)), none], [], wst w) = am_W sc 166 (123, [some (am_R (some 29)), none, none, some (am_I (ii near)), some (am_I (ii least)), some (am_I (ii 0)), none], [], wst u) ∧ fr [3699, 3799] w u ∧ SL C w u row col 10 ∧ NL (wA u 37) (wA w 38) 10 near least := by
  obtain ⟨x, e, f1, h1, h2, h3⟩ := lp_s0 (am_W sc 166) (fun (k : Nat) (x : wo × Int × Int) => (15, [some (am_R (some 29)), some (am_I (ii col)), some (am_I (ii row)), some (am_I (ii x.2.1)), some (am_I (ii x.2.2)), some (am_I (ii ((k : Int) + 1))), none], [], wst x.1)) (fun k x => fr [3699, 3799] w x.1 ∧ SL C w x.1 row col k ∧ (-1000000 ≤ x.2.2 ∧ x.2.2 ≤ 1000000000) ∧ NL (wA x.1 37) (wA w 38) k x.2.1 x.2.2) 10 (fun k x hk hx => by
    obtain ⟨u, near, least⟩ := x
    obtain ⟨f1, ⟨s1, s2, s3⟩, hl, hn⟩ := hx
    have f1 : fr [3699, 3799] w u := f1
    have s1 : ∀ j, (k : Int) < j → wA u 37 j = wA w 37 j ∧ wA u 36 j = wA w 36 j := s1
    have hl : -1000000 ≤ least ∧ least ≤ 1000000000 := hl
    have hn : NL (wA u 37) (wA w 38) k near least := hn
    have a32 : wA u 32 = wA w 32 := fr_A (a := 32) f1 rfl
    have a33 : wA u 33 = wA w 33 := fr_A (a := 33) f1 rfl
    have a34 : wA u 34 = wA w 34 := fr_A (a := 34) f1 rfl
    have a38 : wA u 38 = wA w 38 := fr_A (a := 38) f1 rfl
    have e37 := s1 ((k : Int) + 1) (by omega)
    have e32 := h32 row ((k : Int) + 1) hr.1 hr.2 (by omega) (by omega)
    have hC1 := hC row ((k : Int) + 1) hr.1 hr.2 (by omega) (by omega)
    have hv1 := hv ((k : Int) + 1) (by omega) (by omega)
    rcases ht ((k : Int) + 1) (by omega) (by omega) with e38 | e38
    · have hs1 := hs ((k : Int) + 1) (by omega) (by omega) e38
      have ce : wA w 32 (row * 11 + ((k : Int) + 1)) - wA w 33 row - wA w 34 ((k : Int) + 1) = C row ((k : Int) + 1) - wA w 33 row - wA w 34 ((k : Int) + 1) := by rw [e32]
      by_cases q : C row ((k : Int) + 1) - wA w 33 row - wA w 34 ((k : Int) + 1) < wA w 37 ((k : Int) + 1)
      · generalize hK : C row ((k : Int) + 1) - wA w 33 row - wA w 34 ((k : Int) + 1) = K at *
        have f2 : fr [3699, 3799] w (uA (uA u 37 (fu (wA u 37) ((k : Int) + 1) K)) 36 (fu (wA u 36) ((k : Int) + 1) col)) := fr_uA (fr_uA f1 rfl) rfl
        have w37 : wA (uA (uA u 37 (fu (wA u 37) ((k : Int) + 1) K)) 36 (fu (wA u 36) ((k : Int) + 1) col)) 37 = fu (wA u 37) ((k : Int) + 1) K := by rw [rAn _ _ rfl, rA]
        have w36 : wA (uA (uA u 37 (fu (wA u 37) ((k : Int) + 1) K)) 36 (fu (wA u 36) ((k : Int) + 1) col)) 36 = fu (wA u 36) ((k : Int) + 1) col := by rw [rA]
        have hS : SL C w (uA (uA u 37 (fu (wA u 37) ((k : Int) + 1) K)) 36 (fu (wA u 36) ((k : Int) + 1) col)) row col ((k + 1 : Nat) : Int) := by
          unfold SL
          rw [w37, w36, nat_1]
          refine ⟨fun j hj => ?_, fun j h1 h2 h3 => ?_, fun j h1 h2 h3 => ?_⟩
          · rw [fu_at, fu_at, if_neg (by omega), if_neg (by omega)]
            exact s1 j (by omega)
          · rw [fu_at, fu_at]
            by_cases z : j = (k : Int) + 1
            · rw [if_pos z, if_pos z]
              rw [z, hK]
              exact ⟨fun _ => ⟨rfl, rfl⟩, fun y => absurd q y⟩
            · rw [if_neg z, if_neg z]
              exact s2 j h1 (by omega) h3
          · rw [fu_at]
            have z : j ≠ (k : Int) + 1 := fun z => by rw [z] at h3; omega
            rw [if_neg z]
            exact s3 j h1 (by omega) h3
        have hn2 : NL (fu (wA u 37) ((k : Int) + 1) K) (wA w 38) k near least := NL_c hn (fun j h1 h2 => by rw [fu_at, if_neg (by omega)])
        have hK1 : fu (wA u 37) ((k : Int) + 1) K ((k : Int) + 1) = K := by rw [fu_at, if_pos rfl]
        by_cases q2 : K < least
        · refine ⟨(uA (uA u 37 (fu (wA u 37) ((k : Int) + 1) K)) 36 (fu (wA u 36) ((k : Int) + 1) col), (k : Int) + 1, K), ?_, f2, hS, ⟨by show -1000000 ≤ K; omega, by show K ≤ 1000000000; omega⟩, ?_⟩
          · show am_W sc 166 (15, [some (am_R (some 29)), some (am_I (ii col)), some (am_I (ii row)), some (am_I (ii near)), some (am_I (ii least)), some (am_I (ii ((k : Int) + 1))), none], [], wst u) = am_W sc 166 (15, [some (am_R (some 29)), some (am_I (ii col)), some (am_I (ii row)), some (am_I (ii ((k : Int) + 1))), some (am_I (ii K)), some (am_I (ii (((k + 1 : Nat) : Int) + 1))), none], [], wst (uA (uA u 37 (fu (wA u 37) ((k : Int) + 1) K)) 36 (fu (wA u 36) ((k : Int) + 1) col)))
            rw [wq_166_15]
            simp (disch := omega) only [qB_s, qC_t, qC_f, qI_T, qI_F, qI_t, qI_f, r_I, r_L, r_R, r_V, ii_add, ii_sub, ii_mul, ii_neg, bz_0, bz_1, Bool.true_and, Bool.false_and, Bool.and_true, z00, z11, li_0, li_1, li_10, li_1000000000, li_11, e_32, e_33, e_34, e_36, e_37, e_38, gR_29_2, gR_29_3, gR_29_4, gR_29_6, gR_29_7, gR_29_8, is_29, t_32, t_33, t_34, t_36, t_37, ii_lt, ii_eq, a32, a33, a34, a38, e37, e38, ce, w37, hK1, uA_A, if_false, Nat.reduceEqDiff, nat_1]
          · show NL (wA (uA (uA u 37 (fu (wA u 37) ((k : Int) + 1) K)) 36 (fu (wA u 36) ((k : Int) + 1) col)) 37) (wA w 38) ((k + 1 : Nat) : Int) ((k : Int) + 1) K
            rw [w37, nat_1]
            have := NL_n (by omega) hn2 e38 (by rw [hK1]; exact q2)
            rw [hK1] at this
            exact this
        · refine ⟨(uA (uA u 37 (fu (wA u 37) ((k : Int) + 1) K)) 36 (fu (wA u 36) ((k : Int) + 1) col), near, least), ?_, f2, hS, hl, ?_⟩
          · show am_W sc 166 (15, [some (am_R (some 29)), some (am_I (ii col)), some (am_I (ii row)), some (am_I (ii near)), some (am_I (ii least)), some (am_I (ii ((k : Int) + 1))), none], [], wst u) = am_W sc 166 (15, [some (am_R (some 29)), some (am_I (ii col)), some (am_I (ii row)), some (am_I (ii near)), some (am_I (ii least)), some (am_I (ii (((k + 1 : Nat) : Int) + 1))), none], [], wst (uA (uA u 37 (fu (wA u 37) ((k : Int) + 1) K)) 36 (fu (wA u 36) ((k : Int) + 1) col)))
            rw [wq_166_15]
            simp (disch := omega) only [qB_s, qC_t, qC_f, qI_T, qI_F, qI_t, qI_f, r_I, r_L, r_R, r_V, ii_add, ii_sub, ii_mul, ii_neg, bz_0, bz_1, Bool.true_and, Bool.false_and, Bool.and_true, z00, z11, li_0, li_1, li_10, li_1000000000, li_11, e_32, e_33, e_34, e_36, e_37, e_38, gR_29_2, gR_29_3, gR_29_4, gR_29_6, gR_29_7, gR_29_8, is_29, t_32, t_33, t_34, t_36, t_37, ii_lt, ii_eq, a32, a33, a34, a38, e37, e38, ce, w37, hK1, uA_A, if_false, Nat.reduceEqDiff, nat_1]
          · show NL (wA (uA (uA u 37 (fu (wA u 37) ((k : Int) + 1) K)) 36 (fu (wA u 36) ((k : Int) + 1) col)) 37) (wA w 38) ((k + 1 : Nat) : Int) near least
            rw [w37, nat_1]
            exact NL_o hn2 (by rw [hK1]; exact q2)
      · have hS : SL C w u row col ((k + 1 : Nat) : Int) := by
          rw [nat_1]
          refine ⟨fun j hj => s1 j (by omega), fun j h1 h2 h3 => ?_, fun j h1 h2 h3 => ?_⟩
          · by_cases z : j = (k : Int) + 1
            · rw [z]
              exact ⟨fun y => absurd y q, fun _ => e37⟩
            · exact s2 j h1 (by omega) h3
          · have z : j ≠ (k : Int) + 1 := fun z => by rw [z] at h3; omega
            exact s3 j h1 (by omega) h3
        generalize hK : C row ((k : Int) + 1) - wA w 33 row - wA w 34 ((k : Int) + 1) = K at *
        by_cases q2 : wA w 37 ((k : Int) + 1) < least
        · refine ⟨(u, (k : Int) + 1, wA w 37 ((k : Int) + 1)), ?_, f1, hS, ⟨by show -1000000 ≤ wA w 37 _; omega, by show wA w 37 _ ≤ 1000000000; omega⟩, ?_⟩
          · show am_W sc 166 (15, [some (am_R (some 29)), some (am_I (ii col)), some (am_I (ii row)), some (am_I (ii near)), some (am_I (ii least)), some (am_I (ii ((k : Int) + 1))), none], [], wst u) = am_W sc 166 (15, [some (am_R (some 29)), some (am_I (ii col)), some (am_I (ii row)), some (am_I (ii ((k : Int) + 1))), some (am_I (ii (wA w 37 ((k : Int) + 1)))), some (am_I (ii (((k + 1 : Nat) : Int) + 1))), none], [], wst u)
            rw [wq_166_15]
            simp (disch := omega) only [qB_s, qC_t, qC_f, qI_T, qI_F, qI_t, qI_f, r_I, r_L, r_R, r_V, ii_add, ii_sub, ii_mul, ii_neg, bz_0, bz_1, Bool.true_and, Bool.false_and, Bool.and_true, z00, z11, li_0, li_1, li_10, li_1000000000, li_11, e_32, e_33, e_34, e_36, e_37, e_38, gR_29_2, gR_29_3, gR_29_4, gR_29_6, gR_29_7, gR_29_8, is_29, t_32, t_33, t_34, t_36, t_37, ii_lt, ii_eq, a32, a33, a34, a38, e37, e38, ce, nat_1]
          · show NL (wA u 37) (wA w 38) ((k + 1 : Nat) : Int) ((k : Int) + 1) (wA w 37 ((k : Int) + 1))
            rw [nat_1]
            have := NL_n (by omega) hn e38 (by rw [e37.1]; exact q2)
            rw [e37.1] at this
            exact this
        · refine ⟨(u, near, least), ?_, f1, hS, hl, ?_⟩
          · show am_W sc 166 (15, [some (am_R (some 29)), some (am_I (ii col)), some (am_I (ii row)), some (am_I (ii near)), some (am_I (ii least)), some (am_I (ii ((k : Int) + 1))), none], [], wst u) = am_W sc 166 (15, [some (am_R (some 29)), some (am_I (ii col)), some (am_I (ii row)), some (am_I (ii near)), some (am_I (ii least)), some (am_I (ii (((k + 1 : Nat) : Int) + 1))), none], [], wst u)
            rw [wq_166_15]
            simp (disch := omega) only [qB_s, qC_t, qC_f, qI_T, qI_F, qI_t, qI_f, r_I, r_L, r_R, r_V, ii_add, ii_sub, ii_mul, ii_neg, bz_0, bz_1, Bool.true_and, Bool.false_and, Bool.and_true, z00, z11, li_0, li_1, li_10, li_1000000000, li_11, e_32, e_33, e_34, e_36, e_37, e_38, gR_29_2, gR_29_3, gR_29_4, gR_29_6, gR_29_7, gR_29_8, is_29, t_32, t_33, t_34, t_36, t_37, ii_lt, ii_eq, a32, a33, a34, a38, e37, e38, ce, nat_1]
          · show NL (wA u 37) (wA w 38) ((k + 1 : Nat) : Int) near least
            rw [nat_1]
            exact NL_o hn (by rw [e37.1]; exact q2)
    · refine ⟨(u, near, least), ?_, f1, ?_, hl, ?_⟩
      · show am_W sc 166 (15, [some (am_R (some 29)), some (am_I (ii col)), some (am_I (ii row)), some (am_I (ii near)), some (am_I (ii least)), some (am_I (ii ((k : Int) + 1))), none], [], wst u) = am_W sc 166 (15, [some (am_R (some 29)), some (am_I (ii col)), some (am_I (ii row)), some (am_I (ii near)), some (am_I (ii least)), some (am_I (ii (((k + 1 : Nat) : Int) + 1))), none], [], wst u)
        rw [wq_166_15]
        simp (disch := omega) only [qB_s, qC_t, qC_f, qI_T, qI_F, qI_t, qI_f, r_I, r_L, r_R, r_V, ii_add, ii_sub, ii_mul, ii_neg, bz_0, bz_1, Bool.true_and, Bool.false_and, Bool.and_true, z00, z11, li_0, li_1, li_10, li_1000000000, li_11, e_32, e_33, e_34, e_36, e_37, e_38, gR_29_2, gR_29_3, gR_29_4, gR_29_6, gR_29_7, gR_29_8, is_29, t_32, t_33, t_34, t_36, t_37, ii_lt, ii_eq, a38, e38, nat_1]
      · show SL C w u row col ((k + 1 : Nat) : Int)
        rw [nat_1]
        refine ⟨fun j hj => s1 j (by omega), fun j h1 h2 h3 => ?_, fun j h1 h2 h3 => ?_⟩
        · have z : j ≠ (k : Int) + 1 := fun z => by rw [z] at h3; omega
          exact s2 j h1 (by omega) h3
        · by_cases z : j = (k : Int) + 1
          · rw [z]
            exact e37.2
          · exact s3 j h1 (by omega) h3
      · show NL (wA u 37) (wA w 38) ((k + 1 : Nat) : Int) near least
        rw [nat_1]
        exact NL_t hn e38) (w, 0, 1000000000) ⟨fr_r _ _, ⟨fun _ _ => ⟨rfl, rfl⟩, fun j h1 h2 => by omega, fun j h1 h2 => by omega⟩, ⟨(by decide : (-1000000 : Int) ≤ 1000000000), Int.le_refl _⟩, Or.inl ⟨rfl, rfl, fun j h1 h2 => by omega⟩⟩
  obtain ⟨u, near, least⟩ := x
  refine ⟨u, near, least, ?_, f1, h1, h3⟩
  have e' : am_W sc 166 (15, [some (am_R (some 29)), some (am_I (ii col)), some (am_I (ii row)), some (am_I (ii 0)), some (am_I (ii 1000000000)), some (am_I (ii 1)), none], [], wst w) = am_W sc 166 (15, [some (am_R (some 29)), some (am_I (ii col)), some (am_I (ii row)), some (am_I (ii near)), some (am_I (ii least)), some (am_I (ii 11)), none], [], wst u) := e
  rw [e', wq_166_15]
  simp (disch := omega) only [qB_s, qC_t, qC_f, qI_T, qI_F, qI_t, qI_f, r_I, r_L, r_R, r_V, ii_add, ii_sub, ii_mul, ii_neg, bz_0, bz_1, Bool.true_and, Bool.false_and, Bool.and_true, z00, z11, li_0, li_1, li_10, li_1000000000, li_11, e_32, e_33, e_34, e_36, e_37, e_38, gR_29_2, gR_29_3, gR_29_4, gR_29_6, gR_29_7, gR_29_8, is_29, t_32, t_33, t_34, t_36, t_37, ii_lt]
theorem c166b {near least : Int} (hr : ∀ b, 0 ≤ b → b ≤ 10 → wA w 38 b = 1 → 1 ≤ wA w 35 b ∧ wA w 35 b ≤ 10) (hinj : ∀ b b', 0 ≤ b → b ≤ 10 → 0 ≤ b' → b' ≤ 10 → wA w 38 b = 1 → wA w 38 b' = 1 → wA w 35 b = wA w 35 b' → b = b') (ht : ∀ b, 0 ≤ b → b ≤ 10 → wA w 38 b = 0 ∨ wA w 38 b = 1) : ∃ u, am_W sc 166 (123, [some (am_R (some 29)), none, none, some (am_I (ii near)), some (am_I (ii least)), some (am_I (ii 0)), none], [], wst w) = some (some (am_I (ii near)), wst u) ∧ fr [3399, 3499, 3799] w u ∧ (∀ b, 0 ≤ b → b ≤ 10 → wA w 38 b = 1 → wA u 33 (wA w 35 b) = wA w 33 (wA w 35 b) + least) ∧ (∀ a, (∀ b, 0 ≤ b → b ≤ 10 → wA w 38 b = 1 → wA w 35 b ≠ a) → wA u 33 a = wA w 33 a) ∧ (∀ b, 0 ≤ b → b ≤ 10 → wA w 38 b = 1 → wA u 34 b = wA w 34 b - least) ∧ (∀ b, 0 ≤ b → b ≤ 10 → wA w 38 b = 0 → wA u 34 b = wA w 34 b ∧ wA u 37 b = wA w 37 b - least) := by
  obtain ⟨u, e, f1, h1, h2, h3, h4, h5⟩ := lp_s0 (am_W sc 166) (fun (k : Nat) (u : wo) => (123, [some (am_R (some 29)), none, none, some (am_I (ii near)), some (am_I (ii least)), some (am_I (ii k)), none], [], wst u)) (fun k u => fr [3399, 3499, 3799] w u ∧ (∀ b : Int, 0 ≤ b → b < k → wA w 38 b = 1 → wA u 33 (wA w 35 b) = wA w 33 (wA w 35 b) + least) ∧ (∀ a, (∀ b : Int, 0 ≤ b → b < k → wA w 38 b = 1 → wA w 35 b ≠ a) → wA u 33 a = wA w 33 a) ∧ (∀ b : Int, 0 ≤ b → b < k → wA w 38 b = 1 → wA u 34 b = wA w 34 b - least) ∧ (∀ b : Int, 0 ≤ b → b < k → wA w 38 b = 0 → wA u 34 b = wA w 34 b ∧ wA u 37 b = wA w 37 b - least) ∧ ∀ b : Int, (k : Int) ≤ b → wA u 34 b = wA w 34 b ∧ wA u 37 b = wA w 37 b) 11 (fun k u hk hu => by
    obtain ⟨f1, h1, h2, h3, h4, h5⟩ := hu
    have a35 : wA u 35 = wA w 35 := fr_A (a := 35) f1 rfl
    have a38 : wA u 38 = wA w 38 := fr_A (a := 38) f1 rfl
    have e5 := h5 k (Int.le_refl _)
    rcases ht k (by omega) (by omega) with e38 | e38
    · have w34 : wA (uA u 37 (fu (wA u 37) k (wA w 37 k - least))) 34 = wA u 34 := rAn _ _ rfl
      have w33 : wA (uA u 37 (fu (wA u 37) k (wA w 37 k - least))) 33 = wA u 33 := rAn _ _ rfl
      refine ⟨uA u 37 (fu (wA u 37) k (wA w 37 k - least)), ?_, fr_uA f1 rfl, fun b b0 b1 b2 => ?_, fun a ha => ?_, fun b b0 b1 b2 => ?_, fun b b0 b1 b2 => ?_, fun b b0 => ?_⟩
      · rw [wq_166_123]
        simp (disch := omega) only [qB_s, qC_t, qC_f, qI_T, qI_F, qI_t, qI_f, r_I, r_L, r_R, r_V, ii_add, ii_sub, ii_mul, ii_neg, bz_0, bz_1, Bool.true_and, Bool.false_and, Bool.and_true, z00, z11, li_0, li_1, li_10, li_1000000000, li_11, e_32, e_33, e_34, e_36, e_37, e_38, gR_29_2, gR_29_3, gR_29_4, gR_29_6, gR_29_7, gR_29_8, is_29, t_32, t_33, t_34, t_36, t_37, ii_lt, ii_eq, a38, e38, e5, nat_1]
      · rw [w33]
        have z : b ≠ k := fun z => by rw [z] at b2; omega
        exact h1 b b0 (by omega) b2
      · rw [w33]
        exact h2 a (fun b b0 b1 => ha b b0 (by omega))
      · rw [w34]
        have z : b ≠ k := fun z => by rw [z] at b2; omega
        exact h3 b b0 (by omega) b2
      · rw [w34, rA, fu_at]
        by_cases z : b = k
        · rw [z, if_pos rfl]
          exact ⟨e5.1, rfl⟩
        · rw [if_neg z]
          exact h4 b b0 (by omega) b2
      · rw [w34, rA, fu_at, if_neg (by omega)]
        exact h5 b (by omega)
    · have hrk := hr k (by omega) (by omega) e38
      have e33 := h2 (wA w 35 k) (fun b b0 b1 b2 b3 => by
        have := hinj b k b0 (by omega) (by omega) (by omega) b2 e38 b3
        omega)
      have w37 : wA (uA (uA u 33 (fu (wA u 33) (wA w 35 k) (wA w 33 (wA w 35 k) + least))) 34 (fu (wA u 34) k (wA w 34 k - least))) 37 = wA u 37 := by rw [rAn _ _ rfl, rAn _ _ rfl]
      have w33 : wA (uA (uA u 33 (fu (wA u 33) (wA w 35 k) (wA w 33 (wA w 35 k) + least))) 34 (fu (wA u 34) k (wA w 34 k - least))) 33 = fu (wA u 33) (wA w 35 k) (wA w 33 (wA w 35 k) + least) := by rw [rAn _ _ rfl, rA]
      have w34 : wA (uA (uA u 33 (fu (wA u 33) (wA w 35 k) (wA w 33 (wA w 35 k) + least))) 34 (fu (wA u 34) k (wA w 34 k - least))) 34 = fu (wA u 34) k (wA w 34 k - least) := by rw [rA]
      refine ⟨uA (uA u 33 (fu (wA u 33) (wA w 35 k) (wA w 33 (wA w 35 k) + least))) 34 (fu (wA u 34) k (wA w 34 k - least)), ?_, fr_uA (fr_uA f1 rfl) rfl, fun b b0 b1 b2 => ?_, fun a ha => ?_, fun b b0 b1 b2 => ?_, fun b b0 b1 b2 => ?_, fun b b0 => ?_⟩
      · have p158 := c158 (sc := sc) (w := u) (col := k) (by omega) (by rw [a35]; omega)
        rw [a35] at p158
        rw [wq_166_123]
        simp (disch := omega) only [qB_s, qC_t, qC_f, qI_T, qI_F, qI_t, qI_f, r_I, r_L, r_R, r_V, ii_add, ii_sub, ii_mul, ii_neg, bz_0, bz_1, Bool.true_and, Bool.false_and, Bool.and_true, z00, z11, li_0, li_1, li_10, li_1000000000, li_11, e_32, e_33, e_34, e_36, e_37, e_38, gR_29_2, gR_29_3, gR_29_4, gR_29_6, gR_29_7, gR_29_8, is_29, t_32, t_33, t_34, t_36, t_37, ii_lt, ii_eq, a35, a38, e38, e33, e5, p158, uA_A, if_false, Nat.reduceEqDiff, nat_1]
      · rw [w33, fu_at]
        by_cases z : wA w 35 b = wA w 35 k
        · rw [if_pos z, z]
        · rw [if_neg z]
          have z2 : b ≠ k := fun y => z (by rw [y])
          exact h1 b b0 (by omega) b2
      · rw [w33, fu_at]
        have z := ha k (by omega) (by omega) e38
        rw [if_neg (fun y => z y.symm)]
        exact h2 a (fun b b0 b1 => ha b b0 (by omega))
      · rw [w34, fu_at]
        by_cases z : b = k
        · rw [if_pos z, z]
        · rw [if_neg z]
          exact h3 b b0 (by omega) b2
      · have z : b ≠ k := fun z => by rw [z] at b2; omega
        rw [w34, w37, fu_at, if_neg z]
        exact h4 b b0 (by omega) b2
      · rw [w34, w37, fu_at, if_neg (by omega)]
        exact h5 b (by omega)) w ⟨fr_r _ _, fun b h1 h2 => by omega, fun a _ => rfl, fun b h1 h2 => by omega, fun b h1 h2 => by omega, fun b _ => ⟨rfl, rfl⟩⟩
  refine ⟨u, ?_, f1, fun b b0 b1 => h1 b b0 (by omega), fun a ha => h2 a (fun b b0 b1 => ha b b0 (by omega)), fun b b0 b1 => h3 b b0 (by omega), fun b b0 b1 => h4 b b0 (by omega)⟩
  have e' : am_W sc 166 (123, [some (am_R (some 29)), none, none, some (am_I (ii near)), some (am_I (ii least)), some (am_I (ii 0)), none], [], wst w) = am_W sc 166 (123, [some (am_R (some 29)), none, none, some (am_I (ii near)), some (am_I (ii least)), some (am_I (ii 11)), none], [], wst u) := e
  rw [e', wq_166_123]
  simp (disch := omega) only [qB_s, qC_t, qC_f, qI_T, qI_F, qI_t, qI_f, r_I, r_L, r_R, r_V, ii_add, ii_sub, ii_mul, ii_neg, bz_0, bz_1, Bool.true_and, Bool.false_and, Bool.and_true, z00, z11, li_0, li_1, li_10, li_1000000000, li_11, e_32, e_33, e_34, e_36, e_37, e_38, gR_29_2, gR_29_3, gR_29_4, gR_29_6, gR_29_7, gR_29_8, is_29, t_32, t_33, t_34, t_36, t_37, ii_lt]
theorem c165 {col : Int} (hc : 0 ≤ col ∧ col ≤ 10) (hr : 0 ≤ wA w 35 col ∧ wA w 35 col ≤ 10) : am_F sc 165 [am_R (some 29), am_I (ii col)] (wst w) = some (some (am_I (ii (bz (wA w 35 col ≠ 0)))), wst w) := by
  rw [fq_165]
  by_cases z : wA w 35 col = 0
  · rw [bz_f (fun y => y z)]
    simp (disch := omega) only [qB_s, qC_t, qC_f, qI_T, qI_F, qI_t, qI_f, r_I, r_L, r_R, r_V, ii_add, ii_sub, ii_mul, ii_neg, bz_0, bz_1, Bool.true_and, Bool.false_and, Bool.and_true, z00, z11, li_0, li_1, li_10, e_35, gR_29_5, ii_lt, ii_eq, z]
  · rw [bz_t z]
    simp (disch := omega) only [qB_s, qC_t, qC_f, qI_T, qI_F, qI_t, qI_f, r_I, r_L, r_R, r_V, ii_add, ii_sub, ii_mul, ii_neg, bz_0, bz_1, Bool.true_and, Bool.false_and, Bool.and_true, z00, z11, li_0, li_1, li_10, e_35, gR_29_5, ii_lt, ii_eq]
/-- the costs -/
def CO (w : wo) (C : Int → Int → Int) : Prop := (∀ a b, 1 ≤ a → a ≤ 10 → 1 ≤ b → b ≤ 10 → wA w 32 (a * 11 + b) = C a b) ∧ ∀ a b, 1 ≤ a → a ≤ 10 → 1 ≤ b → b ≤ 10 → 0 ≤ C a b ∧ C a b ≤ 100000
def gHBw (C : Int → Int → Int) (w : wo) (i : Int) (k : Nat) (col : Int) (tm : Int → Int) : Prop := gHB C (wA w 33) (wA w 34) (wA w 35) i k col (wA w 36) (wA w 37) (wA w 38) tm
theorem CO_fr {C : Int → Int → Int} {l : List Nat} {u : wo} (h : CO w C) (f : fr l w u) (q : fhas l 3299 = false) : CO u C := ⟨by rw [fr_A (a := 32) f q]; exact h.1, h.2⟩
/-- a further column is reached -/
theorem c166 {C : Int → Int → Int} {i : Int} {k : Nat} {col : Int} {tm : Int → Int} (hO : CO w C) (hB : gHBw C w i k col tm) (hi1 : 1 ≤ i) (hi : i ≤ 10) (hc : wA w 35 col ≠ 0) : ∃ (u : wo) (near : Int), am_F sc 166 [am_R (some 29), am_I (ii col)] (wst (uA w 38 (fu (wA w 38) col 1))) = some (some (am_I (ii near)), wst u) ∧ fr [3399, 3499, 3699, 3799, 3899] w u ∧ gHBw C u i (k + 1) near (fu tm col k) := by
  have hrow := gHB_row hB hi1 hi hc
  have hbd := gHB_b hB hO.2 hi
  have hsl := fun {s1 f1} => gHB_sl hB hO.2 hi1 hi hc (s1 := s1) (f1 := f1)
  have hup := fun {s1 f1} => gHB_up hB hO.2 hi1 hi hc (s1 := s1) (f1 := f1)
  obtain ⟨hA, b1, b2, b3, b4, b5, b6, b7⟩ := id hB
  have v38 : wA (uA w 38 (fu (wA w 38) col 1)) 38 = fu (wA w 38) col 1 := by rw [rA]
  have v32 : wA (uA w 38 (fu (wA w 38) col 1)) 32 = wA w 32 := rAn _ _ rfl
  have v33 : wA (uA w 38 (fu (wA w 38) col 1)) 33 = wA w 33 := rAn _ _ rfl
  have v34 : wA (uA w 38 (fu (wA w 38) col 1)) 34 = wA w 34 := rAn _ _ rfl
  have v35 : wA (uA w 38 (fu (wA w 38) col 1)) 35 = wA w 35 := rAn _ _ rfl
  have v36 : wA (uA w 38 (fu (wA w 38) col 1)) 36 = wA w 36 := rAn _ _ rfl
  have v37 : wA (uA w 38 (fu (wA w 38) col 1)) 37 = wA w 37 := rAn _ _ rfl
  have hfv : fr [3899] w (uA w 38 (fu (wA w 38) col 1)) := fr_uA (fr_r _ _) rfl
  have hrc := (hrow col b4.1 b4.2.1 (by rw [fu_at, if_pos rfl])).1
  have ht1 : ∀ b, 0 ≤ b → b ≤ 10 → fu (wA w 38) col 1 b = 0 ∨ fu (wA w 38) col 1 b = 1 := fun b h1 h2 => by
    rw [fu_at]
    split
    · exact Or.inr rfl
    · exact (b2 b h1 h2).1
  have ht0 : ∀ b, fu (wA w 38) col 1 b = 0 → wA w 38 b = 0 := fun b h => by
    rw [fu_at] at h
    split at h
    · omega
    · exact h
  generalize hV : uA w 38 (fu (wA w 38) col 1) = V at *
  obtain ⟨u1, near, least, e1, f1, s1, n1⟩ := c166a (sc := sc) (w := V) (C := C) (row := wA w 35 col) (col := col) hrc ⟨b4.1, b4.2.1⟩ (by rw [v32]; exact hO.1) hO.2 (by rw [v33]; exact hbd.1 _ hrc.1 hrc.2) (by rw [v34]; exact hbd.2.1) (by rw [v38]; exact ht1) (by rw [v38, v37]; exact fun j h1 h2 h3 => hbd.2.2 j h1 h2 (ht0 j h3))
  have a33 : wA u1 33 = wA w 33 := by rw [fr_A (a := 33) f1 rfl, v33]
  have a34 : wA u1 34 = wA w 34 := by rw [fr_A (a := 34) f1 rfl, v34]
  have a35 : wA u1 35 = wA w 35 := by rw [fr_A (a := 35) f1 rfl, v35]
  have a38 : wA u1 38 = fu (wA w 38) col 1 := by rw [fr_A (a := 38) f1 rfl, v38]
  obtain ⟨-, s2, s3⟩ := s1
  rw [v38, v37, v36, v34, v33] at s2
  rw [v38, v36] at s3
  rw [v38] at n1
  have hn : 1 ≤ near ∧ near ≤ 10 ∧ fu (wA w 38) col 1 near = 0 ∧ wA u1 37 near = least ∧ ∀ j, 1 ≤ j → j ≤ 10 → fu (wA w 38) col 1 j = 0 → least ≤ wA u1 37 j := by
    rcases n1 with ⟨m1, m2, m3⟩ | ⟨m1, m2, m3, m4, m5, m6⟩
    · obtain ⟨f0, k1, k2, k3⟩ := gHA_free hA (by omega)
      have t0 : fu (wA w 38) col 1 f0 = 0 := by
        rcases ht1 f0 (by omega) k2 with y | y
        · exact y
        · have := (hrow f0 (by omega) k2 y).1
          omega
      obtain ⟨d1, ⟨d2, d3, d4⟩, d5⟩ := hsl s2 f0 k1 k2 t0
      have d6 := (hrow _ d2 d3 d4).1
      have d7 := hO.2 _ f0 d6.1 d6.2 k1 k2
      have d8 := hbd.1 _ d6.1 d6.2
      have d9 := hbd.2.1 f0 k1 k2
      have d10 := m3 f0 k1 k2 t0
      omega
    · exact ⟨m1, m2, m3, m4, m6⟩
  obtain ⟨u2, e2, f2, g1, g2, g3, g4⟩ := c166b (sc := sc) (w := u1) (near := near) (least := least) (by rw [a38, a35]; exact fun b h1 h2 h3 => (hrow b h1 h2 h3).1) (by
    rw [a38, a35]
    intro b b' h1 h2 h3 h4 h5 h6 h7
    by_cases z : b' = 0
    · by_cases z2 : b = 0
      · omega
      · exact ((hrow b' h3 h4 h6).2 b (by omega) h2 h7.symm).symm
    · exact (hrow b h1 h2 h5).2 b' (by omega) h4 h7) (by rw [a38]; exact ht1)
  rw [a38, a35, a33] at g1 g2
  rw [a38, a34] at g3 g4
  have r35 : wA u2 35 = wA w 35 := by rw [fr_A (a := 35) f2 rfl, a35]
  have r36 : wA u2 36 = wA u1 36 := by rw [fr_A (a := 36) f2 rfl]
  have r38 : wA u2 38 = fu (wA w 38) col 1 := by rw [fr_A (a := 38) f2 rfl, a38]
  refine ⟨u2, near, ?_, fr_t (fr_t (fr_m hfv rfl) (fr_m f1 rfl)) (fr_m f2 rfl), ?_⟩
  · rw [fq_166]
    have hcc := b4
    have p158 := c158 (sc := sc) (w := V) (col := col) ⟨b4.1, b4.2.1⟩ (by rw [v35]; omega)
    rw [v35] at p158
    simp (disch := omega) only [qB_s, qC_t, qC_f, qI_T, qI_F, qI_t, qI_f, r_I, r_L, r_R, r_V, ii_add, ii_sub, ii_mul, ii_neg, bz_0, bz_1, Bool.true_and, Bool.false_and, Bool.and_true, z00, z11, li_0, li_1, li_10, li_1000000000, li_11, e_32, e_33, e_34, e_36, e_37, e_38, gR_29_2, gR_29_3, gR_29_4, gR_29_6, gR_29_7, gR_29_8, is_29, t_32, t_33, t_34, t_36, t_37, p158]
    exact e1.trans e2
  · unfold gHBw
    rw [r35, r36, r38]
    exact hup s2 s3 hn g1 g2 g3 g4
/-- columns are reached until one is free -/
theorem c167b {C : Int → Int → Int} {i : Int} (hi1 : 1 ≤ i) (hi : i ≤ 10) : ∀ (d k : Nat) (w : wo) (col : Int) (tm : Int → Int), k + d = 11 → CO w C → gHBw C w i k col tm → ∃ (u : wo) (k' : Nat) (col' : Int) (tm' : Int → Int), am_W sc 167 (40, [some (am_R (some 29)), none, some (am_I (ii col)), some (am_I (ii k)), none], [], wst w) = am_W sc 167 (75, [some (am_R (some 29)), none, some (am_I (ii col')), some (am_I (ii 0)), none], [], wst u) ∧ fr [3399, 3499, 3699, 3799, 3899] w u ∧ gHBw C u i k' col' tm' ∧ wA u 35 col' = 0
  | 0, k, w, col, tm, hd, hO, hB => by
    have := gHB_k hB hi
    omega
  | d + 1, k, w, col, tm, hd, hO, hB => by
    have hk := gHB_k hB hi
    obtain ⟨hA, b1, b2, b3, b4, b5, b6, b7⟩ := id hB
    have hrr : 0 ≤ wA w 35 col ∧ wA w 35 col ≤ 10 := by
      by_cases z : col = 0
      · rw [z, b1]
        omega
      · have := hA.2.2.1 col (by omega) b4.2.1
        omega
    have e1 := c165 (sc := sc) (w := w) (col := col) ⟨b4.1, b4.2.1⟩ hrr
    have hcc := b4
    by_cases z : wA w 35 col = 0
    · rw [bz_f (fun y => y z)] at e1
      refine ⟨w, k, col, tm, ?_, fr_r _ _, hB, z⟩
      rw [wq_167_40]
      simp (disch := omega) only [qB_s, qC_t, qC_f, qI_T, qI_F, qI_t, qI_f, r_I, r_L, r_R, r_V, ii_add, ii_sub, ii_mul, ii_neg, bz_0, bz_1, Bool.true_and, Bool.false_and, Bool.and_true, z00, z11, li_0, li_1, li_10, li_1000000000, e_35, e_36, e_37, e_38, gR_29_5, gR_29_6, gR_29_7, gR_29_8, is_29, t_35, t_36, t_37, t_38, ii_lt, ii_eq, e1]
    · rw [bz_t z] at e1
      obtain ⟨u1, near, e2, f2, h2⟩ := c166 (sc := sc) hO hB hi1 hi z
      obtain ⟨u, k', col', tm', e3, f3, h3, h4⟩ := c167b hi1 hi d (k + 1) u1 near _ (by omega) (CO_fr hO f2 rfl) h2
      refine ⟨u, k', col', tm', ?_, fr_t f2 f3, h3, h4⟩
      rw [← e3, wq_167_40]
      simp (disch := omega) only [qB_s, qC_t, qC_f, qI_T, qI_F, qI_t, qI_f, r_I, r_L, r_R, r_V, ii_add, ii_sub, ii_mul, ii_neg, bz_0, bz_1, Bool.true_and, Bool.false_and, Bool.and_true, z00, z11, li_0, li_1, li_10, li_1000000000, e_35, e_36, e_37, e_38, gR_29_5, gR_29_6, gR_29_7, gR_29_8, is_29, t_35, t_36, t_37, t_38, ii_lt, ii_eq, e1, e2, nat_1]
/-- the rows move along -/
theorem c167c {C : Int → Int → Int} {u0 v0 r0 f0 t0 tm : Int → Int} {i col : Int} (hi1 : 1 ≤ i) (hi : i ≤ 10) (hp : gHP C u0 v0 r0 i col f0 t0 tm) : ∀ (d : Nat) (k : Nat) (w : wo) (h : Int), k + d ≤ 10 → 0 ≤ tm h ∧ tm h ≤ d → wA w 36 = f0 → gHF C u0 v0 r0 i col f0 t0 tm (wA w 35) h → ∃ u, am_W sc 167 (75, [some (am_R (some 29)), none, some (am_I (ii h)), some (am_I (ii k)), none], [], wst w) = some (none, wst u) ∧ fr [3599] w u ∧ gHF C u0 v0 r0 i col f0 t0 tm (wA u 35) 0
  | d, k, w, h, hk, ht, h36, hf => by
    by_cases z : h = 0
    · subst z
      refine ⟨w, ?_, fr_r _ _, hf⟩
      rw [wq_167_75]
      simp (disch := omega) only [qB_s, qC_t, qC_f, qI_T, qI_F, qI_t, qI_f, r_I, r_L, r_R, r_V, ii_add, ii_sub, ii_mul, ii_neg, bz_0, bz_1, Bool.true_and, Bool.false_and, Bool.and_true, z00, z11, li_0, li_1, li_10, li_1000000000, e_35, e_36, e_37, e_38, gR_29_5, gR_29_6, gR_29_7, gR_29_8, is_29, t_35, t_36, t_37, t_38, ii_lt]
    · obtain ⟨s1, s2, s3, s4⟩ := gHF_s hp hf hi1 z
      have hh := hf.1
      match d, hk, ht with
      | 0, hk, ht => omega
      | d + 1, hk, ht =>
        have e36 : wA w 36 h = f0 h := by rw [h36]
        have f1 : fr [3599] w (uA w 35 (fu (wA w 35) h (wA w 35 (f0 h)))) := fr_uA (fr_r _ _) rfl
        obtain ⟨u, e, f2, h2⟩ := c167c hi1 hi hp d (k + 1) (uA w 35 (fu (wA w 35) h (wA w 35 (f0 h)))) (f0 h) (by omega) ⟨s4, by omega⟩ (by rw [fr_A (a := 36) f1 rfl]; exact h36) (by rw [rA]; exact s1)
        have hrr : 0 ≤ wA w 35 (f0 h) ∧ wA w 35 (f0 h) ≤ 10 := by
          by_cases z2 : f0 h = 0
          · rw [z2, hf.2.2.2.1]
            omega
          · have nh : f0 h ≠ h := fun y => by
              rw [y] at s3
              omega
            have := (hf.2.2.1 (f0 h) (by omega) s2.2 nh).1
            omega
        have p158 := c158 (sc := sc) (w := w) (col := f0 h) s2 hrr
        refine ⟨u, ?_, fr_t f1 f2, h2⟩
        rw [← e, wq_167_75]
        simp (disch := omega) only [qB_s, qC_t, qC_f, qI_T, qI_F, qI_t, qI_f, r_I, r_L, r_R, r_V, ii_add, ii_sub, ii_mul, ii_neg, bz_0, bz_1, Bool.true_and, Bool.false_and, Bool.and_true, z00, z11, li_0, li_1, li_10, li_1000000000, e_35, e_36, e_37, e_38, gR_29_5, gR_29_6, gR_29_7, gR_29_8, is_29, t_35, t_36, t_37, t_38, ii_lt, e36, p158, nat_1]
theorem c167 {C : Int → Int → Int} {i : Int} (hi1 : 1 ≤ i) (hi : i ≤ 10) (hO : CO w C) (hA : gHA C (wA w 33) (wA w 34) (wA w 35) (i - 1)) : ∃ u, am_F sc 167 [am_R (some 29), am_I (ii i)] (wst w) = some (none, wst u) ∧ fr [3399, 3499, 3599, 3699, 3799, 3899] w u ∧ gHA C (wA u 33) (wA u 34) (wA u 35) i := by
  obtain ⟨u1, e1, f1, h1⟩ := lp_s0 (am_W sc 167) (fun (k : Nat) (u : wo) => (2, [some (am_R (some 29)), some (am_I (ii i)), some (am_I (ii k)), none, none], [], wst u)) (fun k u => fr [3799, 3899] w u ∧ ∀ j : Int, 0 ≤ j → j < k → wA u 37 j = 1000000000 ∧ wA u 38 j = 0) 11 (fun k u hk hu => by
    have w37 : wA (uA (uA u 37 (fu (wA u 37) k 1000000000)) 38 (fu (wA u 38) k 0)) 37 = fu (wA u 37) k 1000000000 := by rw [rAn _ _ rfl, rA]
    have w38 : wA (uA (uA u 37 (fu (wA u 37) k 1000000000)) 38 (fu (wA u 38) k 0)) 38 = fu (wA u 38) k 0 := by rw [rA]
    refine ⟨uA (uA u 37 (fu (wA u 37) k 1000000000)) 38 (fu (wA u 38) k 0), ?_, fr_uA (fr_uA hu.1 rfl) rfl, fun j j0 j1 => ?_⟩
    · rw [wq_167_2]
      simp (disch := omega) only [qB_s, qC_t, qC_f, qI_T, qI_F, qI_t, qI_f, r_I, r_L, r_R, r_V, ii_add, ii_sub, ii_mul, ii_neg, bz_0, bz_1, Bool.true_and, Bool.false_and, Bool.and_true, z00, z11, li_0, li_1, li_10, li_1000000000, e_35, e_36, e_37, e_38, gR_29_5, gR_29_6, gR_29_7, gR_29_8, is_29, t_35, t_36, t_37, t_38, ii_lt, uA_A, if_false, Nat.reduceEqDiff, nat_1]
    · rw [w37, w38, fu_at, fu_at]
      by_cases z : j = k
      · rw [if_pos z, if_pos z]
        exact ⟨rfl, rfl⟩
      · rw [if_neg z, if_neg z]
        exact hu.2 j j0 (by omega)) w ⟨fr_r _ _, fun j h1 h2 => by omega⟩
  have a33 : wA u1 33 = wA w 33 := fr_A (a := 33) f1 rfl
  have a34 : wA u1 34 = wA w 34 := fr_A (a := 34) f1 rfl
  have a35 : wA u1 35 = wA w 35 := fr_A (a := 35) f1 rfl
  have f2 : fr [3599, 3799, 3899] w (uA u1 35 (fu (wA u1 35) 0 i)) := fr_uA (fr_m f1 rfl) rfl
  have hB : gHBw C (uA u1 35 (fu (wA u1 35) 0 i)) i 0 0 (fun _ => 0) := by
    unfold gHBw
    rw [fr_A (a := 33) f2 rfl, fr_A (a := 34) f2 rfl, rAn (a := 35) (b := 37) _ _ rfl, rAn (a := 35) (b := 38) _ _ rfl, rA, a35]
    exact gHB_0 hA hi1 hi (by rw [fu_at, if_pos rfl]) (fun j j0 j1 => by rw [fu_at, if_neg (by omega)]) (fun j j0 j1 => (h1 j j0 (by omega)).1) (fun j j0 j1 => (h1 j j0 (by omega)).2)
  obtain ⟨u3, k', col', tm', e3, f3, h3, h4⟩ := c167b (sc := sc) hi1 hi 11 0 _ 0 _ rfl (CO_fr hO f2 rfl) hB
  obtain ⟨p1, p2, p3⟩ := gHF_0 h3 hi1 h4
  obtain ⟨u4, e4, f4, h5⟩ := c167c (sc := sc) hi1 hi p1 k' 0 u3 col' (by have := gHB_k h3 hi; omega) (by rw [p3]; omega) rfl p2
  refine ⟨u4, ?_, fr_t (fr_t (fr_m f2 rfl) (fr_m f3 rfl)) (fr_m f4 rfl), ?_⟩
  · rw [fq_167]
    have e1' : am_W sc 167 (2, [some (am_R (some 29)), some (am_I (ii i)), some (am_I (ii 0)), none, none], [], wst w) = am_W sc 167 (2, [some (am_R (some 29)), some (am_I (ii i)), some (am_I (ii 11)), none, none], [], wst u1) := e1
    have e3' : am_W sc 167 (40, [some (am_R (some 29)), none, some (am_I (ii 0)), some (am_I (ii 0)), none], [], wst (uA u1 35 (fu (wA u1 35) 0 i))) = _ := e3
    have e4' : am_W sc 167 (75, [some (am_R (some 29)), none, some (am_I (ii col')), some (am_I (ii 0)), none], [], wst u3) = _ := e4
    simp only [qB_s, qC_t, qC_f, qI_T, qI_F, qI_t, qI_f, r_I, r_L, r_R, r_V, ii_add, ii_sub, ii_mul, ii_neg, bz_0, bz_1, Bool.true_and, Bool.false_and, Bool.and_true, z00, z11, li_0, li_1, li_10, li_1000000000, e_35, e_36, e_37, e_38, gR_29_5, gR_29_6, gR_29_7, gR_29_8, is_29, t_35, t_36, t_37, t_38]
    rw [e1', wq_167_2]
    simp (disch := omega) only [qB_s, qC_t, qC_f, qI_T, qI_F, qI_t, qI_f, r_I, r_L, r_R, r_V, ii_add, ii_sub, ii_mul, ii_neg, bz_0, bz_1, Bool.true_and, Bool.false_and, Bool.and_true, z00, z11, li_0, li_1, li_10, li_1000000000, e_35, e_36, e_37, e_38, gR_29_5, gR_29_6, gR_29_7, gR_29_8, is_29, t_35, t_36, t_37, t_38, ii_lt, e3', e4']
  · have := gHF_e h3 hi1 h4 h5
    rw [fr_A (a := 33) f4 rfl, fr_A (a := 34) f4 rfl]
    exact this
end L66
