/-! READING A TEST -/
/-- a step more -/
def pu (P : pg) (kd on : Int) : pg := (P.1 + 1, fun k => if k = P.1 then kd else P.2.1 k, fun k => if k = P.1 then on else P.2.2 k)
theorem pu_k {P : pg} {kd on : Int} {k : Nat} (h : k < P.1) : (pu P kd on).2.1 k = P.2.1 k ∧ (pu P kd on).2.2 k = P.2.2 k := ⟨if_neg (by omega), if_neg (by omega)⟩
theorem pu_e {P : pg} {kd on : Int} : (pu P kd on).2.1 P.1 = kd ∧ (pu P kd on).2.2 P.1 = on := ⟨if_pos rfl, if_pos rfl⟩
theorem pz_pu {P : pg} {kd on : Int} : ∀ {k : Nat}, k ≤ P.1 → pz (pu P kd on) k = pz P k
  | 0, _ => rfl
  | k + 1, h => by
    have ih := pz_pu (P := P) (kd := kd) (on := on) (k := k) (by omega)
    have e := (pu_k (P := P) (kd := kd) (on := on) (k := k) (by omega)).1
    unfold pz
    rw [e, ih]
theorem pof_pu {P : pg} {kd on : Int} : pof (pu P kd on) (P.1 + 1) = pof P P.1 + (1 + bz (kd = 1 ∨ kd = 2)) := by
  unfold pof
  rw [sm_s]
  have e := (pu_e (P := P) (kd := kd) (on := on)).1
  rw [e]
  rw [sm_c (f := fun i => 1 + bz ((pu P kd on).2.1 i = 1 ∨ (pu P kd on).2.1 i = 2)) (g := fun i => 1 + bz (P.2.1 i = 1 ∨ P.2.1 i = 2)) (fun i hi => by
    rw [(pu_k (P := P) (kd := kd) (on := on) hi).1])]
theorem pof_pk {P : pg} {kd on : Int} {k : Nat} (h : k ≤ P.1) : pof (pu P kd on) k = pof P k := by
  unfold pof
  exact sm_c (fun i hi => by rw [(pu_k (P := P) (kd := kd) (on := on) (k := i) (by omega)).1])
theorem pvn_pu {P : pg} {kd on : Int} : pvn (pu P kd on) (P.1 + 1) = pvn P P.1 + bz (kd = 0 ∨ kd = 1 ∨ kd = 2) := by
  unfold pvn
  rw [sm_s]
  have e := (pu_e (P := P) (kd := kd) (on := on)).1
  rw [e]
  rw [sm_c (f := fun i => bz ((pu P kd on).2.1 i = 0 ∨ (pu P kd on).2.1 i = 1 ∨ (pu P kd on).2.1 i = 2)) (g := fun i => bz (P.2.1 i = 0 ∨ P.2.1 i = 1 ∨ P.2.1 i = 2)) (fun i hi => by
    rw [(pu_k (P := P) (kd := kd) (on := on) hi).1])]
/-- what is read of a program: the phase, the answers -/
def pI (P : pg) (ph dp : Int) : Prop := (∀ k, k < P.1 → pok (P.2.1 k) (P.2.2 k) (pz P k).1 (pz P k).2) ∧ pz P P.1 = (ph, dp)
theorem pI_pu {P : pg} {ph dp kd on : Int} (h : pI P ph dp) (hk : pok kd on ph dp) : pI (pu P kd on) (if kd = 0 then ph + 1 else if kd = 3 then 0 else ph) (if kd = 3 then dp + 1 else if kd = 4 ∨ kd = 5 then dp - 1 else dp) := by
  obtain ⟨h1, h2⟩ := h
  have e := pu_e (P := P) (kd := kd) (on := on)
  have ez := pz_pu (P := P) (kd := kd) (on := on) (k := P.1) (Nat.le_refl _)
  refine ⟨fun k hk' => ?_, ?_⟩
  · have hk' : k < P.1 + 1 := hk'
    by_cases z : k = P.1
    · rw [z, e.1, e.2, ez, h2]
      exact hk
    · have e2 := pu_k (P := P) (kd := kd) (on := on) (k := k) (by omega)
      rw [e2.1, e2.2, pz_pu (by omega)]
      exact h1 k (by omega)
  · show pz (pu P kd on) (P.1 + 1) = _
    by_cases k0 : kd = 0
    · rw [pz_a (by rw [e.1]; exact k0), ez, h2, if_pos k0, if_neg (by omega), if_neg (by omega)]
    · by_cases k3 : kd = 3
      · rw [pz_b (by rw [e.1]; exact k3), ez, h2, if_neg k0, if_pos k3, if_pos k3]
      · by_cases k45 : kd = 4 ∨ kd = 5
        · rw [pz_c (by rw [e.1]; exact k45), ez, h2, if_neg k0, if_neg k3, if_neg k3, if_pos k45]
        · have k126 : kd = 1 ∨ kd = 2 ∨ kd = 6 := by
            rcases hk with ⟨a, -⟩ | ⟨a, -⟩ | ⟨a, -⟩ | ⟨a, -⟩ | ⟨a, -⟩ <;> omega
          rw [pz_d (by rw [e.1]; exact k126), ez, h2, if_neg k0, if_neg k3, if_neg k3, if_neg k45]
/-- where the reading stands: the token, the parts, what waits, the steps -/
abbrev st : Type := Nat × Int × List Int × pg
def bd {α β : Type} (r : Sum Int α) (k : α → Sum Int β) : Sum Int β := match r with
  | .inl c => .inl c
  | .inr s => k s
theorem bd_i {α β : Type} {r : Sum Int α} {k : α → Sum Int β} {y : β} (h : bd r k = .inr y) : ∃ s, r = .inr s ∧ k s = .inr y := by
  cases r with
  | inl c => cases h
  | inr s => exact ⟨s, rfl, h⟩
def fl (b : Nat → Int) (j : Nat) (c : Int) : Int := 1 + 8 * (tS b j : Int) + c
def aVal (b : Nat → Int) (kd : Int) (s : st) : Sum Int st :=
  if tK b s.1 = 200 then (if tVl b s.1 = -1 then .inl (fl b s.1 1) else if 40 ≤ s.2.1 then .inl (fl b s.1 3) else .inr (s.1 + 1, s.2.1 + 1, s.2.2.1, pu s.2.2.2 kd (tVl b s.1)))
  else if tK b s.1 < 11 then (if 40 ≤ s.2.1 then .inl (fl b s.1 3) else .inr (s.1 + 1, s.2.1 + 1, s.2.2.1, pu s.2.2.2 kd (10000 + tK b s.1)))
  else .inl (fl b s.1 0)
def aSmL (b : Nat → Int) : Nat → st → Sum Int st
  | 0, s => .inr s
  | d + 1, s => if tK b s.1 = 43 then bd (aVal b 1 (s.1 + 1, s.2)) (aSmL b d) else if tK b s.1 = 45 then bd (aVal b 2 (s.1 + 1, s.2)) (aSmL b d) else .inr s
def aSum (b : Nat → Int) (s : st) : Sum Int st := bd (aVal b 0 s) (aSmL b 400)
def isg (k : Int) : Prop := k = 60 ∨ k = 201 ∨ k = 61 ∨ k = 202 ∨ k = 62
def aSig (b : Nat → Int) (s : st) : Sum Int st := if tK b s.1 = 60 ∨ tK b s.1 = 201 ∨ tK b s.1 = 61 ∨ tK b s.1 = 202 ∨ tK b s.1 = 62 then (if 40 ≤ s.2.1 then .inl (fl b s.1 3) else .inr (s.1 + 1, s.2.1 + 1, s.2.2)) else .inl (fl b s.1 0)
def aCmp (b : Nat → Int) (s : st) : Sum Int st := bd (aSum b s) fun s1 => bd (aSig b s1) fun s2 => bd (aSum b s2) fun s3 => .inr (s3.1, s3.2.1, s3.2.2.1, pu s3.2.2.2 3 (tK b s1.1))
def stl (k : Int) : List Int → pg → List Int × pg
  | [], P => ([], P)
  | x :: q, P => if x < k then (x :: q, P) else stl k q (pu P x 0)
def aStl (k : Int) (s : st) : st := (s.1, s.2.1, stl k s.2.2.1 s.2.2.2)
def dpt : List Int → Int
  | [] => 0
  | x :: q => dpt q + bz (x = 6 ∨ x = 3)
def aOpn (b : Nat → Int) (k : Int) (s : st) : Sum Int st := if 10 ≤ dpt s.2.2.1 then .inl (fl b s.1 2) else .inr (s.1 + 1, s.2.1, k :: s.2.2.1, s.2.2.2)
def aPsh (k : Int) (s : st) : st := (s.1 + 1, s.2.1, k :: s.2.2.1, s.2.2.2)
def aEnd (b : Nat → Int) (s : st) : Sum Int (Bool × st) :=
  if tK b s.1 = 15 then .inr (true, aPsh 5 (aStl 5 s))
  else if tK b s.1 = 16 then .inr (true, aPsh 4 (aStl 4 s))
  else match (aStl 4 s).2.2.1 with
    | [] => .inr (false, aStl 4 s)
    | _ :: _ => .inl (fl b s.1 0)
def aBhL (b : Nat → Int) : Nat → st → Sum Int (Bool × st)
  | 0, s => aEnd b s
  | d + 1, s => if tK b s.1 = 93 then (match (aStl 4 s).2.2.1 with
    | [] => .inr (false, aStl 4 s)
    | _ :: q => aBhL b d (aStl 6 (s.1 + 1, s.2.1, q, (aStl 4 s).2.2.2))) else aEnd b s
def aBeh (b : Nat → Int) (s : st) : Sum Int (Bool × st) := aBhL b 400 (aStl 6 s)
def aTsL (b : Nat → Int) : Nat → st → Sum Int st
  | 0, s => .inr s
  | d + 1, s => if tK b s.1 = 17 then bd (aOpn b 6 s) (aTsL b d) else if tK b s.1 = 91 then bd (aOpn b 3 s) (aTsL b d) else bd (aCmp b s) fun s1 => bd (aBeh b s1) fun z => bif z.1 then aTsL b d z.2 else .inr z.2
def aTst (b : Nat → Int) (j : Nat) : Sum Int st := aTsL b 401 (j, 0, [], 0, fun _ => 0, fun _ => 0)
/-- what waits -/
def wok : List Int → Prop
  | [] => True
  | x :: q => (x = 3 ∨ x = 4 ∨ x = 5 ∨ x = 6) ∧ wok q
def wop : List Int → Int
  | [] => 0
  | x :: q => wop q + bz (x ≠ 3)
def wbn : List Int → Int
  | [] => 0
  | x :: q => wbn q + bz (x = 4 ∨ x = 5)
theorem wop_0 : ∀ l, 0 ≤ wop l
  | [] => Int.le_refl _
  | x :: q => by
    have := wop_0 q
    have := bz_ran (p := x ≠ 3)
    unfold wop
    omega
theorem wbn_0 : ∀ l, 0 ≤ wbn l
  | [] => Int.le_refl _
  | x :: q => by
    have := wbn_0 q
    have := bz_ran (p := x = 4 ∨ x = 5)
    unfold wbn
    omega
/-- where all is well: the phase ph, e answers more than what waits for two -/
def aI (b : Nat → Int) (T : Nat) (z ph e : Int) (s : st) : Prop := s.1 ≤ T ∧ (0 ≤ s.2.1 ∧ s.2.1 ≤ 40) ∧ (s.2.2.1.length ≤ s.1 ∧ wok s.2.2.1 ∧ dpt s.2.2.1 ≤ 10) ∧ (2 * ((s.2.2.2.1 : Int) + wop s.2.2.1) + z ≤ (tS b s.1 : Int) + 2 * s.2.1 ∧ 2 * (pof s.2.2.2 s.2.2.2.1 + wop s.2.2.1) + z ≤ (tS b s.1 : Int) + 4 * s.2.1) ∧ pI s.2.2.2 ph (wbn s.2.2.1 + e) ∧ pvn s.2.2.2 s.2.2.2.1 ≤ s.2.1
/-- T is the last token -/
def TT (b : Nat → Int) (L T : Nat) : Prop := TP b L ∧ T ≤ 400 ∧ tS b T = L ∧ ∀ j, j < T → tS b j ≠ L
theorem TT_lt {b : Nat → Int} {L T j : Nat} (h : TT b L T) (hj : j ≤ T) (hk : tK b j ≠ 204) : j < T ∧ tS b j + 1 ≤ tS b (j + 1) ∧ tS b j < L := by
  have : tS b j ≠ L := fun q => hk ((tK_end h.1).mpr q)
  have h2 := tS_lt h.1 this
  have h3 := (tS_r h.1 j).1
  refine ⟨?_, h2, by omega⟩
  by_cases z : j = T
  · rw [z] at this
    exact absurd h.2.2.1 this
  · omega
theorem tK_w {b : Nat → Int} {L T j : Nat} (h : TT b L T) {k : Nat} (hk : k < 18) (e : tK b j = k) : alp (b (tS b j)) = true ∧ tkE b (tS b j) = tS b j + wln k ∧ wm b (tS b j) (wln k) k = true ∧ rn b aln (400 - tS b j) (tS b j) = tS b j + wln k := by
  have e0 := e
  have hr := (tS_r h.1 j).1
  unfold tK tkK at e
  split at e
  · omega
  · rename_i z0
    split at e
    · rename_i z1
      have hw := (wco_c hk).mp e
      have hn := (wm_t.mp hw).1
      have h1 := TP_rn h.1 aln_n (p := tS b j) hr
      have e1 : rn b aln (400 - tS b j) (tS b j) = tS b j + wln k := by omega
      rw [hn] at hw
      refine ⟨z1, ?_, hw, e1⟩
      unfold tkE
      rw [if_neg z0, if_pos z1, e1]
    · split at e
      · omega
      · split at e
        · split at e <;> omega
        · split at e <;> omega
theorem wln_2 {k : Nat} (hk : k < 18) : 2 ≤ wln k ∧ wln k ≤ 6 := by
  have := all_lt (p := fun k : Nat => decide (2 ≤ wln k ∧ wln k ≤ 6)) (n := 18) (by decide +kernel) (r := k) hk
  exact of_decide_eq_true this
theorem TT_w {b : Nat → Int} {L T j : Nat} (h : TT b L T) {k : Nat} (hk : k < 18) (e : tK b j = k) : tS b j + 2 ≤ tS b (j + 1) := by
  obtain ⟨h1, h2, h3, h4⟩ := tK_w h hk e
  have h5 := wln_2 hk
  have h6 := (TP_rn h.1 aln_n (p := tS b j) (tS_r h.1 j).1).2.2.2
  have h7 := (TP_rn h.1 spc_n (p := tkE b (tS b j)) (by omega)).1
  show _ ≤ sk b (tkE b (tS b j))
  unfold sk
  omega
theorem aI_n {b : Nat → Int} {L T : Nat} {z ph e : Int} {s : st} (hT : TT b L T) (h : aI b T z ph e s) (hz : 0 ≤ z) : (s.2.2.2.1 : Int) ≤ 240 ∧ pof s.2.2.2 s.2.2.2.1 ≤ 280 ∧ s.1 ≤ 400 ∧ s.2.2.1.length ≤ s.1 := by
  obtain ⟨h1, h2, ⟨h3, h4, h5⟩, ⟨h6, h7⟩, h8, h9⟩ := h
  have := wop_0 s.2.2.1
  have := (tS_r hT.1 s.1).1
  have := hT.1.1
  have := hT.2.1
  omega
theorem aVal_c {b : Nat → Int} {L T : Nat} {z ph e kd on : Int} {s : st} (hT : TT b L T) (h : aI b T z ph e s) (hk : (kd = 0 ∧ ph ≤ 1) ∨ ((kd = 1 ∨ kd = 2) ∧ 1 ≤ ph)) (hn : tK b s.1 ≠ 204) (hp : ¬ 40 ≤ s.2.1) (ho : 0 ≤ on ∧ on ≤ 10010) : aI b T z (if kd = 0 then ph + 1 else ph) e (s.1 + 1, s.2.1 + 1, s.2.2.1, pu s.2.2.2 kd on) := by
  obtain ⟨h1, h2, ⟨h3, h4, h5⟩, ⟨h6, h7⟩, h8, h9⟩ := h
  obtain ⟨k1, k2, k3⟩ := TT_lt hT h1 hn
  have hp' := pI_pu (kd := kd) (on := on) h8 (by unfold pok; omega)
  rw [if_neg (show ¬ kd = 3 by omega), if_neg (show ¬ kd = 3 by omega), if_neg (show ¬ (kd = 4 ∨ kd = 5) by omega)] at hp'
  have o1 := pof_pu (P := s.2.2.2) (kd := kd) (on := on)
  have o2 := pvn_pu (P := s.2.2.2) (kd := kd) (on := on)
  have b1 := bz_ran (p := kd = 1 ∨ kd = 2)
  have b2 := bz_ran (p := kd = 0 ∨ kd = 1 ∨ kd = 2)
  refine ⟨?_, ⟨?_, ?_⟩, ⟨?_, h4, h5⟩, ⟨?_, ?_⟩, hp', ?_⟩
  · show s.1 + 1 ≤ T; omega
  · show 0 ≤ s.2.1 + 1; omega
  · show s.2.1 + 1 ≤ 40; omega
  · show s.2.2.1.length ≤ s.1 + 1; omega
  · show 2 * (((s.2.2.2.1 + 1 : Nat) : Int) + wop s.2.2.1) + z ≤ (tS b (s.1 + 1) : Int) + 2 * (s.2.1 + 1)
    omega
  · show 2 * (pof (pu s.2.2.2 kd on) (s.2.2.2.1 + 1) + wop s.2.2.1) + z ≤ (tS b (s.1 + 1) : Int) + 4 * (s.2.1 + 1)
    omega
  · show pvn (pu s.2.2.2 kd on) (s.2.2.2.1 + 1) ≤ s.2.1 + 1
    omega
theorem aVal_I {b : Nat → Int} {L T : Nat} {z ph e kd : Int} {s s' : st} (hT : TT b L T) (h : aI b T z ph e s) (hk : (kd = 0 ∧ ph ≤ 1) ∨ ((kd = 1 ∨ kd = 2) ∧ 1 ≤ ph)) (q : aVal b kd s = .inr s') : aI b T z (if kd = 0 then ph + 1 else ph) e s' ∧ s'.1 = s.1 + 1 ∧ s'.2.2.1 = s.2.2.1 := by
  have hr := tK_r hT.1 s.1
  have hv := tVl_r hT.1 s.1
  unfold aVal at q
  by_cases y1 : tK b s.1 = 200
  · rw [if_pos y1] at q
    by_cases y2 : tVl b s.1 = -1
    · rw [if_pos y2] at q
      cases q
    · rw [if_neg y2] at q
      by_cases y3 : 40 ≤ s.2.1
      · rw [if_pos y3] at q
        cases q
      · rw [if_neg y3] at q
        have := Sum.inr.inj q
        subst this
        exact ⟨aVal_c hT h hk (by omega) y3 ⟨by omega, by omega⟩, rfl, rfl⟩
  · rw [if_neg y1] at q
    by_cases y2 : tK b s.1 < 11
    · rw [if_pos y2] at q
      by_cases y3 : 40 ≤ s.2.1
      · rw [if_pos y3] at q
        cases q
      · rw [if_neg y3] at q
        have := Sum.inr.inj q
        subst this
        exact ⟨aVal_c hT h hk (by omega) y3 ⟨by omega, by omega⟩, rfl, rfl⟩
    · rw [if_neg y2] at q
      cases q
/-- a token is passed over -/
theorem aI_1 {b : Nat → Int} {L T : Nat} {z ph e : Int} {s : st} (hT : TT b L T) (h : aI b T z ph e s) (hn : tK b s.1 ≠ 204) : aI b T z ph e (s.1 + 1, s.2) := by
  obtain ⟨h1, h2, ⟨h3, h4, h5⟩, ⟨h6, h7⟩, h8, h9⟩ := h
  obtain ⟨k1, k2, k3⟩ := TT_lt hT h1 hn
  refine ⟨?_, h2, ⟨?_, h4, h5⟩, ⟨?_, ?_⟩, h8, h9⟩
  · show s.1 + 1 ≤ T; omega
  · show s.2.2.1.length ≤ s.1 + 1; omega
  · show 2 * ((s.2.2.2.1 : Int) + wop s.2.2.1) + z ≤ (tS b (s.1 + 1) : Int) + 2 * s.2.1
    omega
  · show 2 * (pof s.2.2.2 s.2.2.2.1 + wop s.2.2.1) + z ≤ (tS b (s.1 + 1) : Int) + 4 * s.2.1
    omega
theorem aSmL_I {b : Nat → Int} {L T : Nat} {z ph e : Int} (hT : TT b L T) (hp : 1 ≤ ph) : ∀ (d : Nat) (s s' : st), aI b T z ph e s → aSmL b d s = .inr s' → aI b T z ph e s' ∧ s.1 ≤ s'.1 ∧ s'.2.2.1 = s.2.2.1
  | 0, s, s', h, q => by
    have := Sum.inr.inj q
    subst this
    exact ⟨h, Nat.le_refl _, rfl⟩
  | d + 1, s, s', h, q => by
    unfold aSmL at q
    by_cases y1 : tK b s.1 = 43
    · rw [if_pos y1] at q
      obtain ⟨s1, q1, q2⟩ := bd_i q
      obtain ⟨k1, k2, k3⟩ := aVal_I hT (aI_1 hT h (by omega)) (.inr ⟨.inl rfl, hp⟩) q1
      obtain ⟨k4, k5, k6⟩ := aSmL_I hT hp d s1 s' k1 q2
      exact ⟨k4, by have k2 : s1.1 = s.1 + 1 + 1 := k2; omega, k6.trans k3⟩
    · rw [if_neg y1] at q
      by_cases y2 : tK b s.1 = 45
      · rw [if_pos y2] at q
        obtain ⟨s1, q1, q2⟩ := bd_i q
        obtain ⟨k1, k2, k3⟩ := aVal_I hT (aI_1 hT h (by omega)) (.inr ⟨.inr rfl, hp⟩) q1
        obtain ⟨k4, k5, k6⟩ := aSmL_I hT hp d s1 s' k1 q2
        exact ⟨k4, by have k2 : s1.1 = s.1 + 1 + 1 := k2; omega, k6.trans k3⟩
      · rw [if_neg y2] at q
        have := Sum.inr.inj q
        subst this
        exact ⟨h, Nat.le_refl _, rfl⟩
theorem aSum_I {b : Nat → Int} {L T : Nat} {z ph e : Int} {s s' : st} (hT : TT b L T) (h : aI b T z ph e s) (hp : 0 ≤ ph ∧ ph ≤ 1) (q : aSum b s = .inr s') : aI b T z (ph + 1) e s' ∧ s.1 + 1 ≤ s'.1 ∧ s'.2.2.1 = s.2.2.1 := by
  obtain ⟨s1, q1, q2⟩ := bd_i q
  obtain ⟨k1, k2, k3⟩ := aVal_I hT h (.inl ⟨rfl, hp.2⟩) q1
  rw [if_pos rfl] at k1
  obtain ⟨k4, k5, k6⟩ := aSmL_I hT (by omega) 400 s1 s' k1 q2
  exact ⟨k4, by omega, k6.trans k3⟩
theorem aSig_I {b : Nat → Int} {L T : Nat} {z ph e : Int} {s s' : st} (hT : TT b L T) (h : aI b T z ph e s) (q : aSig b s = .inr s') : aI b T (z + 2) ph e s' ∧ s'.1 = s.1 + 1 ∧ s'.2.2 = s.2.2 ∧ (tK b s.1 = 60 ∨ tK b s.1 = 201 ∨ tK b s.1 = 61 ∨ tK b s.1 = 202 ∨ tK b s.1 = 62) := by
  unfold aSig at q
  by_cases y1 : tK b s.1 = 60 ∨ tK b s.1 = 201 ∨ tK b s.1 = 61 ∨ tK b s.1 = 202 ∨ tK b s.1 = 62
  · rw [if_pos y1] at q
    by_cases y3 : 40 ≤ s.2.1
    · rw [if_pos y3] at q
      cases q
    · rw [if_neg y3] at q
      have := Sum.inr.inj q
      subst this
      obtain ⟨h1, h2, ⟨h3, h4, h5⟩, ⟨h6, h7⟩, h8, h9⟩ := aI_1 hT h (by omega)
      have h1 : s.1 + 1 ≤ T := h1
      have h2 : 0 ≤ s.2.1 ∧ s.2.1 ≤ 40 := h2
      have h6 : 2 * ((s.2.2.2.1 : Int) + wop s.2.2.1) + z ≤ (tS b (s.1 + 1) : Int) + 2 * s.2.1 := h6
      have h7 : 2 * (pof s.2.2.2 s.2.2.2.1 + wop s.2.2.1) + z ≤ (tS b (s.1 + 1) : Int) + 4 * s.2.1 := h7
      have h9 : pvn s.2.2.2 s.2.2.2.1 ≤ s.2.1 := h9
      refine ⟨⟨h1, ⟨?_, ?_⟩, ⟨h3, h4, h5⟩, ⟨?_, ?_⟩, h8, ?_⟩, rfl, rfl, y1⟩
      · show 0 ≤ s.2.1 + 1; omega
      · show s.2.1 + 1 ≤ 40; omega
      · show 2 * ((s.2.2.2.1 : Int) + wop s.2.2.1) + (z + 2) ≤ (tS b (s.1 + 1) : Int) + 2 * (s.2.1 + 1)
        omega
      · show 2 * (pof s.2.2.2 s.2.2.2.1 + wop s.2.2.1) + (z + 2) ≤ (tS b (s.1 + 1) : Int) + 4 * (s.2.1 + 1)
        omega
      · show pvn s.2.2.2 s.2.2.2.1 ≤ s.2.1 + 1
        omega
  · rw [if_neg y1] at q
    cases q
theorem aCmp_I {b : Nat → Int} {L T : Nat} {z e : Int} {s s' : st} (hT : TT b L T) (h : aI b T z 0 e s) (q : aCmp b s = .inr s') : aI b T z 0 (e + 1) s' ∧ s.1 + 1 ≤ s'.1 ∧ s'.2.2.1 = s.2.2.1 := by
  obtain ⟨s1, q1, q⟩ := bd_i q
  obtain ⟨s2, q2, q⟩ := bd_i q
  obtain ⟨s3, q3, q⟩ := bd_i q
  have := Sum.inr.inj q
  subst this
  obtain ⟨a1, a2, a3⟩ := aSum_I hT h ⟨by decide, by decide⟩ q1
  obtain ⟨b1, b2, b3, b4⟩ := aSig_I hT a1 q2
  obtain ⟨c1, c2, c3⟩ := aSum_I hT b1 ⟨by decide, by decide⟩ q3
  obtain ⟨h1, h2, ⟨h3, h4, h5⟩, ⟨h6, h7⟩, h8, h9⟩ := c1
  have hp' := pI_pu (kd := 3) (on := tK b s1.1) h8 (by unfold pok; omega)
  rw [if_neg (by decide), if_pos rfl, if_pos rfl, Int.add_assoc] at hp'
  have o1 := pof_pu (P := s3.2.2.2) (kd := 3) (on := tK b s1.1)
  have o2 := pvn_pu (P := s3.2.2.2) (kd := 3) (on := tK b s1.1)
  rw [bz_f (by decide)] at o1 o2
  refine ⟨⟨h1, h2, ⟨h3, h4, h5⟩, ⟨?_, ?_⟩, hp', ?_⟩, ?_, ?_⟩
  · show 2 * (((s3.2.2.2.1 + 1 : Nat) : Int) + wop s3.2.2.1) + z ≤ (tS b s3.1 : Int) + 2 * s3.2.1
    omega
  · show 2 * (pof (pu s3.2.2.2 3 (tK b s1.1)) (s3.2.2.2.1 + 1) + wop s3.2.2.1) + z ≤ (tS b s3.1 : Int) + 4 * s3.2.1
    omega
  · show pvn (pu s3.2.2.2 3 (tK b s1.1)) (s3.2.2.2.1 + 1) ≤ s3.2.1
    omega
  · show s.1 + 1 ≤ s3.1
    omega
  · show s3.2.2.1 = s.2.2.1
    rw [c3, b3, a3]
/-- what stands on top after settling -/
def low (k : Int) : List Int → Prop
  | [] => True
  | x :: _ => x < k
theorem stl_I {b : Nat → Int} {T : Nat} {z k : Int} (hk : 4 ≤ k) : ∀ (l : List Int) (P : pg) (j : Nat) (m : Int), aI b T z 0 1 (j, m, l, P) → aI b T z 0 1 (j, m, stl k l P) ∧ low k (stl k l P).1
  | [], P, j, m, h => ⟨h, trivial⟩
  | x :: q, P, j, m, h => by
    unfold stl
    by_cases y : x < k
    · rw [if_pos y]
      exact ⟨h, y⟩
    · rw [if_neg y]
      refine stl_I hk q (pu P x 0) j m ?_
      obtain ⟨h1, h2, ⟨h3, h4, h5⟩, ⟨h6, h7⟩, h8, h9⟩ := h
      have h3 : q.length + 1 ≤ j := h3
      have h4 : (x = 3 ∨ x = 4 ∨ x = 5 ∨ x = 6) ∧ wok q := h4
      have h5 : dpt q + bz (x = 6 ∨ x = 3) ≤ 10 := h5
      have h6 : 2 * ((P.1 : Int) + (wop q + bz (x ≠ 3))) + z ≤ (tS b j : Int) + 2 * m := h6
      have h7 : 2 * (pof P P.1 + (wop q + bz (x ≠ 3))) + z ≤ (tS b j : Int) + 4 * m := h7
      have h8 : pI P 0 (wbn q + bz (x = 4 ∨ x = 5) + 1) := h8
      have h9 : pvn P P.1 ≤ m := h9
      have w0 := wbn_0 q
      have x3 : x ≠ 3 := by omega
      have b1 := bz_ran (p := x = 6 ∨ x = 3)
      rw [bz_t x3] at h6 h7
      have o1 := pof_pu (P := P) (kd := x) (on := 0)
      have o2 := pvn_pu (P := P) (kd := x) (on := 0)
      rw [bz_f (by omega)] at o1 o2
      refine ⟨h1, h2, ⟨?_, h4.2, ?_⟩, ⟨?_, ?_⟩, ?_, ?_⟩
      · show q.length ≤ j; omega
      · show dpt q ≤ 10; omega
      · show 2 * (((P.1 + 1 : Nat) : Int) + wop q) + z ≤ (tS b j : Int) + 2 * m
        omega
      · show 2 * (pof (pu P x 0) (P.1 + 1) + wop q) + z ≤ (tS b j : Int) + 4 * m
        omega
      · show pI (pu P x 0) 0 (wbn q + 1)
        by_cases y6 : x = 6
        · rw [bz_f (by omega)] at h8
          have := pI_pu (kd := x) (on := 0) h8 (by unfold pok; omega)
          rw [if_neg (by omega), if_neg (by omega), if_neg (by omega), if_neg (by omega)] at this
          rw [Int.add_zero] at this
          exact this
        · rw [bz_t (by omega)] at h8
          have := pI_pu (kd := x) (on := 0) h8 (by unfold pok; omega)
          rw [if_neg (by omega), if_neg (by omega), if_neg (by omega), if_pos (by omega)] at this
          rw [show wbn q + 1 + 1 - 1 = wbn q + 1 by omega] at this
          exact this
      · show pvn (pu P x 0) (P.1 + 1) ≤ m
        omega
theorem aStl_I {b : Nat → Int} {T : Nat} {z k : Int} {s : st} (hk : 4 ≤ k) (h : aI b T z 0 1 s) : aI b T z 0 1 (aStl k s) ∧ low k (aStl k s).2.2.1 := stl_I hk s.2.2.1 s.2.2.2 s.1 s.2.1 h
theorem aOpn_I {b : Nat → Int} {L T : Nat} {z k : Int} {s s' : st} (hT : TT b L T) (h : aI b T z 0 0 s) (hk : (k = 6 ∧ tK b s.1 = 17) ∨ (k = 3 ∧ tK b s.1 = 91)) (q : aOpn b k s = .inr s') : aI b T z 0 0 s' ∧ s'.1 = s.1 + 1 := by
  unfold aOpn at q
  by_cases y : 10 ≤ dpt s.2.2.1
  · rw [if_pos y] at q
    cases q
  · rw [if_neg y] at q
    have := Sum.inr.inj q
    subst this
    obtain ⟨h1, h2, ⟨h3, h4, h5⟩, ⟨h6, h7⟩, h8, h9⟩ := h
    obtain ⟨k1, k2, k3⟩ := TT_lt hT h1 (by omega)
    have b1 := bz_ran (p := k = 6 ∨ k = 3)
    have b2 : k = 6 → tS b s.1 + 2 ≤ tS b (s.1 + 1) := fun y => TT_w hT (k := 17) (by decide) (by omega)
    have b3 : 2 * bz (k ≠ 3) ≤ (tS b (s.1 + 1) : Int) - tS b s.1 := by
      by_cases y3 : k = 3
      · rw [bz_f (fun y => y y3)]; omega
      · rw [bz_t y3]
        have := b2 (by omega)
        omega
    refine ⟨⟨?_, h2, ⟨?_, ⟨by omega, h4⟩, ?_⟩, ⟨?_, ?_⟩, ?_, h9⟩, rfl⟩
    · show s.1 + 1 ≤ T; omega
    · show s.2.2.1.length + 1 ≤ s.1 + 1; omega
    · show dpt s.2.2.1 + bz (k = 6 ∨ k = 3) ≤ 10; omega
    · show 2 * ((s.2.2.2.1 : Int) + (wop s.2.2.1 + bz (k ≠ 3))) + z ≤ (tS b (s.1 + 1) : Int) + 2 * s.2.1
      omega
    · show 2 * (pof s.2.2.2 s.2.2.2.1 + (wop s.2.2.1 + bz (k ≠ 3))) + z ≤ (tS b (s.1 + 1) : Int) + 4 * s.2.1
      omega
    · show pI s.2.2.2 0 (wbn s.2.2.1 + bz (k = 4 ∨ k = 5) + 0)
      rw [bz_f (by omega), Int.add_zero]
      exact h8
theorem aPsh_I {b : Nat → Int} {L T : Nat} {z k : Int} {s : st} (hT : TT b L T) (h : aI b T z 0 1 s) (hk : (k = 5 ∧ tK b s.1 = 15) ∨ (k = 4 ∧ tK b s.1 = 16)) : aI b T z 0 0 (aPsh k s) := by
  obtain ⟨h1, h2, ⟨h3, h4, h5⟩, ⟨h6, h7⟩, h8, h9⟩ := h
  obtain ⟨k1, k2, k3⟩ := TT_lt hT h1 (by omega)
  have b2 : tS b s.1 + 2 ≤ tS b (s.1 + 1) := by
    rcases hk with ⟨_, y⟩ | ⟨_, y⟩
    · exact TT_w hT (k := 15) (by decide) y
    · exact TT_w hT (k := 16) (by decide) y
  refine ⟨?_, h2, ⟨?_, ⟨by omega, h4⟩, ?_⟩, ⟨?_, ?_⟩, ?_, h9⟩
  · show s.1 + 1 ≤ T; omega
  · show s.2.2.1.length + 1 ≤ s.1 + 1; omega
  · show dpt s.2.2.1 + bz (k = 6 ∨ k = 3) ≤ 10
    rw [bz_f (by omega)]
    omega
  · show 2 * ((s.2.2.2.1 : Int) + (wop s.2.2.1 + bz (k ≠ 3))) + z ≤ (tS b (s.1 + 1) : Int) + 2 * s.2.1
    rw [bz_t (by omega)]
    omega
  · show 2 * (pof s.2.2.2 s.2.2.2.1 + (wop s.2.2.1 + bz (k ≠ 3))) + z ≤ (tS b (s.1 + 1) : Int) + 4 * s.2.1
    rw [bz_t (by omega)]
    omega
  · show pI s.2.2.2 0 (wbn s.2.2.1 + bz (k = 4 ∨ k = 5) + 0)
    rw [bz_t (by omega), Int.add_zero]
    exact h8
/-- a bracket is closed -/
theorem aPop_I {b : Nat → Int} {L T : Nat} {z x : Int} {q : List Int} {P : pg} {j : Nat} {m : Int} (hT : TT b L T) (h : aI b T z 0 1 (j, m, x :: q, P)) (hx : x < 4) (hk : tK b j ≠ 204) : aI b T z 0 1 (j + 1, m, q, P) := by
  have h := aI_1 hT h hk
  obtain ⟨h1, h2, ⟨h3, h4, h5⟩, ⟨h6, h7⟩, h8, h9⟩ := h
  have h3 : q.length + 1 ≤ j + 1 := h3
  have h4 : (x = 3 ∨ x = 4 ∨ x = 5 ∨ x = 6) ∧ wok q := h4
  have h5 : dpt q + bz (x = 6 ∨ x = 3) ≤ 10 := h5
  have h6 : 2 * ((P.1 : Int) + (wop q + bz (x ≠ 3))) + z ≤ (tS b (j + 1) : Int) + 2 * m := h6
  have h7 : 2 * (pof P P.1 + (wop q + bz (x ≠ 3))) + z ≤ (tS b (j + 1) : Int) + 4 * m := h7
  have h8 : pI P 0 (wbn q + bz (x = 4 ∨ x = 5) + 1) := h8
  have x3 : x = 3 := by omega
  have b1 := bz_ran (p := x = 6 ∨ x = 3)
  rw [bz_f (fun y => y x3)] at h6 h7
  rw [bz_f (by omega), Int.add_zero] at h8
  refine ⟨h1, h2, ⟨?_, h4.2, ?_⟩, ⟨?_, ?_⟩, h8, h9⟩
  · show q.length ≤ j + 1; omega
  · show dpt q ≤ 10; omega
  · show 2 * ((P.1 : Int) + wop q) + z ≤ (tS b (j + 1) : Int) + 2 * m
    omega
  · show 2 * (pof P P.1 + wop q) + z ≤ (tS b (j + 1) : Int) + 4 * m
    omega
theorem aEnd_I {b : Nat → Int} {L T : Nat} {z : Int} {s s' : st} {g : Bool} (hT : TT b L T) (h : aI b T z 0 1 s) (q : aEnd b s = .inr (g, s')) : (g = true → aI b T z 0 0 s' ∧ s.1 + 1 ≤ s'.1) ∧ (g = false → aI b T z 0 1 s' ∧ s'.2.2.1 = []) := by
  unfold aEnd at q
  by_cases y1 : tK b s.1 = 15
  · rw [if_pos y1] at q
    have := Sum.inr.inj q
    cases this
    exact ⟨fun _ => ⟨aPsh_I hT (aStl_I (by decide) h).1 (.inl ⟨rfl, y1⟩), Nat.le_refl _⟩, fun y => by cases y⟩
  · rw [if_neg y1] at q
    by_cases y2 : tK b s.1 = 16
    · rw [if_pos y2] at q
      have := Sum.inr.inj q
      cases this
      exact ⟨fun _ => ⟨aPsh_I hT (aStl_I (by decide) h).1 (.inr ⟨rfl, y2⟩), Nat.le_refl _⟩, fun y => by cases y⟩
    · rw [if_neg y2] at q
      have hs := aStl_I (k := 4) (by decide) h
      revert q
      generalize hl : (aStl 4 s).2.2.1 = l
      intro q
      cases l with
      | nil =>
        have := Sum.inr.inj q
        cases this
        exact ⟨fun y => (by cases y), fun _ => ⟨hs.1, hl⟩⟩
      | cons x r => cases q
theorem aBhL_I {b : Nat → Int} {L T : Nat} {z : Int} (hT : TT b L T) : ∀ (d : Nat) (s s' : st) (g : Bool), aI b T z 0 1 s → aBhL b d s = .inr (g, s') → (g = true → aI b T z 0 0 s' ∧ s.1 + 1 ≤ s'.1) ∧ (g = false → aI b T z 0 1 s' ∧ s'.2.2.1 = [])
  | 0, s, s', g, h, q => aEnd_I hT h q
  | d + 1, s, s', g, h, q => by
    unfold aBhL at q
    by_cases y1 : tK b s.1 = 93
    · rw [if_pos y1] at q
      have hs := aStl_I (k := 4) (by decide) h
      revert q
      generalize hl : (aStl 4 s).2.2.1 = l
      intro q
      cases l with
      | nil =>
        have := Sum.inr.inj q
        cases this
        exact ⟨fun y => (by cases y), fun _ => ⟨hs.1, hl⟩⟩
      | cons x r =>
        obtain ⟨a1, a2⟩ := hs
        rw [hl] at a2
        have a1 : aI b T z 0 1 (s.1, s.2.1, (aStl 4 s).2.2.1, (aStl 4 s).2.2.2) := a1
        rw [hl] at a1
        have a3 := aStl_I (k := 6) (by decide) (aPop_I hT a1 a2 (by omega))
        have := aBhL_I hT d _ s' g a3.1 q
        refine ⟨fun y => ⟨(this.1 y).1, ?_⟩, this.2⟩
        have h2 : s.1 + 1 + 1 ≤ s'.1 := (this.1 y).2
        omega
    · rw [if_neg y1] at q
      exact aEnd_I hT h q
theorem aTsL_I {b : Nat → Int} {L T : Nat} {z : Int} (hT : TT b L T) : ∀ (d : Nat) (s s' : st), T < s.1 + d → aI b T z 0 0 s → aTsL b d s = .inr s' → aI b T z 0 1 s' ∧ s'.2.2.1 = []
  | 0, s, s', hd, h, q => by
    have := h.1
    omega
  | d + 1, s, s', hd, h, q => by
    unfold aTsL at q
    by_cases y1 : tK b s.1 = 17
    · rw [if_pos y1] at q
      obtain ⟨s1, q1, q⟩ := bd_i q
      obtain ⟨a1, a2⟩ := aOpn_I hT h (.inl ⟨rfl, y1⟩) q1
      exact aTsL_I hT d s1 s' (by omega) a1 q
    · rw [if_neg y1] at q
      by_cases y2 : tK b s.1 = 91
      · rw [if_pos y2] at q
        obtain ⟨s1, q1, q⟩ := bd_i q
        obtain ⟨a1, a2⟩ := aOpn_I hT h (.inr ⟨rfl, y2⟩) q1
        exact aTsL_I hT d s1 s' (by omega) a1 q
      · rw [if_neg y2] at q
        obtain ⟨s1, q1, q⟩ := bd_i q
        obtain ⟨⟨g, s2⟩, q2, q⟩ := bd_i q
        obtain ⟨a1, a2, a3⟩ := aCmp_I hT h q1
        obtain ⟨c1, c2⟩ := aBhL_I hT 400 _ s2 g (aStl_I (k := 6) (by decide) a1).1 q2
        cases g with
        | true =>
          obtain ⟨c3, c4⟩ := c1 rfl
          have c4 : s1.1 + 1 ≤ s2.1 := c4
          exact aTsL_I hT d s2 s' (by omega) c3 q
        | false =>
          have := Sum.inr.inj q
          subst this
          exact c2 rfl
theorem aTst_0 {b : Nat → Int} {T j : Nat} (hj : j ≤ T) : aI b T 0 0 0 (j, 0, [], 0, fun _ => 0, fun _ => 0) := by
  refine ⟨hj, ⟨Int.le_refl _, (by decide : (0 : Int) ≤ 40)⟩, ⟨Nat.zero_le _, trivial, (by decide : (0 : Int) ≤ 10)⟩, ⟨?_, ?_⟩, ⟨fun k hk => absurd hk (Nat.not_lt_zero k), rfl⟩, Int.le_refl _⟩
  · show 2 * (((0 : Nat) : Int) + 0) + 0 ≤ (tS b j : Int) + 2 * 0
    omega
  · show 2 * ((0 : Int) + 0) + 0 ≤ (tS b j : Int) + 4 * 0
    omega
theorem aTst_I {b : Nat → Int} {L T j : Nat} {s : st} (hT : TT b L T) (hj : j ≤ T) (q : aTst b j = .inr s) : aI b T 0 0 1 s ∧ s.2.2.1 = [] ∧ okP s.2.2.2 ∧ (s.2.2.2.1 : Int) ≤ 240 ∧ pof s.2.2.2 s.2.2.2.1 ≤ 280 := by
  have hT4 := hT.2.1
  obtain ⟨h, hw⟩ := aTsL_I hT 401 _ s (by show T < j + 401; omega) (aTst_0 hj) q
  have hn := aI_n hT h (Int.le_refl _)
  obtain ⟨h1, h2, ⟨h3, h4, h5⟩, ⟨h6, h7⟩, h8, h9⟩ := id h
  refine ⟨h, hw, ⟨by omega, h8.1, ?_, by omega⟩, hn.1, hn.2.1⟩
  have := h8.2
  rw [hw] at this
  exact this
