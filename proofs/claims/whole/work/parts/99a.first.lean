-- ===== how both begin =====
def fvl : List Nat := [12, 3, 2, 20, 40, 3, 2, 12]
def fv (k : Nat) : Nat := fvl.getD k 12
def ρ0 : aR := (6, fun i => i + 1, fv, fun _ => 0, 0, fun _ => 0, fun _ => 0, fun _ => 0, fun _ => 0, fun _ => 0)
def δ0 : aD := (ρ0, 0, fun _ => false, false, 0, fun _ => (0, 0, 0))
theorem fv_t : ∀ k, k < 8 → 1 ≤ k → zTabF 2 k = nI (fv k) := by decide +kernel
theorem δ0_v (s : Nat) : vD δ0 s := by
  refine ⟨⟨by decide, by decide⟩, fun i hi => ?_, by decide, fun r => by show 0 < 256; omega, ⟨by show 0 ≤ 24; omega, fun k hk => absurd hk (Nat.not_lt_zero _)⟩, fun i hi => absurd hi (Nat.not_lt_zero _), fun r hr => absurd rfl hr, ⟨fun z => (by cases z), fun ⟨r, hr⟩ => absurd rfl hr⟩, ⟨Nat.zero_le _, by show 7 * 0 ≤ s; omega⟩, fun i hi => absurd hi (Nat.not_lt_zero _)⟩
  have hi : i < 6 := hi
  show 1 ≤ i + 1 ∧ i + 1 ≤ 26
  omega
section FST
variable {g : zG}
/-- a row of one number each -/
theorem fil {A N : Nat} {f : Nat → Int32} {step : Int32 × zG → Option ((Int32 × zG) ⊕ zG)} (hN : N ≤ 5000) (hs : ∀ i G, i < N → G.2 = g.2 → (∀ x, x ≠ A → G.1 x = g.1 x) → step (nI i, G) = some (.inl (nI (i + 1), zsi G A i (f i)))) (he : ∀ G, G.2 = g.2 → (∀ x, x ≠ A → G.1 x = g.1 x) → step (nI N, G) = some (.inr G)) : zw zN step (nI 0, g) = some (zfl g A 0 f N) := by
  refine zw_seq (step := step) (fun i => (nI i, zfl g A 0 f i)) (zfl g A 0 f N) N (fun i hi => ?_) ?_ (N := zN) (by have := zN_big; omega)
  · rw [hs i _ hi (zfl_r _ _ _ _ _) (fun x hx => zfl_at _ _ _ _ _ hx)]
    rw [show zfl g A 0 f (i + 1) = zsi (zfl g A 0 f i) A (0 + i) (f i) from rfl, Nat.zero_add]
  · exact he _ (zfl_r _ _ _ _ _) (fun x hx => zfl_at _ _ _ _ _ hx)
theorem q_first {d : Nat} (hr : rR d g) : ∃ g', f_X5_beAtFirst d g = some (0, g') ∧ frm (fun x => x = d + 1 ∨ x = d + 2 ∨ x = d + 3 ∨ x = d + 9 ∨ x = d + 10) g g' ∧ g'.2 = g.2 ∧ g'.1 (d + 1) 1 = nI 6 ∧ (∀ i, i < 6 → g'.1 (d + 2) i = nI (i + 1)) ∧ g'.1 (d + 3) 5 = 0 ∧ g'.1 (d + 3) 6 = 0 ∧ (∀ k, 1 ≤ k → k ≤ 7 → g'.1 (d + 9) k = nI (fv k)) ∧ ∀ i, i < 60 → g'.1 (d + 10) i = nI 0 := by
  obtain ⟨r0, r1, r2, r3, r4, r5⟩ := hr
  obtain ⟨G1, hG1⟩ : ∃ G, G = zcp g (d + 9) (zTabF 2) 0 0 8 := ⟨_, rfl⟩
  obtain ⟨G2, hG2⟩ : ∃ G, G = zsi G1 (d + 1) 1 (nI 6) := ⟨_, rfl⟩
  obtain ⟨G3, hG3⟩ : ∃ G, G = zfl G2 (d + 2) 0 (fun i => nI (i + 1)) 6 := ⟨_, rfl⟩
  obtain ⟨G4, hG4⟩ : ∃ G, G = zfl G3 (d + 10) 0 (fun _ => 0) 60 := ⟨_, rfl⟩
  have s1 : G1.2 = g.2 := by rw [hG1]; rfl
  have s2 : G2.2 = g.2 := by rw [hG2]; exact s1
  have s3 : G3.2 = g.2 := by rw [hG3, zfl_r]; exact s2
  have s4 : G4.2 = g.2 := by rw [hG4, zfl_r]; exact s3
  have e1 : ∀ x, x ≠ d + 9 → G1.1 x = g.1 x := fun x hx => by rw [hG1, zcp_at hx]
  have e2 : ∀ x, x ≠ d + 1 → G2.1 x = G1.1 x := fun x hx => by rw [hG2, zsi_at hx]
  have e3 : ∀ x, x ≠ d + 2 → G3.1 x = G2.1 x := fun x hx => by rw [hG3, zfl_at _ _ _ _ _ hx]
  have e4 : ∀ x, x ≠ d + 10 → G4.1 x = G3.1 x := fun x hx => by rw [hG4, zfl_at _ _ _ _ _ hx]
  have h1 : G2.1 (d + 1) 1 = nI 6 := by rw [hG2, zsi_same]
  have lp : zw zN (fun s : Int32 × zG => l_X5_beAtFirst_30 d s.1 s.2) (0, G2) = some G3 := by
    rw [hG3]
    refine fil (A := d + 2) (N := 6) (f := fun i => nI (i + 1)) (by omega) (fun i G hi hG hx => ?_) (fun G hG hx => ?_)
    · show l_X5_beAtFirst_30 d (nI i) G = _
      unfold l_X5_beAtFirst_30
      rw [hG, s2, r0, hx (d + 1) (by omega), h1, if_neg (fun z => by have := (nle (by omega) (by omega)).mp z; omega), zc_pos (zlit i 48 (by omega) (by omega)), nI_cl (by omega), r4, nI_1, zl_eq, zl_eq]
    · show l_X5_beAtFirst_30 d (nI 6) G = _
      unfold l_X5_beAtFirst_30
      rw [hG, s2, r0, hx (d + 1) (by omega), h1, if_pos (Int32.le_refl _)]
  refine ⟨zsi (zsi G4 (d + 3) 5 0) (d + 3) 6 0, ?_, ⟨?_, fun x hx => ⟨?_, ?_⟩⟩, s4, ?_, fun i hi => ?_, ?_, zsi_same, fun k k1 k2 => ?_, fun i hi => ?_⟩
  · unfold f_X5_beAtFirst
    rw [zc_pos (by decide), r2, zl_eq, ← hG1, zc_pos (by decide), s1, r0, zl_eq, show zTabF 2 (0 : Int32).toNatClampNeg = nI 6 from rfl, ← hG2, lp, zk_some]
    unfold j_X5_beAtFirst_59 f_X3_clear
    rw [s3, r3, j_fill (by omega), zb_some, ← hG4, s4, r1, zl_eq, zl_eq, zb_some]
  · show G4.2.1 = _
    rw [s4]
  · rw [zsi_at (by omega), zsi_at (by omega), e4 x (by omega), e3 x (by omega), e2 x (by omega), e1 x (by omega)]
  · show G4.2.2 x = _
    rw [s4]
  · rw [zsi_at (by omega), zsi_at (by omega), e4 (d + 1) (by omega), e3 (d + 1) (by omega)]; exact h1
  · rw [zsi_at (by omega), zsi_at (by omega), e4 (d + 2) (by omega), hG3, zfl_get, if_pos (by omega), Nat.sub_zero]
  · rw [zsi_get (by omega), zsi_same]
  · rw [zsi_at (by omega), zsi_at (by omega), e4 (d + 9) (by omega), e3 (d + 9) (by omega), e2 (d + 9) (by omega), hG1]
    show (zcp g (d + 9) (zTabF 2) 0 0 (nI 8)).1 (d + 9) k = _
    rw [zcp_get (by omega) (by omega)]
    exact fv_t k (by omega) k1
  · rw [zsi_at (by omega), zsi_at (by omega), hG4, zfl_get, if_pos (by omega)]
    rfl
theorem m_first {M : Nat} (hM : rM M g) : ∃ g', f_X10_firstDraft M g = some (0, g') ∧ hF M g g' ∧ (∀ j, 28 ≤ j → g'.1 M j = g.1 M j) ∧ mD δ0 M g' := by
  obtain ⟨r1, r2, r3, -, -, -, -, -, r9, -⟩ := hM.dr
  obtain ⟨G0, hG0⟩ : ∃ G, G = zsi g M 10 6 := ⟨_, rfl⟩
  obtain ⟨G1, hG1⟩ : ∃ G, G = zfl G0 (M + 9) 0 (fun i => if 6 ≤ i then 0 else nI (i + 1)) 49 := ⟨_, rfl⟩
  obtain ⟨G2, hG2⟩ : ∃ G, G = zfl G1 (M + 10) 0 (fun k => nI (fv k)) 8 := ⟨_, rfl⟩
  obtain ⟨G3, hG3⟩ : ∃ G, G = zfl G2 (M + 11) 0 (fun _ => 0) 60 := ⟨_, rfl⟩
  obtain ⟨G4, hG4⟩ : ∃ G, G = zfl G3 (M + 17) 0 (fun _ => 0) 13 := ⟨_, rfl⟩
  have s0 : G0.2 = g.2 := by rw [hG0]; rfl
  have s1 : G1.2 = g.2 := by rw [hG1, zfl_r]; exact s0
  have s2 : G2.2 = g.2 := by rw [hG2, zfl_r]; exact s1
  have s3 : G3.2 = g.2 := by rw [hG3, zfl_r]; exact s2
  have s4 : G4.2 = g.2 := by rw [hG4, zfl_r]; exact s3
  have e1 : ∀ x, x ≠ M + 9 → G1.1 x = G0.1 x := fun x hx => by rw [hG1, zfl_at _ _ _ _ _ hx]
  have e2 : ∀ x, x ≠ M + 10 → G2.1 x = G1.1 x := fun x hx => by rw [hG2, zfl_at _ _ _ _ _ hx]
  have e3 : ∀ x, x ≠ M + 11 → G3.1 x = G2.1 x := fun x hx => by rw [hG3, zfl_at _ _ _ _ _ hx]
  have e4 : ∀ x, x ≠ M + 17 → G4.1 x = G3.1 x := fun x hx => by rw [hG4, zfl_at _ _ _ _ _ hx]
  have em : ∀ j, G4.1 M j = G0.1 M j := fun j => by rw [e4 M (by omega), e3 M (by omega), e2 M (by omega), e1 M (by omega)]
  have l1 : zw zN (fun s : Int32 × zG => l_X10_firstDraft_8 M s.1 s.2) (0, G0) = some G1 := by
    rw [hG1]
    refine fil (A := M + 9) (N := 49) (by omega) (fun i G hi hG hx => ?_) (fun G hG hx => ?_)
    · show l_X10_firstDraft_8 M (nI i) G = _
      unfold l_X10_firstDraft_8
      rw [hG, s0, r1, if_neg (show ¬ (49 : Int32) ≤ nI i from fun z => by have := (nle (a := 49) (by omega) (by omega)).mp z; omega)]
      by_cases h6 : 6 ≤ i
      · rw [if_pos (show (6 : Int32) ≤ nI i from (nle (a := 6) (by omega) (by omega)).mpr h6), if_pos h6, zc_pos (zlit i 49 (by omega) (by omega)), nI_cl (by omega), zl_eq, zl_eq, nI_1]
      · rw [if_neg (show ¬ (6 : Int32) ≤ nI i from fun z => h6 ((nle (a := 6) (by omega) (by omega)).mp z)), if_neg h6, zc_pos (zlit i 49 (by omega) (by omega)), nI_cl (by omega), zl_eq, zl_eq, nI_1]
    · show l_X10_firstDraft_8 M (nI 49) G = _
      unfold l_X10_firstDraft_8
      rw [if_pos (show (49 : Int32) ≤ nI 49 from Int32.le_refl _)]
  have l2 : zw zN (fun s : Int32 × zG => l_X10_firstDraft_41 M s.1 s.2) (0, G1) = some G2 := by
    rw [hG2]
    refine fil (A := M + 10) (N := 8) (by omega) (fun i G hi hG hx => ?_) (fun G hG hx => ?_)
    · show l_X10_firstDraft_41 M (nI i) G = _
      unfold l_X10_firstDraft_41
      rw [hG, s1, r2]
      have hq : i = 0 ∨ i = 1 ∨ i = 2 ∨ i = 3 ∨ i = 4 ∨ i = 5 ∨ i = 6 ∨ i = 7 := by omega
      rcases hq with rfl | rfl | rfl | rfl | rfl | rfl | rfl | rfl
      · rw [if_neg (show ¬ (8 : Int32) ≤ nI 0 by decide), if_neg (show ¬ nI 0 = 1 by decide), if_neg (show ¬ nI 0 = 2 by decide), if_neg (show ¬ nI 0 = 3 by decide), if_neg (show ¬ nI 0 = 4 by decide), if_neg (show ¬ nI 0 = 5 by decide), if_neg (show ¬ nI 0 = 6 by decide), zc_pos (by decide), zl_eq, zl_eq]; rfl
      · rw [if_neg (show ¬ (8 : Int32) ≤ nI 1 by decide), if_pos (show nI 1 = 1 by decide), zc_pos (by decide), zl_eq, zl_eq]; rfl
      · rw [if_neg (show ¬ (8 : Int32) ≤ nI 2 by decide), if_neg (show ¬ nI 2 = 1 by decide), if_pos (show nI 2 = 2 by decide), zc_pos (by decide), zl_eq, zl_eq]; rfl
      · rw [if_neg (show ¬ (8 : Int32) ≤ nI 3 by decide), if_neg (show ¬ nI 3 = 1 by decide), if_neg (show ¬ nI 3 = 2 by decide), if_pos (show nI 3 = 3 by decide), zc_pos (by decide), zl_eq, zl_eq]; rfl
      · rw [if_neg (show ¬ (8 : Int32) ≤ nI 4 by decide), if_neg (show ¬ nI 4 = 1 by decide), if_neg (show ¬ nI 4 = 2 by decide), if_neg (show ¬ nI 4 = 3 by decide), if_pos (show nI 4 = 4 by decide), zc_pos (by decide), zl_eq, zl_eq]; rfl
      · rw [if_neg (show ¬ (8 : Int32) ≤ nI 5 by decide), if_neg (show ¬ nI 5 = 1 by decide), if_neg (show ¬ nI 5 = 2 by decide), if_neg (show ¬ nI 5 = 3 by decide), if_neg (show ¬ nI 5 = 4 by decide), if_pos (show nI 5 = 5 by decide), zc_pos (by decide), zl_eq, zl_eq]; rfl
      · rw [if_neg (show ¬ (8 : Int32) ≤ nI 6 by decide), if_neg (show ¬ nI 6 = 1 by decide), if_neg (show ¬ nI 6 = 2 by decide), if_neg (show ¬ nI 6 = 3 by decide), if_neg (show ¬ nI 6 = 4 by decide), if_neg (show ¬ nI 6 = 5 by decide), if_pos (show nI 6 = 6 by decide), zc_pos (by decide), zl_eq, zl_eq]; rfl
      · rw [if_neg (show ¬ (8 : Int32) ≤ nI 7 by decide), if_neg (show ¬ nI 7 = 1 by decide), if_neg (show ¬ nI 7 = 2 by decide), if_neg (show ¬ nI 7 = 3 by decide), if_neg (show ¬ nI 7 = 4 by decide), if_neg (show ¬ nI 7 = 5 by decide), if_neg (show ¬ nI 7 = 6 by decide), zc_pos (by decide), zl_eq, zl_eq]; rfl
    · show l_X10_firstDraft_41 M (nI 8) G = _
      unfold l_X10_firstDraft_41
      rw [if_pos (show (8 : Int32) ≤ nI 8 from Int32.le_refl _)]
  have l3 : zw zN (fun s : Int32 × zG => l_X10_firstDraft_120 M s.1 s.2) (0, G2) = some G3 := by
    rw [hG3]
    refine fil (A := M + 11) (N := 60) (by omega) (fun i G hi hG hx => ?_) (fun G hG hx => ?_)
    · show l_X10_firstDraft_120 M (nI i) G = _
      unfold l_X10_firstDraft_120
      rw [hG, s2, r3, if_neg (show ¬ (60 : Int32) ≤ nI i from fun z => by have := (nle (a := 60) (by omega) (by omega)).mp z; omega), zc_pos (zlit i 60 (by omega) (by omega)), nI_cl (by omega), zl_eq, zl_eq, nI_1]
    · show l_X10_firstDraft_120 M (nI 60) G = _
      unfold l_X10_firstDraft_120
      rw [if_pos (show (60 : Int32) ≤ nI 60 from Int32.le_refl _)]
  have l4 : zw zN (fun s : Int32 × zG => l_X10_firstDraft_141 M s.1 s.2) (0, G3) = some G4 := by
    rw [hG4]
    refine fil (A := M + 17) (N := 13) (by omega) (fun i G hi hG hx => ?_) (fun G hG hx => ?_)
    · show l_X10_firstDraft_141 M (nI i) G = _
      unfold l_X10_firstDraft_141
      rw [hG, s3, r9, if_neg (show ¬ (13 : Int32) ≤ nI i from fun z => by have := (nle (a := 13) (by omega) (by omega)).mp z; omega), zc_pos (zlit i 13 (by omega) (by omega)), nI_cl (by omega), zl_eq, zl_eq, nI_1]
      rfl
    · show l_X10_firstDraft_141 M (nI 13) G = _
      unfold l_X10_firstDraft_141
      rw [if_pos (show (13 : Int32) ≤ nI 13 from Int32.le_refl _)]
  obtain ⟨G5, hG5⟩ : ∃ G, G = zsi (zsi (zsi (zsi G4 M 14 0) M 15 0) M 20 0) M 23 0 := ⟨_, rfl⟩
  have s5 : G5.2 = g.2 := by rw [hG5]; exact s4
  have e5 : ∀ x, x ≠ M → G5.1 x = G4.1 x := fun x hx => by rw [hG5, zsi_at hx, zsi_at hx, zsi_at hx, zsi_at hx]
  have m5 : ∀ j, j ≠ 14 → j ≠ 15 → j ≠ 20 → j ≠ 23 → G5.1 M j = G0.1 M j := fun j a b c d => by rw [hG5, zsi_get d, zsi_get c, zsi_get b, zsi_get a, em]
  refine ⟨G5, ?_, ⟨⟨by rw [s5], fun x hx => ⟨?_, by rw [s5]⟩⟩, fun j hj => ?_⟩, fun j hj => ?_, ⟨?_, fun i hi => ?_⟩, ⟨?_, ?_⟩, fun k hk => absurd hk (Nat.not_lt_zero _), fun i hi => absurd hi (Nat.not_lt_zero _), fun k k1 k2 => ?_, fun i hi => ?_, ⟨?_, fun i hi => absurd hi (Nat.not_lt_zero _)⟩, fun k hk => ?_, ?_⟩
  · unfold f_X10_firstDraft
    rw [zl_eq, ← hG0, l1, zk_some]
    unfold j_X10_firstDraft_39
    rw [l2, zk_some]
    unfold j_X10_firstDraft_118
    rw [l3, zk_some]
    unfold j_X10_firstDraft_139
    rw [l4, zk_some]
    unfold j_X10_firstDraft_160
    rw [zl_eq, zl_eq, zl_eq, zl_eq, ← hG5]
  · unfold SMt at hx
    rw [e5 x (by omega), e4 x (by omega), e3 x (by omega), e2 x (by omega), e1 x (by omega), hG0, zsi_at (by omega)]
  · unfold tFd at hj
    rw [m5 j (by omega) (by omega) (by omega) (by omega), hG0, zsi_get (by omega)]
  · rw [m5 j (by omega) (by omega) (by omega) (by omega), hG0, zsi_get (by omega)]
  · rw [m5 10 (by omega) (by omega) (by omega) (by omega), hG0, zsi_same]; rfl
  · have hi : i < 6 := hi
    rw [e5 _ (by omega), e4 _ (by omega), e3 _ (by omega), e2 _ (by omega), hG1, zfl_get, if_pos (by omega), Nat.sub_zero, if_neg (by omega)]
    rfl
  · rw [hG5, zsi_get (by omega), zsi_get (by omega), zsi_same]; rfl
  · rw [hG5, zsi_get (by omega), zsi_same]; rfl
  · rw [e5 _ (by omega), e4 _ (by omega), e3 _ (by omega), hG2, zfl_get, if_pos (by omega), Nat.sub_zero]
    rfl
  · rw [e5 _ (by omega), e4 _ (by omega), hG3, zfl_get, if_pos (by omega)]
    rfl
  · rw [hG5, zsi_same]; rfl
  · rw [e5 _ (by omega), hG4, zfl_get, if_pos (by omega)]
    rfl
  · rw [hG5, zsi_get (by omega), zsi_get (by omega), zsi_get (by omega), zsi_same]; rfl
-- ===== what is settled behind all =====
theorem smf_0 {f : Nat → Nat} : ∀ n, smf f n = 0 → ∀ i, i < n → f i = 0 := by
  intro n
  induction n with
  | zero => intro _ i hi; omega
  | succ n ih =>
    intro h i hi
    have h : smf f n + f n = 0 := h
    by_cases e : i = n
    · rw [e]; omega
    · exact ih (by omega) i (by omega)
theorem smf_le {f : Nat → Nat} {B : Nat} (h : ∀ i, f i ≤ B) : ∀ n, smf f n ≤ n * B := by
  intro n
  induction n with
  | zero => show 0 ≤ _; omega
  | succ n ih =>
    show smf f n + f n ≤ (n + 1) * B
    have := h n
    rw [Nat.add_mul]
    omega
theorem hol_z {h : Nat → Nat} {i : Nat} (hb : h i < 256) (e : hol h i = 0) : h i = 0 := by
  apply Nat.eq_of_testBit_eq
  intro k
  rw [Nat.zero_testBit]
  by_cases hk : k < 32
  · exact cw_none e k hk
  · apply Nat.testBit_lt_two_pow
    have : (2 : Nat) ^ 8 ≤ 2 ^ k := Nat.pow_le_pow_right (by omega) (by omega)
    omega
def finH (δ : aD) (r : Nat) : Nat := if dB δ = true then aH (dR δ) r else if r = 0 then 1 else 0
theorem q_settle {d : Nat} {δ : aD} (hr : rR d g) (hH : ∀ i, i < 60 → g.1 (d + 10) i = nI (aH (dR δ) i) ∧ aH (dR δ) i < 256) (hB : dB δ = true ↔ ∃ r, r < 60 ∧ aH (dR δ) r ≠ 0) : ∃ g', f_X5_settle d g = some (0, g') ∧ frm (fun x => x = d + 1 ∨ x = d + 10) g g' ∧ g'.2 = g.2 ∧ g'.1 (d + 1) 1 = g.1 (d + 1) 1 ∧ g'.1 (d + 1) 2 = g.1 (d + 9) 1 ∧ g'.1 (d + 1) 3 = g.1 (d + 9) 2 ∧ ∀ i, i < 60 → g'.1 (d + 10) i = nI (finH δ i) := by
  obtain ⟨r0, r1, r2, r3, -⟩ := hr
  obtain ⟨G, hG⟩ : ∃ G, G = zsi (zsi g (d + 1) 2 (g.1 (d + 9) 1)) (d + 1) 3 (g.1 (d + 9) 2) := ⟨_, rfl⟩
  have s0 : G.2 = g.2 := by rw [hG]; rfl
  have e0 : ∀ x, x ≠ d + 1 → G.1 x = g.1 x := fun x hx => by rw [hG, zsi_at hx, zsi_at hx]
  have hcnt := q_holeCount (h := aH (dR δ)) (a := d) (g := G) (fun i hi => ⟨by rw [s0, r3, e0 (d + 10) (by omega)]; exact (hH i hi).1, (hH i hi).2⟩)
  have hsm : smf (hol (aH (dR δ))) 60 ≤ 60 * 32 := smf_le (fun i => cw_le _ _) 60
  have st : ∀ r, (if nI (smf (hol (aH (dR δ))) 60) = 0 then (zc (zin 0 60) (zl (zsi G (G.2.1 d 3) (0 : Int32).toNatClampNeg 1) (fun g11 => some (((0 : Int32), g11))))) else (some ((0, G)))) = r → f_X5_settle d g = r := by
    intro r h
    unfold f_X5_settle
    rw [zc_pos (by decide), r0, r2, zl_eq, zc_pos (by decide), zsi_r, r0, r2, zl_eq, zsi_at (b := d + 9) (by omega), c1, c2, ← hG, hcnt, zb_some]
    exact h
  have h1 : G.1 (d + 1) 1 = g.1 (d + 1) 1 := by rw [hG, zsi_get (by omega), zsi_get (by omega)]
  have h2 : G.1 (d + 1) 2 = g.1 (d + 9) 1 := by rw [hG, zsi_get (by omega), zsi_same]
  have h3 : G.1 (d + 1) 3 = g.1 (d + 9) 2 := by rw [hG, zsi_same]
  have f0 : frm (fun x => x = d + 1 ∨ x = d + 10) g G := by
    rw [hG]
    exact (frm.si (S := fun x => x = d + 1 ∨ x = d + 10) (Or.inl rfl)).trans (frm.si (S := fun x => x = d + 1 ∨ x = d + 10) (Or.inl rfl))
  cases hb : dB δ with
  | true =>
    obtain ⟨r, hr60, hrr⟩ := hB.mp hb
    have hne : ¬ nI (smf (hol (aH (dR δ))) 60) = 0 := fun z => by
      have := (nI_zr (by omega)).mp z
      exact hrr (hol_z (hH r hr60).2 (smf_0 60 this r hr60))
    refine ⟨G, st _ (if_neg hne), f0, s0, h1, h2, h3, fun i hi => ?_⟩
    rw [e0 (d + 10) (by omega), (hH i hi).1]
    unfold finH
    rw [if_pos hb]
  | false =>
    have hall : ∀ i, i < 60 → aH (dR δ) i = 0 := fun i hi => by
      apply Classical.byContradiction
      intro hn
      have := hB.mpr ⟨i, hi, hn⟩
      rw [hb] at this
      cases this
    have hz : smf (hol (aH (dR δ))) 60 = 0 := by
      have hgen : ∀ n, n ≤ 60 → smf (hol (aH (dR δ))) n = 0 := by
        intro n
        induction n with
        | zero => intro _; rfl
        | succ n ih =>
          intro hn
          show smf _ n + hol _ n = 0
          rw [ih (by omega), hol_0 (hall n (by omega))]
      exact hgen 60 (Nat.le_refl _)
    refine ⟨zsi G (d + 10) 0 1, st _ ?_, f0.trans (frm.si (Or.inr rfl)), s0, by rw [zsi_at (by omega)]; exact h1, by rw [zsi_at (by omega)]; exact h2, by rw [zsi_at (by omega)]; exact h3, fun i hi => ?_⟩
    · rw [hz, if_pos (show nI 0 = 0 from rfl), zc_pos (by decide), s0, r3, zl_eq]
      rfl
    · unfold finH
      rw [if_neg (by rw [hb]; decide)]
      by_cases e : i = 0
      · rw [e, zsi_same, if_pos rfl]; rfl
      · rw [zsi_get e, e0 (d + 10) (by omega), (hH i hi).1, hall i hi, if_neg e]
-- ===== a printer begins =====
def bg (a b1 b2 : Nat) (g : zG) : zG := zfl (zsi (zsi (zsi (zsi (zsi (zsr (zsr g a 7 b1) a 8 b2) a 2 0) a 3 0) a 4 1) a 5 0) (a + 2) 2 0) (a + 1) 0 (fun _ => 0) 40
theorem bg_p {a b1 b2 : Nat} : (∀ x, ¬ (a ≤ x ∧ x ≤ a + 2) → (bg a b1 b2 g).1 x = g.1 x) ∧ (bg a b1 b2 g).2.2 = g.2.2 ∧ (∀ x, x ≠ a → (bg a b1 b2 g).2.1 x = g.2.1 x) ∧ (∀ j, j ≠ 7 → j ≠ 8 → (bg a b1 b2 g).2.1 a j = g.2.1 a j) ∧ (bg a b1 b2 g).2.1 a 7 = b1 ∧ (bg a b1 b2 g).2.1 a 8 = b2 ∧ ((bg a b1 b2 g).1 a 2 = 0 ∧ (bg a b1 b2 g).1 a 3 = 0 ∧ (bg a b1 b2 g).1 a 4 = 1) ∧ (∀ c, c < 40 → (bg a b1 b2 g).1 (a + 1) c = 0) ∧ (bg a b1 b2 g).1 (a + 2) 2 = 0 := by
  unfold bg
  refine ⟨fun x hx => ?_, by rw [zfl_r]; rfl, fun x hx => ?_, fun j h7 h8 => ?_, ?_, ?_, ⟨?_, ?_, ?_⟩, fun c hc => ?_, ?_⟩
  · rw [zfl_at _ _ _ _ _ (by omega), zsi_at (by omega), zsi_at (by omega), zsi_at (by omega), zsi_at (by omega), zsi_at (by omega)]; rfl
  · rw [zfl_r]
    show (zsr (zsr g a 7 b1) a 8 b2).2.1 x = _
    rw [zsr_at hx, zsr_at hx]
  · rw [zfl_r]
    show (zsr (zsr g a 7 b1) a 8 b2).2.1 a j = _
    rw [zsr_get h8, zsr_get h7]
  · rw [zfl_r]
    show (zsr (zsr g a 7 b1) a 8 b2).2.1 a 7 = _
    rw [zsr_get (by omega), zsr_same]
  · rw [zfl_r]
    show (zsr (zsr g a 7 b1) a 8 b2).2.1 a 8 = _
    rw [zsr_same]
  · rw [zfl_at _ _ _ _ _ (by omega), zsi_at (by omega), zsi_get (by omega), zsi_get (by omega), zsi_get (by omega), zsi_same]
  · rw [zfl_at _ _ _ _ _ (by omega), zsi_at (by omega), zsi_get (by omega), zsi_get (by omega), zsi_same]
  · rw [zfl_at _ _ _ _ _ (by omega), zsi_at (by omega), zsi_get (by omega), zsi_same]
  · rw [zfl_get, if_pos (by omega)]
  · rw [zfl_at _ _ _ _ _ (by omega), zsi_same]
theorem q_begin {a b1 b2 : Nat} (h0 : g.2.1 a 0 = a + 1) (h1 : g.2.1 a 1 = a + 2) : f_X2_begin a b1 b2 g = if g.2.1 a 6 = 0 then some (0, bg a b1 b2 g) else zb (f_X1_clear (g.2.1 a 6) (bg a b1 b2 g)) (fun v14 g15 => some ((0, g15))) := by
  have hp := bg_p (g := g) (a := a) (b1 := b1) (b2 := b2)
  unfold f_X2_begin
  simp only [zl_eq]
  have k1 : (zsi (zsi (zsi (zsi (zsr (zsr g a 7 b1) a 8 b2) a 2 0) a 3 0) a 4 1) a 5 0).2.1 a 1 = a + 2 := by
    show (zsr (zsr g a 7 b1) a 8 b2).2.1 a 1 = _
    rw [zsr_get (by omega), zsr_get (by omega)]; exact h1
  have k2 : (zsi (zsi (zsi (zsi (zsi (zsr (zsr g a 7 b1) a 8 b2) a 2 0) a 3 0) a 4 1) a 5 0) (a + 2) 2 0).2.1 a 0 = a + 1 := by
    show (zsr (zsr g a 7 b1) a 8 b2).2.1 a 0 = _
    rw [zsr_get (by omega), zsr_get (by omega)]; exact h0
  rw [k1, k2, j_fill (by omega), zb_some]
  have hb : zfl (zsi (zsi (zsi (zsi (zsi (zsr (zsr g a 7 b1) a 8 b2) a 2 0) a 3 0) a 4 1) a 5 0) (a + 2) 2 0) (a + 1) 0 (fun _ => 0) 40 = bg a b1 b2 g := rfl
  rw [hb, hp.2.2.2.1 6 (by omega) (by omega)]
end FST
