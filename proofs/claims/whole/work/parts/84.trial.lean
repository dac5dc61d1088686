-- ===== a trial: a program run by a chain that need not be that of the text, in both =====
section TRI
variable {ρ : aR} {n : Nat} {ch : Nat → Nat}
/-- a loop that copies one row to another -/
theorem cpl {A B N : Nat} {step : Int32 × zG → Option ((Int32 × zG) ⊕ zG)} {g : zG} (hAB : A ≠ B) (hN : N ≤ 5000) (hs : ∀ i G, i < N → G.2 = g.2 → (∀ x, x ≠ A → G.1 x = g.1 x) → step (nI i, G) = some (.inl (nI (i + 1), zsi G A i (G.1 B i)))) (he : ∀ G, G.2 = g.2 → (∀ x, x ≠ A → G.1 x = g.1 x) → step (nI N, G) = some (.inr G)) : zw zN step (nI 0, g) = some (zfl g A 0 (fun j => g.1 B j) N) := by
  refine zw_seq (step := step) (fun i => (nI i, zfl g A 0 (fun j => g.1 B j) i)) (zfl g A 0 (fun j => g.1 B j) N) N (fun i hi => ?_) ?_ (N := zN) (by have := zN_big; omega)
  · rw [hs i _ hi (zfl_r _ _ _ _ _) (fun x hx => zfl_at _ _ _ _ _ hx), zfl_at g A 0 _ i (fun z => hAB z.symm)]
    rw [show zfl g A 0 (fun j => g.1 B j) (i + 1) = zsi (zfl g A 0 (fun j => g.1 B j) i) A (0 + i) (g.1 B i) from rfl, Nat.zero_add]
  · exact he _ (zfl_r _ _ _ _ _) (fun x hx => zfl_at _ _ _ _ _ hx)
def p0 : aJ := (fun _ => 0, 0, 0, 1, noY, (false, 0, 0, 0, fun _ => 0, fun _ => 0), 0)
theorem p0_v (hv : vR ρ) : vJ false ρ 0 0 0 p0 := ⟨fun c hc => ⟨Nat.zero_le _, fun _ => rfl⟩, by have := hv.2.2.2.2.2.2.2.2.1; show 0 < aV ρ 7; omega, Nat.le_refl _, fun z => (by cases z)⟩
/-- cells that trials of the class may write; references of their printer -/
def frX (S : Nat → Prop) (X : Nat) (g g' : zG) : Prop := (∀ x, x ≠ X + 42 → g'.2.1 x = g.2.1 x) ∧ (∀ j, j ≠ 7 → j ≠ 8 → g'.2.1 (X + 42) j = g.2.1 (X + 42) j) ∧ ∀ x, ¬ S x → g'.1 x = g.1 x ∧ g'.2.2 x = g.2.2 x
theorem frX.refl (S : Nat → Prop) (X : Nat) (g : zG) : frX S X g g := ⟨fun _ _ => rfl, fun _ _ _ => rfl, fun _ _ => ⟨rfl, rfl⟩⟩
theorem frX.trans {S : Nat → Prop} {X : Nat} {g g1 g2 : zG} (h1 : frX S X g g1) (h2 : frX S X g1 g2) : frX S X g g2 := ⟨fun x hx => (h2.1 x hx).trans (h1.1 x hx), fun j a b => (h2.2.1 j a b).trans (h1.2.1 j a b), fun x hx => ⟨(h2.2.2 x hx).1.trans (h1.2.2 x hx).1, (h2.2.2 x hx).2.trans (h1.2.2 x hx).2⟩⟩
theorem frX.mono {S S2 : Nat → Prop} {X : Nat} {g g' : zG} (h : frX S X g g') (hs : ∀ x, S x → S2 x) : frX S2 X g g' := ⟨h.1, h.2.1, fun x hx => h.2.2 x (fun z => hx (hs x z))⟩
theorem frX.of {S : Nat → Prop} {X : Nat} {g g' : zG} (h : frm S g g') : frX S X g g' := ⟨fun x _ => by rw [h.1], fun j _ _ => by rw [h.1], h.2⟩
theorem frX.rx {S : Nat → Prop} {X : Nat} {g g' : zG} (h : frX S X g g') (h1 : rX X g) : rX X g' := by
  obtain ⟨hr, hr2, -⟩ := h
  unfold rX rR at *
  simp only [hr2 0 (by omega) (by omega), hr2 1 (by omega) (by omega), hr2 6 (by omega) (by omega)]
  simp (disch := omega) only [hr]
  exact h1
def TC (ρ : aR) (n : Nat) (ch : Nat → Nat) (X r : Nat) (g : zG) : Prop := rX X g ∧ (r = X + 1 ∨ r = X + 12) ∧ cR ρ r g ∧ cCh n (aV ρ 1) (aV ρ 2) ch (X + 40) g
theorem rX.tp {X : Nat} {g : zG} (h : rX X g) : g.2.1 (X + 38) 0 = X + 42 ∧ g.2.1 (X + 38) 1 = X + 39 ∧ g.2.1 (X + 38) 6 = X + 40 ∧ g.2.1 (X + 40) 0 = X + 41 ∧ g.2.1 (X + 42) 0 = X + 43 ∧ g.2.1 (X + 42) 1 = X + 44 ∧ g.2.1 (X + 42) 6 = 0 ∧ g.2.1 X 5 = X + 38 := by unfold rX at h; exact ⟨by simp only [h], by simp only [h], by simp only [h], by simp only [h], by simp only [h], by simp only [h], by simp only [h], by simp only [h]⟩
theorem TC.kept {S : Nat → Prop} {X r : Nat} {g g' : zG} (h : TC ρ n ch X r g) (hf : frX S X g g') (hS : ∀ x, S x → X + 42 ≤ x ∧ x ≤ X + 48) : TC ρ n ch X r g' := by
  obtain ⟨h1, h2, h3, h4⟩ := h
  have e : ∀ x, ¬ (X + 42 ≤ x ∧ x ≤ X + 48) → g'.1 x = g.1 x := fun x hx => (hf.2.2 x (fun z => hx (hS x z))).1
  refine ⟨hf.rx h1, h2, h3.kept (fun b b1 b2 => e b (by omega)), ?_⟩
  have hq := h1.tp
  unfold cCh at *
  rw [hf.1 (X + 40) (by omega), e (X + 40) (by omega), hq.2.2.2.1, e (X + 41) (by omega), ← hq.2.2.2.1]
  exact h4
/-- the reference: what a trial leaves -/
def frR (M : Nat) (g g' : zG) : Prop := g'.2.1 = g.2.1 ∧ (∀ j, j ≠ 43 → g'.1 M j = g.1 M j) ∧ (∀ c, c < 40 → g'.1 (M + 21) c = g.1 (M + 21) c) ∧ ∀ x, x ≠ M → x ≠ M + 21 → ¬ (M + 24 ≤ x ∧ x ≤ M + 26) → x ≠ M + 30 → g'.1 x = g.1 x ∧ g'.2.2 x = g.2.2 x
theorem frR.refl (M : Nat) (g : zG) : frR M g g := ⟨rfl, fun _ _ => rfl, fun _ _ => rfl, fun _ _ _ _ _ => ⟨rfl, rfl⟩⟩
theorem frR.trans {M : Nat} {g g1 g2 : zG} (h1 : frR M g g1) (h2 : frR M g1 g2) : frR M g g2 := ⟨h2.1.trans h1.1, fun j hj => (h2.2.1 j hj).trans (h1.2.1 j hj), fun c hc => (h2.2.2.1 c hc).trans (h1.2.2.1 c hc), fun x a b c d => ⟨(h2.2.2.2 x a b c d).1.trans (h1.2.2.2 x a b c d).1, (h2.2.2.2 x a b c d).2.trans (h1.2.2.2 x a b c d).2⟩⟩
theorem frR.pmb {M : Nat} {g g' : zG} (h : frR M g g') (hB : PMb ρ n ch M g) : PMb ρ n ch M g' := by
  obtain ⟨h1, h2, h3⟩ := hB
  obtain ⟨f1, f2, f3, f4⟩ := h
  have e : ∀ x, x ≠ M → x ≠ M + 21 → ¬ (M + 24 ≤ x ∧ x ≤ M + 26) → x ≠ M + 30 → g'.1 x = g.1 x := fun x a b c d => (f4 x a b c d).1
  unfold PMb mP mCh at *
  rw [e (M + 4) (by omega) (by omega) (by omega) (by omega), e (M + 5) (by omega) (by omega) (by omega) (by omega), e (M + 6) (by omega) (by omega) (by omega) (by omega), e (M + 7) (by omega) (by omega) (by omega) (by omega), e (M + 8) (by omega) (by omega) (by omega) (by omega), e (M + 2) (by omega) (by omega) (by omega) (by omega), e (M + 3) (by omega) (by omega) (by omega) (by omega), e (M + 1) (by omega) (by omega) (by omega) (by omega), f2 4 (by omega), f2 0 (by omega)]
  exact ⟨h1.kept f1, h2, h3⟩
theorem rM.kl {M : Nat} {g : zG} (h : rM M g) : g.2.1 M 55 = M + 30 ∧ g.2.1 M 56 = M + 31 ∧ g.2.1 M 57 = M + 32 := by unfold rM at h; exact ⟨by simp only [h], by simp only [h], by simp only [h]⟩
theorem m_begins {M : Nat} {g : zG} (hM : rM M g) : f_X10_begins M g = some (0, zfl (zsi (zsi g M 34 0) M 35 0) (M + 21) 0 (fun _ => 0) 40) := by
  unfold f_X10_begins
  rw [zl_eq, zl_eq]
  have hz := zw_seq (step := fun s : Int32 × zG => l_X10_begins_12 M s.1 s.2) (fun i => (nI i, zfl (zsi (zsi g M 34 0) M 35 0) (M + 21) 0 (fun _ => 0) i)) (zfl (zsi (zsi g M 34 0) M 35 0) (M + 21) 0 (fun _ => 0) 40) 40 (fun i hi => ?_) ?_ (N := zN) (by have := zN_big; omega)
  · rw [show ((0, zsi (zsi g M 34 0) M 35 0) : Int32 × zG) = (nI 0, zfl (zsi (zsi g M 34 0) M 35 0) (M + 21) 0 (fun _ => 0) 0) from rfl, hz, zk_some]
    rfl
  · show l_X10_begins_12 M (nI i) _ = _
    unfold l_X10_begins_12
    rw [if_neg (show ¬ (40 : Int32) ≤ nI i from fun e => by have := (nle (a := 40) (by omega) (by omega)).mp e; omega), zc_pos (zlit i 40 hi (by omega)), zl_eq, zl_eq, nI_cl (by omega), nI_1, zfl_r, show (zsi (zsi g M 34 0) M 35 0).2.1 M 37 = M + 21 from hM.li]
    rw [show zfl (zsi (zsi g M 34 0) M 35 0) (M + 21) 0 (fun _ => (0 : Int32)) (i + 1) = zsi (zfl (zsi (zsi g M 34 0) M 35 0) (M + 21) 0 (fun _ => 0) i) (M + 21) (0 + i) 0 from rfl, Nat.zero_add]
  · show l_X10_begins_12 M (nI 40) _ = _
    unfold l_X10_begins_12
    rw [if_pos (show (40 : Int32) ≤ nI 40 from (nle (a := 40) (by omega) (by omega)).mpr (Nat.le_refl _))]
theorem zsr_i {g : zG} {a k x : Nat} : (zsr g a k x).1 = g.1 := rfl
theorem zsr_l {g : zG} {a k x : Nat} : (zsr g a k x).2.2 = g.2.2 := rfl
theorem zsr_at {g : zG} {a k x b : Nat} (h : b ≠ a) : (zsr g a k x).2.1 b = g.2.1 b := by
  funext j
  simp [zsr, zu, h]
theorem zsr_get {g : zG} {a k x j : Nat} (h : j ≠ k) : (zsr g a k x).2.1 a j = g.2.1 a j := by simp [zsr, zu, h]
theorem zsr_same {g : zG} {a k x : Nat} : (zsr g a k x).2.1 a k = x := by simp [zsr, zu]
/-- a trial -/
theorem try_two (hv : vR ρ) (hch : vCh n (aV ρ 1) (aV ρ 2) ch) : ∃ (fin : Bool) (V : Nat), V ≤ 400000 ∧ Rs ρ (fun l => ∃ i, i < n ∧ ch i = l) (aM ρ) 0 (fun _ => 0) 0 fin ∧
    (∀ X r g, TC ρ n ch X r g → ∃ g', f_X8_ticksOfRun (X + 38) r g = some (if fin = true then nI V else -4, g') ∧ frX (fun x => X + 42 ≤ x ∧ x ≤ X + 48) X g g') ∧
    ∀ M g, PMb ρ n ch M g → ∃ g', f_X10_tries M g = some (if fin = true then nI V else 1000000000, g') ∧ frR M g g' := by
  have hM24 := hv.2.2.2.2.2.2.2.2.2.2.2.1
  obtain ⟨m, fin, L, π', ⟨m1, m2⟩, f1, f2, hS, hL, hJ2, hL2, C1, C2, C3⟩ := run_two hv hch (b := false) (fun z => (by cases z)) (aM ρ) 0 0 0 0 p0 (by omega) (p0_v hv) (by omega) (by omega)
  refine ⟨fin, pTk π', by have := hJ2.2.2.1; omega, hS, fun X r g hT => ?_, fun M g hB => ?_⟩
  · obtain ⟨h1, h2, h3, h4⟩ := hT
    have hq := h1.tp
    have ha : adr false X (X + 42) r (X + 40) := ⟨h2, Or.inr ⟨rfl, rfl, rfl⟩⟩
    -- the printer begins
    obtain ⟨G0, hG0⟩ : ∃ G, G = zsr (zsr g (X + 42) 7 r) (X + 42) 8 (X + 40) := ⟨_, rfl⟩
    obtain ⟨G1, hG1⟩ : ∃ G, G = zsi (zsi (zsi (zsi (zsi G0 (X + 42) 2 0) (X + 42) 3 0) (X + 42) 4 1) (X + 42) 5 0) (X + 44) 2 0 := ⟨_, rfl⟩
    obtain ⟨G2, hG2⟩ : ∃ G, G = zfl G1 (X + 43) 0 (fun _ => 0) 40 := ⟨_, rfl⟩
    have f0 : frX (fun x => X + 42 ≤ x ∧ x ≤ X + 48) X g G0 := ⟨fun x hx => by rw [hG0, zsr_at hx, zsr_at hx], fun j j1 j2 => by rw [hG0, zsr_get j2, zsr_get j1], fun x _ => by rw [hG0]; exact ⟨rfl, rfl⟩⟩
    have f01 : frm (fun x => X + 42 ≤ x ∧ x ≤ X + 48) G0 G1 := by
      rw [hG1]
      exact ((((frm.si (show X + 42 ≤ X + 42 ∧ X + 42 ≤ X + 48 by omega)).trans (frm.si (show X + 42 ≤ X + 42 ∧ X + 42 ≤ X + 48 by omega))).trans (frm.si (show X + 42 ≤ X + 42 ∧ X + 42 ≤ X + 48 by omega))).trans (frm.si (show X + 42 ≤ X + 42 ∧ X + 42 ≤ X + 48 by omega))).trans (frm.si (show X + 42 ≤ X + 44 ∧ X + 44 ≤ X + 48 by omega))
    have f12 : frm (fun x => X + 42 ≤ x ∧ x ≤ X + 48) G1 G2 := by
      rw [hG2]
      exact (zfl_frm G1 (X + 43) 0 (fun _ => 0) 40).mono (fun x hx => by omega)
    have f02 : frX (fun x => X + 42 ≤ x ∧ x ≤ X + 48) X g G2 := f0.trans (frX.of (f01.trans f12))
    have r7 : G2.2.1 (X + 42) 7 = r := by
      rw [f12.1, f01.1, hG0, zsr_get (by omega), zsr_same]
    have r8 : G2.2.1 (X + 42) 8 = X + 40 := by
      rw [f12.1, f01.1, hG0, zsr_same]
    have h1' : rX X G2 := f02.rx h1
    have hq' := h1'.tp
    have hT2 : TC ρ n ch X r G2 := TC.kept ⟨h1, h2, h3, h4⟩ f02 (fun x hx => hx)
    have hB : PCb ρ n ch X (X + 42) r (X + 40) G2 := ⟨h1', ⟨r7, r8⟩, hT2.2.2.1, hT2.2.2.2⟩
    have e42 : ∀ j, G2.1 (X + 42) j = G1.1 (X + 42) j := fun j => by rw [hG2, zfl_at _ _ _ _ _ (by omega)]
    have hV : PCv false ρ p0 X (X + 42) G2 := by
      refine ⟨fun c hc => ?_, ⟨?_, ?_, ?_⟩, fun z => (by cases z)⟩
      · rw [hG2, zfl_get, if_pos (by omega)]; rfl
      · show G2.1 (X + 42) 2 = (0 : Int32)
        rw [e42, hG1, zsi_at (by omega), zsi_get (by omega), zsi_get (by omega), zsi_get (by omega), zsi_same]
      · show G2.1 (X + 42) 3 = (0 : Int32)
        rw [e42, hG1, zsi_at (by omega), zsi_get (by omega), zsi_get (by omega), zsi_same]
      · show G2.1 (X + 42) 5 = (0 : Int32)
        rw [e42, hG1, zsi_at (by omega), zsi_same]
    have hbg : f_X2_begin (X + 42) r (X + 40) g = some (0, G2) := by
      unfold f_X2_begin
      simp only [zl_eq]
      have k1 : (zsi (zsi (zsi (zsi (zsr (zsr g (X + 42) 7 r) (X + 42) 8 (X + 40)) (X + 42) 2 0) (X + 42) 3 0) (X + 42) 4 1) (X + 42) 5 0).2.1 (X + 42) 1 = X + 44 := by
        show (zsr (zsr g (X + 42) 7 r) (X + 42) 8 (X + 40)).2.1 (X + 42) 1 = X + 44
        rw [zsr_get (by omega), zsr_get (by omega)]; exact hq.2.2.2.2.2.1
      rw [k1]
      have k2 : (zsi (zsi (zsi (zsi (zsi (zsr (zsr g (X + 42) 7 r) (X + 42) 8 (X + 40)) (X + 42) 2 0) (X + 42) 3 0) (X + 42) 4 1) (X + 42) 5 0) (X + 44) 2 0).2.1 (X + 42) 0 = X + 43 := by
        show (zsr (zsr g (X + 42) 7 r) (X + 42) 8 (X + 40)).2.1 (X + 42) 0 = X + 43
        rw [zsr_get (by omega), zsr_get (by omega)]; exact hq.2.2.2.2.1
      rw [k2, j_fill (by omega), zb_some, ← hG0, ← hG1, ← hG2, if_pos hq'.2.2.2.2.2.2.1]
    obtain ⟨g', q1, q2, q3⟩ := C1 X (X + 42) r (X + 40) G2 zN ha hB hV (by have := zN_big; omega)
    have hrun := q_runProgram (N := 0) ha hB q1
    have q2' : frX (fun x => X + 42 ≤ x ∧ x ≤ X + 48) X G2 g' := frX.of (q2.mono (fun x hx => by
      rcases hx with h | h
      · omega
      · exact absurd h.1 (by decide)))
    refine ⟨g', ?_, f02.trans q2'⟩
    have hT3 : TC ρ n ch X r g' := TC.kept hT2 q2' (fun x hx => hx)
    have hr3 : g'.2.1 r 1 = r + 3 := by
      rcases h2 with e | e
      · rw [e]; exact hT3.1.1.2.1
      · rw [e]; exact hT3.1.2.1.2.1
    unfold f_X8_ticksOfRun
    rw [hq.1, hq.2.2.1, hbg, zb_some, hq'.1, hrun, zb_some, hr3, hT3.2.2.1.2.2.1, hT3.1.tp.1, q3.2.1.1]
    cases fin with
    | true => rw [f1 rfl, if_pos rfl, if_pos rfl]
    | false =>
      have := f2 rfl
      rw [if_neg (fun e => by have := (nI_inj (by omega) (by omega)).mp e; omega)]
      rfl
  · have hM := hB.1
    have hkl := hM.kl
    obtain ⟨G1, hG1⟩ : ∃ G, G = zfl g (M + 30) 0 (fun j => g.1 (M + 21) j) 40 := ⟨_, rfl⟩
    have g1r : G1.2 = g.2 := by rw [hG1, zfl_r]
    have hM1 : rM M G1 := hM.kept (by rw [g1r])
    obtain ⟨G2, hG2⟩ : ∃ G, G = zfl (zsi (zsi G1 M 34 0) M 35 0) (M + 21) 0 (fun _ => 0) 40 := ⟨_, rfl⟩
    have f1' : ∀ x, x ≠ M + 30 → G1.1 x = g.1 x := fun x hx => by rw [hG1]; exact zfl_at _ _ _ _ _ hx
    have g2r : G2.2 = g.2 := by
      rw [hG2, zfl_r]
      exact g1r
    have f2' : ∀ x, x ≠ M → x ≠ M + 21 → G2.1 x = G1.1 x := fun x hx hx2 => by
      rw [hG2, zfl_at _ _ _ _ _ hx2, zsi_at hx, zsi_at hx]
    have f2m : ∀ j, G2.1 M j = (zsi (zsi G1 M 34 0) M 35 0).1 M j := fun j => by
      rw [hG2, zfl_at _ _ _ _ _ (by omega)]
    have hf02 : ∀ x, x ≠ M → x ≠ M + 21 → x ≠ M + 30 → G2.1 x = g.1 x := fun x a b c => (f2' x a b).trans (f1' x c)
    have h0m : ∀ j, j ≠ 34 → j ≠ 35 → G2.1 M j = g.1 M j := fun j a b => by rw [f2m, zsi_get b, zsi_get a, f1' M (by omega)]
    have hB2 : PMb ρ n ch M G2 := by
      obtain ⟨b1, b2, b3⟩ := hB
      unfold PMb mP mCh at *
      rw [hf02 (M + 4) (by omega) (by omega) (by omega), hf02 (M + 5) (by omega) (by omega) (by omega), hf02 (M + 6) (by omega) (by omega) (by omega), hf02 (M + 7) (by omega) (by omega) (by omega), hf02 (M + 8) (by omega) (by omega) (by omega), hf02 (M + 2) (by omega) (by omega) (by omega), hf02 (M + 3) (by omega) (by omega) (by omega), hf02 (M + 1) (by omega) (by omega) (by omega), h0m 4 (by omega) (by omega), h0m 0 (by omega) (by omega)]
      exact ⟨b1.kept (by rw [g2r]), b2, b3⟩
    have hV2 : PMv false ρ p0 M G2 := by
      refine ⟨fun c hc => ?_, ⟨?_, ?_⟩, fun z => (by cases z)⟩
      · rw [hG2, zfl_get, if_pos (by omega)]; rfl
      · rw [f2m, zsi_get (by omega), zsi_same]; rfl
      · rw [f2m, zsi_same]; rfl
    obtain ⟨G3, q1, q2, q3⟩ := C2 M G2 zN (g.1 M 34) (g.1 M 35) rfl hB2 hV2 (by have := zN_big; omega)
    have hM3 : rM M G3 := hB2.1.kept q2.1.1
    obtain ⟨G4, hG4⟩ : ∃ G, G = zsi (zsi G3 M 34 (g.1 M 34)) M 35 (g.1 M 35) := ⟨_, rfl⟩
    have g4r : G4.2 = G3.2 := by rw [hG4]; rfl
    obtain ⟨G5, hG5⟩ : ∃ G, G = zfl G4 (M + 21) 0 (fun j => G4.1 (M + 30) j) 40 := ⟨_, rfl⟩
    have hM4 : rM M G4 := hM3.kept (by rw [g4r])
    have e3 : ∀ x, ¬ SM false M x → G3.1 x = G2.1 x := fun x hx => (q2.1.2 x hx).1
    have hns : ∀ x, x ≠ M → x ≠ M + 21 → ¬ (M + 24 ≤ x ∧ x ≤ M + 26) → ¬ SM false M x := fun x a b c z => by
      unfold SM at z
      rcases z with z | z | z | z
      · exact a z
      · exact b z
      · exact c z
      · exact absurd z.1 (by decide)
    have e4 : ∀ x, x ≠ M → G4.1 x = G3.1 x := fun x hx => by
      rw [hG4, zsi_at hx, zsi_at hx]
    refine ⟨G5, ?_, ?_, ?_, ?_, ?_⟩
    · have l1 : zw zN (fun s : Int32 × zG => l_X10_tries_12 M (g.1 M 34) (g.1 M 35) s.1 s.2) (0, g) = some G1 := by
        rw [hG1]
        refine cpl (A := M + 30) (B := M + 21) (N := 40) (by omega) (by omega) (fun i G hi hG _ => ?_) (fun G hG _ => ?_)
        · show l_X10_tries_12 M (g.1 M 34) (g.1 M 35) (nI i) G = _
          unfold l_X10_tries_12
          rw [if_neg (show ¬ (40 : Int32) ≤ nI i from fun e => by have := (nle (a := 40) (by omega) (by omega)).mp e; omega), zc_pos (zlit i 40 hi (by omega)), zc_pos (zlit i 40 hi (by omega)), zl_eq, zl_eq, nI_cl (by omega), nI_1, hG, hkl.1, hM.li]
        · show l_X10_tries_12 M (g.1 M 34) (g.1 M 35) (nI 40) G = _
          unfold l_X10_tries_12
          rw [if_pos (show (40 : Int32) ≤ nI 40 from (nle (a := 40) (by omega) (by omega)).mpr (Nat.le_refl _))]
      have l5 : ∀ s0, zw zN (fun s : Int32 × zG => l_X10_tries_101 M s0 s.1 s.2) (0, G4) = some G5 := by
        intro s0
        rw [hG5]
        refine cpl (A := M + 21) (B := M + 30) (N := 40) (by omega) (by omega) (fun i G hi hG _ => ?_) (fun G hG _ => ?_)
        · show l_X10_tries_101 M s0 (nI i) G = _
          unfold l_X10_tries_101
          rw [if_neg (show ¬ (40 : Int32) ≤ nI i from fun e => by have := (nle (a := 40) (by omega) (by omega)).mp e; omega), zc_pos (zlit i 40 hi (by omega)), zc_pos (zlit i 40 hi (by omega)), zl_eq, zl_eq, nI_cl (by omega), nI_1, hG, hM4.kl.1, hM4.li]
        · show l_X10_tries_101 M s0 (nI 40) G = _
          unfold l_X10_tries_101
          rw [if_pos (show (40 : Int32) ≤ nI 40 from (nle (a := 40) (by omega) (by omega)).mpr (Nat.le_refl _))]
      have l6 : ∀ s0, j_X10_tries_86 M (g.1 M 34) (g.1 M 35) s0 G3 = some (s0, G5) := by
        intro s0
        unfold j_X10_tries_86
        rw [zl_eq, zl_eq, ← hG4, l5 s0, zk_some]
        rfl
      unfold f_X10_tries
      rw [zl_eq, zl_eq, l1, zk_some]
      unfold j_X10_tries_36
      rw [m_begins hM1, zb_some, ← hG2]
      show zk (zw zN (fun s : Int32 × Int32 × zG => l_X10_tries_45 M (g.1 M 34) (g.1 M 35) s.1 s.2.1 s.2.2) (1, nI 0, G2)) _ = _
      rw [q1, zk_some]
      unfold j_X10_tries_72
      rw [l6, l6, q3.2.1.1]
      cases fin <;> rfl
    · rw [hG5, zfl_r, g4r, q2.1.1, g2r]
    · intro j hj
      rw [hG5, zfl_at _ _ _ _ _ (by omega), hG4]
      by_cases j5 : j = 35
      · rw [j5, zsi_same]
      · rw [zsi_get j5]
        by_cases j4 : j = 34
        · rw [j4, zsi_same]
        · rw [zsi_get j4, q2.2 j (fun z => by
            unfold mFd at z
            rcases z with z | z | z | z
            · exact j4 z
            · exact j5 z
            · exact hj z
            · exact absurd z.1 (by decide)), h0m j j4 j5]
    · intro c hc
      rw [hG5, zfl_get, if_pos (by omega), Nat.sub_zero, e4 (M + 30) (by omega), e3 (M + 30) (hns _ (by omega) (by omega) (by omega)), f2' (M + 30) (by omega) (by omega)]
      rw [hG1, zfl_get, if_pos (by omega), Nat.sub_zero]
    · intro x x1 x2 x3 x4
      constructor
      · rw [hG5, zfl_at _ _ _ _ _ x2, e4 x x1, e3 x (hns x x1 x2 x3), hf02 x x1 x2 x4]
      · rw [hG5, zfl_r, g4r, (q2.1.2 x (hns x x1 x2 x3)).2, g2r]
end TRI
