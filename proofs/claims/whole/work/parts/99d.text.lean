-- ===== text =====
section TX
variable {X M : Nat} {σ : aZ} {g g' : zG}
theorem q_clear2 {p1 p2 y : Nat} (hne : p1 ≠ p2) (h0 : g.2.1 y 0 = p1) (h1 : g.2.1 y 1 = p2) : ∃ g', f_X1_clear y g = some (0, g') ∧ g'.2 = g.2 ∧ (∀ x, x ≠ p1 → x ≠ p2 → g'.1 x = g.1 x) ∧ ∀ j, j < 2400 → g'.1 p1 j = 0 ∧ g'.1 p2 j = 0 := by
  refine ⟨_, q_clear h0 h1, ?_, fun x a b => ?_, fun j hj => ⟨?_, ?_⟩⟩
  · rw [zfl_r, zfl_r]
  · rw [zfl_at _ _ _ _ _ b, zfl_at _ _ _ _ _ a]
  · rw [zfl_at _ _ _ _ _ hne, zfl_get, if_pos (by omega)]
  · rw [zfl_get, if_pos (by omega)]
theorem q_takeRules {d : Nat} (hX : rX X g) (h0 : g.2.1 X 0 = d) (hd : d = X + 1 ∨ d = X + 12) : ∃ g', f_X9_takeRules X g = some (0, g') ∧ (∀ x, x ≠ X → ¬ (X + 29 ≤ x ∧ x ≤ X + 33) → x ≠ X + 38 → g'.1 x = g.1 x) ∧ g'.2.2 = g.2.2 ∧ (∀ x, x ≠ X + 31 → g'.2.1 x = g.2.1 x) ∧ (∀ j, j ≠ 7 → j ≠ 8 → g'.2.1 (X + 31) j = g.2.1 (X + 31) j) ∧ g'.2.1 (X + 31) 7 = d ∧ g'.2.1 (X + 31) 8 = d + 1 ∧ (g'.1 (X + 31) 2 = 0 ∧ g'.1 (X + 31) 3 = 0 ∧ g'.1 (X + 31) 4 = 1) ∧ (∀ c, c < 40 → g'.1 (X + 32) c = 0) ∧ g'.1 (X + 33) 2 = 0 ∧ cPg noY (g'.1 (X + 29)) (g'.1 (X + 30)) ∧ (g'.1 (X + 38) 7 = 0 ∧ g'.1 (X + 38) 8 = 0) ∧ g'.1 X 7 = 0 := by
  have hr : rR d g := by
    rcases hd with e | e
    · rw [e]; exact hX.1
    · rw [e]; exact hX.2.1
  have p6 : g.2.1 (X + 31) 6 = X + 28 := by unfold rX at hX; simp only [hX]
  obtain ⟨b1', b2, b3, b4, b5, b6, ⟨b7, b8, b9⟩, b10, b11⟩ := bg_p (g := g) (a := X + 31) (b1 := d) (b2 := d + 1)
  have hbeg := q_begin (g := g) (a := X + 31) (b1 := d) (b2 := d + 1) hX.ln hX.st
  generalize bg (X + 31) d (d + 1) g = B at *
  obtain ⟨C, c1, c2, c3, c4⟩ := q_clear2 (g := B) (y := X + 28) (p1 := X + 29) (p2 := X + 30) (by omega) (by rw [b3 _ (by omega)]; exact hX.pl) (by rw [b3 _ (by omega)]; exact hX.pt)
  obtain ⟨D, d1, d2, d3, d4, d5⟩ := zsix (g0 := C) (a := X + 38) (k := 7) (x := 0)
  obtain ⟨E, e1, e2, e3, e4, e5⟩ := zsix (g0 := D) (a := X + 38) (k := 8) (x := 0)
  obtain ⟨F, f1, f2, f3, f4, f5⟩ := zsix (g0 := E) (a := X) (k := 7) (x := 0)
  have sF : F.2 = B.2 := f2.trans (e2.trans (d2.trans c2))
  have eF : ∀ x, x ≠ X → x ≠ X + 38 → x ≠ X + 29 → x ≠ X + 30 → F.1 x = B.1 x := fun x a b c d => by rw [f3 x a, e3 x b, d3 x b, c3 x c d]
  refine ⟨F, ?_, fun x a b c => ?_, by rw [sF]; exact b2, fun x hx => by rw [sF]; exact b3 x hx, fun j a b => by rw [sF]; exact b4 j a b, by rw [sF]; exact b5, by rw [sF]; exact b6, ⟨?_, ?_, ?_⟩, fun c hc => ?_, ?_, fun j hj => ?_, ⟨?_, ?_⟩, f5⟩
  · unfold f_X9_takeRules f_X8_forget
    rw [hX.pr, h0, hr.1, hbeg, p6, if_neg (by omega), c1, zb_some, zb_some, c2, b3 X (by omega), hX.tp.2.2.2.2.2.2.2, zl_eq, d1, zl_eq, e1, zb_some, zl_eq, f1]
  · rw [eF x a c (by omega) (by omega), b1' x (by omega)]
  · rw [eF _ (by omega) (by omega) (by omega) (by omega)]; exact b7
  · rw [eF _ (by omega) (by omega) (by omega) (by omega)]; exact b8
  · rw [eF _ (by omega) (by omega) (by omega) (by omega)]; exact b9
  · rw [eF _ (by omega) (by omega) (by omega) (by omega)]; exact b10 c hc
  · rw [eF _ (by omega) (by omega) (by omega) (by omega)]; exact b11
  · rw [f3 _ (by omega), e3 _ (by omega), d3 _ (by omega), f3 _ (by omega), e3 _ (by omega), d3 _ (by omega)]
    exact c4 j hj
  · rw [f3 _ (by omega), e4 7 (by omega), d5]
  · rw [f3 _ (by omega), e5]
/-- rules that a good draft gives -/
theorem finR_v {δ : aD} {s : Nat} (hV : vD δ s) (hs : s ≤ 240) (hg : ∀ i, i < dq δ → (dK δ i).2.1 ≤ lim δ i) : vR (finR δ) := by
  obtain ⟨v1, v2, ⟨v3, v4, v5, v6, v7, v8, v9⟩, v10, ⟨v11, v12⟩, v13, v14, v15, v16, v17⟩ := hV
  refine ⟨v1, v2, v3, v4, v5, v6, v7, v8, v9, fun r => ?_, fun r hr => ?_, v11, fun k hk => ?_⟩
  · show finH δ r < 256
    unfold finH
    by_cases hb : dB δ = true
    · rw [if_pos hb]; exact v10 r
    · rw [if_neg hb]; split <;> omega
  · have hr : aV (dR δ) 7 ≤ r := hr
    show finH δ r = 0
    unfold finH
    by_cases hb : dB δ = true
    · rw [if_pos hb]
      apply Classical.byContradiction
      intro hn
      obtain ⟨i, i1, i2, i3⟩ := v14 r hn
      have := hg i i1
      unfold lim at this
      rw [if_pos i2] at this
      omega
    · rw [if_neg hb, if_neg (by omega)]
  · obtain ⟨a1, a2, a3, a4, a5, a6, a7⟩ := v12 k hk
    refine ⟨a1, fun z => ?_, a2, a3, a4, a5, by show aF (dR δ) k + aY (dR δ) k ≤ 240; omega, fun i hi => ?_⟩
    · obtain ⟨i, i1, i2, i3⟩ := a7 z
      have := hg i i1
      unfold lim at this
      rw [if_neg (by omega), i3] at this
      exact this
    · have hi : i < aY (dR δ) k := hi
      exact v13 (aF (dR δ) k + i) (by omega)
/-- the state behind a text that has a fault -/
def zBad (σ : aZ) (c : Nat) : aZ := (σ.1, (0, (zTp σ).2), nI c, σ.2.2.2)
theorem CI.bad {r d c : Nat} (h : CI σ X r g) (hd : (r = X + 1 ∧ d = X + 12) ∨ (r = X + 12 ∧ d = X + 1)) (hf : frm (SCt X d) g g') (h1 : g'.1 (X + 23) 1 = 0) (h2 : g'.1 (X + 23) 2 = nI c) : CI (zBad σ c) X r g' := by
  have e : ∀ b, ¬ SCt X d b → g'.1 b = g.1 b := fun b hb => (hf.2 b hb).1
  have e2 : g'.2.2 (X + 33) = g.2.2 (X + 33) := (hf.2 (X + 33) (by unfold SCt; omega)).2
  unfold SCt at e
  obtain ⟨k1, k2, k3, k4, k5, k6, k7, k8, k9, k10, k11⟩ := h
  unfold CI
  rw [e (X + 24) (by omega), e (X + 32) (by omega), e (X + 31) (by omega), e (X + 29) (by omega), e (X + 30) (by omega), e (X + 33) (by omega), e (X + 34) (by omega), e (X + 35) (by omega), e X (by omega), e (X + 50) (by omega), e (X + 51) (by omega), e (X + 52) (by omega), e2]
  exact ⟨k1.kept hf.1, k2.kept hf.1, k3.kept (fun b b1 b2 => e b (by omega)), ⟨h1, fun i hi => absurd hi (Nat.not_lt_zero _)⟩, h2, k6, k7, k8, k9.kept, k10, k11⟩
theorem MI.bad {c : Nat} (h : MI σ M g) (hf : frm (SMt M) g g') (hj : ∀ j, ¬ tFd j → j ≠ 27 → g'.1 M j = g.1 M j) (h1 : g'.1 M 27 = 0) (h2 : g'.1 M 32 = nI c) : MI (zBad σ c) M g' := by
  have e : ∀ b, ¬ SMt M b → g'.1 b = g.1 b := fun b hb => (hf.2 b hb).1
  unfold SMt at e
  unfold tFd at hj
  obtain ⟨k1, k2, k3, k4, k5, k6, k7, k8, k9, k10⟩ := h
  unfold MI
  rw [e (M + 20) (by omega), e (M + 21) (by omega), e (M + 22) (by omega), e (M + 23) (by omega), e (M + 27) (by omega), e (M + 28) (by omega), e (M + 29) (by omega), e (M + 33) (by omega), e (M + 34) (by omega), e (M + 35) (by omega), hj 34 (by omega) (by omega), hj 35 (by omega) (by omega), hj 36 (by omega) (by omega), hj 44 (by omega) (by omega), hj 45 (by omega) (by omega), hj 46 (by omega) (by omega), hj 47 (by omega) (by omega), hj 51 (by omega) (by omega), hj 52 (by omega) (by omega), hj 53 (by omega) (by omega), hj 54 (by omega) (by omega)]
  exact ⟨k1.kept hf.1, k2.kept (hj 0 (by omega) (by omega)) (hj 4 (by omega) (by omega)) (fun b b1 b2 => e b (by omega)), ⟨h1, fun i hi => absurd hi (Nat.not_lt_zero _)⟩, h2, k5, k6, k7, k8, k9, k10⟩
theorem zBad_v {k c : Nat} (h : vZ k σ) : vZ (k + 1) (zBad σ c) := by
  obtain ⟨v1, v2, v3, v4, v5, v6, v7⟩ := h.next
  exact ⟨v1, ⟨Nat.zero_le _, fun i hi => absurd hi (Nat.not_lt_zero _)⟩, v3, v4, v5, v6, v7⟩
/-- the state behind a good text -/
def zGood (σ : aZ) (δ : aD) : aZ := (finR δ, (0, (zTp σ).2), 0, fun _ => 0, (0, 0, 1), noY, (false, 0, 0, 0, fun _ => 0, fun _ => 0), (false, 0, 0, 0), zSh σ)
theorem zGood_v {k s : Nat} {δ : aD} (h : vZ k σ) (hV : vD δ s) (hs : s ≤ 240) (hg : ∀ i, i < dq δ → (dK δ i).2.1 ≤ lim δ i) : vZ (k + 1) (zGood σ δ) := by
  have hR := finR_v hV hs hg
  refine ⟨hR, ⟨Nat.zero_le _, fun i hi => absurd hi (Nat.not_lt_zero _)⟩, fun c hc => ⟨Nat.zero_le _, fun _ => rfl⟩, ⟨Nat.zero_le _, ?_, ?_⟩, fun j hj => ?_, fun z => (by cases z), h.2.2.2.2.2.2⟩
  · have := hR.2.2.2.2.2.2.2.2.1
    show 0 < aV (finR δ) 7
    omega
  · show 1 ≤ 1 + (k + 1) * 1000
    omega
  · exact ⟨⟨by show 0 ≤ 26; omega, by show 0 ≤ _; omega⟩, by show (0 = 0 ↔ 0 = 0); omega⟩
/-- how the class begins to read -/
theorem txt_C {r d : Nat} (h : CI σ X r g) (hd : (r = X + 1 ∧ d = X + 12) ∨ (r = X + 12 ∧ d = X + 1)) : ∃ g7, f_X4_readInto (X + 23) d g = zk2 (zw zN (fun s : Int32 × zG => l_X4_readInto_31 (X + 23) d s.1 s.2) (nI 0, g7)) (fun x => j_X4_readInto_45 (X + 23) x) ∧ CB (zTp σ) X d δ0 g7 ∧ g7.1 (X + 23) 7 = nI 0 ∧ g7.1 (X + 23) 2 = 0 ∧ g7.1 (X + 23) 4 = nI 0 ∧ kG X d g g7 := by
  have hX := h.1
  have hd2 : d = X + 1 ∨ d = X + 12 := by omega
  have hr : rR d g := by
    rcases hd2 with e | e
    · rw [e]; exact hX.1
    · rw [e]; exact hX.2.1
  obtain ⟨ga, a1, a2, a3, a4, a5, a6, a7, a8, a9⟩ := q_first hr
  have ea : ∀ x, ¬ (d + 1 ≤ x ∧ x ≤ d + 10) → ga.1 x = g.1 x := fun x hx => (a2.2 x (by omega)).1
  have f0 : kG X d g ga := ⟨a2.mono (fun x hx => Or.inr (Or.inr (by omega))), by rw [ea (X + 23) (by omega)]⟩
  obtain ⟨g3, b1', b2, b3, b4, b5⟩ := zsix (g0 := ga) (a := X + 23) (k := 2) (x := 0)
  obtain ⟨g4, c1, c2, c3, c4, c5⟩ := zsix (g0 := g3) (a := X + 23) (k := 7) (x := 0)
  obtain ⟨g5, d1, d2, d3, d4, d5⟩ := zsix (g0 := g4) (a := X + 23) (k := 4) (x := 0)
  obtain ⟨g6, e1, e2, e3, e4, e5⟩ := zsix (g0 := g5) (a := X + 23) (k := 9) (x := 0)
  obtain ⟨g7, f1, f2, f3, f4, f5⟩ := zsix (g0 := g6) (a := X + 23) (k := 13) (x := 0)
  have s7 : g7.2 = g.2 := f2.trans (e2.trans (d2.trans (c2.trans (b2.trans a3))))
  have x7 : ∀ x, x ≠ X + 23 → g7.1 x = ga.1 x := fun x hx => by rw [f3 x hx, e3 x hx, d3 x hx, c3 x hx, b3 x hx]
  have v1 : g7.1 (X + 23) 1 = g.1 (X + 23) 1 := by rw [f4 1 (by omega), e4 1 (by omega), d4 1 (by omega), c4 1 (by omega), b4 1 (by omega), ea (X + 23) (by omega)]
  have v7 : g7.1 (X + 23) 7 = 0 := by rw [f4 7 (by omega), e4 7 (by omega), d4 7 (by omega), c5]
  have v2 : g7.1 (X + 23) 2 = 0 := by rw [f4 2 (by omega), e4 2 (by omega), d4 2 (by omega), c4 2 (by omega), b5]
  have v4 : g7.1 (X + 23) 4 = 0 := by rw [f4 4 (by omega), e4 4 (by omega), d5]
  have v9 : g7.1 (X + 23) 9 = 0 := by rw [f4 9 (by omega), e5]
  refine ⟨g7, ?_, ⟨⟨hX.kept (by rw [s7]), by rw [v1]; exact h.2.2.2.1.1, fun i hi => ?_⟩, hd2, ⟨?_, fun i hi => ?_⟩, ⟨?_, ?_⟩, fun k hk => absurd hk (Nat.not_lt_zero _), fun i hi => absurd hi (Nat.not_lt_zero _), fun k k1 k2 => ?_, fun i hi => ?_, ⟨f5, fun i hi => absurd hi (Nat.not_lt_zero _)⟩, 0, by omega, v9, fun k hk => ?_⟩, v7, v2, v4, ⟨⟨by rw [s7], fun x hx => ⟨?_, by rw [s7]⟩⟩, v1⟩⟩
  · unfold f_X4_readInto
    rw [a1, zb_some, zl_eq, b1', zl_eq, c1, zl_eq, d1, zl_eq, e1, zl_eq, f1]
    rfl
  · rw [x7 _ (by omega), ea _ (by omega)]; exact h.2.2.2.1.2 i hi
  · rw [x7 _ (by omega)]; exact a4
  · rw [x7 _ (by omega)]; exact a5 i hi
  · rw [x7 _ (by omega)]; exact a6
  · rw [x7 _ (by omega)]; exact a7
  · rw [x7 _ (by omega)]; exact a8 k k1 k2
  · rw [x7 _ (by omega)]; exact a9 i hi
  · rw [Nat.zero_testBit]; rfl
  · unfold SCt at hx
    rw [x7 x (by omega), ea x (by omega)]
theorem txt_M (hv : vTp (zTp σ)) (h : MI σ M g) : ∃ g7, f_X10_text M g = zk (zw zN (fun s : Int32 × zG => l_X10_text_20 M s.1 s.2) (nI 0, g7)) (fun x => j_X10_text_44 M x.1 x.2) ∧ MB (zTp σ) M δ0 g7 ∧ LA (zTp σ) 0 M g7 ∧ hF M g g7 := by
  have hM := h.1
  have hD : MD (zTp σ) M g := ⟨hM, h.2.2.1.1, h.2.2.1.2⟩
  obtain ⟨g1, a1, a2, a3, a4, a5⟩ := zsix (g0 := g) (a := M) (k := 32) (x := 0)
  obtain ⟨g2, b1', b2, b3, b4, b5⟩ := zsix (g0 := g1) (a := M) (k := 28) (x := 0)
  have f2 : hF M g g2 := by
    rw [← b1', ← a1]
    exact (hF.sf (by unfold tFd; omega)).trans (hF.sf (by unfold tFd; omega))
  have hD2 := hD.keptH f2
  obtain ⟨g3, c1, c2, c3, c4⟩ := m_first hD2.1
  have hD3 := hD2.keptH c2
  obtain ⟨g4, d1, d2, d3⟩ := m_next_t hv (Nat.zero_le _) hD3 (p := 0) (by rw [c3 28 (by omega), b5]; rfl) (by rw [c3 32 (by omega), b4 32 (by omega), a5])
  refine ⟨g4, ?_, MB.kept ⟨hD3, c4⟩ d2, d3, (f2.trans c2).trans (hF.of d2)⟩
  unfold f_X10_text
  rw [zl_eq, a1, zl_eq, b1', c1, zb_some, d1, zb_some]
  rfl
/-- the end of a text with a fault, in the reference -/
theorem txt_F {c x : Nat} {l1 : Int32} (hc : 1 ≤ c ∧ c ≤ 7) (h : FS c x M g) : j_X10_text_44 M l1 g = some (-10 - nI x, zsi g M 27 0) := by
  have h2 : FS c x M (zsi g M 27 0) := ⟨by rw [zsi_get (by omega)]; exact h.1, by rw [zsi_get (by omega)]; exact h.2⟩
  unfold j_X10_text_44
  have st : zw zN (fun s : Int32 × zG => l_X10_text_51 M l1 s.1 s.2) (0, zsi g M 27 0) = some (zsi g M 27 0) := by
    obtain ⟨K, hK⟩ : ∃ K, zN = K + 1 := ⟨99999, rfl⟩
    rw [hK]
    apply zw_end
    show l_X10_text_51 M l1 0 (zsi g M 27 0) = _
    unfold l_X10_text_51
    rw [h2.1, if_neg (show ¬ nI c = 0 from nz (by omega) (by omega))]
    split <;> rfl
  rw [zl_eq, st, zk_some]
  unfold j_X10_text_148
  rw [h2.1, if_neg (show ¬ nI c ≤ (0 : Int32) from fun z => by have := (nle (b := 0) (by omega) (by omega)).mp z; omega), h2.2]
/-- the class's answer to a text with a fault -/
theorem txt_B {r d c x : Nat} (h : CI σ X r g) (hd : (r = X + 1 ∧ d = X + 12) ∨ (r = X + 12 ∧ d = X + 1)) (h1 : g.2.1 X 1 = d) (hr : f_X4_readInto (X + 23) d g = some (0, g')) (h2 : g'.1 (X + 23) 2 = nI c) (h3 : g'.1 (X + 23) 3 = nI x) (hf : frm (SCt X d) g g') : ∃ g2, f_X9_text X g = some (-10 - nI x, g2) ∧ frm (SCt X d) g g2 ∧ CI (zBad σ c) X r g2 := by
  refine ⟨zsi g' (X + 23) 1 0, ?_, hf.trans (frm.si (Or.inl rfl)), h.bad hd (hf.trans (frm.si (Or.inl rfl))) zsi_same (by rw [zsi_get (by omega)]; exact h2)⟩
  unfold f_X9_text
  rw [h.1.re, h1, hr, zb_some, hf.1, h.1.re, zl_eq, b0, zsi_r, hf.1, h.1.re, zsi_get (by omega), h3]
end TX
