-- ===== a draft becomes the rules =====
def finR (δ : aD) : aR := (aN (dR δ), aC (dR δ), aV (dR δ), finH δ, aM (dR δ), aA (dR δ), aU (dR δ), aF (dR δ), aY (dR δ), aL (dR δ))
section KEP
variable {g : zG} {M : Nat} {δ : aD}
theorem m_four {G3 : zG} (hM : rM M g) (s3 : G3.2 = g.2) : ∃ G4, zw zN (fun s : Int32 × zG => l_X10_keepDraft_115 M s.1 s.2) (0, G3) = some G4 ∧ G4.2 = g.2 ∧ (∀ x, ¬ (M + 4 ≤ x ∧ x ≤ M + 7) → G4.1 x = G3.1 x) ∧ ∀ k, k < 24 → G4.1 (M + 4) k = G3.1 (M + 12) k ∧ G4.1 (M + 5) k = G3.1 (M + 13) k ∧ G4.1 (M + 6) k = G3.1 (M + 14) k ∧ G4.1 (M + 7) k = G3.1 (M + 15) k := by
  obtain ⟨r9, r10, r11, r12, r13, r14, r15, r16, -⟩ := hM.dr
  have q5 : g.2.1 M 5 = M + 4 := by unfold rM at hM; simp only [hM]
  have q6 : g.2.1 M 6 = M + 5 := by unfold rM at hM; simp only [hM]
  have q7 : g.2.1 M 7 = M + 6 := by unfold rM at hM; simp only [hM]
  have q8 : g.2.1 M 8 = M + 7 := by unfold rM at hM; simp only [hM]
  let sf : Int32 × zG → Option ((Int32 × zG) ⊕ zG) := fun s => l_X10_keepDraft_115 M s.1 s.2
  let R : Nat → zG → Prop := fun n g' => g'.2 = g.2 ∧ (∀ x, ¬ (M + 4 ≤ x ∧ x ≤ M + 7) → g'.1 x = G3.1 x) ∧ ∀ k, k < n → g'.1 (M + 4) k = G3.1 (M + 12) k ∧ g'.1 (M + 5) k = G3.1 (M + 13) k ∧ g'.1 (M + 6) k = G3.1 (M + 14) k ∧ g'.1 (M + 7) k = G3.1 (M + 15) k
  let Inv : Nat → Int32 × zG → Prop := fun n x => ∃ g', x = (nI n, g') ∧ R n g'
  have hS : ∀ n x, n < 24 → Inv n x → (∃ x', sf x = some (.inl x') ∧ Inv (n + 1) x') ∨ ∃ y, sf x = some (.inr y) ∧ R 24 y := by
    intro n x hn hI
    obtain ⟨g1, rfl, w1, w2, w3⟩ := hI
    left
    have z24 := zlit n 24 hn (by omega)
    refine ⟨(nI (n + 1), zsi (zsi (zsi (zsi g1 (M + 4) n (G3.1 (M + 12) n)) (M + 5) n (G3.1 (M + 13) n)) (M + 6) n (G3.1 (M + 14) n)) (M + 7) n (G3.1 (M + 15) n)), ?_, _, rfl, w1, fun x hx => ?_, fun k hk => ?_⟩
    · show l_X10_keepDraft_115 M (nI n) g1 = _
      unfold l_X10_keepDraft_115
      rw [if_neg (show ¬ (24 : Int32) ≤ nI n from fun z => by have := (nle (a := 24) (by omega) (by omega)).mp z; omega)]
      simp only [zc_pos z24, nI_cl (show n < 2147483648 by omega), zl_eq, zsi_r, w1, q5, q6, q7, q8, r12, r13, r14, r15]
      rw [zsi_at (b := M + 13) (by omega), zsi_at (b := M + 14) (by omega), zsi_at (b := M + 14) (by omega), zsi_at (b := M + 15) (by omega), zsi_at (b := M + 15) (by omega), zsi_at (b := M + 15) (by omega), w2 (M + 12) (by omega), w2 (M + 13) (by omega), w2 (M + 14) (by omega), w2 (M + 15) (by omega), nI_1]
    · rw [zsi_at (by omega), zsi_at (by omega), zsi_at (by omega), zsi_at (by omega)]; exact w2 x hx
    · rw [zsi_at (b := M + 4) (by omega), zsi_at (b := M + 4) (by omega), zsi_at (b := M + 4) (by omega), zsi_at (b := M + 5) (by omega), zsi_at (b := M + 5) (by omega), zsi_at (b := M + 6) (by omega)]
      by_cases ek : k = n
      · rw [ek, zsi_same, zsi_same, zsi_same, zsi_same]; exact ⟨rfl, rfl, rfl, rfl⟩
      · rw [zsi_get ek, zsi_get ek, zsi_get ek, zsi_get ek, zsi_at (b := M + 5) (by omega), zsi_at (b := M + 6) (by omega), zsi_at (b := M + 6) (by omega), zsi_at (b := M + 7) (by omega), zsi_at (b := M + 7) (by omega), zsi_at (b := M + 7) (by omega)]
        exact w3 k (by omega)
  have hE : ∀ x, Inv 24 x → ∃ y, sf x = some (.inr y) ∧ R 24 y := by
    intro x hI
    obtain ⟨g1, rfl, hR⟩ := hI
    refine ⟨g1, ?_, hR⟩
    show l_X10_keepDraft_115 M (nI 24) g1 = _
    unfold l_X10_keepDraft_115
    rw [if_pos (show (24 : Int32) ≤ nI 24 from Int32.le_refl _)]
  obtain ⟨g', w0, w1, w2, w3⟩ := zw_run Inv (R 24) 24 hS hE 24 0 zN (nI 0, G3) (by omega) (by have := zN_big; omega) ⟨G3, rfl, s3, fun _ _ => rfl, fun k hk => absurd hk (Nat.not_lt_zero _)⟩
  exact ⟨g', w0, w1, w2, w3⟩
theorem k_l1 {G0 : zG} (s0 : G0.2 = g.2) (q1 : g.2.1 M 1 = M + 1) (r9 : g.2.1 M 11 = M + 9) : zw zN (fun s : Int32 × zG => l_X10_keepDraft_18 M s.1 s.2) (0, G0) = some (zfl G0 (M + 1) 0 (fun j => G0.1 (M + 9) j) 49) := by
  refine cpl (A := M + 1) (B := M + 9) (N := 49) (by omega) (by omega) (fun i G hi hG _ => ?_) (fun G hG _ => ?_)
  · show l_X10_keepDraft_18 M (nI i) G = _
    unfold l_X10_keepDraft_18
    rw [hG, s0, q1, r9, if_neg (show ¬ (49 : Int32) ≤ nI i from fun z => by have := (nle (a := 49) (by omega) (by omega)).mp z; omega), zc_pos (zlit i 49 (by omega) (by omega)), zc_pos (zlit i 49 (by omega) (by omega)), nI_cl (by omega), zl_eq, zl_eq, nI_1]
  · show l_X10_keepDraft_18 M (nI 49) G = _
    unfold l_X10_keepDraft_18
    rw [if_pos (show (49 : Int32) ≤ nI 49 from Int32.le_refl _)]
theorem k_l2 {G1 : zG} (s1 : G1.2 = g.2) (q2 : g.2.1 M 2 = M + 2) (r10 : g.2.1 M 12 = M + 10) : zw zN (fun s : Int32 × zG => l_X10_keepDraft_44 M s.1 s.2) (0, G1) = some (zfl G1 (M + 2) 0 (fun j => G1.1 (M + 10) j) 8) := by
  refine cpl (A := M + 2) (B := M + 10) (N := 8) (by omega) (by omega) (fun i G hi hG _ => ?_) (fun G hG _ => ?_)
  · show l_X10_keepDraft_44 M (nI i) G = _
    unfold l_X10_keepDraft_44
    rw [hG, s1, q2, r10, if_neg (show ¬ (8 : Int32) ≤ nI i from fun z => by have := (nle (a := 8) (by omega) (by omega)).mp z; omega), zc_pos (zlit i 8 (by omega) (by omega)), zc_pos (zlit i 8 (by omega) (by omega)), nI_cl (by omega), zl_eq, zl_eq, nI_1]
  · show l_X10_keepDraft_44 M (nI 8) G = _
    unfold l_X10_keepDraft_44
    rw [if_pos (show (8 : Int32) ≤ nI 8 from Int32.le_refl _)]
theorem k_l3 {G2 : zG} (s2 : G2.2 = g.2) (q3 : g.2.1 M 3 = M + 3) (r11 : g.2.1 M 13 = M + 11) (b14 : G2.1 M 14 = bI (dB δ)) (b11 : ∀ r, r < 60 → G2.1 (M + 11) r = nI (aH (dR δ) r)) : zw zN (fun s : Int32 × zG => l_X10_keepDraft_70 M s.1 s.2) (0, G2) = some (zfl G2 (M + 3) 0 (fun r => nI (finH δ r)) 60) := by
  refine fil (A := M + 3) (N := 60) (by omega) (fun i G hi hG hx => ?_) (fun G hG _ => ?_)
  · show l_X10_keepDraft_70 M (nI i) G = _
    unfold l_X10_keepDraft_70 finH
    have z60 := zlit i 60 (by omega) (by omega)
    rw [hG, s2, q3, r11, hx M (by omega), b14, if_neg (show ¬ (60 : Int32) ≤ nI i from fun z => by have := (nle (a := 60) (by omega) (by omega)).mp z; omega)]
    cases hb : dB δ with
    | true => rw [bI_t, b1, if_pos rfl, zc_pos z60, zc_pos z60, nI_cl (by omega), hx (M + 11) (by omega), b11 i hi, zl_eq, zl_eq, nI_1]
    | false =>
      rw [bI_f, b0, if_neg (show ¬ false = true by decide)]
      by_cases e : i = 0
      · rw [if_pos (by rw [e]; rfl), if_pos e, zc_pos z60, nI_cl (by omega), zl_eq, zl_eq, nI_1]; rfl
      · rw [if_neg (fun z => e ((nI_zr (by omega)).mp z)), if_neg e, zc_pos z60, nI_cl (by omega), zl_eq, zl_eq, nI_1]; rfl
  · show l_X10_keepDraft_70 M (nI 60) G = _
    unfold l_X10_keepDraft_70
    rw [if_pos (show (60 : Int32) ≤ nI 60 from Int32.le_refl _)]
theorem k_l5 {G4 : zG} (s4 : G4.2 = g.2) (q9 : g.2.1 M 9 = M + 8) (r16 : g.2.1 M 21 = M + 16) : zw zN (fun s : Int32 × zG => l_X10_keepDraft_177 M s.1 s.2) (0, G4) = some (zfl G4 (M + 8) 0 (fun j => G4.1 (M + 16) j) 240) := by
  refine cpl (A := M + 8) (B := M + 16) (N := 240) (by omega) (by omega) (fun i G hi hG _ => ?_) (fun G hG _ => ?_)
  · show l_X10_keepDraft_177 M (nI i) G = _
    unfold l_X10_keepDraft_177
    rw [hG, s4, q9, r16, if_neg (show ¬ (240 : Int32) ≤ nI i from fun z => by have := (nle (a := 240) (by omega) (by omega)).mp z; omega), zc_pos (zlit i 240 (by omega) (by omega)), zc_pos (zlit i 240 (by omega) (by omega)), nI_cl (by omega), zl_eq, zl_eq, nI_1]
  · show l_X10_keepDraft_177 M (nI 240) G = _
    unfold l_X10_keepDraft_177
    rw [if_pos (show (240 : Int32) ≤ nI 240 from Int32.le_refl _)]
theorem zflx {α : Type} {o : Option α} {w : zG → α} {A N : Nat} {f : Nat → Int32} {g0 : zG} (h : o = some (w (zfl g0 A 0 f N))) : ∃ G, o = some (w G) ∧ G.2 = g0.2 ∧ (∀ x, x ≠ A → G.1 x = g0.1 x) ∧ ∀ j, j < N → G.1 A j = f j := ⟨_, h, zfl_r _ _ _ _ _, fun x hx => zfl_at _ _ _ _ _ hx, fun j hj => by rw [zfl_get, if_pos (by omega), Nat.sub_zero]⟩
theorem m_blank2 (hM : rM M g) : ∃ g', f_X10_blankPage M g = some (0, g') ∧ g'.2 = g.2 ∧ (∀ x, ¬ (x = M + 22 ∨ x = M + 23) → g'.1 x = g.1 x) ∧ ∀ j, j < 2400 → g'.1 (M + 22) j = 0 ∧ g'.1 (M + 23) j = 0 := ⟨_, m_blank hM, blk_r _ _ _, fun x hx => ((blk_frm (g := g) (M + 22) (M + 23) 2400).2 x hx).1, fun j hj => blk_get (by omega) 2400 hj⟩
theorem zsix {g0 : zG} {a k : Nat} {x : Int32} : ∃ G, zsi g0 a k x = G ∧ G.2 = g0.2 ∧ (∀ y, y ≠ a → G.1 y = g0.1 y) ∧ (∀ j, j ≠ k → G.1 a j = g0.1 a j) ∧ G.1 a k = x := ⟨_, rfl, rfl, fun y hy => zsi_at hy, fun j hj => zsi_get hj, zsi_same⟩
theorem m_keep (hM : rM M g) (hm : mD δ M g) (h1 : aN (dR δ) ≤ 48) (h2 : aM (dR δ) ≤ 24) (h3 : ∀ k, k < aM (dR δ) → aF (dR δ) k + aY (dR δ) k ≤ dl δ) (h4 : dl δ ≤ 240) : ∃ g', f_X10_keepDraft M g = some (0, g') ∧ g'.2 = g.2 ∧ (∀ j, j ≠ 0 → j ≠ 4 → j ≠ 34 → j ≠ 35 → j ≠ 36 → j ≠ 44 → j ≠ 51 → g'.1 M j = g.1 M j) ∧ (∀ x, x ≠ M → ¬ (M + 1 ≤ x ∧ x ≤ M + 8) → ¬ (M + 21 ≤ x ∧ x ≤ M + 23) → g'.1 x = g.1 x) ∧ mR (finR δ) M g' ∧ (∀ c, c < 40 → g'.1 (M + 21) c = 0) ∧ (g'.1 M 34 = 0 ∧ g'.1 M 35 = 0 ∧ g'.1 M 36 = 1) ∧ cPg noY (g'.1 (M + 22)) (g'.1 (M + 23)) ∧ g'.1 M 44 = 0 ∧ g'.1 M 51 = 0 := by
  obtain ⟨⟨c1, c1'⟩, ⟨c2, c2'⟩, c3, c4, c5, c6, -, -, c10⟩ := hm
  obtain ⟨r9, r10, r11, r12, r13, r14, r15, r16, -⟩ := hM.dr
  have q1 : g.2.1 M 1 = M + 1 := hM.1
  have q2 : g.2.1 M 2 = M + 2 := hM.set
  have q3 : g.2.1 M 3 = M + 3 := hM.ho
  have q9 : g.2.1 M 9 = M + 8 := by unfold rM at hM; simp only [hM]
  obtain ⟨Ga, ha, sa, ea, ma, va⟩ := zsix (g0 := g) (a := M) (k := 0) (x := nI (aN (dR δ)))
  obtain ⟨G0, h0, s0', e0', m0', v0'⟩ := zsix (g0 := Ga) (a := M) (k := 4) (x := nI (aM (dR δ)))
  have s0 : G0.2 = g.2 := s0'.trans sa
  have e0 : ∀ x, x ≠ M → G0.1 x = g.1 x := fun x hx => (e0' x hx).trans (ea x hx)
  have m0 : ∀ j, j ≠ 0 → j ≠ 4 → G0.1 M j = g.1 M j := fun j a b => (m0' j b).trans (ma j a)
  have m00 : G0.1 M 0 = nI (aN (dR δ)) := (m0' 0 (by omega)).trans va
  obtain ⟨G1, l1, s1', e1, v1⟩ := zflx (w := fun G => G) (k_l1 (M := M) s0 q1 r9)
  have s1 := s1'.trans s0
  obtain ⟨G2, l2, s2', e2, v2⟩ := zflx (w := fun G => G) (k_l2 (M := M) s1 q2 r10)
  have s2 := s2'.trans s1
  have b14 : G2.1 M 14 = bI (dB δ) := by rw [e2 M (by omega), e1 M (by omega), m0 14 (by omega) (by omega)]; exact c10
  have b11 : ∀ r, r < 60 → G2.1 (M + 11) r = nI (aH (dR δ) r) := fun r hr => by rw [e2 _ (by omega), e1 _ (by omega), e0 _ (by omega)]; exact c6 r hr
  obtain ⟨G3, l3, s3', e3, v3⟩ := zflx (w := fun G => G) (k_l3 (M := M) s2 q3 r11 b14 b11)
  have s3 := s3'.trans s2
  obtain ⟨G4, l4, s4, e4, k4⟩ := m_four hM s3
  obtain ⟨G5, l5, s5', e5, v5⟩ := zflx (w := fun G => G) (k_l5 (M := M) s4 q9 r16)
  have s5 := s5'.trans s4
  obtain ⟨Gb, hb, sb', eb, mb, vb⟩ := zsix (g0 := G5) (a := M) (k := 51) (x := 0)
  obtain ⟨G6, h6, s6', e6, m6, v6⟩ := zsix (g0 := Gb) (a := M) (k := 44) (x := 0)
  have s6 := s6'.trans (sb'.trans s5)
  obtain ⟨G7, l7, s7', e7, v7⟩ := zflx (w := fun G => ((0 : Int32), G)) (m_begins (hM.kept (show G6.2.1 = g.2.1 by rw [s6])))
  have s7 : G7.2 = g.2 := s7'.trans s6
  obtain ⟨G8, h8, s8', e8, m8, v8⟩ := zsix (g0 := G7) (a := M) (k := 36) (x := 1)
  have s8 := s8'.trans s7
  obtain ⟨G9, l9, s9', e9, v9⟩ := m_blank2 (hM.kept (show G8.2.1 = g.2.1 by rw [s8]))
  have e7' : ∀ x, x ≠ M → x ≠ M + 21 → G7.1 x = G6.1 x := fun x a b => by rw [e7 x b, zsi_at a, zsi_at a]
  have e58 : ∀ x, x ≠ M → x ≠ M + 21 → G8.1 x = G5.1 x := fun x a b => by rw [e8 x a, e7' x a b, e6 x a, eb x a]
  have e59 : ∀ x, x ≠ M → ¬ (M + 21 ≤ x ∧ x ≤ M + 23) → G9.1 x = G5.1 x := fun x a b => by rw [e9 x (by omega), e58 x a (by omega)]
  have m7 : ∀ j, G7.1 M j = (zsi (zsi G6 M 34 0) M 35 0).1 M j := fun j => by rw [e7 M (by omega)]
  have m78 : ∀ j, j ≠ 36 → G9.1 M j = (zsi (zsi G6 M 34 0) M 35 0).1 M j := fun j hj => by rw [e9 M (by omega), m8 j hj, m7 j]
  have m56 : ∀ j, j ≠ 44 → j ≠ 51 → G6.1 M j = G5.1 M j := fun j a b => by rw [m6 j a, mb j b]
  have m05 : ∀ j, G5.1 M j = G0.1 M j := fun j => by rw [e5 M (by omega), e4 M (by omega), e3 M (by omega), e2 M (by omega), e1 M (by omega)]
  have o : ∀ x, M + 9 ≤ x → x ≤ M + 19 → G3.1 x = g.1 x := fun x a b => by rw [e3 x (by omega), e2 x (by omega), e1 x (by omega), e0 x (by omega)]
  refine ⟨G9, ?_, s9'.trans s8, fun j j0 j4 j34 j35 j36 j44 j51 => ?_, fun x x0 x1 x2 => ?_, ⟨?_, fun i hi => ?_, ?_, fun k hk => ?_, fun k k1 k2 => ?_, fun i hi => ?_⟩, fun c hc => ?_, ⟨?_, ?_, ?_⟩, fun j hj => ?_, ?_, ?_⟩
  · unfold f_X10_keepDraft
    rw [zl_eq, c1, ha, ma 15 (by omega), c2, zl_eq, h0, l1, zk_some]
    unfold j_X10_keepDraft_42
    rw [l2, zk_some]
    unfold j_X10_keepDraft_68
    rw [l3, zk_some]
    unfold j_X10_keepDraft_113
    rw [l4, zk_some]
    unfold j_X10_keepDraft_175
    rw [l5, zk_some]
    unfold j_X10_keepDraft_202
    rw [zl_eq, hb, zl_eq, h6, l7, zb_some, zl_eq, h8, l9, zb_some]
  · rw [m78 j j36, zsi_get j35, zsi_get j34, m56 j j44 j51, m05, m0 j j0 j4]
  · rw [e59 x x0 x2, e5 x (by omega), e4 x (by omega), e3 x (by omega), e2 x (by omega), e1 x (by omega), e0 x x0]
  · rw [m78 0 (by omega), zsi_get (by omega), zsi_get (by omega), m56 0 (by omega) (by omega), m05, m00]
    rfl
  · have hi : i < aN (dR δ) := hi
    rw [e59 _ (by omega) (by omega), e5 _ (by omega), e4 _ (by omega), e3 _ (by omega), e2 _ (by omega), v1 i (by omega), e0 _ (by omega)]
    exact c1' i hi
  · rw [m78 4 (by omega), zsi_get (by omega), zsi_get (by omega), m56 4 (by omega) (by omega), m05, v0']
    rfl
  · have hk : k < aM (dR δ) := hk
    obtain ⟨w1, w2, w3, w4⟩ := k4 k (by omega)
    obtain ⟨d1, d2, d3, d4⟩ := c3 k hk
    rw [e59 (M + 4) (by omega) (by omega), e59 (M + 5) (by omega) (by omega), e59 (M + 6) (by omega) (by omega), e59 (M + 7) (by omega) (by omega), e5 (M + 4) (by omega), e5 (M + 5) (by omega), e5 (M + 6) (by omega), e5 (M + 7) (by omega), w1, w2, w3, w4, o (M + 12) (by omega) (by omega), o (M + 13) (by omega) (by omega), o (M + 14) (by omega) (by omega), o (M + 15) (by omega) (by omega)]
    refine ⟨d1, d2, d3, d4, fun i hi => ?_⟩
    have hi : i < aY (dR δ) k := hi
    have := h3 k hk
    show G9.1 (M + 8) (aF (dR δ) k + i) = nI (aL (dR δ) (aF (dR δ) k + i))
    rw [e59 (M + 8) (by omega) (by omega), v5 _ (by omega), e4 _ (by omega), o _ (by omega) (by omega)]
    exact c4 _ (by omega)
  · rw [e59 _ (by omega) (by omega), e5 _ (by omega), e4 _ (by omega), e3 _ (by omega), v2 k (by omega), e1 _ (by omega), e0 _ (by omega)]
    exact c5 k k1 k2
  · rw [e59 _ (by omega) (by omega), e5 _ (by omega), e4 _ (by omega), v3 i (by omega)]
    rfl
  · rw [e9 _ (by omega), e8 _ (by omega), v7 c hc]
  · rw [m78 34 (by omega), zsi_get (by omega), zsi_same]
  · rw [m78 35 (by omega), zsi_same]
  · rw [e9 M (by omega), v8]
  · exact v9 j hj
  · rw [m78 44 (by omega), zsi_get (by omega), zsi_get (by omega), v6]
  · rw [m78 51 (by omega), zsi_get (by omega), zsi_get (by omega), m6 51 (by omega), vb]
-- ===== what is looked at behind all =====
def lim (δ : aD) (i : Nat) : Nat := if (dK δ i).1 = 6 then aV (dR δ) 7 else aV (dR δ) 3
theorem q_behind {X d : Nat} (hX : rX X g) (hr : rR d g) (hq : dq δ ≤ 34) (h13 : g.1 (X + 23) 13 = nI (dq δ)) (hK : ∀ i, i < dq δ → g.1 (X + 25) i = nI (dK δ i).1 ∧ g.1 (X + 26) i = nI (dK δ i).2.1 ∧ g.1 (X + 27) i = nI (dK δ i).2.2) (hv : ∀ k, 1 ≤ k → k ≤ 7 → g.1 (d + 9) k = nI (aV (dR δ) k)) (hb : ∀ i, i < dq δ → ((dK δ i).1 = 6 ∨ (dK δ i).1 = 7) ∧ (dK δ i).2.1 ≤ 300) (hb3 : aV (dR δ) 3 ≤ 40 ∧ aV (dR δ) 7 ≤ 60) : ((∀ i, i < dq δ → (dK δ i).2.1 ≤ lim δ i) → f_X4_lookBehindAll (X + 23) d g = some (1, g)) ∧ ∀ i, i < dq δ → ¬ (dK δ i).2.1 ≤ lim δ i → (∀ j, j < i → (dK δ j).2.1 ≤ lim δ j) → f_X4_lookBehindAll (X + 23) d g = some (0, zsi (zsi g (X + 23) 2 (nI (dK δ i).1)) (X + 23) 3 (nI (dK δ i).2.2)) := by
  obtain ⟨r1, r2, r3⟩ := hX.lt
  have rv := hr.2.2.1
  have st : ∀ i, i < dq δ → l_X4_lookBehindAll_2 (X + 23) d g (nI i) = if (dK δ i).2.1 ≤ lim δ i then some (.inl (nI (i + 1))) else some (.inr (.inl (nI i))) := by
    intro i hi
    obtain ⟨k1, k2, k3⟩ := hK i hi
    obtain ⟨b1', b2'⟩ := hb i hi
    unfold l_X4_lookBehindAll_2 j_X4_lookBehindAll_31_2
    rw [h13, if_neg (fun z => by have := (nle (by omega) (by omega)).mp z; omega), zc_pos (zlit i 34 (by omega) (by omega))]
    simp only [zc_pos (zlit i 34 (by omega) (by omega)), zc_pos (show zin 7 8 by decide), zc_pos (show zin 3 8 by decide), nI_cl (show i < 2147483648 by omega), r1, r2, rv, c7, c3, k1, k2, hv 7 (by omega) (by omega), hv 3 (by omega) (by omega), zl_eq, nI_1]
    unfold lim
    by_cases e6 : (dK δ i).1 = 6
    · rw [if_pos e6, if_pos (show nI (dK δ i).1 = 6 by rw [e6]; rfl)]
      by_cases h : (dK δ i).2.1 ≤ aV (dR δ) 7
      · rw [if_pos h, if_pos ((nle (by omega) (by omega)).mpr h)]
      · rw [if_neg h, if_neg (fun z => h ((nle (by omega) (by omega)).mp z))]
    · rw [if_neg e6, if_neg (show ¬ nI (dK δ i).1 = 6 from fun z => e6 ((nI_inj (b := 6) (by omega) (by omega)).mp z))]
      by_cases h : (dK δ i).2.1 ≤ aV (dR δ) 3
      · rw [if_pos h, if_pos ((nle (by omega) (by omega)).mpr h)]
      · rw [if_neg h, if_neg (fun z => h ((nle (by omega) (by omega)).mp z))]
  unfold f_X4_lookBehindAll
  constructor
  · intro h
    have hz := zw_seq (step := fun s : Int32 => l_X4_lookBehindAll_2 (X + 23) d g s) (fun i => nI i) (.inr (1, g)) (dq δ) (fun i hi => by
      show l_X4_lookBehindAll_2 (X + 23) d g (nI i) = _
      rw [st i hi, if_pos (h i hi)]) (by
      show l_X4_lookBehindAll_2 (X + 23) d g (nI (dq δ)) = _
      unfold l_X4_lookBehindAll_2
      rw [h13, if_pos (Int32.le_refl _)]) (N := zN) (by have := zN_big; omega)
    rw [show (0 : Int32) = nI 0 from rfl, hz, zk2_inr]
  · intro i hi hn hj
    obtain ⟨k1, k2, k3⟩ := hK i hi
    have hz := zw_seq (step := fun s : Int32 => l_X4_lookBehindAll_2 (X + 23) d g s) (fun i => nI i) (.inl (nI i)) i (fun j hj2 => by
      show l_X4_lookBehindAll_2 (X + 23) d g (nI j) = _
      rw [st j (by omega), if_pos (hj j hj2)]) (by
      show l_X4_lookBehindAll_2 (X + 23) d g (nI i) = _
      rw [st i hi, if_neg hn]) (N := zN) (by have := zN_big; omega)
    rw [show zw zN (fun s : Int32 => l_X4_lookBehindAll_2 (X + 23) d g s) 0 = _ from hz, zk2_inl]
    unfold j_X4_lookBehindAll_43 f_X4_fail
    rw [zc_pos (zlit i 34 (by omega) (by omega)), zc_pos (zlit i 34 (by omega) (by omega)), nI_cl (by omega), r1, r3, k1, k3, zl_eq, zl_eq, zb_some, zc_pos (Or.inl rfl)]
theorem i_neg {n : Nat} (h : n < 2147483648) : (-(nI n)).toInt = -(n : Int) := by
  rw [Int32.toInt_neg, i_nI h]
  exact Int.bmod_eq_of_le (by omega) (by omega)
theorem m_behind (hM : rM M g) (hq : dq δ ≤ 34) (h23 : g.1 M 23 = nI (dq δ)) (hK : ∀ i, i < dq δ → g.1 (M + 18) i = lw (dK δ i) ∧ g.1 (M + 19) i = nI (dK δ i).2.2) (hv : ∀ k, 1 ≤ k → k ≤ 7 → g.1 (M + 10) k = nI (aV (dR δ) k)) (hb : ∀ i, i < dq δ → ((dK δ i).1 = 6 ∨ (dK δ i).1 = 7) ∧ 1 ≤ (dK δ i).2.1 ∧ (dK δ i).2.1 ≤ 300) (hb3 : aV (dR δ) 3 ≤ 40 ∧ aV (dR δ) 7 ≤ 60) (h32 : g.1 M 32 = 0) (l1 : Int32) : ((∀ i, i < dq δ → (dK δ i).2.1 ≤ lim δ i) → zw zN (fun s : Int32 × zG => l_X10_text_51 M l1 s.1 s.2) (0, g) = some g) ∧ ∀ i, i < dq δ → ¬ (dK δ i).2.1 ≤ lim δ i → (∀ j, j < i → (dK δ j).2.1 ≤ lim δ j) → zw zN (fun s : Int32 × zG => l_X10_text_51 M l1 s.1 s.2) (0, g) = some (zsi (zsi g M 32 (nI (dK δ i).1)) M 33 (nI (dK δ i).2.2)) := by
  obtain ⟨-, r2, -, -, -, -, -, -, -, r10, r11⟩ := hM.dr
  have good : ∀ i : Nat, j_X10_text_115_51 M l1 (nI i) M 0 g = some (.inl (nI (i + 1), g)) := by
    intro i
    unfold j_X10_text_115_51
    rw [zsi_id h32, zl_eq, h32, if_pos (Int32.le_refl _), zsi_id rfl, zl_eq, zl_eq, nI_1]
  have bad : ∀ (i c : Nat), i < dq δ → 1 ≤ c → c ≤ 7 → j_X10_text_115_51 M l1 (nI i) M (nI c) g = some (.inl (nI (i + 1), zsi (zsi g M 32 (nI c)) M 33 (nI (dK δ i).2.2))) := by
    intro i c hi h1 h2
    unfold j_X10_text_115_51
    rw [zl_eq, zsi_same, if_neg (show ¬ nI c ≤ (0 : Int32) from fun z => by have := (nle (b := 0) (by omega) (by omega)).mp z; omega), zc_pos (zlit i 64 (by omega) (by omega)), nI_cl (by omega), zsi_r, r11, zsi_at (b := M + 19) (by omega), (hK i hi).2, zl_eq, zl_eq, nI_1]
  have st : ∀ i, i < dq δ → l_X10_text_51 M l1 (nI i) g = if (dK δ i).2.1 ≤ lim δ i then some (.inl (nI (i + 1), g)) else some (.inl (nI (i + 1), zsi (zsi g M 32 (nI (dK δ i).1)) M 33 (nI (dK δ i).2.2))) := by
    intro i hi
    obtain ⟨k1, k2⟩ := hK i hi
    obtain ⟨b1', b2', b3'⟩ := hb i hi
    unfold l_X10_text_51 j_X10_text_94_51 j_X10_text_114_51
    rw [h23, if_neg (fun z => by have := (nle (by omega) (by omega)).mp z; omega), h32, if_pos rfl, zc_pos (zlit i 64 (by omega) (by omega))]
    simp only [zc_pos (show zin 7 8 by decide), zc_pos (show zin 3 8 by decide), nI_cl (show i < 2147483648 by omega), r10, k1, zl_eq, r2, c3, c7, hv 3 (by omega) (by omega), hv 7 (by omega) (by omega), good i]
    unfold lim lw
    by_cases e6 : (dK δ i).1 = 6
    · rw [if_pos e6, if_pos e6, if_neg (nI_neg (by omega)), if_pos (nI_pos0 (by omega)), e6]
      by_cases h : (dK δ i).2.1 ≤ aV (dR δ) 7
      · rw [if_pos h, if_pos ((nlt (by omega) (by omega)).mpr (by omega))]
      · rw [if_neg h, if_neg (fun z => h (by have := (nlt (by omega) (by omega)).mp z; omega))]
        exact bad i 6 hi (by omega) (by omega)
    · have e7 : (dK δ i).1 = 7 := by omega
      have hneg : -(nI (dK δ i).2.1) < (0 : Int32) := i_lt.mpr (by rw [i_neg (by omega)]; show -((dK δ i).2.1 : Int) < 0; omega)
      have hnp : ¬ (0 : Int32) ≤ -(nI (dK δ i).2.1) := fun z => by
        have := i_le.mp z
        rw [i_neg (by omega)] at this
        have h0 : (0 : Int32).toInt = 0 := rfl
        omega
      rw [if_neg e6, if_neg e6, if_pos hneg, if_neg hnp, Int32.neg_neg, e7]
      by_cases h : (dK δ i).2.1 ≤ aV (dR δ) 3
      · rw [if_pos h, if_pos ((nle (by omega) (by omega)).mpr h)]
      · rw [if_neg h, if_neg (fun z => h ((nle (by omega) (by omega)).mp z))]
        exact bad i 7 hi (by omega) (by omega)
  constructor
  · intro h
    exact zw_seq (step := fun s : Int32 × zG => l_X10_text_51 M l1 s.1 s.2) (fun i => (nI i, g)) g (dq δ) (fun i hi => by
      show l_X10_text_51 M l1 (nI i) g = _
      rw [st i hi, if_pos (h i hi)]) (by
      show l_X10_text_51 M l1 (nI (dq δ)) g = _
      unfold l_X10_text_51
      rw [h23, if_pos (Int32.le_refl _)]) (N := zN) (by have := zN_big; omega)
  · intro i hi hn hj
    have hb1 := (hb i hi).1
    refine zw_seq (step := fun s : Int32 × zG => l_X10_text_51 M l1 s.1 s.2) (fun j => if j ≤ i then (nI j, g) else (nI j, zsi (zsi g M 32 (nI (dK δ i).1)) M 33 (nI (dK δ i).2.2))) _ (i + 1) (fun j hj2 => ?_) ?_ (N := zN) (by have := zN_big; omega)
    · rw [if_pos (by omega)]
      show l_X10_text_51 M l1 (nI j) g = _
      by_cases e : j = i
      · rw [e, st i hi, if_neg hn, if_neg (by omega)]
      · rw [st j (by omega), if_pos (hj j (by omega)), if_pos (by omega)]
    · rw [if_neg (by omega)]
      show l_X10_text_51 M l1 (nI (i + 1)) _ = _
      unfold l_X10_text_51
      rw [zsi_get (j := 32) (by omega), zsi_same, if_neg (show ¬ nI (dK δ i).1 = 0 from nz (by omega) (by omega))]
      split <;> rfl
end KEP
