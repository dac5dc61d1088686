-- ===== what stands behind a word =====
def COK (t : aT) (X d : Nat) (δ : aD) (p : Nat) (g0 : zG) (o : Option (Int32 × zG)) : Prop := ∃ g', o = some (1, g') ∧ CB t X d δ g' ∧ g'.1 (X + 23) 7 = nI p ∧ g'.1 (X + 23) 2 = 0 ∧ kF X d g0 g'
def CNO (X d c x : Nat) (g0 : zG) (o : Option (Int32 × zG)) : Prop := ∃ g', o = some (0, g') ∧ g'.1 (X + 23) 2 = nI c ∧ g'.1 (X + 23) 3 = nI x ∧ kF X d g0 g'
def MOK (t : aT) (M : Nat) (δ : aD) (p : Nat) (g0 : zG) (o : Option (Int32 × zG)) : Prop := ∃ y g', o = some (y, g') ∧ MD t M g' ∧ ((lx t p).1 ≠ 5 → mD δ M g') ∧ LA t p M g' ∧ hF M g0 g'
def MNO (M c x : Nat) (g0 : zG) (o : Option (Int32 × zG)) : Prop := ∃ y g', o = some (y, g') ∧ FS c x M g' ∧ hF M g0 g'
def Res (t : aT) (δ : aD) (p : Nat) (Q : aD → Nat → Prop) (fc : Nat → Nat → zG → Option (Int32 × zG)) (fm : Nat → zG → Option (Int32 × zG)) : Prop :=
  (∃ c x, (1 ≤ c ∧ c ≤ 5) ∧ x ≤ 240 ∧ (∀ X d g, CB t X d δ g → g.1 (X + 23) 7 = nI p → g.1 (X + 23) 2 = 0 → CNO X d c x g (fc X d g)) ∧ ∀ M g, MB t M δ g → LA t p M g → MNO M c x g (fm M g)) ∨
  ∃ δ' p', Q δ' p' ∧ (p ≤ p' ∧ p' ≤ t.1) ∧ (∀ X d g, CB t X d δ g → g.1 (X + 23) 7 = nI p → g.1 (X + 23) 2 = 0 → COK t X d δ' p' g (fc X d g)) ∧ ∀ M g, MB t M δ g → LA t p M g → MOK t M δ' p' g (fm M g)
/-- bounds of a draft; s: bytes behind it -/
def vD (δ : aD) (s : Nat) : Prop := (2 ≤ aN (dR δ) ∧ aN (dR δ) ≤ 48) ∧ (∀ i, i < aN (dR δ) → 1 ≤ aC (dR δ) i ∧ aC (dR δ) i ≤ 26) ∧ ((2 ≤ aV (dR δ) 1 ∧ aV (dR δ) 1 ≤ 6) ∧ (1 ≤ aV (dR δ) 2 ∧ aV (dR δ) 2 ≤ 6) ∧ (1 ≤ aV (dR δ) 3 ∧ aV (dR δ) 3 ≤ 40) ∧ (1 ≤ aV (dR δ) 4 ∧ aV (dR δ) 4 ≤ 40) ∧ aV (dR δ) 5 ≤ 20 ∧ (1 ≤ aV (dR δ) 6 ∧ aV (dR δ) 6 ≤ 20) ∧ (1 ≤ aV (dR δ) 7 ∧ aV (dR δ) 7 ≤ 60)) ∧ (∀ r, aH (dR δ) r < 256) ∧
  (aM (dR δ) ≤ 24 ∧ ∀ k, k < aM (dR δ) → aA (dR δ) k ≤ 3 ∧ (aA (dR δ) k ≠ 0 → aY (dR δ) k = 0) ∧ (aA (dR δ) k = 2 → aU (dR δ) k ≤ 9) ∧ (aA (dR δ) k = 3 → aU (dR δ) k ≤ 7) ∧ aU (dR δ) k ≤ 59 ∧ aF (dR δ) k + aY (dR δ) k ≤ dl δ ∧ (aA (dR δ) k = 0 → ∃ i, i < dq δ ∧ (dK δ i).1 = 7 ∧ (dK δ i).2.1 = aU (dR δ) k + aY (dR δ) k)) ∧
  (∀ i, i < dl δ → 1 ≤ aL (dR δ) i ∧ aL (dR δ) i ≤ 26) ∧ (∀ r, aH (dR δ) r ≠ 0 → ∃ i, i < dq δ ∧ (dK δ i).1 = 6 ∧ (dK δ i).2.1 = r + 1) ∧ (dB δ = true ↔ ∃ r, aH (dR δ) r ≠ 0) ∧ (dl δ ≤ s ∧ 7 * dq δ ≤ s) ∧ ∀ i, i < dq δ → (((dK δ i).1 = 6 ∧ 1 ≤ (dK δ i).2.1 ∧ (dK δ i).2.1 ≤ 60) ∨ ((dK δ i).1 = 7 ∧ 1 ≤ (dK δ i).2.1 ∧ (dK δ i).2.1 ≤ 300)) ∧ (dK δ i).2.2 ≤ 240
theorem vD.le {δ : aD} {s s' : Nat} (h : vD δ s) (hs : s ≤ s') : vD δ s' := by
  obtain ⟨h1, h2, h3, h4, h5, h6, h7, h8, h9, h10⟩ := h
  exact ⟨h1, h2, h3, h4, h5, h6, h7, h8, by omega, h10⟩
def setV (δ : aD) (w v : Nat) : aD := ((aN (dR δ), aC (dR δ), zup (aV (dR δ)) w v, aH (dR δ), aM (dR δ), aA (dR δ), aU (dR δ), aF (dR δ), aY (dR δ), aL (dR δ)), dl δ, dW δ, dB δ, dq δ, dK δ)
def setC (δ : aD) (n : Nat) (f : Nat → Nat) : aD := ((n, f, aV (dR δ), aH (dR δ), aM (dR δ), aA (dR δ), aU (dR δ), aF (dR δ), aY (dR δ), aL (dR δ)), dl δ, dW δ, dB δ, dq δ, dK δ)
def setH (δ : aD) (r c : Nat) : aD := ((aN (dR δ), aC (dR δ), aV (dR δ), zup (aH (dR δ)) r (aH (dR δ) r ||| 2 ^ c), aM (dR δ), aA (dR δ), aU (dR δ), aF (dR δ), aY (dR δ), aL (dR δ)), dl δ, dW δ, true, dq δ, dK δ)
section BDY
variable {t : aT} {δ : aD} {p s : Nat}
theorem LA.le {M x : Nat} {g : zG} (h : LA t x M g) (h5 : (lx t x).1 ≠ 5) : LK t (lx t x).1 (lx t x).2.1 (lx t x).2.2 M g := by
  rcases h with h | h
  · exact h.2
  · exact absurd h.1 h5
theorem LA.fs {M x : Nat} {g : zG} (h : LA t x M g) (h5 : (lx t x).1 = 5) : FS 1 (lx t x).2.1 M g := by
  rcases h with h | h
  · exact absurd h5 h.1
  · exact h.2
/-- a comma and a name, in the class -/
theorem q_cn (hv : vTp t) (hp : p ≤ t.1) {X d : Nat} {g : zG} (hC : CB t X d δ g) (h7 : g.1 (X + 23) 7 = nI p) (h2 : g.1 (X + 23) 2 = 0) (K : zG → Option (Int32 × zG)) :
    (tc 3 t p ≠ 0 → CNO X d (tc 3 t p) (lx t p).2.1 g (zb (f_X4_take (X + 23) 44 g) (fun v5 g6 => if v5 = 0 then (some ((0, g6))) else (zb (f_X4_take (X + 23) 1 g6) (fun v8 g9 => if v8 = 0 then (some ((0, g9))) else K g9))))) ∧
    (tc 3 t p = 0 → (tc 1 t (lx t p).2.2 ≠ 0 → CNO X d (tc 1 t (lx t p).2.2) (lx t (lx t p).2.2).2.1 g (zb (f_X4_take (X + 23) 44 g) (fun v5 g6 => if v5 = 0 then (some ((0, g6))) else (zb (f_X4_take (X + 23) 1 g6) (fun v8 g9 => if v8 = 0 then (some ((0, g9))) else K g9))))) ∧
      (tc 1 t (lx t p).2.2 = 0 → ∃ g', zb (f_X4_take (X + 23) 44 g) (fun v5 g6 => if v5 = 0 then (some ((0, g6))) else (zb (f_X4_take (X + 23) 1 g6) (fun v8 g9 => if v8 = 0 then (some ((0, g9))) else K g9))) = K g' ∧ tF X g g' ∧ g'.1 (X + 23) 6 = nI (lx t (lx t p).2.2).2.1 ∧ g'.1 (X + 23) 7 = nI (lx t (lx t p).2.2).2.2 ∧ g'.1 (X + 23) 2 = 0)) := by
  obtain ⟨⟨k1, k2, k3⟩, -⟩ := lx_tok hv hp
  obtain ⟨g1, a1, a2, a3, a4⟩ := q_take (X := X) hv (due := 3) (by omega) hp hC.1 h7
  rw [show f_X4_take (X + 23) 44 g = _ from a1, zb_some]
  constructor
  · intro h
    rw [if_neg h, b0]
    exact ⟨g1, rfl, (a4 h).1, (a4 h).2, kF.of a2⟩
  · intro h
    rw [if_pos h, b1]
    obtain ⟨c1, c2, c3⟩ := a3 h
    obtain ⟨g2, w1, w2, w3, w4⟩ := q_take (X := X) hv (due := 1) (by omega) k3 (hC.1.kept a2) c2
    rw [show f_X4_take (X + 23) 1 g1 = _ from w1, zb_some]
    constructor
    · intro h1
      rw [if_neg h1, b0]
      exact ⟨g2, rfl, (w4 h1).1, (w4 h1).2, kF.of (a2.trans w2)⟩
    · intro h1
      rw [if_pos h1, b1]
      obtain ⟨d1, d2, d3⟩ := w3 h1
      exact ⟨g2, rfl, a2.trans w2, d1, d2, by rw [d3, c3]; exact h2⟩
theorem setC_c {X d n : Nat} {f : Nat → Nat} {g g' : zG} (hC : CB t X d δ g) (hf : frm (fun x => x = d + 1 ∨ x = d + 2) g g') (h1 : g'.1 (d + 1) 1 = nI n) (h2 : ∀ i, i < n → g'.1 (d + 2) i = nI (f i)) : CB t X d (setC δ n f) g' := by
  obtain ⟨c0, c00, c1, c2, c3, c4, c5, c6, c7, c9⟩ := hC
  have e : ∀ x, ¬ (x = d + 1 ∨ x = d + 2) → g'.1 x = g.1 x := fun x hx => (hf.2 x hx).1
  refine ⟨⟨c0.1.kept hf.1, by rw [e (X + 23) (by omega)]; exact c0.2.1, fun i hi => by rw [e (X + 24) (by omega)]; exact c0.2.2 i hi⟩, c00, ?_⟩
  unfold cD
  rw [e (d + 3) (by omega), e (d + 4) (by omega), e (d + 5) (by omega), e (d + 6) (by omega), e (d + 7) (by omega), e (d + 8) (by omega), e (d + 9) (by omega), e (d + 10) (by omega), e (X + 23) (by omega), e (X + 25) (by omega), e (X + 26) (by omega), e (X + 27) (by omega)]
  exact ⟨⟨h1, h2⟩, c2, c3, c4, c5, c6, c7, c9⟩
theorem setC_m {M n : Nat} {f : Nat → Nat} {g g' : zG} (hC : mD δ M g) (hf : frm (fun x => x = M ∨ x = M + 9) g g') (hj : ∀ j, j ≠ 10 → g'.1 M j = g.1 M j) (h1 : g'.1 M 10 = nI n) (h2 : ∀ i, i < n → g'.1 (M + 9) i = nI (f i)) : mD (setC δ n f) M g' := by
  obtain ⟨c1, c2, c3, c4, c5, c6, c7, c9, c10⟩ := hC
  have e : ∀ x, ¬ (x = M ∨ x = M + 9) → g'.1 x = g.1 x := fun x hx => (hf.2 x hx).1
  unfold mD
  rw [e (M + 10) (by omega), e (M + 11) (by omega), e (M + 12) (by omega), e (M + 13) (by omega), e (M + 14) (by omega), e (M + 15) (by omega), e (M + 16) (by omega), e (M + 17) (by omega), e (M + 18) (by omega), e (M + 19) (by omega), hj 15 (by omega), hj 20 (by omega), hj 23 (by omega), hj 14 (by omega)]
  exact ⟨⟨h1, h2⟩, c2, c3, c4, c5, c6, c7, c9, c10⟩
theorem m_chainF {M c x : Nat} {l1 : Int32} {g : zG} (h : FS c x M g) (hc : 1 ≤ c ∧ c ≤ 7) : j_X10_readChain_37 M l1 g = some (0, g) := by
  unfold j_X10_readChain_37
  have st : zw zN (fun s : Int32 × zG => l_X10_readChain_39 M l1 s.1 s.2) (0, g) = some g := by
    obtain ⟨K, hK⟩ : ∃ K, zN = K + 1 := ⟨99999, rfl⟩
    rw [hK]
    apply zw_end
    show l_X10_readChain_39 M l1 0 g = _
    unfold l_X10_readChain_39
    rw [h.1, if_neg (show ¬ nI c = 0 from nz (by omega) (by omega))]
    split <;> rfl
  rw [st, zk_some]
  unfold j_X10_readChain_83
  rw [m_nextF h hc, zb_some]
theorem b_chain (hv : vTp t) (hp : p ≤ t.1) (hV : vD δ s) (hs : s ≤ p) : Res t δ p (fun δ' p' => vD δ' (p' + 1) ∧ dW δ' = dW δ) (fun X d g => f_X4_readChain (X + 23) (d + 1) g) (fun M g => f_X10_readChain M g) := by
  have hl := hv.1
  obtain ⟨⟨k1, k2, k3⟩, k4, -⟩ := lx_tok hv hp
  obtain ⟨⟨m1, m2, m3⟩, m4, m5, m6, m7, m8⟩ := lx_tok hv k3
  by_cases h3 : tc 3 t p = 0
  · by_cases h1 : tc 1 t (lx t p).2.2 = 0
    · have hk1 := (tc_0 h1).1
      have hkb := m7 hk1
      have hk5 : (lx t (lx t p).2.2).1 ≠ 5 := by omega
      generalize hFq : (lx t (lx t p).2.2).2.1 = f at *
      generalize hEq : (lx t (lx t p).2.2).2.2 = e at *
      have hfe := m6 (by omega)
      have enI : nI e - nI f = nI (e - f) := pk_sub m2
      -- the reference up to the letters
      have begM : ∀ M g, MB t M δ g → LA t p M g → ∃ g1, f_X10_toLetters M g = some (0, g1) ∧ uF M g g1 ∧ LK t 1 f e M g1 := by
        intro M g hB hL
        obtain ⟨g1, z1, z2, z3, z4⟩ := m_toL hv hp hB.1 hL
        have := (z4 h3).2 h1
        rw [hFq, hEq] at this
        exact ⟨g1, z1, z2, this⟩
      by_cases hn : 2 ≤ e - f ∧ e - f ≤ 48
      · right
        have hL : ∀ i, i < e - f → 1 ≤ tl t f i ∧ tl t f i ≤ 26 := fun i hi => by
          have := kb_letter (hkb (f + i) (by omega) (by omega))
          unfold tl
          omega
        refine ⟨setC δ (e - f) (tl t f), e, ⟨?_, rfl⟩, ⟨by omega, m3⟩, fun X d g hC h7 h2 => ?_, fun M g hB hLA => ?_⟩
        · obtain ⟨v1, v2, v3, v4, v5, v6, v7, v8, v9, v10⟩ := hV
          exact ⟨hn, hL, v3, v4, v5, v6, v7, v8, ⟨by show dl δ ≤ e + 1; omega, by show 7 * dq δ ≤ e + 1; omega⟩, v10⟩
        · obtain ⟨g1, z1, z2, z3, z4, z5⟩ := ((q_cn hv hp hC h7 h2 (fun g9 => zl ((g9.1 (X + 23) 7) - (g9.1 (X + 23) 6)) (fun v11 => if v11 < 2 then (j_X4_readChain_40 (X + 23) g9) else (if v11 ≤ 48 then (zk (zw zN (fun s => l_X4_readChain_52 (X + 23) (d + 1) v11 s.1 s.2) (0, g9)) (fun x => j_X4_readChain_79 (X + 23) (d + 1) v11 x)) else (j_X4_readChain_40 (X + 23) g9))))).2 h3).2 h1
          rw [hFq] at z3
          rw [hEq] at z4
          have hC1 := hC.kept z2
          have hr1 := hC1.rr
          have h2d := hC1.2.1
          show COK t X d (setC δ (e - f) (tl t f)) e g (f_X4_readChain (X + 23) (d + 1) g)
          unfold f_X4_readChain
          rw [z1, z3, z4, enI, zl_eq, if_neg (show ¬ nI (e - f) < (2 : Int32) from fun z => by have := (nlt (b := 2) (by omega) (by omega)).mp z; omega), if_pos (show nI (e - f) ≤ (48 : Int32) from (nle (b := 48) (by omega) (by omega)).mpr hn.2)]
          have fz := zfl_frm g1 (d + 2) 0 (fun i => nI (tl t f i)) (e - f)
          have lp : zw zN (fun s : Int32 × zG => l_X4_readChain_52 (X + 23) (d + 1) (nI (e - f)) s.1 s.2) (0, g1) = some (zfl g1 (d + 2) 0 (fun i => nI (tl t f i)) (e - f)) := by
            refine zw_seq (step := fun s : Int32 × zG => l_X4_readChain_52 (X + 23) (d + 1) (nI (e - f)) s.1 s.2) (fun i => (nI i, zfl g1 (d + 2) 0 (fun i => nI (tl t f i)) i)) (zfl g1 (d + 2) 0 (fun i => nI (tl t f i)) (e - f)) (e - f) (fun i hi => ?_) ?_ (N := zN) (by have := zN_big; omega)
            · have fi := zfl_frm g1 (d + 2) 0 (fun i => nI (tl t f i)) i
              have e23 : (zfl g1 (d + 2) 0 (fun i => nI (tl t f i)) i).1 (X + 23) = g1.1 (X + 23) := (fi.2 (X + 23) (by omega)).1
              have hRi : RD t X (zfl g1 (d + 2) 0 (fun i => nI (tl t f i)) i) := ⟨hC1.1.1.kept fi.1, by rw [e23]; exact hC1.1.2.1, fun j hj => by rw [(fi.2 (X + 24) (by omega)).1]; exact hC1.1.2.2 j hj⟩
              show l_X4_readChain_52 (X + 23) (d + 1) (nI (e - f)) (nI i) _ = _
              unfold l_X4_readChain_52
              rw [if_neg (fun z => by have := (nle (by omega) (by omega)).mp z; omega), q_letterAt hv hRi (f := f) (i := i) (e := e) (by rw [e23]; exact z3) (by omega) m3 hkb, zb_some, zc_pos (zlit i 48 (by omega) (by omega)), nI_cl (by omega), zfl_r, hr1.2.2.2.2.1, zl_eq, zl_eq, nI_1]
              rw [show zfl g1 (d + 2) 0 (fun i => nI (tl t f i)) (i + 1) = zsi (zfl g1 (d + 2) 0 (fun i => nI (tl t f i)) i) (d + 2) (0 + i) (nI (tl t f i)) from rfl, Nat.zero_add]
            · show l_X4_readChain_52 (X + 23) (d + 1) (nI (e - f)) (nI (e - f)) _ = _
              unfold l_X4_readChain_52
              rw [if_pos (Int32.le_refl _)]
          rw [lp, zk_some]
          unfold j_X4_readChain_79
          rw [zl_eq]
          have fr : frm (fun x => x = d + 1 ∨ x = d + 2) g1 (zsi (zfl g1 (d + 2) 0 (fun i => nI (tl t f i)) (e - f)) (d + 1) 1 (nI (e - f))) := (fz.mono (fun x hx => Or.inr hx)).trans (frm.si (Or.inl rfl))
          have e23 : (zsi (zfl g1 (d + 2) 0 (fun i => nI (tl t f i)) (e - f)) (d + 1) 1 (nI (e - f))).1 (X + 23) = g1.1 (X + 23) := (fr.2 (X + 23) (by omega)).1
          refine ⟨_, rfl, setC_c hC1 fr zsi_same (fun i hi => ?_), by rw [e23]; exact z4, by rw [e23]; exact z5, (kF.of z2).trans ⟨fr.mono (fun x hx => Or.inr (Or.inr (by omega))), by rw [e23], by rw [e23]⟩⟩
          rw [zsi_at (by omega), zfl_get, if_pos (by omega), Nat.sub_zero]
        · obtain ⟨g1, z1, z2, y32, y30, y29, y28, y31⟩ := begM M g hB hLA
          have hB1 := hB.kept z2
          have hdr := hB1.1.1.dr
          -- the letters
          let sf : Int32 × zG → Option ((Int32 × zG) ⊕ zG) := fun s => l_X10_readChain_39 M (nI (e - f)) s.1 s.2
          let R : Nat → zG → Prop := fun i g' => frm (fun x => x = M ∨ x = M + 9) g1 g' ∧ (∀ j, j ≠ 10 → g'.1 M j = g1.1 M j) ∧ (0 < i → g'.1 M 10 = nI (e - f)) ∧ ∀ j, j < i → g'.1 (M + 9) j = nI (tl t f j)
          let Inv : Nat → Int32 × zG → Prop := fun n x => ∃ g', x = (nI n, g') ∧ R n g'
          have hS : ∀ i x, i < e - f → Inv i x → (∃ x', sf x = some (.inl x') ∧ Inv (i + 1) x') ∨ ∃ y, sf x = some (.inr y) ∧ R (e - f) y := by
            intro i x hi hI
            obtain ⟨g2, rfl, q1, q2, q3, q4⟩ := hI
            left
            have hD2 : MD t M g2 := ⟨hB1.1.1.kept q1.1, by rw [q2 27 (by omega)]; exact hB1.1.2.1, fun j hj => by rw [(q1.2 (M + 20) (by omega)).1]; exact hB1.1.2.2 j hj⟩
            refine ⟨(nI (i + 1), zsi (zsi g2 (M + 9) i (nI (tl t f i))) M 10 (nI (e - f))), ?_, _, rfl, (q1.trans (frm.si (Or.inr rfl))).trans (frm.si (Or.inl rfl)), fun j hj => ?_, fun _ => zsi_same, fun j hj => ?_⟩
            · show l_X10_readChain_39 M (nI (e - f)) (nI i) g2 = _
              unfold l_X10_readChain_39
              rw [if_neg (fun z => by have := (nle (by omega) (by omega)).mp z; omega), q2 32 (by omega), y32, if_pos rfl, q2 29 (by omega), y29, nI_add, m_look hv hD2 (by omega), zb_some, zc_pos (zlit i 49 (by omega) (by omega)), nI_cl (by omega), q1.1, hdr.1, lk_letter (e := e) (by omega) m3 hkb, zl_eq, zl_eq, zl_eq, nI_1]
            · rw [zsi_get hj, zsi_at (b := M) (by omega)]; exact q2 j hj
            · rw [zsi_at (b := M + 9) (by omega)]
              by_cases ej : j = i
              · rw [ej, zsi_same]
              · rw [zsi_get ej]; exact q4 j (by omega)
          have hEE : ∀ x, Inv (e - f) x → ∃ y, sf x = some (.inr y) ∧ R (e - f) y := by
            intro x hI
            obtain ⟨g2, rfl, hR⟩ := hI
            refine ⟨g2, ?_, hR⟩
            show l_X10_readChain_39 M (nI (e - f)) (nI (e - f)) g2 = _
            unfold l_X10_readChain_39
            rw [if_pos (Int32.le_refl _)]
          obtain ⟨g2, e1, q1, q2, q3, q4⟩ := zw_run Inv (R (e - f)) (e - f) hS hEE (e - f) 0 zN (nI 0, g1) (by omega) (by have := zN_big; omega) ⟨g1, rfl, frm.refl _ _, fun _ _ => rfl, fun z => absurd z (by omega), fun j hj => absurd hj (by omega)⟩
          have hf2 : hF M g1 g2 := ⟨q1.mono (fun x hx => by unfold SMt; omega), fun j hj => q2 j (fun z => hj (by unfold tFd; omega))⟩
          have hD2 := hB1.1.keptH hf2
          obtain ⟨g3, n1, n2, n3⟩ := m_next_t hv m3 hD2 (by rw [q2 28 (by omega)]; exact y28) (by rw [q2 32 (by omega)]; exact y32)
          have hm2 : mD (setC δ (e - f) (tl t f)) M g2 := setC_m hB1.2 q1 q2 (q3 (by omega)) q4
          have hMB : MB t M (setC δ (e - f) (tl t f)) g3 := MB.kept ⟨hD2, hm2⟩ n2
          refine ⟨0, g3, ?_, hMB.1, fun _ => hMB.2, n3, ((hF.of z2).trans hf2).trans (hF.of n2)⟩
          show f_X10_readChain M g = _
          unfold f_X10_readChain
          rw [z1, zb_some, y28, y29, enI, zl_eq, y32, if_pos rfl, m_in 2 48 2 48 rfl rfl, i_nI (by omega), if_pos (show (2 : Int) ≤ ((e - f : Nat) : Int) ∧ ((e - f : Nat) : Int) ≤ 48 by omega), zb_some, m_wantT, zb_some]
          unfold j_X10_readChain_37
          rw [show zw zN (fun s : Int32 × zG => l_X10_readChain_39 M (nI (e - f)) s.1 s.2) (0, g1) = some g2 from e1, zk_some]
          unfold j_X10_readChain_83
          rw [n1, zb_some]
      · left
        refine ⟨3, f, by omega, by omega, fun X d g hC h7 h2 => ?_, fun M g hB hLA => ?_⟩
        · obtain ⟨g1, z1, z2, z3, z4, z5⟩ := ((q_cn hv hp hC h7 h2 (fun g9 => zl ((g9.1 (X + 23) 7) - (g9.1 (X + 23) 6)) (fun v11 => if v11 < 2 then (j_X4_readChain_40 (X + 23) g9) else (if v11 ≤ 48 then (zk (zw zN (fun s => l_X4_readChain_52 (X + 23) (d + 1) v11 s.1 s.2) (0, g9)) (fun x => j_X4_readChain_79 (X + 23) (d + 1) v11 x)) else (j_X4_readChain_40 (X + 23) g9))))).2 h3).2 h1
          rw [hFq] at z3
          rw [hEq] at z4
          show CNO X d 3 f g (f_X4_readChain (X + 23) (d + 1) g)
          unfold f_X4_readChain
          have ef : j_X4_readChain_40 (X + 23) g1 = some (0, zsi (zsi g1 (X + 23) 2 3) (X + 23) 3 (nI f)) := by
            unfold j_X4_readChain_40 f_X4_fail
            rw [zl_eq, zl_eq, zb_some, zc_pos (Or.inl rfl), z3]
          rw [z1, z3, z4, enI, zl_eq, ef]
          refine ⟨_, ?_, by rw [zsi_get (by omega), zsi_same], zsi_same, (kF.of z2).trans ((kF.of (tF.si (by omega))).trans (kF.of (tF.si (by omega))))⟩
          by_cases hlt : e - f < 2
          · rw [if_pos (show nI (e - f) < (2 : Int32) from (nlt (b := 2) (by omega) (by omega)).mpr hlt)]; rfl
          · rw [if_neg (show ¬ nI (e - f) < (2 : Int32) from fun z => hlt ((nlt (b := 2) (by omega) (by omega)).mp z)), if_neg (show ¬ nI (e - f) ≤ (48 : Int32) from fun z => by have := (nle (b := 48) (by omega) (by omega)).mp z; omega)]; rfl
        · obtain ⟨g1, z1, z2, y32, y30, y29, y28, y31⟩ := begM M g hB hLA
          obtain ⟨g2, w1, w2, w3⟩ := m_wantN (c := 3) y32 y29
          refine ⟨0, g2, ?_, w3, hF.of (z2.trans w2)⟩
          show f_X10_readChain M g = _
          unfold f_X10_readChain
          rw [z1, zb_some, y28, y29, enI, zl_eq, y32, if_pos rfl, m_in 2 48 2 48 rfl rfl, i_nI (by omega), if_neg (show ¬ ((2 : Int) ≤ ((e - f : Nat) : Int) ∧ ((e - f : Nat) : Int) ≤ 48) by omega), zb_some, show f_X10_wants M 0 3 g1 = _ from w1, zb_some, m_chainF w3 (by omega)]
    · left
      have hle := tc_le (t := t) 1 (lx t p).2.2
      refine ⟨tc 1 t (lx t p).2.2, (lx t (lx t p).2.2).2.1, by omega, by omega, fun X d g hC h7 h2 => ?_, fun M g hB hLA => ?_⟩
      · exact ((q_cn hv hp hC h7 h2 _).2 h3).1 h1
      · obtain ⟨g1, z1, z2, z3, z4⟩ := m_toL hv hp hB.1 hLA
        have hFS := (z4 h3).1 h1
        refine ⟨0, g1, ?_, hFS, hF.of z2⟩
        show f_X10_readChain M g = _
        unfold f_X10_readChain
        rw [z1, zb_some, zl_eq, hFS.1, if_neg (nz (by omega) (by omega)), m_chainF hFS (by omega)]
  · left
    have hle := tc_le (t := t) 3 p
    refine ⟨tc 3 t p, (lx t p).2.1, by omega, by omega, fun X d g hC h7 h2 => ?_, fun M g hB hLA => ?_⟩
    · exact (q_cn hv hp hC h7 h2 _).1 h3
    · obtain ⟨g1, z1, z2, z3, z4⟩ := m_toL hv hp hB.1 hLA
      have hFS := z3 h3
      refine ⟨0, g1, ?_, hFS, hF.of z2⟩
      show f_X10_readChain M g = _
      unfold f_X10_readChain
      rw [z1, zb_some, zl_eq, hFS.1, if_neg (nz (by omega) (by omega)), m_chainF hFS (by omega)]
end BDY
