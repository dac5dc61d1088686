section SB
variable {n p q : Nat} {ch ln : Nat → Nat} {C P : Nat}
def noA : Nat → Option Nat := fun _ => none
def noW : Nat → Bool := fun _ => false
theorem noA_opn (c : Nat) : opn ln noA c = decide (ln c ≠ 0) := by unfold opn noA; simp
theorem c_gather {s la ca b : Nat} {g : zG} (hL : cLine n p q C s la ca ch ln g) (hb : b < 1999990000) : ∃ g', f_X7_gather s ca la (nI C) (nI b) g = some (0, g') ∧ cSt n p q C s g ch ln b noA noW 0 (cw (opn ln noA) C) g' := by
  have hC := hL.2.2.2.1
  generalize hO : opn ln noA = O
  have hOi : ∀ c, O c = true ↔ ln c ≠ 0 := fun c => by rw [← hO, noA_opn, decide_eq_true_iff]
  have hle := cw_le O C
  let g5 : zG := zsi (zsl (zsi (zsi g s 2 1) s 4 0) s 5 0) s 8 0
  let sf : Int32 × zG → Option ((Int32 × zG) ⊕ zG) := fun x => l_X7_gather_23 s ca la (nI C) (nI b) x.1 x.2
  let R : Nat → zG → Prop := fun c g' => frm (fun x => s ≤ x ∧ x ≤ s + 4) g g' ∧ g'.1 s 2 = 1 ∧ g'.1 s 4 = 0 ∧ g'.2.2 s 5 = 0 ∧ g'.1 s 8 = nI (cw O c) ∧ (∀ j, j < c → g'.1 (s + 1) j = -4 ∧ g'.1 (s + 2) j = -4) ∧ ∀ j, j < c → O j = true → g'.1 (s + 3) (cw O j) = nI j ∧ ∃ d, g'.1 (s + 4) (cw O j) = nI d ∧ fst n p q ch j (ln j) b d
  let Inv : Nat → Int32 × zG → Prop := fun c x => ∃ g', x = (nI c, g') ∧ R c g'
  have hS : ∀ c x, c < C → Inv c x → (∃ x', sf x = some (.inl x') ∧ Inv (c + 1) x') ∨ ∃ y, sf x = some (.inr y) ∧ R C y := by
    intro c x hc hI
    obtain ⟨g', rfl, f1, f2, f3, f4, f5, f6, f7⟩ := hI
    left
    have hlc := cw_le O c
    obtain ⟨⟨r0, r1, r6, r7⟩, k2, k3, k4, k5, k6, k7, k8, k9⟩ := hL.kept f1
    obtain ⟨kl1, kl2⟩ := k5 c hc
    show ∃ x', l_X7_gather_23 s ca la (nI C) (nI b) (nI c) g' = some (.inl x') ∧ Inv (c + 1) x'
    unfold l_X7_gather_23
    rw [if_neg (fun e => by have := (nle (by omega) (by omega)).mp e; omega)]
    simp only [zc_pos (zlit c 40 (by omega) (by omega)), nI_cl (show c < 2147483648 by omega), nI_1, zl_eq]
    rw [r0, show (zsi g' (s + 1) c (-4)).2.1 s 1 = s + 2 from r1, zsi_at (b := la) (by omega), zsi_at (b := la) (by omega), kl1]
    have w1 : ∀ j, j < c + 1 → (zsi (zsi g' (s + 1) c (-4)) (s + 2) c (-4)).1 (s + 1) j = -4 ∧ (zsi (zsi g' (s + 1) c (-4)) (s + 2) c (-4)).1 (s + 2) j = -4 := by
      intro j hj
      rw [zsi_at (b := s + 1) (by omega)]
      by_cases e : j = c
      · subst e; rw [zsi_same, zsi_same]; exact ⟨rfl, rfl⟩
      · rw [zsi_get e, zsi_get e, zsi_at (b := s + 2) (by omega)]; exact f6 j (by omega)
    have fr : frm (fun x => s ≤ x ∧ x ≤ s + 4) g (zsi (zsi g' (s + 1) c (-4)) (s + 2) c (-4)) := (f1.trans (frm.si (show s ≤ s + 1 ∧ s + 1 ≤ s + 4 by omega))).trans (frm.si (show s ≤ s + 2 ∧ s + 2 ≤ s + 4 by omega))
    generalize hg2 : zsi (zsi g' (s + 1) c (-4)) (s + 2) c (-4) = g2 at *
    have es : g2.1 s = g'.1 s := by rw [← hg2, zsi_at (by omega), zsi_at (by omega)]
    have es3 : g2.1 (s + 3) = g'.1 (s + 3) := by rw [← hg2, zsi_at (by omega), zsi_at (by omega)]
    have es4 : g2.1 (s + 4) = g'.1 (s + 4) := by rw [← hg2, zsi_at (by omega), zsi_at (by omega)]
    have el : g2.2.2 = g'.2.2 := by rw [← hg2]; rfl
    have er : g2.2.1 = g'.2.1 := by rw [← hg2]; rfl
    by_cases h0 : ln c = 0
    · have hOc : O c = false := by
        cases h : O c with
        | false => rfl
        | true => exact absurd h0 ((hOi c).mp h)
      rw [if_pos (by rw [h0]; rfl)]
      refine ⟨_, rfl, g2, rfl, fr, ?_, ?_, ?_, ?_, w1, fun j j1 j2 => ?_⟩
      · rw [es]; exact f2
      · rw [es]; exact f3
      · rw [el]; exact f4
      · rw [es, cw_f hOc]; exact f5
      · rw [es3, es4]
        by_cases e : j = c
        · rw [e, hOc] at j2; cases j2
        · exact f7 j (by omega) j2
    · have hOc : O c = true := (hOi c).mpr h0
      rw [if_neg (fun e => h0 ((nI_zr (by omega)).mp e)), es, f5]
      simp only [zc_pos (zlit (cw O c) 40 (by omega) (by omega)), nI_cl (show cw O c < 2147483648 by omega)]
      rw [er, r6, zsi_at (b := la) (by omega)]
      have ela : g2.1 la c = nI (ln c) := by rw [← hg2, zsi_at (by omega), zsi_at (by omega)]; exact kl1
      rw [ela, zsi_at (b := s) (by omega), es, f5]
      simp only [zc_pos (zlit (cw O c) 40 (by omega) (by omega)), nI_cl (show cw O c < 2147483648 by omega)]
      have hLz := hL.kept (fr.trans (frm.si (k := cw O c) (x := nI c) (show s ≤ s + 3 ∧ s + 3 ≤ s + 4 by omega)))
      rcases q_nextTick (c := c) (l := ln c) (t := b) hLz.2.1 hLz.2.2.1 (by omega) kl2 (by omega) with ⟨u, u1, u2, u3⟩ | ⟨u1, u2⟩
      · rw [u1, zb_some, show (zsi g2 (s + 3) (cw O c) (nI c)).2.1 s 7 = s + 4 by show g2.2.1 s 7 = s + 4; rw [er]; exact r7, zsi_at (b := s) (by omega), zsi_at (b := s) (by omega), es, f5, nI_1]
        refine ⟨_, rfl, _, rfl, ((fr.trans (frm.si (show s ≤ s + 3 ∧ s + 3 ≤ s + 4 by omega))).trans (frm.si (show s ≤ s + 4 ∧ s + 4 ≤ s + 4 by omega))).trans (frm.si (show s ≤ s ∧ s ≤ s + 4 by omega)), ?_, ?_, ?_, ?_, fun j j1 => ?_, fun j j1 j2 => ?_⟩
        · rw [zsi_get (by omega), zsi_at (by omega), zsi_at (by omega), es]; exact f2
        · rw [zsi_get (by omega), zsi_at (by omega), zsi_at (by omega), es]; exact f3
        · show g2.2.2 s 5 = 0
          rw [el]; exact f4
        · rw [zsi_same, cw_t hOc]
        · rw [zsi_at (by omega), zsi_at (by omega), zsi_at (by omega), zsi_at (by omega), zsi_at (by omega), zsi_at (by omega)]; exact w1 j j1
        · rw [zsi_at (b := s + 3) (by omega), zsi_at (b := s + 3) (by omega), zsi_at (b := s + 4) (by omega)]
          by_cases e : j = c
          · subst e; rw [zsi_same, zsi_same]; exact ⟨rfl, u, rfl, u2⟩
          · have := cw_mono O (show j + 1 ≤ c by omega)
            rw [cw_t j2] at this
            rw [zsi_get (by omega), zsi_get (by omega), zsi_at (b := s + 4) (by omega), es3, es4]
            exact f7 j (by omega) j2
      · obtain ⟨i, i1, i2⟩ := k6 c hc h0
        exact absurd i2 (u2 i i1)
  have hE : ∀ x, Inv C x → ∃ y, sf x = some (.inr y) ∧ R C y := by
    intro x hI
    obtain ⟨g', rfl, hR⟩ := hI
    refine ⟨g', ?_, hR⟩
    show l_X7_gather_23 s ca la (nI C) (nI b) (nI C) g' = _
    unfold l_X7_gather_23
    rw [if_pos ((nle (by omega) (by omega)).mpr (Nat.le_refl _))]
  have hR0 : R 0 g5 := by
    refine ⟨(((frm.si (show s ≤ s ∧ s ≤ s + 4 by omega)).trans (frm.si (show s ≤ s ∧ s ≤ s + 4 by omega))).trans (frm.sl (show s ≤ s ∧ s ≤ s + 4 by omega))).trans (frm.si (show s ≤ s ∧ s ≤ s + 4 by omega)), ?_, ?_, ?_, zsi_same, fun j hj => by omega, fun j hj => by omega⟩
    · show (zsi (zsl (zsi (zsi g s 2 1) s 4 0) s 5 0) s 8 0).1 s 2 = 1
      rw [zsi_get (by omega), zsl_i, zsi_get (by omega), zsi_same]
    · show (zsi (zsl (zsi (zsi g s 2 1) s 4 0) s 5 0) s 8 0).1 s 4 = 0
      rw [zsi_get (by omega), zsl_i, zsi_same]
    · show (zsl (zsi (zsi g s 2 1) s 4 0) s 5 0).2.2 s 5 = 0
      rw [zsl_same]
  obtain ⟨g', e1, f1, f2, f3, f4, f5, f6, f7⟩ := zw_run Inv (R C) C hS hE C 0 zN (nI 0, g5) (by omega) (by have := zN_big; omega) ⟨g5, rfl, hR0⟩
  refine ⟨zsi g' s 3 (nI (cw O C)), ?_, f1.trans (frm.si (show s ≤ s ∧ s ≤ s + 4 by omega)), ?_, zsi_same, ?_, ?_, ⟨0, ?_, fun c => by rw [Nat.zero_testBit]; rfl⟩, fun c hc => ?_, fun c hc ho => ?_⟩
  · unfold f_X7_gather
    rw [zl_eq, zl_eq, zl_eq, zl_eq, show zw zN (fun x => l_X7_gather_23 s ca la (nI C) (nI b) x.1 x.2) (0, zsi (zsl (zsi (zsi g s 2 1) s 4 0) s 5 0) s 8 0) = _ from e1, zk_some]
    unfold j_X7_gather_102
    rw [zl_eq, f5]
  · rw [zsi_get (by omega)]; exact f2
  · rw [zsi_get (by omega)]; exact f3
  · rw [zsi_get (by omega), hO]; exact f5
  · show g'.2.2 s 5 = lN 0
    rw [f4]; rfl
  · rw [zsi_at (by omega), zsi_at (by omega)]; exact f6 c hc
  · rw [hO] at ho ⊢
    rw [zsi_at (by omega), zsi_at (by omega)]; exact f7 c hc ho
theorem nar_b0 : vp_nar .boolean 0 = 0 := by decide
theorem nar_b1 : vp_nar .boolean 1 = 1 := by decide
theorem m_gather {M : Nat} {g : zG} (hL : mLine n p q C M ch ln g) : ∃ g', zw zN (fun s => l_X10_strikes_4 M (nI P) s.1 s.2.1 s.2.2) (0, 0, g) = some (nI (cw (opn ln noA) C), g') ∧ frm (fun b => b = M ∨ b = M + 24 ∨ b = M + 25 ∨ b = M + 26) g g' ∧ g'.1 M = g.1 M ∧ ∀ c, c < C → g'.1 (M + 24) c = -4 ∧ g'.1 (M + 26) c = 0 := by
  have hC := hL.2.2.2.2.1
  generalize hO : opn ln noA = O
  have hOi : ∀ c, O c = true ↔ ln c ≠ 0 := fun c => by rw [← hO, noA_opn, decide_eq_true_iff]
  obtain ⟨k1, k2, k3, k4, k5, k6⟩ := hL
  let sf : Int32 × Int32 × zG → Option ((Int32 × Int32 × zG) ⊕ (Int32 × zG)) := fun s => l_X10_strikes_4 M (nI P) s.1 s.2.1 s.2.2
  let R : Nat → zG → Prop := fun c g' => frm (fun b => b = M + 24 ∨ b = M + 26) g g' ∧ ∀ j, j < c → g'.1 (M + 24) j = -4 ∧ g'.1 (M + 26) j = 0
  let Inv : Nat → Int32 × Int32 × zG → Prop := fun c x => ∃ g', x = (nI (cw O c), nI c, g') ∧ R c g'
  let Q : Int32 × zG → Prop := fun x => ∃ g', x = (nI (cw O C), g') ∧ R C g'
  have hS : ∀ c x, c < C → Inv c x → (∃ x', sf x = some (.inl x') ∧ Inv (c + 1) x') ∨ ∃ y, sf x = some (.inr y) ∧ Q y := by
    intro c x hc hI
    obtain ⟨g', rfl, f1, f2⟩ := hI
    left
    have hM := k1.kept f1.1
    have e : ∀ b, ¬ (b = M + 24 ∨ b = M + 26) → g'.1 b = g.1 b := fun b hb => (f1.2 b hb).1
    show ∃ x', l_X10_strikes_4 M (nI P) (nI (cw O c)) (nI c) g' = some (.inl x') ∧ Inv (c + 1) x'
    unfold l_X10_strikes_4
    rw [zc_pos (c := zin 3 8) (by decide), hM.set, c3, e (M + 2) (by omega), k4, if_neg (fun e => by have := (nle (by omega) (by omega)).mp e; omega)]
    simp only [zc_pos (zlit c 40 (by omega) (by omega)), nI_cl (show c < 2147483648 by omega), nI_1, zl_eq, nar_b0, show ∀ n, nI n + 0 = nI n from fun n => nI_add n 0]
    rw [hM.at, show (zsi g' (M + 24) c (-4)).2.1 M 42 = M + 26 from hM.hw, show (zsi (zsi g' (M + 24) c (-4)) (M + 26) c 0).2.1 M 37 = M + 21 from hM.li, zsi_at (b := M + 21) (by omega), zsi_at (b := M + 21) (by omega), e (M + 21) (by omega), (k6 c hc).1]
    have hR : R (c + 1) (zsi (zsi g' (M + 24) c (-4)) (M + 26) c 0) := by
      refine ⟨(f1.trans (frm.si (Or.inl rfl))).trans (frm.si (Or.inr rfl)), fun j hj => ?_⟩
      rw [zsi_at (b := M + 24) (by omega)]
      by_cases e : j = c
      · subst e; rw [zsi_same, zsi_same]; exact ⟨rfl, rfl⟩
      · rw [zsi_get e, zsi_get e, zsi_at (b := M + 26) (by omega)]; exact f2 j (by omega)
    have h26 := (k6 c hc).2
    by_cases h0 : ln c = 0
    · have hOc : O c = false := by
        cases h : O c with
        | false => rfl
        | true => exact absurd h0 ((hOi c).mp h)
      rw [if_pos (by rw [h0]; rfl)]
      exact ⟨_, rfl, _, by rw [cw_f hOc], hR⟩
    · rw [if_neg (fun e => h0 ((nI_zr (by omega)).mp e))]
      exact ⟨_, rfl, _, by rw [cw_t ((hOi c).mpr h0)], hR⟩
  have hE : ∀ x, Inv C x → ∃ y, sf x = some (.inr y) ∧ Q y := by
    intro x hI
    obtain ⟨g', rfl, hR⟩ := hI
    have hM := k1.kept hR.1.1
    refine ⟨_, ?_, g', rfl, hR⟩
    show l_X10_strikes_4 M (nI P) (nI (cw O C)) (nI C) g' = _
    unfold l_X10_strikes_4
    rw [zc_pos (c := zin 3 8) (by decide), hM.set, c3, (hR.1.2 (M + 2) (by omega)).1, k4, if_pos ((nle (by omega) (by omega)).mpr (Nat.le_refl _))]
  obtain ⟨y, e1, g', rfl, f1, f2⟩ := zw_run Inv Q C hS hE C 0 zN (nI 0, nI 0, g) (by omega) (by have := zN_big; omega) ⟨g, rfl, frm.refl _ _, fun j hj => by omega⟩
  exact ⟨g', e1, f1.mono (fun b hb => by omega), (f1.2 M (by omega)).1, f2⟩
/-- a line, from its first tick to its last, in both -/
theorem strike_both (hv : vCh n p q ch) (hC : C ≤ 40) (hP : 1 ≤ P ∧ P ≤ 40) (hon : ∀ c, c < C → ln c ≠ 0 → ∃ i, i < n ∧ ch i = ln c) {b : Nat} (hb : b < 1890000000) : ∃ b' A' W' m', (b ≤ b' ∧ b' ≤ b + 11520) ∧ (∀ c, c < C → ln c ≠ 0 → ∃ t, A' c = some t) ∧ (∀ c t, A' c = some t → t < b' ∧ ln c ≠ 0 ∧ (c * q + t) % p = 0) ∧ m' ≤ 40 ∧ (∀ c, W' c = true → c < C ∧ ln c ≠ 0) ∧ (∀ s la ca g, cLine n p q C s la ca ch ln g → ∃ g', f_X7_make s ca la (nI C) (nI P) (nI b) g = some (nI (b' - b), g') ∧ cSt n p q C s g ch ln b' A' W' m' (cw (opn ln noA) C) g') ∧ (∀ M g, mLine n p q C M ch ln g → g.1 M 34 = nI b → ∃ g', f_X10_strikes M (nI P) g = some (nI (b' - b), g') ∧ mSt n p q C M g A' W' m' g') := by
  have hle := cw_le (opn ln noA) C
  obtain ⟨b', A', W', m', ⟨k1, k2⟩, k3, k4, k5, k6, k7, k8⟩ := strike_run hv hC hP hon (cw (opn ln noA) C) b noA noW 0 rfl (by omega) (by omega) (fun c s h => by cases h)
  refine ⟨b', A', W', m', ⟨k1, by omega⟩, k3, fun c t h => ?_, k5, fun c h => ?_, fun s la ca g hL => ?_, fun M g hL h34 => ?_⟩
  · rcases k4 c t h with h1 | h1
    · cases h1
    · exact h1
  · rcases k6 c h with h1 | h1
    · cases h1
    · exact h1
  · obtain ⟨g1, e1, e2⟩ := c_gather hL (show b < 1999990000 by omega)
    obtain ⟨g2, e3, e4⟩ := k7 s la ca g g1 _ hL e2 0 zN (nI b) (by omega) (by have := zN_big; omega)
    refine ⟨g2, ?_, e4⟩
    unfold f_X7_make
    rw [e1, zb_some, show zw zN (fun x => l_X7_make_16 s ca la (nI P) (nI b) x.1 x.2.1 x.2.2) (nI b, 0, g1) = _ from e3, zk_some]
    unfold j_X7_make_127
    rw [pk_sub k1]
  · obtain ⟨g1, e1, e2, e3, e4⟩ := m_gather (P := P) hL
    have hs : mSt n p q C M g noA noW 0 (zsi g1 M 43 0) := by
      refine ⟨e2.trans (frm.si (Or.inl rfl)), fun j hj => by rw [zsi_get hj, e3], zsi_same, fun c hc => ⟨?_, ?_, fun t h => by cases h⟩⟩
      · rw [zsi_at (by omega)]; exact (e4 c hc).1
      · rw [zsi_at (by omega)]; exact (e4 c hc).2
    obtain ⟨g2, e5, e6⟩ := k8 M g (zsi g1 M 43 0) hL hs zN (by have := zN_big; omega)
    refine ⟨g2, ?_, e6⟩
    unfold f_X10_strikes
    rw [e1, zk_some]
    unfold j_X10_strikes_52
    rw [zl_eq, zl_eq, zsi_get (by omega), e3, h34, show zw zN (fun s => l_X10_strikes_62 M (nI P) s.1 s.2.1 s.2.2) (nI (cw (opn ln noA) C), nI b, zsi g1 M 43 0) = _ from e5, zk_some]
    unfold j_X10_strikes_203
    rw [e6.2.1 34 (by omega), h34, pk_sub k1]
-- ===== can the line be struck =====
theorem q_canStrike {a ca : Nat} {g : zG} (hv : vCh n p q ch) (hca : g.2.1 a 8 = ca) (hch : cCh n p q ch ca g) (hl : ∀ c, c < 40 → g.1 (g.2.1 a 0) c = nI (ln c) ∧ ln c ≤ 26) : ((∀ c, c < 40 → ln c ≠ 0 → ∃ i, i < n ∧ ch i = ln c) ∧ f_X2_canStrike a g = some (1, g)) ∨ ((∃ c, c < 40 ∧ ln c ≠ 0 ∧ ¬ ∃ i, i < n ∧ ch i = ln c) ∧ f_X2_canStrike a g = some (0, g)) := by
  have hls : lset ch n < 2 ^ 27 := lset_lt (fun i hi => by have := hv.2.2.2 i hi; omega)
  have eS : f_X0_letterSet ca g = some (nI (lset ch n), g) := q_letterSet (by have := hv.1; omega) hch.1 (fun i hi => ⟨hch.2.2.2 i hi, (hv.2.2.2 i hi).2⟩)
  have hx : lset ch n ||| 1 < 2 ^ 27 := Nat.or_lt_two_pow hls (by decide)
  have hbit : ∀ l, (lset ch n ||| 1).testBit l = true ↔ l = 0 ∨ ∃ i, i < n ∧ ch i = l := by
    intro l
    rw [Nat.testBit_or, Bool.or_eq_true, lset_bit, show (1 : Nat) = 2 ^ 0 from rfl, Nat.testBit_two_pow, decide_eq_true_iff]
    constructor
    · rintro (h | h)
      · exact Or.inr h
      · exact Or.inl h.symm
    · rintro (h | h)
      · exact Or.inr h.symm
      · exact Or.inl h
  have turn : ∀ c, c < 40 → l_X2_canStrike_12 a (nI (lset ch n ||| 1)) g (nI c) = if (lset ch n ||| 1).testBit (ln c) then some (.inl (nI (c + 1))) else some (.inr (.inl ())) := by
    intro c hc
    unfold l_X2_canStrike_12
    have := hl c hc
    rw [if_neg (show ¬ (40 : Int32) ≤ nI c from fun e => by have := (nle (a := 40) (by omega) (by omega)).mp e; omega), zc_pos (zlit c 40 hc (by omega)), nI_cl (by omega), this.1, zbit (by omega) (by omega), zl_eq, nI_1]
    cases h : (lset ch n ||| 1).testBit (ln c) with
    | true => rfl
    | false => rfl
  have estart : ∀ x, zw zN (fun s => l_X2_canStrike_12 a (nI (lset ch n ||| 1)) g s) (nI 0) = some x → f_X2_canStrike a g = zk2 (some x) (fun _ => j_X2_canStrike_31 a g) := by
    intro x hx
    unfold f_X2_canStrike
    rw [hca, eS, zb_some, zl_eq, show (1 : Int32) = nI 1 from rfl, nI_or, show (0 : Int32) = nI 0 from rfl, hx]
  by_cases hall : ∀ c, c < 40 → ln c ≠ 0 → ∃ i, i < n ∧ ch i = ln c
  · left
    refine ⟨hall, ?_⟩
    rw [estart (.inr (1, g)) (zw_seq (step := fun s : Int32 => l_X2_canStrike_12 a (nI (lset ch n ||| 1)) g s) (fun c => nI c) (.inr (1, g)) 40 (fun c hc => by
      show l_X2_canStrike_12 a (nI (lset ch n ||| 1)) g (nI c) = _
      rw [turn c hc, if_pos]
      rw [hbit]
      by_cases h0 : ln c = 0
      · exact Or.inl h0
      · exact Or.inr (hall c hc h0)) (by
      show l_X2_canStrike_12 a (nI (lset ch n ||| 1)) g (nI 40) = _
      unfold l_X2_canStrike_12
      rw [if_pos (show (40 : Int32) ≤ nI 40 from (nle (a := 40) (by omega) (by omega)).mpr (Nat.le_refl _))]) (N := zN) (by have := zN_big; omega))]
    rfl
  · right
    have hex : ∃ c, c < 40 ∧ ln c ≠ 0 ∧ ¬ ∃ i, i < n ∧ ch i = ln c := Classical.byContradiction (fun hn => hall (fun c hc h0 => Classical.byContradiction (fun ho => hn ⟨c, hc, h0, ho⟩)))
    refine ⟨hex, ?_⟩
    obtain ⟨c, ⟨h1, h2, h3⟩, hleast⟩ := pk_least _ hex
    rw [estart (.inl ()) (zw_seq (step := fun s : Int32 => l_X2_canStrike_12 a (nI (lset ch n ||| 1)) g s) (fun c => nI c) (.inl ()) c (fun j hj => by
      show l_X2_canStrike_12 a (nI (lset ch n ||| 1)) g (nI j) = _
      rw [turn j (by omega), if_pos]
      rw [hbit]
      by_cases h0 : ln j = 0
      · exact Or.inl h0
      · exact Or.inr (Classical.byContradiction (fun ho => hleast j hj ⟨by omega, h0, ho⟩))) (by
      show l_X2_canStrike_12 a (nI (lset ch n ||| 1)) g (nI c) = _
      rw [turn c h1, if_neg]
      rw [hbit]
      exact fun z => z.elim h2 h3) (N := zN) (by have := zN_big; omega))]
    rfl
theorem m_canGo {M : Nat} {g : zG} (hL : mLine n p q C M ch ln g) : ((∀ c, c < C → ln c ≠ 0 → ∃ i, i < n ∧ ch i = ln c) ∧ f_X10_canGo M g = some (1, g)) ∨ ((∃ c, c < C ∧ ln c ≠ 0 ∧ ¬ ∃ i, i < n ∧ ch i = ln c) ∧ f_X10_canGo M g = some (0, g)) := by
  obtain ⟨k1, k2, k3, k4, k5, k6⟩ := hL
  have hn := k2.1
  let ok : Nat → Prop := fun c => ln c ≠ 0 → ∃ i, i < n ∧ ch i = ln c
  let sf : Int32 × Int32 × zG → Option ((Int32 × Int32 × zG) ⊕ (Int32 × zG)) := fun s => l_X10_canGo_4 M s.1 s.2.1 s.2.2
  let Inv : Nat → Int32 × Int32 × zG → Prop := fun c x => ∃ b : Bool, x = (bI b, nI c, g) ∧ (b = true ↔ ∀ j, j < c → ok j)
  let Q : Int32 × zG → Prop := fun x => ∃ b : Bool, x = (bI b, g) ∧ (b = true ↔ ∀ j, j < C → ok j)
  have hS : ∀ c x, c < C → Inv c x → (∃ x', sf x = some (.inl x') ∧ Inv (c + 1) x') ∨ ∃ y, sf x = some (.inr y) ∧ Q y := by
    intro c x hc hI
    obtain ⟨b, rfl, hb⟩ := hI
    left
    obtain ⟨l1, l2⟩ := k6 c hc
    show ∃ x', l_X10_canGo_4 M (bI b) (nI c) g = some (.inl x') ∧ Inv (c + 1) x'
    unfold l_X10_canGo_4
    rw [zc_pos (c := zin 3 8) (by decide), k1.set, c3, k4, if_neg (fun e => by have := (nle (by omega) (by omega)).mp e; omega)]
    simp only [zc_pos (zlit c 40 (by omega) (by omega)), nI_cl (show c < 2147483648 by omega), nI_1, zl_eq]
    rw [k1.li, l1]
    have ext : ok c → (∀ j, j < c → ok j) → ∀ j, j < c + 1 → ok j := fun h1 h2 j hj => by
      rcases Nat.lt_or_ge j c with h | h
      · exact h2 j h
      · have : j = c := by omega
        rw [this]; exact h1
    cases b with
    | false =>
      rw [bI_f, b0]
      exact ⟨_, rfl, false, rfl, ⟨fun h => (by cases h), fun h => hb.mpr (fun j hj => h j (by omega))⟩⟩
    | true =>
      rw [bI_t, b1]
      have hb' := hb.mp rfl
      by_cases h0 : ln c = 0
      · rw [if_pos (by rw [h0]; rfl)]
        exact ⟨_, rfl, true, rfl, ⟨fun _ => ext (fun h => absurd h0 h) hb', fun _ => rfl⟩⟩
      · rw [if_neg (fun e => h0 ((nI_zr (by omega)).mp e))]
        rcases m_has (n := n) (ch := ch) (l := ln c) (by omega) k1 k3.1 k3.2.2.2 (fun i hi => (k2.2.2.2 i hi).2) l2 with ⟨h1, h2⟩ | ⟨h1, h2⟩
        · rw [h2, zb_some, b1]
          exact ⟨_, rfl, true, rfl, ⟨fun _ => ext (fun _ => h1) hb', fun _ => rfl⟩⟩
        · rw [h2, zb_some, b0]
          exact ⟨_, rfl, false, rfl, ⟨fun h => (by cases h), fun h => by
            obtain ⟨i, i1, i2⟩ := h c (by omega) h0
            exact absurd i2 (h1 i i1)⟩⟩
  have hE : ∀ x, Inv C x → ∃ y, sf x = some (.inr y) ∧ Q y := by
    intro x hI
    obtain ⟨b, rfl, hb⟩ := hI
    refine ⟨_, ?_, b, rfl, hb⟩
    show l_X10_canGo_4 M (bI b) (nI C) g = _
    unfold l_X10_canGo_4
    rw [zc_pos (c := zin 3 8) (by decide), k1.set, c3, k4, if_pos ((nle (by omega) (by omega)).mpr (Nat.le_refl _))]
  obtain ⟨y, e1, b, rfl, hb⟩ := zw_run Inv Q C hS hE C 0 zN (1, nI 0, g) (by omega) (by have := zN_big; omega) ⟨true, rfl, ⟨fun _ j hj => by omega, fun _ => rfl⟩⟩
  have e2 : f_X10_canGo M g = some (bI b, g) := by
    unfold f_X10_canGo
    rw [show zw zN (fun s => l_X10_canGo_4 M s.1 s.2.1 s.2.2) (1, 0, g) = _ from e1, zk_some]
    unfold j_X10_canGo_52
    cases b
    · exact zc_pos (Or.inl rfl)
    · exact zc_pos (Or.inr rfl)
  cases b with
  | true => exact Or.inl ⟨hb.mp rfl, e2⟩
  | false =>
    refine Or.inr ⟨Classical.byContradiction (fun hn => ?_), e2⟩
    have : (false = true) := hb.mpr (fun c hc h0 => Classical.byContradiction (fun ho => hn ⟨c, hc, h0, ho⟩))
    cases this
end SB
