section PJ2
variable {b : Bool} {ρ : aR} {n : Nat} {ch : Nat → Nat} {X a r ca M : Nat} {g g' : zG}
theorem PMb.val (h : PMb ρ n ch M g) {k : Nat} (h1 : 1 ≤ k) (h2 : k ≤ 7) : g.1 (M + 2) k = nI (aV ρ k) := h.2.1.2.2.1 k h1 h2
def bT (b : Bool) : Int32 := if b then 0 else 1
theorem bT_t {b : Bool} (h : b = true) : bT b = 0 := by rw [h]; rfl
theorem bT_f {b : Bool} (h : ¬ b = true) : bT b = 1 := by
  cases b with
  | false => rfl
  | true => exact absurd rfl h
theorem mod_s {R w : Nat} (hR : 0 < R) : ((w + 1) % R = 0 ∧ (w + 1) / R = w / R + 1 ∧ w % R + 1 = R) ∨ ((w + 1) % R = w % R + 1 ∧ (w + 1) / R = w / R ∧ w % R + 1 < R) := by
  have h1 := Nat.div_add_mod w R
  have h2 := Nat.mod_lt w hR
  rcases Nat.lt_or_ge (w % R + 1) R with h | h
  · right
    have e : w + 1 = R * (w / R) + (w % R + 1) := by omega
    refine ⟨?_, ?_, h⟩
    · rw [e, Nat.mul_add_mod, Nat.mod_eq_of_lt h]
    · rw [e, Nat.mul_add_div hR, Nat.div_eq_of_lt h]; omega
  · left
    have e : w + 1 = R * (w / R + 1) := by rw [Nat.mul_add]; omega
    refine ⟨by rw [e, Nat.mul_mod_right], by rw [e, Nat.mul_div_cancel_left _ hR], by omega⟩
def rwJ (ρ : aR) (π : aJ) (i : Nat) : aJ := (pLn π, pTk π, (pRw π + i) % aV ρ 7, pPs π + (pRw π + i) / aV ρ 7, (if pRw π + i < aV ρ 7 then pYs π else noY), pSk π, pLs π)
theorem m_moves (hv : vR ρ) {Bt Bp By : Nat} {π : aJ} (hJ : vJ b ρ Bt Bp By π) (hBt : Bt < 1900000000) (hBp : Bp < 2000000000) (hB : PMb ρ n ch M g) (hV : PMv b ρ π M g) {k : Nat} (hk : k ≤ 60) : ∃ g', f_X10_moves M (nI k) (bT b) g = some (nI (if k = 0 then 0 else aV ρ 5 + k * aV ρ 6), g') ∧ mKp b M g g' ∧ PMv b ρ (mvJ ρ π k) M g' := by
  have b5 := hv.2.2.2.2.2.2.1
  have b6 := hv.2.2.2.2.2.2.2.1
  have b7 := hv.2.2.2.2.2.2.2.2.1
  have hmul : k * aV ρ 6 ≤ 60 * 20 := Nat.mul_le_mul hk b6.2
  obtain ⟨j1, j2, j3, j4⟩ := hJ
  unfold f_X10_moves mvJ
  by_cases h0 : k = 0
  · rw [if_pos (by rw [h0]; rfl), if_pos h0, if_pos h0]
    exact ⟨g, rfl, mKp.refl _ _, hV⟩
  · rw [if_neg (fun e => h0 ((nI_zr (by omega)).mp e)), if_neg h0, if_neg h0]
    let sf : Int32 × zG → Option ((Int32 × zG) ⊕ zG) := fun s => l_X10_moves_8 M (nI k) (bT b) s.1 s.2
    let R : Nat → zG → Prop := fun i g' => mKp b M g g' ∧ PMv b ρ (rwJ ρ π i) M g'
    let Inv : Nat → Int32 × zG → Prop := fun i x => ∃ g', x = (nI i, g') ∧ R i g'
    have hS : ∀ i x, i < k → Inv i x → (∃ x', sf x = some (.inl x') ∧ Inv (i + 1) x') ∨ ∃ y, sf x = some (.inr y) ∧ R k y := by
      intro i x hi hI
      obtain ⟨g', rfl, q1, q2⟩ := hI
      left
      have hB' := hB.kept q1
      have hM := hB'.1
      obtain ⟨v1, ⟨v2, v3⟩, v5⟩ := q2
      have v3 : g'.1 M 35 = nI ((pRw π + i) % aV ρ 7) := v3
      have hmod := Nat.mod_lt (pRw π + i) (show 0 < aV ρ 7 by omega)
      have e1 : sf (nI i, g') = (if (pRw π + (i + 1)) % aV ρ 7 = 0 then (if bT b = 0 then zb (f_X10_blankPage M (zsi (zsi g' M 35 (nI ((pRw π + (i + 1)) % aV ρ 7))) M 36 (g'.1 M 36 + 1))) (fun v12 g13 => some (.inl (nI (i + 1), g13))) else some (.inl (nI (i + 1), zsi g' M 35 (nI ((pRw π + (i + 1)) % aV ρ 7))))) else some (.inl (nI (i + 1), zsi g' M 35 (nI ((pRw π + (i + 1)) % aV ρ 7))))) := by
        show l_X10_moves_8 M (nI k) (bT b) (nI i) g' = _
        unfold l_X10_moves_8
        rw [if_neg (fun e => by have := (nle (by omega) (by omega)).mp e; omega), zc_pos (c := zin 7 8) (by decide), hM.set, c7, hB'.val (by omega) (by omega), zc_pos (nz (by omega) (by omega)), v3, nI_1, zrem_nI (by omega) (by omega) (by omega), Nat.mod_add_mod, zl_eq, zsi_same]
        simp only [zl_eq, nI_1]
        rw [zsi_get (by omega), Nat.add_assoc]
        have hmod2 := Nat.mod_lt (pRw π + (i + 1)) (show 0 < aV ρ 7 by omega)
        by_cases h : (pRw π + (i + 1)) % aV ρ 7 = 0
        · rw [if_pos h, if_pos (by rw [h]; rfl)]
        · rw [if_neg h, if_neg (fun e => h ((nI_zr (by omega)).mp e))]
      have kp1 : mKp b M g' (zsi g' M 35 (nI ((pRw π + (i + 1)) % aV ρ 7))) := ⟨frm.si (Or.inl rfl), fun j hj => zsi_get (fun e => hj (by unfold mFd; omega))⟩
      have cell : ∀ (G : zG), G.1 (M + 21) = g'.1 (M + 21) → G.1 M 34 = g'.1 M 34 → G.1 M 35 = nI ((pRw π + (i + 1)) % aV ρ 7) → (b = true → G.1 M 36 = nI (pPs π + (pRw π + (i + 1)) / aV ρ 7) ∧ cPg (if pRw π + (i + 1) < aV ρ 7 then pYs π else noY) (G.1 (M + 22)) (G.1 (M + 23)) ∧ (G.1 M 44 = g'.1 M 44 ∧ G.1 M 45 = g'.1 M 45 ∧ G.1 M 46 = g'.1 M 46 ∧ G.1 M 47 = g'.1 M 47) ∧ G.1 (M + 27) = g'.1 (M + 27) ∧ G.1 (M + 28) = g'.1 (M + 28) ∧ G.1 (M + 29) = g'.1 (M + 29)) → PMv b ρ (rwJ ρ π (i + 1)) M G := by
        intro G c1 c2 c3 c4
        refine ⟨by rw [c1]; exact v1, ⟨by rw [c2]; exact v2, c3⟩, fun hb => ?_⟩
        obtain ⟨d1, d2, ⟨d3, d4, d5, d6⟩, d7, d8, d9⟩ := c4 hb
        refine ⟨d1, d2, ?_⟩
        rw [d3, d4, d5, d6, d7, d8, d9]
        exact (v5 hb).2.2
      rw [← Nat.add_assoc] at e1
      rcases mod_s (R := aV ρ 7) (w := pRw π + i) (by omega) with ⟨m1, m2, m3⟩ | ⟨m1, m2, m3⟩
      · rw [if_pos m1] at e1
        by_cases hb : b = true
        · rw [bT_t hb, b0] at e1
          have kp2 : mKp b M g' (zsi (zsi g' M 35 (nI ((pRw π + i + 1) % aV ρ 7))) M 36 (g'.1 M 36 + 1)) := ⟨(frm.si (Or.inl rfl)).trans (frm.si (Or.inl rfl)), fun j hj => by rw [zsi_get (fun e => hj (Or.inr (Or.inr (Or.inr ⟨hb, Or.inl e⟩)))), zsi_get (fun e => hj (by unfold mFd; omega))]⟩
          rw [m_blank (hM.kept kp2.1.1), zb_some] at e1
          have bf := blk_frm (g := zsi (zsi g' M 35 (nI ((pRw π + i + 1) % aV ρ 7))) M 36 (g'.1 M 36 + 1)) (M + 22) (M + 23) 2400
          have ea : ∀ x, ¬ (x = M + 22 ∨ x = M + 23) → (blk (zsi (zsi g' M 35 (nI ((pRw π + i + 1) % aV ρ 7))) M 36 (g'.1 M 36 + 1)) (M + 22) (M + 23) 2400).1 x = (zsi (zsi g' M 35 (nI ((pRw π + i + 1) % aV ρ 7))) M 36 (g'.1 M 36 + 1)).1 x := fun x hx => (bf.2 x hx).1
          refine ⟨_, e1, _, rfl, (q1.trans kp2).trans ⟨bf.mono (fun x hx => Or.inr (Or.inr (Or.inr ⟨hb, by omega⟩))), fun j hj => by rw [ea M (by omega)]⟩, cell _ ?_ ?_ ?_ (fun _ => ⟨?_, ?_, ⟨?_, ?_, ?_, ?_⟩, ?_, ?_, ?_⟩)⟩
          · rw [ea (M + 21) (by omega), zsi_at (by omega), zsi_at (by omega)]
          · rw [ea M (by omega), zsi_get (by omega), zsi_get (by omega)]
          · rw [ea M (by omega), zsi_get (by omega), zsi_same]; rfl
          · rw [ea M (by omega), zsi_same, (v5 hb).1]
            show nI (pPs π + (pRw π + i) / aV ρ 7) + 1 = _
            rw [nI_1, ← Nat.add_assoc, m2]; rfl
          · rw [if_neg (show ¬ pRw π + (i + 1) < aV ρ 7 from fun e => by
              rw [Nat.mod_eq_of_lt (show pRw π + i + 1 < aV ρ 7 by omega)] at m1; omega)]
            intro j hj
            exact blk_get (by omega) 2400 hj
          · rw [ea M (by omega), zsi_get (by omega), zsi_get (by omega)]
          · rw [ea M (by omega), zsi_get (by omega), zsi_get (by omega)]
          · rw [ea M (by omega), zsi_get (by omega), zsi_get (by omega)]
          · rw [ea M (by omega), zsi_get (by omega), zsi_get (by omega)]
          · rw [ea (M + 27) (by omega), zsi_at (by omega), zsi_at (by omega)]
          · rw [ea (M + 28) (by omega), zsi_at (by omega), zsi_at (by omega)]
          · rw [ea (M + 29) (by omega), zsi_at (by omega), zsi_at (by omega)]
        · rw [bT_f hb, b1] at e1
          exact ⟨_, e1, _, rfl, q1.trans kp1, cell _ (zsi_at (by omega)) (zsi_get (by omega)) zsi_same (fun z => absurd z hb)⟩
      · rw [if_neg (by omega)] at e1
        refine ⟨_, e1, _, rfl, q1.trans kp1, cell _ (zsi_at (by omega)) (zsi_get (by omega)) zsi_same (fun hb => ⟨?_, ?_, ⟨zsi_get (by omega), zsi_get (by omega), zsi_get (by omega), zsi_get (by omega)⟩, zsi_at (by omega), zsi_at (by omega), zsi_at (by omega)⟩)⟩
        · rw [zsi_get (by omega), (v5 hb).1]
          show nI (pPs π + (pRw π + i) / aV ρ 7) = _
          rw [← Nat.add_assoc, m2]
        · rw [zsi_at (by omega), zsi_at (by omega)]
          have := (v5 hb).2.1
          have this : cPg (if pRw π + i < aV ρ 7 then pYs π else noY) (g'.1 (M + 22)) (g'.1 (M + 23)) := this
          by_cases h : pRw π + (i + 1) < aV ρ 7
          · rw [if_pos h]; rw [if_pos (by omega)] at this; exact this
          · rw [if_neg h]
            rw [if_neg (fun e => by
              rw [Nat.mod_eq_of_lt e] at m3; omega)] at this
            exact this
    have hE : ∀ x, Inv k x → ∃ y, sf x = some (.inr y) ∧ R k y := by
      intro x hI
      obtain ⟨g', rfl, hR⟩ := hI
      refine ⟨g', ?_, hR⟩
      show l_X10_moves_8 M (nI k) (bT b) (nI k) g' = _
      unfold l_X10_moves_8
      rw [if_pos ((nle (by omega) (by omega)).mpr (Nat.le_refl _))]
    obtain ⟨g1, e1, q1, q2⟩ := zw_run Inv (R k) k hS hE k 0 zN (nI 0, g) (by omega) (by have := zN_big; omega) ⟨g, rfl, mKp.refl _ _, by
      obtain ⟨v1, ⟨v2, v3⟩, v5⟩ := hV
      refine ⟨v1, ⟨v2, ?_⟩, fun hb => ⟨?_, ?_, (v5 hb).2.2⟩⟩
      · show _ = nI ((pRw π + 0) % aV ρ 7)
        rw [Nat.add_zero, Nat.mod_eq_of_lt j2]; exact v3
      · show _ = nI (pPs π + (pRw π + 0) / aV ρ 7)
        rw [Nat.add_zero, Nat.div_eq_of_lt j2]; exact (v5 hb).1
      · show cPg (if pRw π + 0 < aV ρ 7 then pYs π else noY) _ _
        rw [if_pos (by omega)]; exact (v5 hb).2.1⟩
    rw [show zw zN (fun s => l_X10_moves_8 M (nI k) (bT b) s.1 s.2) (0, g) = some g1 from e1, zk_some]
    have hB' := hB.kept q1
    have hM := hB'.1
    obtain ⟨v1, ⟨v2, v3⟩, v5⟩ := q2
    unfold j_X10_moves_62
    simp only [zc_pos (show zin 5 8 by decide), zc_pos (show zin 6 8 by decide), zl_eq]
    rw [hM.set, c5, c6, hB'.val (by omega) (by omega), hB'.val (by omega) (by omega), pk_mul, nI_add, v2]
    refine ⟨_, rfl, q1.trans ⟨frm.si (Or.inl rfl), fun j hj => zsi_get (fun e => hj (by unfold mFd; omega))⟩, ?_, ⟨?_, ?_⟩, fun hb => ⟨?_, ?_, ?_⟩⟩
    · rw [zsi_at (by omega)]; exact v1
    · rw [zsi_same, nI_add]; rfl
    · rw [zsi_get (by omega)]; exact v3
    · rw [zsi_get (by omega)]; exact (v5 hb).1
    · rw [zsi_at (by omega), zsi_at (by omega)]; exact (v5 hb).2.1
    · rw [zsi_get (by omega), zsi_get (by omega), zsi_get (by omega), zsi_get (by omega), zsi_at (by omega), zsi_at (by omega), zsi_at (by omega)]; exact (v5 hb).2.2
-- ===== to a hole =====
theorem rows_both (ha : adr b X a r ca) (hv : vR ρ) {w c : Nat} (hw : w < aV ρ 7) (hc : c < 8) : (∃ k, (1 ≤ k ∧ k ≤ aV ρ 7) ∧ (∀ g, PCb ρ n ch X a r ca g → f_X5_rowsToHole r (nI w) (nI c) g = some (nI k, g)) ∧ ∀ g, PMb ρ n ch M g → g.1 M 35 = nI w → f_X10_toHole M (nI c) g = some (nI k, g)) ∨ ((∀ g, PCb ρ n ch X a r ca g → f_X5_rowsToHole r (nI w) (nI c) g = some (-4, g)) ∧ ∀ g, PMb ρ n ch M g → g.1 M 35 = nI w → f_X10_toHole M (nI c) g = some (-4, g)) := by
  have b7 := hv.2.2.2.2.2.2.2.2.1
  have bh := hv.2.2.2.2.2.2.2.2.2.1
  have turnC : ∀ g, PCb ρ n ch X a r ca g → ∀ k, 1 ≤ k → k ≤ aV ρ 7 → l_X5_rowsToHole_14 r (nI c) (nI (aV ρ 7)) g (nI ((w + (k - 1)) % aV ρ 7)) (nI k) = if (aH ρ ((w + k) % aV ρ 7)).testBit c then some (.inr (.inl (nI k))) else some (.inl (nI ((w + k) % aV ρ 7), nI (k + 1))) := by
    intro g hB k k1 k2
    have hr := ha.ru hB.1
    have hmod := Nat.mod_lt (w + (k - 1)) (show 0 < aV ρ 7 by omega)
    have hmod2 := Nat.mod_lt (w + k) (show 0 < aV ρ 7 by omega)
    have ej : j_X5_rowsToHole_36_14 r (nI c) (nI (aV ρ 7)) (nI k) (nI ((w + k) % aV ρ 7)) g = if (aH ρ ((w + k) % aV ρ 7)).testBit c then some (.inr (.inl (nI k))) else some (.inl (nI ((w + k) % aV ρ 7), nI (k + 1))) := by
      unfold j_X5_rowsToHole_36_14
      have := bh ((w + k) % aV ρ 7)
      rw [zc_pos (zlit _ 60 (by omega) (by omega)), nI_cl (by omega), hr.2.2.2.1, hB.2.2.1.2.2.2.2.2 _ (by omega), zbit (by omega) (by omega), zl_eq, nI_1]
      cases h : (aH ρ ((w + k) % aV ρ 7)).testBit c with
      | true => rfl
      | false => rfl
    unfold l_X5_rowsToHole_14
    rw [if_neg (fun e => by have := (nlt (by omega) (by omega)).mp e; omega), nI_1]
    rcases mod_s (R := aV ρ 7) (w := w + (k - 1)) (by omega) with ⟨m1, m2, m3⟩ | ⟨m1, m2, m3⟩
    · rw [show w + (k - 1) + 1 = w + k by omega] at m1
      rw [if_pos ((nle (by omega) (by omega)).mpr (by omega)), show (0 : Int32) = nI ((w + k) % aV ρ 7) by rw [m1]; rfl, ej]
    · rw [show w + (k - 1) + 1 = w + k by omega] at m1
      rw [if_neg (fun e => by have := (nle (by omega) (by omega)).mp e; omega), ← m1, ej]
  have turnM : ∀ g, PMb ρ n ch M g → g.1 M 35 = nI w → ∀ k, 1 ≤ k → k ≤ aV ρ 7 → l_X10_toHole_2 M (nI c) g (nI k) = if (aH ρ ((w + k) % aV ρ 7)).testBit c then some (.inr (.inl (nI k))) else some (.inl (nI (k + 1))) := by
    intro g hB h35 k k1 k2
    have hM := hB.1
    have hmod2 := Nat.mod_lt (w + k) (show 0 < aV ρ 7 by omega)
    have := bh ((w + k) % aV ρ 7)
    unfold l_X10_toHole_2
    simp only [zc_pos (show zin 7 8 by decide)]
    rw [hM.set, c7, hB.val (by omega) (by omega), h35, nI_add, zrem_nI (by omega) (by omega) (by omega), if_neg (fun e => by have := (nlt (by omega) (by omega)).mp e; omega), zc_pos (nz (by omega) (by omega)), zc_pos (zlit _ 60 (by omega) (by omega)), nI_cl (by omega), hM.ho, hB.2.1.2.2.2 _ (by omega), zbit (by omega) (by omega), zl_eq, nI_1]
    cases h : (aH ρ ((w + k) % aV ρ 7)).testBit c with
    | true => rfl
    | false => rfl
  have startC : ∀ g, PCb ρ n ch X a r ca g → ∀ x, zw zN (fun s => l_X5_rowsToHole_14 r (nI c) (nI (aV ρ 7)) g s.1 s.2) (nI ((w + 0) % aV ρ 7), nI 1) = some x → f_X5_rowsToHole r (nI w) (nI c) g = zk2 (some x) (fun x => j_X5_rowsToHole_52 r x g) := by
    intro g hB x hx
    have hr := ha.ru hB.1
    unfold f_X5_rowsToHole
    rw [zc_pos (c := zin 7 8) (by decide), hr.2.2.1, c7, hB.2.2.1.val (by omega) (by omega), zl_eq]
    rw [Nat.add_zero, Nat.mod_eq_of_lt hw] at hx
    rw [show ((nI w, 1) : Int32 × Int32) = (nI w, nI 1) from rfl, hx]
  have startM : ∀ g x, zw zN (fun s => l_X10_toHole_2 M (nI c) g s) (nI 1) = some x → f_X10_toHole M (nI c) g = zk2 (some x) (fun x => j_X10_toHole_40 M x g) := by
    intro g x hx
    unfold f_X10_toHole
    rw [show (1 : Int32) = nI 1 from rfl, hx]
  by_cases hex : ∃ k, (1 ≤ k ∧ k ≤ aV ρ 7) ∧ (aH ρ ((w + k) % aV ρ 7)).testBit c = true
  · left
    obtain ⟨k, ⟨⟨k1, k2⟩, k3⟩, kl⟩ := pk_least _ hex
    have hno : ∀ j, 1 ≤ j → j < k → ¬ (aH ρ ((w + j) % aV ρ 7)).testBit c = true := fun j j1 j2 h => kl j j2 ⟨⟨j1, by omega⟩, h⟩
    refine ⟨k, ⟨k1, k2⟩, fun g hB => ?_, fun g hB h35 => ?_⟩
    · rw [startC g hB (.inl (nI k)) (zw_seq (step := fun s : Int32 × Int32 => l_X5_rowsToHole_14 r (nI c) (nI (aV ρ 7)) g s.1 s.2) (fun i => (nI ((w + i) % aV ρ 7), nI (i + 1))) (.inl (nI k)) (k - 1) (fun i hi => by
        have := turnC g hB (i + 1) (by omega) (by omega)
        rw [show i + 1 - 1 = i by omega, if_neg (hno (i + 1) (by omega) (by omega))] at this
        exact this) (by
        have := turnC g hB k k1 k2
        rw [if_pos k3] at this
        show l_X5_rowsToHole_14 r (nI c) (nI (aV ρ 7)) g (nI ((w + (k - 1)) % aV ρ 7)) (nI (k - 1 + 1)) = _
        rw [show k - 1 + 1 = k by omega]; exact this) (N := zN) (by have := zN_big; omega))]
      rfl
    · rw [startM g (.inl (nI k)) (zw_seq (step := fun s : Int32 => l_X10_toHole_2 M (nI c) g s) (fun i => nI (i + 1)) (.inl (nI k)) (k - 1) (fun i hi => by
        have := turnM g hB h35 (i + 1) (by omega) (by omega)
        rw [if_neg (hno (i + 1) (by omega) (by omega))] at this
        exact this) (by
        have := turnM g hB h35 k k1 k2
        rw [if_pos k3] at this
        show l_X10_toHole_2 M (nI c) g (nI (k - 1 + 1)) = _
        rw [show k - 1 + 1 = k by omega]; exact this) (N := zN) (by have := zN_big; omega))]
      rfl
  · right
    have hno : ∀ j, 1 ≤ j → j ≤ aV ρ 7 → ¬ (aH ρ ((w + j) % aV ρ 7)).testBit c = true := fun j j1 j2 h => hex ⟨j, ⟨j1, j2⟩, h⟩
    refine ⟨fun g hB => ?_, fun g hB h35 => ?_⟩
    · rw [startC g hB (.inr (-4, g)) (zw_seq (step := fun s : Int32 × Int32 => l_X5_rowsToHole_14 r (nI c) (nI (aV ρ 7)) g s.1 s.2) (fun i => (nI ((w + i) % aV ρ 7), nI (i + 1))) (.inr (-4, g)) (aV ρ 7) (fun i hi => by
        have := turnC g hB (i + 1) (by omega) (by omega)
        rw [show i + 1 - 1 = i by omega, if_neg (hno (i + 1) (by omega) (by omega))] at this
        exact this) (by
        show l_X5_rowsToHole_14 r (nI c) (nI (aV ρ 7)) g (nI ((w + aV ρ 7) % aV ρ 7)) (nI (aV ρ 7 + 1)) = _
        unfold l_X5_rowsToHole_14
        rw [if_pos ((nlt (by omega) (by omega)).mpr (by omega))]) (N := zN) (by have := zN_big; omega))]
      rfl
    · rw [startM g (.inr (-4, g)) (zw_seq (step := fun s : Int32 => l_X10_toHole_2 M (nI c) g s) (fun i => nI (i + 1)) (.inr (-4, g)) (aV ρ 7) (fun i hi => by
        have := turnM g hB h35 (i + 1) (by omega) (by omega)
        rw [if_neg (hno (i + 1) (by omega) (by omega))] at this
        exact this) (by
        show l_X10_toHole_2 M (nI c) g (nI (aV ρ 7 + 1)) = _
        unfold l_X10_toHole_2
        simp only [zc_pos (show zin 7 8 by decide)]
        rw [hB.1.set, c7, hB.val (by omega) (by omega), if_pos ((nlt (by omega) (by omega)).mpr (by omega))]) (N := zN) (by have := zN_big; omega))]
      rfl
end PJ2
