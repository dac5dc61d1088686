-- ===== what trials keep; best and twice as calls =====
/-- what the class keeps of its trials is what the reference would find -/
def TI (ρ : aR) (X : Nat) (g : zG) : Prop := (g.1 (X + 38) 7 = 0 ∨ (¬ g.1 (X + 38) 7 = 0 ∧ ∃ T L, RB ρ T L ∧ g.1 (X + 38) 2 = T ∧ ∀ i, i < aN ρ → g.1 (X + 39) i = L i)) ∧ (g.1 (X + 38) 8 = 0 ∨ (¬ g.1 (X + 38) 8 = 0 ∧ RT ρ (g.1 (X + 38) 3) (g.1 (X + 38) 4) (g.1 (X + 38) 5)))
def OKT (X : Nat) (f h : zG → Option (Int32 × zG)) : Prop := ∀ (k : Nat) (σ : aZ) (r : Nat) (g : zG), k < 512 → vZ k σ → CI σ X r g → MI σ (X + 53) g → TI (zR σ) X g → ∃ v g1 g2 σ' r', f g = some (v, g1) ∧ h g1 = some (v, g2) ∧ vZ (k + 1) σ' ∧ CI σ' X r' g2 ∧ MI σ' (X + 53) g2 ∧ TI (zR σ') X g2
theorem OKC.t {X : Nat} {f h : zG → Option (Int32 × zG)} (H : OKC X f h) : OKT X f h := by
  intro k σ r g hk hv hc hm ht
  obtain ⟨v, g1, g2, σ', e1, e2, e3, e4, e5, e6, e7, e8⟩ := H k σ r g hk hv hc hm
  refine ⟨v, g1, g2, σ', r, e1, e2, e3, e4, e5, ?_⟩
  rw [e6]
  unfold TI
  rw [e7, e8]
  exact ht
section OKT1
variable {X : Nat}
theorem CI.tri2 {σ : aZ} {r : Nat} {g g' : zG} {S : Nat → Prop} (h : CI σ X r g) (hf : frX S X g g') (hS : ∀ x, S x → X + 38 ≤ x ∧ x ≤ X + 48) : CI σ X r g' := h.tri hf.1 hf.2.1 (fun x x1 _ => hf.2.2 x (fun z => x1 (hS x z)))
theorem MI.up {σ : aZ} {M : Nat} {g g' : zG} {S : Nat → Prop} {X : Nat} (h : MI σ M g) (hf : frX S X g g') (hS : ∀ x, S x → x < M) (hM : X + 42 < M) : MI σ M g' := by
  have e : ∀ b, M ≤ b → g'.1 b = g.1 b := fun b hb => (hf.2.2 b (fun z => by have := hS b z; omega)).1
  have er : g'.2.1 M = g.2.1 M := hf.1 M (by omega)
  obtain ⟨h1, h2, h3, h4, h5, h6, h7, h8, h9, h10⟩ := h
  refine ⟨?_, h2.kept (by rw [e M (Nat.le_refl _)]) (by rw [e M (Nat.le_refl _)]) (fun b b1 _ => e b (by omega)), ?_⟩
  · unfold rM at *
    rw [er]
    exact h1
  · rw [e M (Nat.le_refl _), e (M + 20) (by omega), e (M + 21) (by omega), e (M + 22) (by omega), e (M + 23) (by omega), e (M + 27) (by omega), e (M + 28) (by omega), e (M + 29) (by omega), e (M + 33) (by omega), e (M + 34) (by omega), e (M + 35) (by omega)]
    exact ⟨h3, h4, h5, h6, h7, h8, h9, h10⟩
theorem TI.kept {ρ : aR} {g g' : zG} {S : Nat → Prop} (h : TI ρ X g) (hf : frm S g g') (hS : ∀ x, S x → X + 53 ≤ x) : TI ρ X g' := by
  unfold TI at *
  rw [(hf.2 (X + 38) (fun z => by have := hS _ z; omega)).1, (hf.2 (X + 39) (fun z => by have := hS _ z; omega)).1]
  exact h
theorem o_best (x : Int32) : OKT X (fun g => f_X9_best X x g) (fun g => f_X10_best (X + 53) x g) := by
  intro k σ r g hk hv hc hm ht
  have hX := hc.1
  have hr := hc.rw
  have hru := hX.rules hc.2.1
  have bn := hv.1.1
  have b24 := hv.1.2.2.2.2.2.2.2.2.2.2.2.1
  show ∃ v g1 g2 σ' r', f_X9_best X x g = some (v, g1) ∧ f_X10_best (X + 53) x g1 = some (v, g2) ∧ _ ∧ _ ∧ _ ∧ _
  by_cases hx : x = 0 ∨ (10 ≤ x.toInt ∧ x.toInt ≤ 15)
  · have eC : f_X9_best X x g = j_X9_best_18 X x g := by
      unfold f_X9_best
      by_cases h0 : x = 0
      · rw [if_pos h0]
      · rw [if_neg h0]
        rcases hx with hx | hx
        · exact absurd hx h0
        · rw [if_neg (show ¬ x < 10 from fun e => by have := i_lt.mp e; have h10 : (10 : Int32).toInt = 10 := rfl; omega), if_pos (show x < 16 from i_lt.mpr (by have h16 : (16 : Int32).toInt = 16 := rfl; omega))]
    have eM : ∀ g1, f_X10_best (X + 53) x g1 = j_X10_best_20 (X + 53) x g1 := by
      intro g1
      unfold f_X10_best
      by_cases h0 : x = 0
      · rw [if_pos h0]
      · rw [if_neg h0]
        rcases hx with hx | hx
        · exact absurd hx h0
        · rw [m_in 10 15 10 15 rfl rfl, zb_some, if_pos hx, b1]
    rw [eC]
    simp only [eM]
    by_cases h6 : aN (zR σ) ≤ 6
    · by_cases h0 : aM (zR σ) = 0
      · refine ⟨-2, g, g, σ, r, ?_, ?_, hv.next, hc, hm, ht⟩
        · unfold j_X9_best_18
          rw [hc.2.1.1, hru.1, hru.2.1, hc.2.2.1.1.1, hc.2.2.1.2.2.1, if_neg (show ¬ (6 : Int32) < nI (aN (zR σ)) from fun e => by have := (nlt (a := 6) (by omega) (by omega)).mp e; omega), if_pos (by rw [h0]; rfl)]
        · unfold j_X10_best_20
          rw [hm.2.1.1, hm.2.1.2.2.1, if_neg (show ¬ (6 : Int32) < nI (aN (zR σ)) from fun e => by have := (nlt (a := 6) (by omega) (by omega)).mp e; omega), if_pos (by rw [h0]; rfl)]
      · -- the order is found, or was
        obtain ⟨T, L, g1, q1, q2, q3, q4, q5, q6, q7⟩ : ∃ T L g1, f_X8_findOrder (X + 38) r g = some (0, g1) ∧ RB (zR σ) T L ∧ frX (fun x => X + 38 ≤ x ∧ x ≤ X + 48) X g g1 ∧ g1.1 (X + 38) 2 = T ∧ (∀ i, i < aN (zR σ) → g1.1 (X + 39) i = L i) ∧ ¬ g1.1 (X + 38) 7 = 0 ∧ ∀ j, j = 3 ∨ j = 4 ∨ j = 5 ∨ j = 8 → g1.1 (X + 38) j = g.1 (X + 38) j := by
          rcases ht.1 with h7 | ⟨h7, T, L, t1, t2, t3⟩
          · obtain ⟨T, L, z1, z2⟩ := best_all hv.1 h6 h0
            obtain ⟨g1, a1, a2, a3, a4, a5, a6⟩ := z2 X r g hX hr hc.2.2.1 h7
            exact ⟨T, L, g1, a1, z1, a2, a5, a6, by rw [a3]; decide, fun j hj => a4 j (by omega) (by omega)⟩
          · refine ⟨T, L, g, ?_, t1, frX.refl _ _ _, t2, t3, h7, fun _ _ => rfl⟩
            unfold f_X8_findOrder
            rw [if_neg h7]
        have hc1 := hc.tri2 q3 (fun x hx => hx)
        have hm1 := hm.up q3 (fun x hx => by omega) (by omega)
        obtain ⟨g2, z1, z2, z3⟩ := q2 (X + 53) k σ g1 x hv rfl hm1 hx
        have ht1 : TI (zR σ) X g1 := ⟨Or.inr ⟨q6, T, L, q2, q4, q5⟩, by rw [q7 8 (by omega), q7 3 (by omega), q7 4 (by omega), q7 5 (by omega)]; exact ht.2⟩
        refine ⟨_, g1, g2, σ, r, ?_, z1, hv.next, hc1.kept z2 (fun b hb => hb), z3, ht1.kept z2 (fun b hb => hb)⟩
        have hX1 := hc1.1
        have hru1 := hX1.rules hc1.2.1
        unfold j_X9_best_18
        rw [hc.2.1.1, hru.1, hru.2.1, hc.2.2.1.1.1, hc.2.2.1.2.2.1, if_neg (show ¬ (6 : Int32) < nI (aN (zR σ)) from fun e => by have := (nlt (a := 6) (by omega) (by omega)).mp e; omega), if_neg (fun e => h0 ((nI_zr (by omega)).mp e)), hX.tp.2.2.2.2.2.2.2, q1, zb_some, hX1.tp.2.2.2.2.2.2.2, q4, hc1.2.1.1, hru1.1, hc1.2.2.1.1.1, hX1.tp.2.1]
        unfold ansB
        by_cases hT : T = -4
        · rw [if_pos hT, if_pos hT]
        · rw [if_neg hT, if_neg hT]
          by_cases hx0 : x = 0
          · rw [if_pos hx0, if_pos hx0]
          · rw [if_neg hx0, if_neg hx0]
            rcases hx with hx | hx
            · exact absurd hx hx0
            · obtain ⟨i, i1, i2⟩ : ∃ i, i < 6 ∧ x - 10 = nI i := by
                have h10 : (x - 10).toInt = x.toInt - 10 := i_sub (by show -2147483648 ≤ x.toInt - 10 ∧ x.toInt - 10 < 2147483648; omega)
                exact i_one (n := 6) (by rw [h10]; omega) (by omega)
              rw [i2]
              by_cases h : nI (aN (zR σ)) ≤ nI i
              · rw [if_pos h, if_pos h]
              · rw [if_neg h, if_neg h, zc_pos (zlit i 6 i1 (by omega)), nI_cl (by omega), q5 i (Classical.byContradiction (fun z => h ((nle (by omega) (by omega)).mpr (by omega))))]
    · refine ⟨-2, g, g, σ, r, ?_, ?_, hv.next, hc, hm, ht⟩
      · unfold j_X9_best_18
        rw [hc.2.1.1, hru.1, hc.2.2.1.1.1, if_pos (show (6 : Int32) < nI (aN (zR σ)) from (nlt (a := 6) (by omega) (by omega)).mpr (by omega))]
      · unfold j_X10_best_20
        rw [hm.2.1.1, if_pos (show (6 : Int32) < nI (aN (zR σ)) from (nlt (a := 6) (by omega) (by omega)).mpr (by omega))]
  · have hx0 : ¬ x = 0 := fun z => hx (Or.inl z)
    have hx1 : ¬ (10 ≤ x.toInt ∧ x.toInt ≤ 15) := fun z => hx (Or.inr z)
    refine ⟨-1, g, g, σ, r, ?_, ?_, hv.next, hc, hm, ht⟩
    · unfold f_X9_best
      rw [if_neg hx0]
      by_cases h : x < 10
      · rw [if_pos h]
      · rw [if_neg h, if_neg (show ¬ x < 16 from fun e => by
          have := i_lt.mp e
          have h2 : ¬ x.toInt < (10 : Int32).toInt := fun z => h (i_lt.mpr z)
          have h10 : (10 : Int32).toInt = 10 := rfl
          have h16 : (16 : Int32).toInt = 16 := rfl
          omega)]
    · unfold f_X10_best
      rw [if_neg hx0, m_in 10 15 10 15 rfl rfl, zb_some, if_neg hx1, b0]
theorem o_twice (x : Int32) : OKT X (fun g => f_X9_twice X x g) (fun g => f_X10_twice (X + 53) x g) := by
  intro k σ r g hk hv hc hm ht
  have hX := hc.1
  have hr := hc.rw
  have hru := hX.rules hc.2.1
  have bn := hv.1.1
  have b24 := hv.1.2.2.2.2.2.2.2.2.2.2.2.1
  have d0 : (0 : Int32).toInt = 0 := rfl
  have d2 : (2 : Int32).toInt = 2 := rfl
  show ∃ v g1 g2 σ' r', f_X9_twice X x g = some (v, g1) ∧ f_X10_twice (X + 53) x g1 = some (v, g2) ∧ _ ∧ _ ∧ _ ∧ _
  by_cases hx : 0 ≤ x.toInt ∧ x.toInt ≤ 2
  · have x0 : ¬ x < 0 := fun e => by have := i_lt.mp e; omega
    have x2 : x ≤ 2 := i_le.mpr (by omega)
    by_cases h48 : aN (zR σ) = 48
    · refine ⟨-1000002, g, g, σ, r, ?_, ?_, hv.next, hc, hm, ht⟩
      · unfold f_X9_twice
        rw [if_neg x0, if_pos x2, hc.2.1.1, hru.1, hc.2.2.1.1.1, if_pos (show (48 : Int32) ≤ nI (aN (zR σ)) from (nle (a := 48) (by omega) (by omega)).mpr (by omega))]
      · unfold f_X10_twice
        rw [m_in 0 2 0 2 rfl rfl, zb_some, if_pos hx, b1, hm.2.1.1, if_pos (by rw [h48]; rfl)]
    · by_cases h0 : aM (zR σ) = 0
      · refine ⟨-1000002, g, g, σ, r, ?_, ?_, hv.next, hc, hm, ht⟩
        · unfold f_X9_twice
          rw [if_neg x0, if_pos x2, hc.2.1.1, hru.1, hru.2.1, hc.2.2.1.1.1, hc.2.2.1.2.2.1, if_neg (show ¬ (48 : Int32) ≤ nI (aN (zR σ)) from fun e => by have := (nle (a := 48) (by omega) (by omega)).mp e; omega), if_pos (by rw [h0]; rfl)]
        · unfold f_X10_twice
          rw [m_in 0 2 0 2 rfl rfl, zb_some, if_pos hx, b1, hm.2.1.1, hm.2.1.2.2.1, if_neg (show ¬ nI (aN (zR σ)) = 48 from fun e => by have := (nI_inj (b := 48) (by omega) (by omega)).mp e; omega), if_pos (by rw [h0]; rfl)]
      · obtain ⟨g1, q1, q2, q3, q6, q7, q8⟩ : ∃ g1, f_X8_findDouble (X + 38) r g = some (0, g1) ∧ RT (zR σ) (g1.1 (X + 38) 3) (g1.1 (X + 38) 4) (g1.1 (X + 38) 5) ∧ frX (fun x => X + 38 ≤ x ∧ x ≤ X + 48 ∧ x ≠ X + 39) X g g1 ∧ ¬ g1.1 (X + 38) 8 = 0 ∧ (∀ j, j = 2 ∨ j = 7 → g1.1 (X + 38) j = g.1 (X + 38) j) ∧ g1.1 (X + 39) = g.1 (X + 39) := by
          rcases ht.2 with h8 | ⟨h8, t1⟩
          · obtain ⟨D, Sg, z1, Lt0, z2, z3⟩ := twice_all hv.1 (by omega) h0
            obtain ⟨g1, a1, a2, a3, a4, a5, a6, a7⟩ := z3 X r g hX hr hc.2.2.1 h8
            refine ⟨g1, a1, ?_, a2, by rw [a3]; decide, fun j hj => a4 j (by omega) (by omega) (by omega) (by omega), (a2.2.2 (X + 39) (by omega)).1⟩
            rw [a5, a6]
            by_cases hD : D = -4
            · exact z1 _ hD
            · rw [a7 hD]; exact z2
          · refine ⟨g, ?_, t1, frX.refl _ _ _, h8, fun _ _ => rfl, rfl⟩
            unfold f_X8_findDouble
            rw [if_neg h8]
        have hc1 := hc.tri2 q3 (fun x hx => ⟨hx.1, hx.2.1⟩)
        have hm1 := hm.up q3 (fun x hx => by omega) (by omega)
        obtain ⟨g2, z1, z2, z3⟩ := q2 (X + 53) k σ g1 x hv rfl hm1 hx
        have ht1 : TI (zR σ) X g1 := ⟨by rw [q7 7 (by omega), q7 2 (by omega), q8]; exact ht.1, Or.inr ⟨q6, q2⟩⟩
        refine ⟨_, g1, g2, σ, r, ?_, z1, hv.next, hc1.kept z2 (fun b hb => hb), z3, ht1.kept z2 (fun b hb => hb)⟩
        have hX1 := hc1.1
        unfold f_X9_twice
        rw [if_neg x0, if_pos x2, hc.2.1.1, hru.1, hru.2.1, hc.2.2.1.1.1, hc.2.2.1.2.2.1, if_neg (show ¬ (48 : Int32) ≤ nI (aN (zR σ)) from fun e => by have := (nle (a := 48) (by omega) (by omega)).mp e; omega), if_neg (fun e => h0 ((nI_zr (by omega)).mp e)), hX.tp.2.2.2.2.2.2.2, q1, zb_some, hX1.tp.2.2.2.2.2.2.2]
        unfold ansT
        by_cases hD : g1.1 (X + 38) 3 = -4
        · rw [if_pos hD, if_pos hD]
        · rw [if_neg hD, if_neg hD]
          by_cases e0 : x = 0
          · rw [if_pos e0, if_pos e0]
          · rw [if_neg e0, if_neg e0]
            by_cases e1 : x = 1
            · rw [if_pos e1, if_pos e1]
            · rw [if_neg e1, if_neg e1]
              by_cases e5 : g1.1 (X + 38) 5 = -4
              · rw [if_pos e5, if_pos e5]
              · rw [if_neg e5, if_neg e5]
  · refine ⟨-1000000, g, g, σ, r, ?_, ?_, hv.next, hc, hm, ht⟩
    · unfold f_X9_twice
      by_cases h : x < 0
      · rw [if_pos h]
      · rw [if_neg h, if_neg (show ¬ x ≤ 2 from fun e => by
          have := i_le.mp e
          have h2 : ¬ x.toInt < (0 : Int32).toInt := fun z => h (i_lt.mpr z)
          omega)]
    · unfold f_X10_twice
      rw [m_in 0 2 0 2 rfl rfl, zb_some, if_neg hx, b0]
end OKT1
