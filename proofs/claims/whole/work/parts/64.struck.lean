section OKS4
variable {X : Nat}
theorem rX.st {g : zG} (h : rX X g) : g.2.1 (X + 31) 1 = X + 33 := by unfold rX at h; simp only [h]
theorem rX.s0 {g : zG} (h : rX X g) : g.2.1 (X + 33) 0 = X + 34 := by unfold rX at h; simp only [h]
theorem rX.s1 {g : zG} (h : rX X g) : g.2.1 (X + 33) 1 = X + 35 := by unfold rX at h; simp only [h]
theorem rX.pr {g : zG} (h : rX X g) : g.2.1 X 4 = X + 31 := by unfold rX at h; simp only [h]
theorem rM.sAt {M : Nat} {g : zG} (h : rM M g) : g.2.1 M 48 = M + 27 := by unfold rM at h; simp only [h]
theorem rM.sMe {M : Nat} {g : zG} (h : rM M g) : g.2.1 M 49 = M + 28 := by unfold rM at h; simp only [h]
theorem rM.sSe {M : Nat} {g : zG} (h : rM M g) : g.2.1 M 50 = M + 29 := by unfold rM at h; simp only [h]
theorem rM.li {M : Nat} {g : zG} (h : rM M g) : g.2.1 M 37 = M + 21 := by unfold rM at h; simp only [h]
theorem bI_0 {b : Bool} : bI b = 0 ↔ b = false := by cases b <;> decide
/-- both say whether a line was struck -/
theorem sk_made {σ : aZ} {r : Nat} {g : zG} (hc : CI σ X r g) (hm : MI σ (X + 53) g) : ((zSk σ).1 = false ∧ g.1 (X + 33) 2 = 0 ∧ g.1 (X + 53) 44 = 0) ∨ ((zSk σ).1 = true ∧ ¬ g.1 (X + 33) 2 = 0 ∧ ¬ g.1 (X + 53) 44 = 0) := by
  have h1 := hc.2.2.2.2.2.2.2.2.1.1
  have h2 := hm.2.2.2.2.2.2.2.1.1
  rw [h1, h2]
  cases (zSk σ).1
  · exact Or.inl ⟨rfl, rfl, rfl⟩
  · exact Or.inr ⟨rfl, by decide, by decide⟩
theorem sub10 {y : Int32} (h : 10 ≤ y.toInt) : (y - 10).toInt = y.toInt - 10 := by
  have := i_rng y
  rw [i_sub (by show -2147483648 ≤ y.toInt - 10 ∧ y.toInt - 10 < 2147483648; omega)]; rfl
theorem o_struck (x : Int32) : OKC X (fun g => f_X9_struck X x g) (fun g => f_X10_struck (X + 53) x g) := OKC.read (fun k σ r g _ hv hc hm => by
  have hX := hc.1
  have hM := hm.1
  have b3 := hv.1.2.2.2.2.1
  have elt : (x < (10 : Int32)) ↔ x.toInt < 10 := i_lt
  have el0 : (x < (0 : Int32)) ↔ x.toInt < 0 := i_lt
  have el2 : (x ≤ (2 : Int32)) ↔ x.toInt ≤ 2 := i_le
  have key : ((0 ≤ x.toInt ∧ x.toInt ≤ 2) ∨ (10 ≤ x.toInt ∧ x.toInt - 10 < aV (zR σ) 3)) → ∃ v, j_X9_struck_38 X x g = some (v, g) ∧ j_X10_struck_31 (X + 53) x g = some (v, g) := by
    intro hx
    unfold j_X9_struck_38 j_X10_struck_31
    rw [hX.pr, hX.st, zl_eq, hX.s0, hM.sAt]
    rcases sk_made hc hm with ⟨-, e1, e2⟩ | ⟨e0, e1, e2⟩
    · rw [if_pos e1, if_pos e2]; exact ⟨_, rfl, rfl⟩
    · obtain ⟨q1, q2, q3, q4⟩ := hc.2.2.2.2.2.2.2.2.1.2 e0
      obtain ⟨p1, p2, p3, p4⟩ := hm.2.2.2.2.2.2.2.1.2 e0
      rw [if_neg e1, if_neg e2, q1, q2, q3, p1, p2, p3, zb_some]
      by_cases x0 : x = 0
      · rw [if_pos x0, if_pos x0]; exact ⟨_, rfl, rfl⟩
      · by_cases x1 : x = 1
        · rw [if_neg x0, if_pos x1, if_neg x0, if_pos x1]; exact ⟨_, rfl, rfl⟩
        · by_cases x2 : x = 2
          · rw [if_neg x0, if_neg x1, if_pos x2, if_neg x0, if_neg x1, if_pos x2]; exact ⟨_, rfl, rfl⟩
          · have n0 : ¬ x.toInt = 0 := fun e => x0 (i_eq.mpr e)
            have n1 : ¬ x.toInt = 1 := fun e => x1 (i_eq.mpr e)
            have n2 : ¬ x.toInt = 2 := fun e => x2 (i_eq.mpr e)
            have hs := sub10 (y := x) (by omega)
            obtain ⟨c, hc1, ec⟩ := i_one (x := x - 10) (n := aV (zR σ) 3) (by omega) (by omega)
            rw [if_neg x0, if_neg x1, if_neg x2, if_neg x0, if_neg x1, if_neg x2, ec, zc_pos (zlit c 40 (by omega) (by omega)), zc_pos (zlit c 40 (by omega) (by omega)), nI_cl (by omega), (q4 c hc1).1, (p4 c hc1).1]
            exact ⟨_, rfl, rfl⟩
  unfold f_X9_struck f_X10_struck
  rw [m_in 0 2 0 2 rfl rfl, zb_some]
  by_cases h1 : x.toInt < 10
  · rw [if_pos (elt.mpr h1)]
    unfold j_X9_struck_21 j_X9_struck_22
    rw [b0]
    by_cases h2 : 0 ≤ x.toInt ∧ x.toInt ≤ 2
    · rw [if_neg (fun e => by have := el0.mp e; omega), if_pos (el2.mpr h2.2), if_pos h2, b1]
      exact key (Or.inl h2)
    · rw [if_neg h2, b0, if_pos (elt.mpr h1)]
      refine ⟨-1, ?_, rfl⟩
      by_cases h3 : x.toInt < 0
      · rw [if_pos (el0.mpr h3)]
      · rw [if_neg (fun e => h3 (el0.mp e)), if_neg (fun e => h2 ⟨by omega, el2.mp e⟩)]
  · have hs := sub10 (y := x) (by omega)
    rw [if_neg (fun e => h1 (elt.mp e)), q_isColumn hX hc.2.1 hv.1 hc.2.2.1, zb_some, if_neg (show ¬ (0 ≤ x.toInt ∧ x.toInt ≤ 2) by omega), b0, if_neg (fun e => h1 (elt.mp e)), m_isColumn hM hv.1 hm.2.1, zb_some]
    by_cases h2 : 0 ≤ (x - 10).toInt ∧ (x - 10).toInt < aV (zR σ) 3
    · rw [if_pos h2, b1, b1]
      unfold j_X9_struck_22
      rw [b1]
      exact key (Or.inr (by omega))
    · rw [if_neg h2, b0, b0]
      unfold j_X9_struck_21 j_X9_struck_22
      rw [b0, if_neg (fun e => by have := el0.mp e; omega), if_neg (fun e => by have := el2.mp e; omega)]
      exact ⟨-1, rfl, rfl⟩)
/-- what a struck column shows behind a slip, in both -/
theorem shown {σ : aZ} {k r : Nat} {g : zG} (hk : k < 512) (hv : vZ k σ) (hc : CI σ X r g) (hm : MI σ (X + 53) g) (hz : (zSk σ).1 = true) {d c : Nat} (hd : d < aN (zR σ)) (hcc : c < aV (zR σ) 3) (hs : (zSk σ).2.2.2.2.1 c ≠ -4) : ∃ v, f_X7_shownAfterSlip (X + 33) (r + 1) (nI d) (nI c) g = some (v, g) ∧ f_X10_shows (X + 53) (nI d) (nI c) g = some (v, g) := by
  have hX := hc.1
  have hM := hm.1
  have hr := hX.rules hc.2.1
  have b3 := hv.1.2.2.2.2.1
  have bn := hv.1.1
  have vc := hv.1.ch
  have ch := hc.2.2.1.ch hr
  obtain ⟨q1, q2, q3, q4⟩ := hc.2.2.2.2.2.2.2.2.1.2 hz
  obtain ⟨p1, p2, p3, p4⟩ := hm.2.2.2.2.2.2.2.1.2 hz
  rcases (hv.2.2.2.2.2.1 hz c hcc).1 with e | ⟨t, t1, t2, t3⟩
  · exact absurd e hs
  · have ht : t < 2000000000 := by
      have : k * 400000 ≤ 512 * 400000 := Nat.mul_le_mul_right _ (by omega)
      omega
    have hsl := slg_lt (p := aV (zR σ) 1) (q := aV (zR σ) 2) (n := aN (zR σ)) (by omega) c t
    unfold f_X7_shownAfterSlip f_X10_shows
    rw [zc_pos (zlit c 40 (by omega) (by omega)), zc_pos (zlit c 40 (by omega) (by omega)), hX.s0, nI_cl (by omega), (q4 c hcc).1, t2, q_slugFacing vc ch (by omega) ht, zb_some, if_pos t3]
    rw [hM.sMe, hm.2.1.1, (p4 c hcc).2.2.2 t ht t2, zc_pos (nz (by omega) (by omega)), nI_add, zrem_nI (by omega) (by omega) (by omega)]
    have hmod := Nat.mod_lt (slg (aN (zR σ)) (aV (zR σ) 1) (aV (zR σ) 2) c t + d) (show 0 < aN (zR σ) by omega)
    rw [zc_pos (zlit _ 49 (by omega) (by omega)), nI_cl (by omega), hM.1, hm.2.1.2.1 _ hmod]
    rw [if_pos (show (0 : Int32) ≤ nI (slg (aN (zR σ)) (aV (zR σ) 1) (aV (zR σ) 2) c t) from (nle (a := 0) (by omega) (by omega)).mpr (by omega)), zl_eq, ch.1]
    have ej : ∀ i, i < aN (zR σ) → j_X7_shownAfterSlip_45 (X + 33) (r + 1) (nI i) g = some (nI (aC (zR σ) i), g) := by
      intro i hi
      unfold j_X7_shownAfterSlip_45
      rw [ch.1, if_neg (fun e => by have := (nle (by omega) (by omega)).mp e; omega), zc_pos (zlit i 48 (by omega) (by omega)), nI_cl (by omega), ch.2.2.2 i hi]
    by_cases hlt : slg (aN (zR σ)) (aV (zR σ) 1) (aV (zR σ) 2) c t + d < aN (zR σ)
    · rw [if_pos ((nlt (by omega) (by omega)).mpr hlt), ej _ hlt, Nat.mod_eq_of_lt hlt]
      exact ⟨_, rfl, rfl⟩
    · rw [if_neg (fun e => hlt ((nlt (by omega) (by omega)).mp e)), pk_sub (by omega), zl_eq, ej _ (by omega), Nat.mod_eq_sub_mod (by omega), Nat.mod_eq_of_lt (by omega)]
      exact ⟨_, rfl, rfl⟩
/-- a column was struck, or not, in both -/
theorem sk_col {σ : aZ} {k r : Nat} {g : zG} (hk : k < 512) (hv : vZ k σ) (hc : CI σ X r g) (hm : MI σ (X + 53) g) (hz : (zSk σ).1 = true) {c : Nat} (hcc : c < aV (zR σ) 3) : ((zSk σ).2.2.2.2.1 c = -4 ∧ g.1 (X + 34) c = -4 ∧ g.1 (X + 53 + 28) c = -4) ∨ ((zSk σ).2.2.2.2.1 c ≠ -4 ∧ ¬ g.1 (X + 34) c = -4 ∧ ¬ g.1 (X + 53 + 28) c = -4) := by
  obtain ⟨q1, q2, q3, q4⟩ := hc.2.2.2.2.2.2.2.2.1.2 hz
  obtain ⟨p1, p2, p3, p4⟩ := hm.2.2.2.2.2.2.2.1.2 hz
  have bn := hv.1.1
  rcases (hv.2.2.2.2.2.1 hz c hcc).1 with e | ⟨t, t1, t2, t3⟩
  · exact Or.inl ⟨e, by rw [(q4 c hcc).1, e], (p4 c hcc).2.2.1 e⟩
  · have ht : t < 2000000000 := by
      have : k * 400000 ≤ 512 * 400000 := Nat.mul_le_mul_right _ (by omega)
      omega
    have hsl := slg_lt (p := aV (zR σ) 1) (q := aV (zR σ) 2) (n := aN (zR σ)) (by omega) c t
    exact Or.inr ⟨by rw [t2]; exact nm4 (by omega), by rw [(q4 c hcc).1, t2]; exact nm4 (by omega), by rw [(p4 c hcc).2.2.2 t ht t2]; exact nm4 (by omega)⟩
theorem o_slipped (x y : Int32) : OKC X (fun g => f_X9_slipped X x y g) (fun g => f_X10_slipped (X + 53) x y g) := OKC.read (fun k σ r g hk hv hc hm => by
  have hX := hc.1
  have hw := hc.2.1
  have hr := hX.rules hw
  have hM := hm.1
  have b3 := hv.1.2.2.2.2.1
  have bn := hv.1.1
  unfold f_X9_slipped f_X10_slipped
  rw [hw.1, hr.1, hc.2.2.1.1.1, hm.2.1.1, m_up0 (by omega), zb_some, q_isColumn hX hw hv.1 hc.2.2.1, zb_some, m_isColumn hM hv.1 hm.2.1, zb_some]
  have el0 : (x < (0 : Int32)) ↔ x.toInt < 0 := i_lt
  have eln : (nI (aN (zR σ)) ≤ x) ↔ (aN (zR σ) : Int) ≤ x.toInt := by rw [i_le, i_nI (by omega)]
  by_cases h1 : 0 ≤ x.toInt ∧ x.toInt < aN (zR σ)
  · rw [if_neg (fun e => by have := el0.mp e; omega), if_neg (fun e => by have := eln.mp e; omega), if_pos h1, b1]
    by_cases h2 : 0 ≤ y.toInt ∧ y.toInt < aV (zR σ) 3
    · rw [if_pos h2, b1, b1]
      obtain ⟨d, hd, rfl⟩ := i_one h1 (by omega)
      obtain ⟨c, hcc, rfl⟩ := i_one h2 (by omega)
      rw [hX.pr, hX.st, zl_eq]
      rcases sk_made hc hm with ⟨-, e1, e2⟩ | ⟨e0, e1, e2⟩
      · rw [if_pos e1, if_pos e2]; exact ⟨_, rfl, rfl⟩
      · rw [if_neg e1, if_neg e2, zc_pos (zlit c 40 (by omega) (by omega)), zc_pos (zlit c 40 (by omega) (by omega)), nI_cl (by omega), hX.s0, hM.sMe]
        rcases sk_col hk hv hc hm e0 hcc with ⟨f0, f1, f2⟩ | ⟨f0, f1, f2⟩
        · rw [if_pos f1, if_pos f2]; exact ⟨_, rfl, rfl⟩
        · obtain ⟨v, g1, g2⟩ := shown hk hv hc hm e0 hd hcc f0
          rw [if_neg f1, if_neg f2, hw.1, hr.1, g1, g2, zb_some]; exact ⟨_, rfl, rfl⟩
    · rw [if_neg h2]; exact ⟨-1, rfl, rfl⟩
  · rw [if_neg h1, b0]
    refine ⟨-1, ?_, rfl⟩
    by_cases h3 : x.toInt < 0
    · rw [if_pos (el0.mpr h3)]
    · rw [if_neg (fun e => h3 (el0.mp e)), if_pos (eln.mpr (by omega))])
end OKS4
