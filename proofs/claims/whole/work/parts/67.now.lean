section OKS7
variable {X : Nat}
theorem rX.pa {g : zG} (h : rX X g) : g.2.1 X 3 = X + 28 := by unfold rX at h; simp only [h]
theorem rX.pl {g : zG} (h : rX X g) : g.2.1 (X + 28) 0 = X + 29 := by unfold rX at h; simp only [h]
theorem rX.pt {g : zG} (h : rX X g) : g.2.1 (X + 28) 1 = X + 30 := by unfold rX at h; simp only [h]
theorem rX.ln {g : zG} (h : rX X g) : g.2.1 (X + 31) 0 = X + 32 := by unfold rX at h; simp only [h]
theorem rX.re {g : zG} (h : rX X g) : g.2.1 X 2 = X + 23 := by unfold rX at h; simp only [h]
theorem rX.by {g : zG} (h : rX X g) : g.2.1 (X + 23) 0 = X + 24 := by unfold rX at h; simp only [h]
theorem rM.pr {M : Nat} {g : zG} (h : rM M g) : g.2.1 M 38 = M + 22 := by unfold rM at h; simp only [h]
theorem rM.ti {M : Nat} {g : zG} (h : rM M g) : g.2.1 M 39 = M + 23 := by unfold rM at h; simp only [h]
theorem rM.ho {M : Nat} {g : zG} (h : rM M g) : g.2.1 M 3 = M + 3 := by unfold rM at h; simp only [h]
theorem rM.ta {M : Nat} {g : zG} (h : rM M g) : g.2.1 M 26 = M + 20 := by unfold rM at h; simp only [h]
theorem q_placesStruck {g : zG} (hX : rX X g) {y : Nat → Nat} (hy : ∀ j, j < 2400 → g.1 (X + 30) j = nI (y j) ∧ y j < 1000000) {o : Nat} (ho : o ≤ 10) : f_X1_placesStruck (X + 28) (nI o) g = some (nI (cw (fun j => decide (o ≤ y j)) 2400), g) := by
  unfold f_X1_placesStruck
  have hz := zw_seq (step := fun s : Int32 × Int32 => l_X1_placesStruck_4 (X + 28) (nI o) g s.1 s.2) (fun i => (nI (cw (fun j => decide (o ≤ y j)) i), nI i)) (nI (cw (fun j => decide (o ≤ y j)) 2400)) 2400 (fun i hi => ?_) ?_ (N := zN) (by have := zN_big; omega)
  · rw [show ((0, 0) : Int32 × Int32) = (nI (cw (fun j => decide (o ≤ y j)) 0), nI 0) from rfl, hz, zk_some]
    rfl
  · show l_X1_placesStruck_4 (X + 28) (nI o) g (nI (cw (fun j => decide (o ≤ y j)) i)) (nI i) = _
    unfold l_X1_placesStruck_4
    have := hy i hi
    rw [if_neg (show ¬ (2400 : Int32) ≤ nI i from fun e => by have := (nle (a := 2400) (by omega) (by omega)).mp e; omega), zc_pos (zlit i 2400 hi (by omega)), nI_cl (by omega), hX.pt, this.1, zl_eq, zl_eq, zl_eq, nI_1, nI_1]
    by_cases h : o ≤ y i
    · rw [if_neg (fun e => by have := (nlt (by omega) (by omega)).mp e; omega), cw_t (decide_eq_true h)]
    · rw [if_pos ((nlt (by omega) (by omega)).mpr (by omega)), cw_f (decide_eq_false h)]
  · show l_X1_placesStruck_4 (X + 28) (nI o) g (nI (cw (fun j => decide (o ≤ y j)) 2400)) (nI 2400) = _
    unfold l_X1_placesStruck_4
    rw [if_pos (show (2400 : Int32) ≤ nI 2400 from (nle (a := 2400) (by omega) (by omega)).mpr (Nat.le_refl _))]
theorem o_now (x : Int32) : OKC X (fun g => f_X9_now X x g) (fun g => f_X10_now (X + 53) x g) := OKC.read (fun k σ r g hk hv hc hm => by
  have hX := hc.1
  have hM := hm.1
  have hpg := hv.2.2.2.2.1
  have hkk : k * 24 ≤ 511 * 24 := Nat.mul_le_mul_right _ (by omega)
  have hy : ∀ j, j < 2400 → g.1 (X + 30) j = nI ((zPg σ).2 j) ∧ (zPg σ).2 j < 1000000 := fun j hj => ⟨(hc.2.2.2.2.2.2.2.1 j hj).2, by have := (hpg j hj).1.2; omega⟩
  have e1 := q_placesStruck hX hy (o := 1) (by omega)
  have e2 := q_placesStruck hX hy (o := 2) (by omega)
  have hz := zw_seq (step := fun s : Int32 × Int32 × Int32 => l_X10_now_7 (X + 53) x g s.1 s.2.1 s.2.2) (fun i => (nI (cw (fun j => decide (1 ≤ (zPg σ).2 j)) i), nI (cw (fun j => decide (2 ≤ (zPg σ).2 j)) i), nI i)) (nI (cw (fun j => decide (1 ≤ (zPg σ).2 j)) 2400), nI (cw (fun j => decide (2 ≤ (zPg σ).2 j)) 2400)) 2400 (fun i hi => by
    show l_X10_now_7 (X + 53) x g (nI (cw (fun j => decide (1 ≤ (zPg σ).2 j)) i)) (nI (cw (fun j => decide (2 ≤ (zPg σ).2 j)) i)) (nI i) = _
    have h5 := hm.2.2.2.2.2.2.1 i hi
    have h6 := hpg i hi
    have h7 := hy i hi
    unfold l_X10_now_7 j_X10_now_31_7
    rw [if_neg (show ¬ (2400 : Int32) ≤ nI i from fun e => by have := (nle (a := 2400) (by omega) (by omega)).mp e; omega)]
    simp only [zc_pos (zlit i 2400 hi (by omega)), nI_cl (show i < 2147483648 by omega), zl_eq]
    rw [hM.pr, hM.ti, h5.1, h5.2]
    simp only [nI_1, show ∀ n, nI n + 0 = nI n from fun n => nI_add n 0]
    have e8 : (nI ((zPg σ).2 i) ≤ (1 : Int32)) ↔ (zPg σ).2 i ≤ 1 := nle (b := 1) (by omega) (by omega)
    by_cases q1 : (zPg σ).1 i = 0
    · have q2 := h6.2.mp q1
      rw [if_pos (show nI ((zPg σ).1 i) = 0 by rw [q1]; rfl), if_pos (e8.mpr (by omega)), cw_f (decide_eq_false (by omega)), cw_f (decide_eq_false (by omega))]
    · have q2 : ¬ (zPg σ).2 i = 0 := fun e => q1 (h6.2.mpr e)
      rw [if_neg (fun e => q1 ((nI_zr (by omega)).mp e))]
      rw [cw_t (f := fun j => decide (1 ≤ (zPg σ).2 j)) (decide_eq_true (by omega))]
      by_cases q3 : (zPg σ).2 i ≤ 1
      · rw [if_pos (e8.mpr q3), cw_f (decide_eq_false (by omega))]
      · rw [if_neg (fun e => q3 (e8.mp e)), cw_t (decide_eq_true (by omega))]) (by
    show l_X10_now_7 (X + 53) x g (nI (cw (fun j => decide (1 ≤ (zPg σ).2 j)) 2400)) (nI (cw (fun j => decide (2 ≤ (zPg σ).2 j)) 2400)) (nI 2400) = _
    unfold l_X10_now_7
    rw [if_pos (show (2400 : Int32) ≤ nI 2400 from (nle (a := 2400) (by omega) (by omega)).mpr (Nat.le_refl _))]) (N := zN) (by have := zN_big; omega)
  unfold f_X9_now f_X10_now
  rw [show ((0, 0, 0) : Int32 × Int32 × Int32) = (nI (cw (fun j => decide (1 ≤ (zPg σ).2 j)) 0), nI (cw (fun j => decide (2 ≤ (zPg σ).2 j)) 0), nI 0) from rfl, hz, zk_some]
  unfold j_X10_now_58
  obtain ⟨p1, p2, p3⟩ := hc.2.2.2.2.2.2.1
  obtain ⟨m1, m2, m3⟩ := hm.2.2.2.2.2.1
  rw [hX.pr, hX.pa, p1, p2, p3, m1, m2, m3, show f_X1_placesStruck (X + 28) 1 g = _ from e1, zb_some, show f_X1_placesStruck (X + 28) 2 g = _ from e2, zb_some]
  by_cases h0 : x = 0
  · rw [if_pos h0]; exact ⟨_, rfl, rfl⟩
  · rw [if_neg h0]
    by_cases h1 : x = 1
    · rw [if_pos h1]; exact ⟨_, rfl, rfl⟩
    · rw [if_neg h1]
      by_cases h2 : x = 2
      · rw [if_pos h2]; exact ⟨_, rfl, rfl⟩
      · rw [if_neg h2]
        by_cases h3 : x = 3
        · rw [if_pos h3]; exact ⟨_, rfl, rfl⟩
        · rw [if_neg h3]
          by_cases h4 : x = 4
          · rw [if_pos h4]; exact ⟨_, rfl, rfl⟩
          · rw [if_neg h4]; exact ⟨_, rfl, rfl⟩)
/-- letters in the line, in both -/
theorem q_lettersInLine {g : zG} {ln : Nat → Nat} {b : Nat} (h0 : g.2.1 b 0 = b + 1) (hl : ∀ c, c < 40 → g.1 (b + 1) c = nI (ln c) ∧ ln c ≤ 26) : f_X2_lettersInLine b g = some (nI (cw (fun c => decide (ln c ≠ 0)) 40), g) := by
  unfold f_X2_lettersInLine
  have hz := zw_seq (step := fun s : Int32 × Int32 => l_X2_lettersInLine_4 b g s.1 s.2) (fun i => (nI (cw (fun c => decide (ln c ≠ 0)) i), nI i)) (nI (cw (fun c => decide (ln c ≠ 0)) 40)) 40 (fun i hi => ?_) ?_ (N := zN) (by have := zN_big; omega)
  · rw [show ((0, 0) : Int32 × Int32) = (nI (cw (fun c => decide (ln c ≠ 0)) 0), nI 0) from rfl, hz, zk_some]
    rfl
  · show l_X2_lettersInLine_4 b g (nI (cw (fun c => decide (ln c ≠ 0)) i)) (nI i) = _
    unfold l_X2_lettersInLine_4
    have := hl i hi
    rw [if_neg (show ¬ (40 : Int32) ≤ nI i from fun e => by have := (nle (a := 40) (by omega) (by omega)).mp e; omega), zc_pos (zlit i 40 hi (by omega)), nI_cl (by omega), h0, this.1, zl_eq, zl_eq, zl_eq, nI_1, nI_1]
    by_cases h : ln i = 0
    · rw [if_pos ((nI_zr (by omega)).mpr h), cw_f (decide_eq_false (by omega))]
    · rw [if_neg (fun e => h ((nI_zr (by omega)).mp e)), cw_t (decide_eq_true h)]
  · show l_X2_lettersInLine_4 b g (nI (cw (fun c => decide (ln c ≠ 0)) 40)) (nI 40) = _
    unfold l_X2_lettersInLine_4
    rw [if_pos (show (40 : Int32) ≤ nI 40 from (nle (a := 40) (by omega) (by omega)).mpr (Nat.le_refl _))]
theorem cw_cut {f : Nat → Bool} {a : Nat} (d : Nat) (h : ∀ i, a ≤ i → f i = false) : cw f (a + d) = cw f a := by
  induction d with
  | zero => rfl
  | succ d ih => rw [← Nat.add_assoc, cw_f (h _ (by omega)), ih]
theorem m_lettersNow {g : zG} {M : Nat} {ρ : aR} {ln : Nat → Nat} (hM : rM M g) (hv : vR ρ) (hm : mR ρ M g) (hl : ∀ c, c < 40 → g.1 (M + 21) c = nI (ln c) ∧ ln c ≤ 26 ∧ (aV ρ 3 ≤ c → ln c = 0)) : f_X10_lettersNow M g = some (nI (cw (fun c => decide (ln c ≠ 0)) 40), g) := by
  have b3 := hv.2.2.2.2.1
  have hcut : cw (fun c => decide (ln c ≠ 0)) 40 = cw (fun c => decide (ln c ≠ 0)) (aV ρ 3) := by
    have h1 : cw (fun c => decide (ln c ≠ 0)) 40 = cw (fun c => decide (c < 40 ∧ ln c ≠ 0)) 40 := cw_same (fun i hi => by simp [hi])
    have h2 : cw (fun c => decide (ln c ≠ 0)) (aV ρ 3) = cw (fun c => decide (c < 40 ∧ ln c ≠ 0)) (aV ρ 3) := cw_same (fun i hi => by simp [show i < 40 by omega])
    rw [h1, h2, show 40 = aV ρ 3 + (40 - aV ρ 3) by omega, ← show 40 = aV ρ 3 + (40 - aV ρ 3) by omega]
    have := cw_cut (f := fun c => decide (c < 40 ∧ ln c ≠ 0)) (a := aV ρ 3) (40 - aV ρ 3) (fun i hi => decide_eq_false (fun z => z.2 ((hl i z.1).2.2 hi)))
    rw [show aV ρ 3 + (40 - aV ρ 3) = 40 by omega] at this
    exact this
  rw [hcut]
  unfold f_X10_lettersNow
  have hz := zw_seq (step := fun s : Int32 × Int32 => l_X10_lettersNow_4 M g s.1 s.2) (fun i => (nI (cw (fun c => decide (ln c ≠ 0)) i), nI i)) (nI (cw (fun c => decide (ln c ≠ 0)) (aV ρ 3))) (aV ρ 3) (fun i hi => ?_) ?_ (N := zN) (by have := zN_big; omega)
  · rw [show ((0, 0) : Int32 × Int32) = (nI (cw (fun c => decide (ln c ≠ 0)) 0), nI 0) from rfl, hz, zk_some]
    rfl
  · show l_X10_lettersNow_4 M g (nI (cw (fun c => decide (ln c ≠ 0)) i)) (nI i) = _
    unfold l_X10_lettersNow_4
    have := hl i (by omega)
    rw [zc_pos (c := zin 3 8) (by decide), hM.set, c3, hm.val (by omega) (by omega), if_neg (fun e => by have := (nle (by omega) (by omega)).mp e; omega), zc_pos (zlit i 40 (by omega) (by omega)), nI_cl (by omega), hM.li, this.1, zl_eq, zl_eq, zl_eq, zl_eq, nI_1, nI_1, show ∀ n, nI n + 0 = nI n from fun n => nI_add n 0]
    by_cases h : ln i = 0
    · rw [if_pos ((nI_zr (by omega)).mpr h), cw_f (decide_eq_false (by omega))]
    · rw [if_neg (fun e => h ((nI_zr (by omega)).mp e)), cw_t (decide_eq_true h)]
  · show l_X10_lettersNow_4 M g (nI (cw (fun c => decide (ln c ≠ 0)) (aV ρ 3))) (nI (aV ρ 3)) = _
    unfold l_X10_lettersNow_4
    rw [zc_pos (c := zin 3 8) (by decide), hM.set, c3, hm.val (by omega) (by omega), if_pos ((nle (by omega) (by omega)).mpr (Nat.le_refl _))]
end OKS7
