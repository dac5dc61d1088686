-- ===== what a line adds to a draft =====
def SCt (X d x : Nat) : Prop := x = X + 23 ∨ (X + 25 ≤ x ∧ x ≤ X + 27) ∨ (d + 1 ≤ x ∧ x ≤ d + 10)
def kF (X d : Nat) (g g' : zG) : Prop := frm (SCt X d) g g' ∧ g'.1 (X + 23) 1 = g.1 (X + 23) 1 ∧ g'.1 (X + 23) 4 = g.1 (X + 23) 4
def SMt (M x : Nat) : Prop := x = M ∨ (M + 9 ≤ x ∧ x ≤ M + 19)
def tFd (j : Nat) : Prop := j = 10 ∨ j = 14 ∨ j = 15 ∨ j = 20 ∨ j = 23 ∨ (28 ≤ j ∧ j ≤ 33)
def hF (M : Nat) (g g' : zG) : Prop := frm (SMt M) g g' ∧ ∀ j, ¬ tFd j → g'.1 M j = g.1 M j
theorem kF.refl (X d : Nat) (g : zG) : kF X d g g := ⟨frm.refl _ _, rfl, rfl⟩
theorem kF.trans {X d : Nat} {g g1 g2 : zG} (h1 : kF X d g g1) (h2 : kF X d g1 g2) : kF X d g g2 := ⟨h1.1.trans h2.1, h2.2.1.trans h1.2.1, h2.2.2.trans h1.2.2⟩
theorem kF.of {X d : Nat} {g g' : zG} (h : tF X g g') : kF X d g g' := ⟨h.1.mono (fun x hx => Or.inl hx), h.2 1 (by omega), h.2 4 (by omega)⟩
theorem hF.refl (M : Nat) (g : zG) : hF M g g := ⟨frm.refl _ _, fun _ _ => rfl⟩
theorem hF.trans {M : Nat} {g g1 g2 : zG} (h1 : hF M g g1) (h2 : hF M g1 g2) : hF M g g2 := ⟨h1.1.trans h2.1, fun j hj => (h2.2 j hj).trans (h1.2 j hj)⟩
theorem hF.of {M : Nat} {g g' : zG} (h : uF M g g') : hF M g g' := ⟨h.1.mono (fun x hx => Or.inl hx), fun j hj => h.2 j (fun z => hj (by unfold tFd; omega))⟩
theorem kF.si {X d a j : Nat} {x : Int32} {g : zG} (h : (X + 25 ≤ a ∧ a ≤ X + 27) ∨ (d + 1 ≤ a ∧ a ≤ d + 10)) (h2 : d = X + 1 ∨ d = X + 12) : kF X d g (zsi g a j x) := ⟨frm.si (Or.inr h), by rw [zsi_at (by omega)], by rw [zsi_at (by omega)]⟩
theorem kF.sf {X d j : Nat} {x : Int32} {g : zG} (h : j ≠ 1 ∧ j ≠ 4) : kF X d g (zsi g (X + 23) j x) := ⟨frm.si (Or.inl rfl), zsi_get (by omega), zsi_get (by omega)⟩
theorem hF.si {M a j : Nat} {x : Int32} {g : zG} (h : M + 9 ≤ a ∧ a ≤ M + 19) : hF M g (zsi g a j x) := ⟨frm.si (Or.inr h), fun i _ => by rw [zsi_at (by omega)]⟩
theorem hF.sf {M j : Nat} {x : Int32} {g : zG} (h : tFd j) : hF M g (zsi g M j x) := ⟨frm.si (Or.inl rfl), fun i hi => zsi_get (fun e => hi (by rw [e]; exact h))⟩
theorem MD.keptH {t : aT} {M : Nat} {g g' : zG} (h : MD t M g) (hf : hF M g g') : MD t M g' := ⟨h.1.kept hf.1.1, by rw [hf.2 27 (by unfold tFd; omega)]; exact h.2.1, fun i hi => by rw [(hf.1.2 (M + 20) (by unfold SMt; omega)).1]; exact h.2.2 i hi⟩
theorem RD.keptK {t : aT} {X d : Nat} {g g' : zG} (h : RD t X g) (h2 : d = X + 1 ∨ d = X + 12) (hf : kF X d g g') : RD t X g' := ⟨h.1.kept hf.1.1, by rw [hf.2.1]; exact h.2.1, fun i hi => by rw [(hf.1.2 (X + 24) (by unfold SCt; omega)).1]; exact h.2.2 i hi⟩
-- ===== later =====
def addK (δ : aD) (κ : Nat × Nat × Nat) : aD := (dR δ, dl δ, dW δ, dB δ, dq δ + 1, fun i => if i = dq δ then κ else dK δ i)
def addO (δ : aD) (a u f y : Nat) : aD := ((aN (dR δ), aC (dR δ), aV (dR δ), aH (dR δ), aM (dR δ) + 1, zup (aA (dR δ)) (aM (dR δ)) a, zup (aU (dR δ)) (aM (dR δ)) u, zup (aF (dR δ)) (aM (dR δ)) f, zup (aY (dR δ)) (aM (dR δ)) y, aL (dR δ)), dl δ, dW δ, dB δ, dq δ, dK δ)
section ADD
variable {t : aT} {X d M : Nat} {δ : aD} {g : zG}
theorem rX.lt (h : rX X g) : g.2.1 (X + 23) 10 = X + 25 ∧ g.2.1 (X + 23) 11 = X + 26 ∧ g.2.1 (X + 23) 12 = X + 27 := by unfold rX at h; exact ⟨by simp only [h], by simp only [h], by simp only [h]⟩
theorem q_later (hC : CB t X d δ g) {κ : Nat × Nat × Nat} (hq : dq δ < 34) (h6 : g.1 (X + 23) 6 = nI κ.2.2) : ∃ g', f_X4_lookLater (X + 23) (nI κ.1) (nI κ.2.1) g = some (0, g') ∧ CB t X d (addK δ κ) g' ∧ kF X d g g' ∧ ∀ j, j ≠ 13 → g'.1 (X + 23) j = g.1 (X + 23) j := by
  obtain ⟨h1, h2, c1, c2, c3, c4, c5, c6, ⟨c7, c8⟩, c9⟩ := hC
  obtain ⟨r1, r2, r3⟩ := h1.1.lt
  have fr : kF X d g (zsi (zsi (zsi (zsi g (X + 25) (dq δ) (nI κ.1)) (X + 26) (dq δ) (nI κ.2.1)) (X + 27) (dq δ) (nI κ.2.2)) (X + 23) 13 (nI (dq δ + 1))) := (((kF.si (by omega) h2).trans (kF.si (by omega) h2)).trans (kF.si (by omega) h2)).trans (kF.sf (by omega))
  refine ⟨_, ?_, ⟨h1.keptK h2 fr, h2, ?_⟩, fr, fun j hj => ?_⟩
  · unfold f_X4_lookLater
    have z := zlit (dq δ) 34 hq (by omega)
    rw [c7, if_neg (show ¬ (34 : Int32) ≤ nI (dq δ) from fun e => by have := (nle (a := 34) (by omega) (by omega)).mp e; omega), zc_pos z, nI_cl (by omega), r1, zl_eq, zsi_at (b := X + 23) (by omega), c7, zc_pos z, nI_cl (by omega), zsi_r, r2, zl_eq, zsi_at (b := X + 23) (by omega), zsi_at (b := X + 23) (by omega), c7, zc_pos z, nI_cl (by omega), zsi_r, zsi_r, r3, h6, zl_eq, zsi_at (b := X + 23) (by omega), zsi_at (b := X + 23) (by omega), zsi_at (b := X + 23) (by omega), c7, nI_1, zl_eq]
  · have e : ∀ x, ¬ (x = X + 23 ∨ (X + 25 ≤ x ∧ x ≤ X + 27)) → (zsi (zsi (zsi (zsi g (X + 25) (dq δ) (nI κ.1)) (X + 26) (dq δ) (nI κ.2.1)) (X + 27) (dq δ) (nI κ.2.2)) (X + 23) 13 (nI (dq δ + 1))).1 x = g.1 x := fun x hx => by
      rw [zsi_at (by omega), zsi_at (by omega), zsi_at (by omega), zsi_at (by omega)]
    unfold cD
    rw [e (d + 1) (by omega), e (d + 2) (by omega), e (d + 3) (by omega), e (d + 4) (by omega), e (d + 5) (by omega), e (d + 6) (by omega), e (d + 7) (by omega), e (d + 8) (by omega), e (d + 9) (by omega), e (d + 10) (by omega)]
    refine ⟨c1, c2, c3, c4, c5, c6, ⟨zsi_same, fun i hi => ?_⟩, ?_⟩
    · have hi : i < dq δ + 1 := hi
      show _ = nI (if i = dq δ then κ else dK δ i).1 ∧ _ = nI (if i = dq δ then κ else dK δ i).2.1 ∧ _ = nI (if i = dq δ then κ else dK δ i).2.2
      rw [zsi_at (b := X + 25) (by omega), zsi_at (b := X + 25) (by omega), zsi_at (b := X + 25) (by omega), zsi_at (b := X + 26) (by omega), zsi_at (b := X + 26) (by omega), zsi_at (b := X + 27) (by omega)]
      by_cases ei : i = dq δ
      · rw [if_pos ei, ei, zsi_same, zsi_same, zsi_same]; exact ⟨rfl, rfl, rfl⟩
      · rw [if_neg ei, zsi_get ei, zsi_get ei, zsi_get ei, zsi_at (b := X + 26) (by omega), zsi_at (b := X + 27) (by omega), zsi_at (b := X + 27) (by omega)]
        exact c8 i (by omega)
    · rw [zsi_get (by omega), zsi_at (b := X + 23) (by omega), zsi_at (b := X + 23) (by omega), zsi_at (b := X + 23) (by omega)]
      exact c9
  · rw [zsi_get hj, zsi_at (b := X + 23) (by omega), zsi_at (b := X + 23) (by omega), zsi_at (b := X + 23) (by omega)]
theorem rM.dr (h : rM M g) : g.2.1 M 11 = M + 9 ∧ g.2.1 M 12 = M + 10 ∧ g.2.1 M 13 = M + 11 ∧ g.2.1 M 16 = M + 12 ∧ g.2.1 M 17 = M + 13 ∧ g.2.1 M 18 = M + 14 ∧ g.2.1 M 19 = M + 15 ∧ g.2.1 M 21 = M + 16 ∧ g.2.1 M 22 = M + 17 ∧ g.2.1 M 24 = M + 18 ∧ g.2.1 M 25 = M + 19 := by unfold rM at h; exact ⟨by simp only [h], by simp only [h], by simp only [h], by simp only [h], by simp only [h], by simp only [h], by simp only [h], by simp only [h], by simp only [h], by simp only [h], by simp only [h]⟩
theorem m_later (hC : MB t M δ g) {κ : Nat × Nat × Nat} (hq : dq δ < 64) (h32 : g.1 M 32 = 0) : ∃ g', f_X10_asksLater M (lw κ) (nI κ.2.2) g = some (0, g') ∧ MB t M (addK δ κ) g' ∧ hF M g g' ∧ ∀ j, j ≠ 23 → g'.1 M j = g.1 M j := by
  obtain ⟨h1, c1, c2, c3, c4, c5, c6, ⟨c7, c8⟩, c9, c10⟩ := hC
  obtain ⟨-, -, -, -, -, -, -, -, -, r1, r2⟩ := h1.1.dr
  have fr : hF M g (zsi (zsi (zsi g (M + 18) (dq δ) (lw κ)) (M + 19) (dq δ) (nI κ.2.2)) M 23 (nI (dq δ + 1))) := ((hF.si (by omega)).trans (hF.si (by omega))).trans (hF.sf (by unfold tFd; omega))
  refine ⟨_, ?_, ⟨h1.keptH fr, ?_⟩, fr, fun j hj => ?_⟩
  · unfold f_X10_asksLater
    have z := zlit (dq δ) 64 hq (by omega)
    rw [h32, if_pos rfl, c7, zc_pos z, nI_cl (by omega), r1, zl_eq, zsi_at (b := M) (by omega), c7, zc_pos z, nI_cl (by omega), zsi_r, r2, zl_eq, zsi_at (b := M) (by omega), zsi_at (b := M) (by omega), c7, nI_1, zl_eq]
  · have e : ∀ x, ¬ (x = M ∨ x = M + 18 ∨ x = M + 19) → (zsi (zsi (zsi g (M + 18) (dq δ) (lw κ)) (M + 19) (dq δ) (nI κ.2.2)) M 23 (nI (dq δ + 1))).1 x = g.1 x := fun x hx => by
      rw [zsi_at (by omega), zsi_at (by omega), zsi_at (by omega)]
    have em : ∀ j, j ≠ 23 → (zsi (zsi (zsi g (M + 18) (dq δ) (lw κ)) (M + 19) (dq δ) (nI κ.2.2)) M 23 (nI (dq δ + 1))).1 M j = g.1 M j := fun j hj => by
      rw [zsi_get hj, zsi_at (b := M) (by omega), zsi_at (b := M) (by omega)]
    unfold mD
    rw [e (M + 9) (by omega), e (M + 10) (by omega), e (M + 11) (by omega), e (M + 12) (by omega), e (M + 13) (by omega), e (M + 14) (by omega), e (M + 15) (by omega), e (M + 16) (by omega), e (M + 17) (by omega), em 10 (by omega), em 15 (by omega), em 20 (by omega), em 14 (by omega)]
    refine ⟨c1, c2, c3, c4, c5, c6, ⟨zsi_same, fun i hi => ?_⟩, c9, c10⟩
    have hi : i < dq δ + 1 := hi
    show _ = lw (if i = dq δ then κ else dK δ i) ∧ _ = nI (if i = dq δ then κ else dK δ i).2.2
    rw [zsi_at (b := M + 18) (by omega), zsi_at (b := M + 18) (by omega), zsi_at (b := M + 19) (by omega)]
    by_cases ei : i = dq δ
    · rw [if_pos ei, ei, zsi_same, zsi_same]; exact ⟨rfl, rfl⟩
    · rw [if_neg ei, zsi_get ei, zsi_get ei, zsi_at (b := M + 19) (by omega)]
      exact c8 i (by omega)
  · rw [zsi_get hj, zsi_at (b := M) (by omega), zsi_at (b := M) (by omega)]
theorem m_laterF {c x : Nat} {a b : Int32} (h : FS c x M g) (hc : 1 ≤ c ∧ c ≤ 7) : f_X10_asksLater M a b g = some (0, g) := by
  unfold f_X10_asksLater
  rw [h.1, if_neg (nz (by omega) (by omega))]
-- ===== orders =====
theorem CB.rr (h : CB t X d δ g) : rR d g := by
  rcases h.2.1 with e | e
  · rw [e]; exact h.1.1.1
  · rw [e]; exact h.1.1.2.1
theorem q_addOrder (hC : CB t X d δ g) (hm : aM (dR δ) < 24) {a u y : Nat} (hy : y ≤ dl δ) : ∃ g', f_X3_addOrder (d + 3) (nI (a + 9)) (nI u) (nI y) g = some (0, g') ∧ CB t X d (addO δ a u (dl δ - y) y) g' ∧ kF X d g g' ∧ g'.1 (X + 23) = g.1 (X + 23) := by
  have hr := hC.rr
  obtain ⟨h1, h2, c1, ⟨c2, c2'⟩, c3, c4, c5, c6, ⟨c7, c8⟩, c9⟩ := hC
  obtain ⟨-, -, -, -, -, r4, r5, r6, r7, r8⟩ := hr
  obtain ⟨G, hG⟩ : ∃ G, G = zsi (zsi (zsi (zsi (zsi g (d + 4) (aM (dR δ)) (nI (a + 9))) (d + 5) (aM (dR δ)) (nI u)) (d + 6) (aM (dR δ)) (nI (dl δ - y))) (d + 7) (aM (dR δ)) (nI y)) (d + 3) 5 (nI (aM (dR δ) + 1)) := ⟨_, rfl⟩
  have fr : kF X d g G := by
    rw [hG]
    exact ((((kF.si (by omega) h2).trans (kF.si (by omega) h2)).trans (kF.si (by omega) h2)).trans (kF.si (by omega) h2)).trans (kF.si (by omega) h2)
  refine ⟨G, ?_, ⟨h1.keptK h2 fr, h2, ?_⟩, fr, ?_⟩
  · unfold f_X3_addOrder
    have z := zlit (aM (dR δ)) 24 hm (by omega)
    rw [c2, if_neg (show ¬ (24 : Int32) ≤ nI (aM (dR δ)) from fun e => by have := (nle (a := 24) (by omega) (by omega)).mp e; omega), zc_pos z, nI_cl (by omega), r4, zl_eq, zsi_at (b := d + 3) (by omega), c2, zc_pos z, nI_cl (by omega), zsi_r, r5, zl_eq, zsi_at (b := d + 3) (by omega), zsi_at (b := d + 3) (by omega), c2, c2', zc_pos z, nI_cl (by omega), zsi_r, zsi_r, r6, pk_sub hy, zl_eq, zsi_at (b := d + 3) (by omega), zsi_at (b := d + 3) (by omega), zsi_at (b := d + 3) (by omega), c2, zc_pos z, nI_cl (by omega), zsi_r, zsi_r, zsi_r, r7, zl_eq, zsi_at (b := d + 3) (by omega), zsi_at (b := d + 3) (by omega), zsi_at (b := d + 3) (by omega), zsi_at (b := d + 3) (by omega), c2, nI_1, zl_eq, hG]
  · have e : ∀ x, ¬ (d + 3 ≤ x ∧ x ≤ d + 7) → G.1 x = g.1 x := fun x hx => by
      rw [hG, zsi_at (by omega), zsi_at (by omega), zsi_at (by omega), zsi_at (by omega), zsi_at (by omega)]
    unfold cD
    rw [e (d + 1) (by omega), e (d + 2) (by omega), e (d + 8) (by omega), e (d + 9) (by omega), e (d + 10) (by omega), e (X + 23) (by omega), e (X + 25) (by omega), e (X + 26) (by omega), e (X + 27) (by omega)]
    refine ⟨c1, ⟨?_, ?_⟩, fun k hk => ?_, c4, c5, c6, ⟨c7, c8⟩, c9⟩
    · rw [hG, zsi_same]; rfl
    · rw [hG, zsi_get (by omega), zsi_at (b := d + 3) (by omega), zsi_at (b := d + 3) (by omega), zsi_at (b := d + 3) (by omega), zsi_at (b := d + 3) (by omega)]
      exact c2'
    · have hk : k < aM (dR δ) + 1 := hk
      show G.1 (d + 4) k = nI (zup (aA (dR δ)) (aM (dR δ)) a k + 9) ∧ G.1 (d + 5) k = nI (zup (aU (dR δ)) (aM (dR δ)) u k) ∧ G.1 (d + 6) k = nI (zup (aF (dR δ)) (aM (dR δ)) (dl δ - y) k) ∧ G.1 (d + 7) k = nI (zup (aY (dR δ)) (aM (dR δ)) y k)
      rw [hG, zsi_at (b := d + 4) (by omega), zsi_at (b := d + 4) (by omega), zsi_at (b := d + 4) (by omega), zsi_at (b := d + 4) (by omega), zsi_at (b := d + 5) (by omega), zsi_at (b := d + 5) (by omega), zsi_at (b := d + 5) (by omega), zsi_at (b := d + 6) (by omega), zsi_at (b := d + 6) (by omega), zsi_at (b := d + 7) (by omega)]
      by_cases ek : k = aM (dR δ)
      · rw [ek, zsi_same, zsi_same, zsi_same, zsi_same, zup_same, zup_same, zup_same, zup_same]; exact ⟨rfl, rfl, rfl, rfl⟩
      · rw [zsi_get ek, zsi_get ek, zsi_get ek, zsi_get ek, zup_ne ek, zup_ne ek, zup_ne ek, zup_ne ek, zsi_at (b := d + 5) (by omega), zsi_at (b := d + 6) (by omega), zsi_at (b := d + 6) (by omega), zsi_at (b := d + 7) (by omega), zsi_at (b := d + 7) (by omega), zsi_at (b := d + 7) (by omega)]
        exact c3 k (by omega)
  · rw [hG, zsi_at (by omega), zsi_at (by omega), zsi_at (by omega), zsi_at (by omega), zsi_at (by omega)]
theorem m_addOrder (hC : MB t M δ g) (hm : aM (dR δ) < 24) {a u f y : Nat} (h32 : g.1 M 32 = 0) : ∃ g', j_X10_readOrder_147 M (nI (a + 9)) (nI u) (nI y) (nI f) g = some (0, g') ∧ MB t M (addO δ a u f y) g' ∧ hF M g g' ∧ ∀ j, j ≠ 15 → g'.1 M j = g.1 M j := by
  obtain ⟨h1, c1, ⟨c2, c2'⟩, c3, c4, c5, c6, c7, c9, c10⟩ := hC
  obtain ⟨-, -, -, r4, r5, r6, r7, -⟩ := h1.1.dr
  obtain ⟨G, hG⟩ : ∃ G, G = zsi (zsi (zsi (zsi (zsi g (M + 12) (aM (dR δ)) (nI a)) (M + 13) (aM (dR δ)) (nI u)) (M + 14) (aM (dR δ)) (nI f)) (M + 15) (aM (dR δ)) (nI y)) M 15 (nI (aM (dR δ) + 1)) := ⟨_, rfl⟩
  have fr : hF M g G := by
    rw [hG]
    exact ((((hF.si (by omega)).trans (hF.si (by omega))).trans (hF.si (by omega))).trans (hF.si (by omega))).trans (hF.sf (by unfold tFd; omega))
  have em : ∀ j, j ≠ 15 → G.1 M j = g.1 M j := fun j hj => by
    rw [hG, zsi_get hj, zsi_at (b := M) (by omega), zsi_at (b := M) (by omega), zsi_at (b := M) (by omega), zsi_at (b := M) (by omega)]
  refine ⟨G, ?_, ⟨h1.keptH fr, ?_⟩, fr, em⟩
  · unfold j_X10_readOrder_147
    have z := zlit (aM (dR δ)) 24 hm (by omega)
    have e9 : nI (a + 9) - 9 = nI a := by rw [show (9 : Int32) = nI 9 from rfl, pk_sub (by omega), show a + 9 - 9 = a by omega]
    rw [h32, if_pos rfl, c2, zc_pos z, nI_cl (by omega), r4, e9, zl_eq, zsi_at (b := M) (by omega), c2, zc_pos z, nI_cl (by omega), zsi_r, r5, zl_eq, zsi_at (b := M) (by omega), zsi_at (b := M) (by omega), c2, zc_pos z, nI_cl (by omega), zsi_r, zsi_r, r6, zl_eq, zsi_at (b := M) (by omega), zsi_at (b := M) (by omega), zsi_at (b := M) (by omega), c2, zc_pos z, nI_cl (by omega), zsi_r, zsi_r, zsi_r, r7, zl_eq, zsi_at (b := M) (by omega), zsi_at (b := M) (by omega), zsi_at (b := M) (by omega), zsi_at (b := M) (by omega), c2, nI_1, zl_eq, hG]
  · have e : ∀ x, ¬ (x = M ∨ (M + 12 ≤ x ∧ x ≤ M + 15)) → G.1 x = g.1 x := fun x hx => by
      rw [hG, zsi_at (by omega), zsi_at (by omega), zsi_at (by omega), zsi_at (by omega), zsi_at (by omega)]
    unfold mD
    rw [e (M + 9) (by omega), e (M + 10) (by omega), e (M + 11) (by omega), e (M + 16) (by omega), e (M + 17) (by omega), e (M + 18) (by omega), e (M + 19) (by omega), em 10 (by omega), em 20 (by omega), em 23 (by omega), em 14 (by omega)]
    refine ⟨c1, ⟨?_, c2'⟩, fun k hk => ?_, c4, c5, c6, c7, c9, c10⟩
    · rw [hG, zsi_same]; rfl
    · have hk : k < aM (dR δ) + 1 := hk
      show G.1 (M + 12) k = nI (zup (aA (dR δ)) (aM (dR δ)) a k) ∧ G.1 (M + 13) k = nI (zup (aU (dR δ)) (aM (dR δ)) u k) ∧ G.1 (M + 14) k = nI (zup (aF (dR δ)) (aM (dR δ)) f k) ∧ G.1 (M + 15) k = nI (zup (aY (dR δ)) (aM (dR δ)) y k)
      rw [hG, zsi_at (b := M + 12) (by omega), zsi_at (b := M + 12) (by omega), zsi_at (b := M + 12) (by omega), zsi_at (b := M + 12) (by omega), zsi_at (b := M + 13) (by omega), zsi_at (b := M + 13) (by omega), zsi_at (b := M + 13) (by omega), zsi_at (b := M + 14) (by omega), zsi_at (b := M + 14) (by omega), zsi_at (b := M + 15) (by omega)]
      by_cases ek : k = aM (dR δ)
      · rw [ek, zsi_same, zsi_same, zsi_same, zsi_same, zup_same, zup_same, zup_same, zup_same]; exact ⟨rfl, rfl, rfl, rfl⟩
      · rw [zsi_get ek, zsi_get ek, zsi_get ek, zsi_get ek, zup_ne ek, zup_ne ek, zup_ne ek, zup_ne ek, zsi_at (b := M + 13) (by omega), zsi_at (b := M + 14) (by omega), zsi_at (b := M + 14) (by omega), zsi_at (b := M + 15) (by omega), zsi_at (b := M + 15) (by omega), zsi_at (b := M + 15) (by omega)]
        exact c3 k (by omega)
theorem m_addOrderF {c x : Nat} {a b e f : Int32} (h : FS c x M g) (hc : 1 ≤ c ∧ c ≤ 7) : j_X10_readOrder_147 M a b e f g = some (0, g) := by
  unfold j_X10_readOrder_147
  rw [h.1, if_neg (nz (by omega) (by omega))]
-- ===== letters =====
def addL (δ : aD) (F : Nat → Nat) (n : Nat) : aD := ((aN (dR δ), aC (dR δ), aV (dR δ), aH (dR δ), aM (dR δ), aA (dR δ), aU (dR δ), aF (dR δ), aY (dR δ), fun i => if i < dl δ then aL (dR δ) i else F (i - dl δ)), dl δ + n, dW δ, dB δ, dq δ, dK δ)
/-- letters of a token -/
def tl (t : aT) (f i : Nat) : Nat := byt t (f + i) - 96
theorem q_letterAt (hv : vTp t) (hR : RD t X g) {f i e : Nat} (h6 : g.1 (X + 23) 6 = nI f) (hi : f + i < e) (he : e ≤ t.1) (hk : ∀ i, f ≤ i → i < e → kb (byt t i) = 1) : f_X4_letterAt (X + 23) (g.1 (X + 23) 6 + nI i) g = some (nI (tl t f i), g) := by
  have hl := hv.1
  have hb := hv.2 (f + i) (by omega)
  have hkk := hk (f + i) (by omega) hi
  rw [byt_in (by omega)] at hkk
  unfold f_X4_letterAt tl
  rw [h6, nI_add, zc_pos (zlit (f + i) 240 (by omega) (by omega)), nI_cl (by omega), hR.1.by, hR.2.2 (f + i) (by omega), sb_letter _ hb hkk, byt_in (by omega)]
theorem lk_letter {f i e : Nat} (hi : f + i < e) (he : e ≤ t.1) (hk : ∀ i, f ≤ i → i < e → kb (byt t i) = 1) : lk t (f + i) - 97 + 1 = nI (tl t f i) := by
  have hkk := kb_letter (hk (f + i) (by omega) hi)
  unfold tl
  rw [lk_in (by omega)]
  rw [byt_in (by omega)] at *
  rw [show (97 : Int32) = nI 97 from rfl, pk_sub (by omega), nI_1, show t.2 (f + i) - 97 + 1 = t.2 (f + i) - 96 by omega]
theorem q_letters (hv : vTp t) {f e : Nat} (hf : f ≤ e ∧ e ≤ t.1) (hk : ∀ i, f ≤ i → i < e → kb (byt t i) = 1) (hC : CB t X d δ g) (h6 : g.1 (X + 23) 6 = nI f) (hL : dl δ + (e - f) ≤ 240) : ∃ g', zw zN (fun s : Int32 × zG => l_X4_readPut_31 (X + 23) (d + 3) (nI (e - f)) s.1 s.2) (0, g) = some g' ∧ CB t X d (addL δ (tl t f) (e - f)) g' ∧ kF X d g g' ∧ g'.1 (X + 23) = g.1 (X + 23) := by
  have hl := hv.1
  have hr := hC.rr
  obtain ⟨h1, h2, c1, ⟨c2, c2'⟩, c3, c4, c5, c6, c7, c9⟩ := hC
  obtain ⟨-, -, -, -, -, -, -, -, -, r8⟩ := hr
  let sf : Int32 × zG → Option ((Int32 × zG) ⊕ zG) := fun s => l_X4_readPut_31 (X + 23) (d + 3) (nI (e - f)) s.1 s.2
  let R : Nat → zG → Prop := fun n g' => frm (fun x => x = d + 3 ∨ x = d + 8) g g' ∧ (∀ j, j ≠ 6 → g'.1 (d + 3) j = g.1 (d + 3) j) ∧ g'.1 (d + 3) 6 = nI (dl δ + n) ∧ ∀ i, i < dl δ + n → g'.1 (d + 8) i = nI (if i < dl δ then aL (dR δ) i else tl t f (i - dl δ))
  let Inv : Nat → Int32 × zG → Prop := fun n x => ∃ g', x = (nI n, g') ∧ R n g'
  have hS : ∀ n x, n < e - f → Inv n x → (∃ x', sf x = some (.inl x') ∧ Inv (n + 1) x') ∨ ∃ y, sf x = some (.inr y) ∧ R (e - f) y := by
    intro n x hn hI
    obtain ⟨g1, rfl, q1, q2, q3, q4⟩ := hI
    left
    have e23 : g1.1 (X + 23) = g.1 (X + 23) := (q1.2 (X + 23) (by omega)).1
    have hR1 : RD t X g1 := ⟨h1.1.kept q1.1, by rw [e23]; exact h1.2.1, fun i hi => by rw [(q1.2 (X + 24) (by omega)).1]; exact h1.2.2 i hi⟩
    have hla := q_letterAt hv hR1 (f := f) (i := n) (e := e) (by rw [e23]; exact h6) (by omega) hf.2 hk
    refine ⟨(nI (n + 1), zsi (zsi g1 (d + 8) (dl δ + n) (nI (tl t f n))) (d + 3) 6 (nI (dl δ + n + 1))), ?_, _, rfl, (q1.trans (frm.si (Or.inr rfl))).trans (frm.si (Or.inl rfl)), fun j hj => ?_, zsi_same, fun i hi => ?_⟩
    · show l_X4_readPut_31 (X + 23) (d + 3) (nI (e - f)) (nI n) g1 = _
      unfold l_X4_readPut_31 f_X3_addLetter
      rw [if_neg (fun z => by have := (nle (by omega) (by omega)).mp z; omega), hla, zb_some, q3, if_neg (show ¬ (240 : Int32) ≤ nI (dl δ + n) from fun z => by have := (nle (a := 240) (by omega) (by omega)).mp z; omega), zc_pos (zlit (dl δ + n) 240 (by omega) (by omega)), nI_cl (by omega), q1.1, r8, zl_eq, zl_eq, zsi_at (b := d + 3) (by omega), q3, nI_1, zb_some, zl_eq, nI_1]
    · rw [zsi_get hj, zsi_at (b := d + 3) (by omega)]; exact q2 j hj
    · rw [zsi_at (b := d + 8) (by omega)]
      by_cases ei : i = dl δ + n
      · rw [ei, zsi_same, if_neg (by omega), show dl δ + n - dl δ = n by omega]
      · rw [zsi_get ei]; exact q4 i (by omega)
  have hE : ∀ x, Inv (e - f) x → ∃ y, sf x = some (.inr y) ∧ R (e - f) y := by
    intro x hI
    obtain ⟨g1, rfl, hR⟩ := hI
    refine ⟨g1, ?_, hR⟩
    show l_X4_readPut_31 (X + 23) (d + 3) (nI (e - f)) (nI (e - f)) g1 = _
    unfold l_X4_readPut_31
    rw [if_pos (Int32.le_refl _)]
  obtain ⟨g', e1, q1, q2, q3, q4⟩ := zw_run Inv (R (e - f)) (e - f) hS hE (e - f) 0 zN (nI 0, g) (by omega) (by have := zN_big; omega) ⟨g, rfl, frm.refl _ _, fun _ _ => rfl, c2', fun i hi => by rw [if_pos (by omega)]; exact c4 i (by omega)⟩
  have ex : ∀ x, ¬ (x = d + 3 ∨ x = d + 8) → g'.1 x = g.1 x := fun x hx => (q1.2 x hx).1
  have fr : kF X d g g' := ⟨q1.mono (fun x hx => Or.inr (Or.inr (by omega))), by rw [ex (X + 23) (by omega)], by rw [ex (X + 23) (by omega)]⟩
  refine ⟨g', e1, ⟨h1.keptK h2 fr, h2, ?_⟩, fr, ex (X + 23) (by omega)⟩
  unfold cD
  rw [ex (d + 1) (by omega), ex (d + 2) (by omega), ex (d + 4) (by omega), ex (d + 5) (by omega), ex (d + 6) (by omega), ex (d + 7) (by omega), ex (d + 9) (by omega), ex (d + 10) (by omega), ex (X + 23) (by omega), ex (X + 25) (by omega), ex (X + 26) (by omega), ex (X + 27) (by omega)]
  exact ⟨c1, ⟨by rw [q2 5 (by omega)]; exact c2, q3⟩, c3, q4, c5, c6, c7, c9⟩
theorem m_letters (hv : vTp t) {f e : Nat} {l1 l4 : Int32} (hf : f ≤ e ∧ e ≤ t.1) (hk : ∀ i, f ≤ i → i < e → kb (byt t i) = 1) (hC : MB t M δ g) (h29 : g.1 M 29 = nI f) (hL : dl δ + (e - f) ≤ 240) : ∃ g', zw zN (fun s : Int32 × zG => l_X10_readOrder_44 M l1 (nI (e - f)) l4 s.1 s.2) (0, g) = some g' ∧ MB t M (addL δ (tl t f) (e - f)) g' ∧ hF M g g' ∧ ∀ j, j ≠ 20 → g'.1 M j = g.1 M j := by
  have hl := hv.1
  obtain ⟨h1, c1, ⟨c2, c2'⟩, c3, c4, c5, c6, c7, c9, c10⟩ := hC
  obtain ⟨-, -, -, -, -, -, -, r8, -⟩ := h1.1.dr
  let sf : Int32 × zG → Option ((Int32 × zG) ⊕ zG) := fun s => l_X10_readOrder_44 M l1 (nI (e - f)) l4 s.1 s.2
  let R : Nat → zG → Prop := fun n g' => frm (fun x => x = M ∨ x = M + 16) g g' ∧ (∀ j, j ≠ 20 → g'.1 M j = g.1 M j) ∧ g'.1 M 20 = nI (dl δ + n) ∧ ∀ i, i < dl δ + n → g'.1 (M + 16) i = nI (if i < dl δ then aL (dR δ) i else tl t f (i - dl δ))
  let Inv : Nat → Int32 × zG → Prop := fun n x => ∃ g', x = (nI n, g') ∧ R n g'
  have hS : ∀ n x, n < e - f → Inv n x → (∃ x', sf x = some (.inl x') ∧ Inv (n + 1) x') ∨ ∃ y, sf x = some (.inr y) ∧ R (e - f) y := by
    intro n x hn hI
    obtain ⟨g1, rfl, q1, q2, q3, q4⟩ := hI
    left
    have hD1 : MD t M g1 := ⟨h1.1.kept q1.1, by rw [q2 27 (by omega)]; exact h1.2.1, fun i hi => by rw [(q1.2 (M + 20) (by omega)).1]; exact h1.2.2 i hi⟩
    refine ⟨(nI (n + 1), zsi (zsi g1 (M + 16) (dl δ + n) (nI (tl t f n))) M 20 (nI (dl δ + n + 1))), ?_, _, rfl, (q1.trans (frm.si (Or.inr rfl))).trans (frm.si (Or.inl rfl)), fun j hj => ?_, zsi_same, fun i hi => ?_⟩
    · show l_X10_readOrder_44 M l1 (nI (e - f)) l4 (nI n) g1 = _
      unfold l_X10_readOrder_44
      rw [if_neg (fun z => by have := (nle (by omega) (by omega)).mp z; omega), q2 29 (by omega), h29, nI_add, m_look hv hD1 (by omega), zb_some, q3, zc_pos (zlit (dl δ + n) 240 (by omega) (by omega)), nI_cl (by omega), q1.1, r8, lk_letter (e := e) (by omega) hf.2 hk, zl_eq, zl_eq, zsi_at (b := M) (by omega), q3, nI_1, zl_eq, nI_1]
    · rw [zsi_get hj, zsi_at (b := M) (by omega)]; exact q2 j hj
    · rw [zsi_at (b := M + 16) (by omega)]
      by_cases ei : i = dl δ + n
      · rw [ei, zsi_same, if_neg (by omega), show dl δ + n - dl δ = n by omega]
      · rw [zsi_get ei]; exact q4 i (by omega)
  have hE : ∀ x, Inv (e - f) x → ∃ y, sf x = some (.inr y) ∧ R (e - f) y := by
    intro x hI
    obtain ⟨g1, rfl, hR⟩ := hI
    refine ⟨g1, ?_, hR⟩
    show l_X10_readOrder_44 M l1 (nI (e - f)) l4 (nI (e - f)) g1 = _
    unfold l_X10_readOrder_44
    rw [if_pos (Int32.le_refl _)]
  obtain ⟨g', e1, q1, q2, q3, q4⟩ := zw_run Inv (R (e - f)) (e - f) hS hE (e - f) 0 zN (nI 0, g) (by omega) (by have := zN_big; omega) ⟨g, rfl, frm.refl _ _, fun _ _ => rfl, c2', fun i hi => by rw [if_pos (by omega)]; exact c4 i (by omega)⟩
  have ex : ∀ x, ¬ (x = M ∨ x = M + 16) → g'.1 x = g.1 x := fun x hx => (q1.2 x hx).1
  have fr : hF M g g' := ⟨q1.mono (fun x hx => by unfold SMt; omega), fun j hj => q2 j (fun z => hj (by unfold tFd; omega))⟩
  refine ⟨g', e1, ⟨h1.keptH fr, ?_⟩, fr, q2⟩
  unfold mD
  rw [ex (M + 9) (by omega), ex (M + 10) (by omega), ex (M + 11) (by omega), ex (M + 12) (by omega), ex (M + 13) (by omega), ex (M + 14) (by omega), ex (M + 15) (by omega), ex (M + 17) (by omega), ex (M + 18) (by omega), ex (M + 19) (by omega), q2 10 (by omega), q2 15 (by omega), q2 23 (by omega), q2 14 (by omega)]
  exact ⟨c1, ⟨c2, q3⟩, c3, q4, c5, c6, c7, c9, c10⟩
end ADD
