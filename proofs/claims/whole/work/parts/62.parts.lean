-- ===== changing one part of the state =====
def zLn' (σ : aZ) (l : Nat → Nat) : aZ := (σ.1, σ.2.1, σ.2.2.1, l, σ.2.2.2.2)
def zTp' (σ : aZ) (t : aT) : aZ := (σ.1, t, σ.2.2)
def zSh' (σ : aZ) (w : aW) : aZ := (σ.1, σ.2.1, σ.2.2.1, σ.2.2.2.1, σ.2.2.2.2.1, σ.2.2.2.2.2.1, σ.2.2.2.2.2.2.1, σ.2.2.2.2.2.2.2.1, w)
def zSk' (σ : aZ) (s : aS) : aZ := (σ.1, σ.2.1, σ.2.2.1, σ.2.2.2.1, σ.2.2.2.2.1, σ.2.2.2.2.2.1, s, σ.2.2.2.2.2.2.2)
theorem CI.rw {σ : aZ} {X r : Nat} {g : zG} (h : CI σ X r g) : r = X + 1 ∨ r = X + 12 := h.2.1.2.1.imp (fun z => z.1) (fun z => z.1)
theorem cSk.kept {ρ : aR} {s : aS} {o t u : Nat → Int32} {w : Int64} {g g' : zG} (h : cSk ρ s o t u w g) : cSk ρ s o t u w g' := ⟨h.1, fun hz => by
  obtain ⟨q1, q2, q3, q4⟩ := h.2 hz
  exact ⟨q1, q2, bits_kept q3, q4⟩⟩
theorem CI.ln {σ : aZ} {X r : Nat} {g g' : zG} {l : Nat → Nat} (h : CI σ X r g) (hf : frm (fun b => b = X + 32) g g') (hl : cLn l (g'.1 (X + 32))) : CI (zLn' σ l) X r g' := by
  have e : ∀ b, b ≠ X + 32 → g'.1 b = g.1 b := fun b hb => (hf.2 b hb).1
  have e2 : g'.2.2 (X + 33) = g.2.2 (X + 33) := (hf.2 (X + 33) (show ¬ (X + 33 = X + 32) by omega)).2
  have hr := h.rw
  obtain ⟨h1, h2, h3, h4, h5, h6, h7, h8, h9, h10, h11⟩ := h
  unfold CI
  rw [e (X + 23) (by omega), e (X + 24) (by omega), e (X + 31) (by omega), e (X + 29) (by omega), e (X + 30) (by omega), e (X + 33) (by omega), e (X + 34) (by omega), e (X + 35) (by omega), e X (by omega), e (X + 50) (by omega), e (X + 51) (by omega), e (X + 52) (by omega), e2]
  exact ⟨h1.kept hf.1, h2.kept hf.1, h3.kept (fun b b1 b2 => e b (by omega)), h4, h5, hl, h7, h8, h9.kept, h10, h11⟩
theorem CI.tp {σ : aZ} {X r : Nat} {g g' : zG} {t : aT} (h : CI σ X r g) (hf : frm (fun b => b = X + 23 ∨ b = X + 24) g g') (h2e : g'.1 (X + 23) 2 = g.1 (X + 23) 2) (hl : cTp t (g'.1 (X + 23)) (g'.1 (X + 24))) : CI (zTp' σ t) X r g' := by
  have e : ∀ b, ¬ (b = X + 23 ∨ b = X + 24) → g'.1 b = g.1 b := fun b hb => (hf.2 b hb).1
  have e2 : g'.2.2 (X + 33) = g.2.2 (X + 33) := (hf.2 (X + 33) (show ¬ (X + 33 = X + 23 ∨ X + 33 = X + 24) by omega)).2
  have hr := h.rw
  obtain ⟨h1, h2, h3, h4, h5, h6, h7, h8, h9, h10, h11⟩ := h
  unfold CI
  rw [e (X + 32) (by omega), e (X + 31) (by omega), e (X + 29) (by omega), e (X + 30) (by omega), e (X + 33) (by omega), e (X + 34) (by omega), e (X + 35) (by omega), e X (by omega), e (X + 50) (by omega), e (X + 51) (by omega), e (X + 52) (by omega), e2, h2e]
  exact ⟨h1.kept hf.1, h2.kept hf.1, h3.kept (fun b b1 b2 => e b (by omega)), hl, h5, h6, h7, h8, h9.kept, h10, h11⟩
theorem CI.sh {σ : aZ} {X r : Nat} {g g' : zG} {w : aW} (h : CI σ X r g) (hf : frm (fun b => X + 50 ≤ b ∧ b ≤ X + 52) g g') (hl : cSh w (g'.1 (X + 50)) (g'.1 (X + 51)) (g'.1 (X + 52))) : CI (zSh' σ w) X r g' := by
  have e : ∀ b, ¬ (X + 50 ≤ b ∧ b ≤ X + 52) → g'.1 b = g.1 b := fun b hb => (hf.2 b hb).1
  have e2 : g'.2.2 (X + 33) = g.2.2 (X + 33) := (hf.2 (X + 33) (show ¬ (X + 50 ≤ X + 33 ∧ X + 33 ≤ X + 52) by omega)).2
  have hr := h.rw
  obtain ⟨h1, h2, h3, h4, h5, h6, h7, h8, h9, h10, h11⟩ := h
  unfold CI
  rw [e (X + 23) (by omega), e (X + 24) (by omega), e (X + 32) (by omega), e (X + 31) (by omega), e (X + 29) (by omega), e (X + 30) (by omega), e (X + 33) (by omega), e (X + 34) (by omega), e (X + 35) (by omega), e X (by omega), e2]
  exact ⟨h1.kept hf.1, h2.kept hf.1, h3.kept (fun b b1 b2 => e b (by omega)), h4, h5, h6, h7, h8, h9.kept, h10, hl⟩
theorem CI.told {σ : aZ} {X r : Nat} {g g' : zG} {s : aS} (h : CI σ X r g) (hf : frm (fun b => b = X + 35) g g') (hl : cSk (zR σ) s (g.1 (X + 33)) (g.1 (X + 34)) (g'.1 (X + 35)) (g.2.2 (X + 33) 5) g) : CI (zSk' σ s) X r g' := by
  have e : ∀ b, b ≠ X + 35 → g'.1 b = g.1 b := fun b hb => (hf.2 b hb).1
  have e2 : g'.2.2 (X + 33) = g.2.2 (X + 33) := (hf.2 (X + 33) (show ¬ (X + 33 = X + 35) by omega)).2
  have hr := h.rw
  obtain ⟨h1, h2, h3, h4, h5, h6, h7, h8, h9, h10, h11⟩ := h
  unfold CI
  rw [e (X + 23) (by omega), e (X + 24) (by omega), e (X + 32) (by omega), e (X + 31) (by omega), e (X + 29) (by omega), e (X + 30) (by omega), e (X + 33) (by omega), e (X + 34) (by omega), e X (by omega), e (X + 50) (by omega), e (X + 51) (by omega), e (X + 52) (by omega), e2]
  exact ⟨h1.kept hf.1, h2.kept hf.1, h3.kept (fun b b1 b2 => e b (by omega)), h4, h5, h6, h7, h8, hl.kept, h10, h11⟩
/-- the reference: arrays other than those of S stay, and all its own numbers -/
theorem MI.ln {σ : aZ} {M : Nat} {g g' : zG} {l : Nat → Nat} (h : MI σ M g) (hf : frm (fun b => b = M + 21) g g') (hl : cLn l (g'.1 (M + 21))) : MI (zLn' σ l) M g' := by
  have e : ∀ b, b ≠ M + 21 → g'.1 b = g.1 b := fun b hb => (hf.2 b hb).1
  obtain ⟨h1, h2, h3, h4, h5, h6, h7, h8, h9, h10⟩ := h
  unfold MI
  rw [e M (by omega), e (M + 20) (by omega), e (M + 22) (by omega), e (M + 23) (by omega), e (M + 27) (by omega), e (M + 28) (by omega), e (M + 29) (by omega), e (M + 33) (by omega), e (M + 34) (by omega), e (M + 35) (by omega)]
  exact ⟨h1.kept hf.1, h2.kept (by rw [e M (by omega)]) (by rw [e M (by omega)]) (fun b b1 _ => e b (by omega)), h3, h4, hl, h6, h7, h8, h9, h10⟩
theorem MI.sh {σ : aZ} {M : Nat} {g g' : zG} {w : aW} (h : MI σ M g) (hf : frm (fun b => M + 33 ≤ b ∧ b ≤ M + 35) g g') (hl : mSh w (g'.1 (M + 33)) (g'.1 (M + 34)) (g'.1 (M + 35))) : MI (zSh' σ w) M g' := by
  have e : ∀ b, ¬ (M + 33 ≤ b ∧ b ≤ M + 35) → g'.1 b = g.1 b := fun b hb => (hf.2 b hb).1
  obtain ⟨h1, h2, h3, h4, h5, h6, h7, h8, h9, h10⟩ := h
  unfold MI
  rw [e M (by omega), e (M + 20) (by omega), e (M + 21) (by omega), e (M + 22) (by omega), e (M + 23) (by omega), e (M + 27) (by omega), e (M + 28) (by omega), e (M + 29) (by omega)]
  exact ⟨h1.kept hf.1, h2.kept (by rw [e M (by omega)]) (by rw [e M (by omega)]) (fun b b1 _ => e b (by omega)), h3, h4, h5, h6, h7, h8, h9, hl⟩
theorem MI.told {σ : aZ} {M : Nat} {g g' : zG} {s : aS} (h : MI σ M g) (hf : frm (fun b => b = M + 29) g g') (hl : mSk (zR σ) s (g.1 M 44) (g.1 M 45) (g.1 M 46) (g.1 M 47) (g.1 (M + 27)) (g.1 (M + 28)) (g'.1 (M + 29))) : MI (zSk' σ s) M g' := by
  have e : ∀ b, b ≠ M + 29 → g'.1 b = g.1 b := fun b hb => (hf.2 b hb).1
  obtain ⟨h1, h2, h3, h4, h5, h6, h7, h8, h9, h10⟩ := h
  unfold MI
  rw [e M (by omega), e (M + 20) (by omega), e (M + 21) (by omega), e (M + 22) (by omega), e (M + 23) (by omega), e (M + 27) (by omega), e (M + 28) (by omega), e (M + 33) (by omega), e (M + 34) (by omega), e (M + 35) (by omega)]
  exact ⟨h1.kept hf.1, h2.kept (by rw [e M (by omega)]) (by rw [e M (by omega)]) (fun b b1 _ => e b (by omega)), h3, h4, h5, h6, h7, hl, h9, h10⟩
theorem MI.tp {σ : aZ} {M : Nat} {g g' : zG} {t : aT} (h : MI σ M g) (hf : frm (fun b => b = M ∨ b = M + 20) g g') (h0 : ∀ j, j ≠ 27 → g'.1 M j = g.1 M j) (hl : mTp t (g'.1 M 27) (g'.1 (M + 20))) : MI (zTp' σ t) M g' := by
  have e : ∀ b, ¬ (b = M ∨ b = M + 20) → g'.1 b = g.1 b := fun b hb => (hf.2 b hb).1
  obtain ⟨h1, h2, h3, h4, h5, h6, h7, h8, h9, h10⟩ := h
  unfold MI
  rw [e (M + 21) (by omega), e (M + 22) (by omega), e (M + 23) (by omega), e (M + 27) (by omega), e (M + 28) (by omega), e (M + 29) (by omega), e (M + 33) (by omega), e (M + 34) (by omega), e (M + 35) (by omega), h0 32 (by omega), h0 34 (by omega), h0 35 (by omega), h0 36 (by omega), h0 44 (by omega), h0 45 (by omega), h0 46 (by omega), h0 47 (by omega), h0 51 (by omega), h0 52 (by omega), h0 53 (by omega), h0 54 (by omega)]
  exact ⟨h1.kept hf.1, h2.kept (h0 0 (by omega)) (h0 4 (by omega)) (fun b b1 _ => e b (by omega)), hl, h4, h5, h6, h7, h8, h9, h10⟩
def zup (f : Nat → Nat) (k x : Nat) : Nat → Nat := fun j => if j = k then x else f j
theorem cLn.put {ln : Nat → Nat} {g : zG} {a c y : Nat} (h : cLn ln (g.1 a)) : cLn (zup ln c y) ((zsi g a c (nI y)).1 a) := by
  intro j hj
  by_cases e : j = c
  · subst e; rw [zsi_same]; unfold zup; rw [if_pos rfl]
  · rw [zsi_get e, h j hj]; unfold zup; rw [if_neg e]
section OKS2
variable {X : Nat}
theorem o_put (x y : Int32) : OKC X (fun g => f_X9_put X x y g) (fun g => f_X10_put (X + 53) x y g) := OKC.write (fun k σ r g _ hv hc hm => by
  have hX := hc.1
  have b3 := hv.1.2.2.2.2.1
  have eC : f_X9_put X x y g = (if (0 ≤ x.toInt ∧ x.toInt < aV (zR σ) 3) ∧ 0 ≤ y.toInt ∧ y.toInt ≤ 26 then some (nI (zLn σ x.toInt.toNat), zsi g (X + 32) x.toNatClampNeg y) else some (-1, g)) := by
    unfold f_X9_put
    rw [q_isColumn hX hc.2.1 hv.1 hc.2.2.1, zb_some, q_isLetter, zb_some]
    by_cases h1 : 0 ≤ x.toInt ∧ x.toInt < aV (zR σ) 3
    · rw [if_pos h1, b1]
      obtain ⟨c, hc1, rfl⟩ := i_one h1 (by omega)
      have ej : j_X9_put_21 X (nI c) y g = some (nI (zLn σ c), zsi g (X + 32) c y) := by
        unfold j_X9_put_21
        rw [hX.2.2.2.2.1, hX.2.2.2.2.2.2.2.2.2.2.2.2.2.1, zc_pos (zlit c 40 (by omega) (by omega)), zl_eq, zc_pos (zlit c 40 (by omega) (by omega)), zl_eq, nI_cl (by omega), hc.2.2.2.2.2.1 c (by omega)]
      rw [ej, i_nI (by omega), nI_cl (by omega)]
      by_cases h2 : y = 0
      · rw [if_pos h2, if_pos (by subst h2; exact ⟨by rw [← i_nI (n := c) (by omega)]; exact h1, by decide, by decide⟩)]
        rfl
      · rw [if_neg h2]
        have h2' : ¬ y.toInt = 0 := fun e => h2 (i_eq.mpr e)
        by_cases h3 : 1 ≤ y.toInt ∧ y.toInt ≤ 26
        · rw [if_pos h3, b1, if_pos ⟨by rw [← i_nI (n := c) (by omega)]; exact h1, by omega, by omega⟩]
          rfl
        · rw [if_neg h3, b0, if_neg (fun z => h3 (by omega))]
    · rw [if_neg h1, b0, if_neg (fun z => h1 z.1)]
  have eM : ∀ g1, MI σ (X + 53) g1 → f_X10_put (X + 53) x y g1 = (if (0 ≤ x.toInt ∧ x.toInt < aV (zR σ) 3) ∧ 0 ≤ y.toInt ∧ y.toInt ≤ 26 then some (nI (zLn σ x.toInt.toNat), zsi g1 (X + 74) x.toNatClampNeg y) else some (-1, g1)) := by
    intro g1 h1
    have hM := h1.1
    have e1 : g1.2.1 (X + 53) 37 = X + 74 := by unfold rM at hM; simp only [hM]
    unfold f_X10_put
    rw [m_isColumn hM hv.1 h1.2.1, zb_some, m_in 0 26 0 26 rfl rfl, zb_some, e1]
    by_cases h2 : 0 ≤ x.toInt ∧ x.toInt < aV (zR σ) 3
    · rw [if_pos h2, b1]
      by_cases h3 : 0 ≤ y.toInt ∧ y.toInt ≤ 26
      · obtain ⟨c, hc1, rfl⟩ := i_one h2 (by omega)
        rw [if_pos h3, b1, zc_pos (zlit c 40 (by omega) (by omega)), zl_eq, zc_pos (zlit c 40 (by omega) (by omega)), zl_eq, nI_cl (by omega), h1.2.2.2.2.1 c (by omega), i_nI (by omega), if_pos ⟨by rw [← i_nI (n := c) (by omega)]; exact h2, h3⟩]
        rfl
      · rw [if_neg h3, b0, if_neg (fun z => h3 z.2)]
    · rw [if_neg h2, b0, if_neg (fun z => h2 z.1)]
  by_cases h : (0 ≤ x.toInt ∧ x.toInt < aV (zR σ) 3) ∧ 0 ≤ y.toInt ∧ y.toInt ≤ 26
  · rw [if_pos h] at eC
    obtain ⟨c, hc1, rfl⟩ := i_one h.1 (by omega)
    obtain ⟨l, hl1, rfl⟩ := i_one (x := y) (n := 27) (by omega) (by omega)
    rw [nI_cl (by omega)] at eC
    refine ⟨_, _, zLn' σ (zup (zLn σ) c l), eC, ?_, rfl, frm.si (show X + 32 < X + 53 ∧ X + 32 ≠ X + 38 ∧ X + 32 ≠ X + 39 by omega), hc.ln (frm.si rfl) (cLn.put hc.2.2.2.2.2.1), fun g1 h1 => ⟨_, by rw [eM g1 h1, if_pos h, nI_cl (by omega)], frm.si (show X + 53 ≤ X + 74 by omega), h1.ln (frm.si (show X + 74 = X + 53 + 21 by omega)) (cLn.put h1.2.2.2.2.1)⟩⟩
    obtain ⟨v1, v2, v3, v4⟩ := hv.next
    refine ⟨v1, v2, fun d hd => ?_, v4⟩
    show zup (zLn σ) c l d ≤ 26 ∧ (aV (zR σ) 3 ≤ d → zup (zLn σ) c l d = 0)
    unfold zup
    by_cases e : d = c
    · rw [if_pos e]; exact ⟨by omega, fun z => by omega⟩
    · rw [if_neg e]; exact v3 d hd
  · rw [if_neg h] at eC
    exact ⟨-1, g, σ, eC, hv.next, rfl, frm.refl _ _, hc, fun g1 h1 => ⟨g1, by rw [eM g1 h1, if_neg h], frm.refl _ _, h1⟩⟩)
end OKS2
