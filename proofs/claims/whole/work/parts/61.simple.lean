-- ===== a call on both: the same answer, the same state behind it =====
def OKC (X : Nat) (f h : zG → Option (Int32 × zG)) : Prop := ∀ (k : Nat) (σ : aZ) (r : Nat) (g : zG), k < 512 → vZ k σ → CI σ X r g → MI σ (X + 53) g → ∃ v g1 g2 σ', f g = some (v, g1) ∧ h g1 = some (v, g2) ∧ vZ (k + 1) σ' ∧ CI σ' X r g2 ∧ MI σ' (X + 53) g2 ∧ zR σ' = zR σ ∧ g2.1 (X + 38) = g.1 (X + 38) ∧ g2.1 (X + 39) = g.1 (X + 39)
theorem vZ.next {k : Nat} {σ : aZ} (h : vZ k σ) : vZ (k + 1) σ := by
  obtain ⟨h1, h2, h3, h4, h5, h6, h7⟩ := h
  refine ⟨h1, h2, h3, ⟨Nat.le_trans h4.1 (Nat.mul_le_mul_right _ (Nat.le_succ k)), h4.2.1, Nat.le_trans h4.2.2 (Nat.add_le_add_left (Nat.mul_le_mul_right _ (Nat.le_succ k)) 1)⟩, fun j hj => ⟨⟨(h5 j hj).1.1, by have := (h5 j hj).1.2; omega⟩, (h5 j hj).2⟩, fun hz c hc => ⟨?_, (h6 hz c hc).2⟩, h7⟩
  rcases (h6 hz c hc).1 with e | ⟨t, e1, e2⟩
  · exact Or.inl e
  · exact Or.inr ⟨t, Nat.le_trans e1 (Nat.mul_le_mul_right _ (Nat.le_succ k)), e2⟩
theorem OKC.read {X : Nat} {f h : zG → Option (Int32 × zG)} (H : ∀ (k : Nat) (σ : aZ) (r : Nat) (g : zG), k < 512 → vZ k σ → CI σ X r g → MI σ (X + 53) g → ∃ v, f g = some (v, g) ∧ h g = some (v, g)) : OKC X f h := by
  intro k σ r g hk hv hc hm
  obtain ⟨v, e1, e2⟩ := H k σ r g hk hv hc hm
  exact ⟨v, g, g, σ, e1, e2, hv.next, hc, hm, rfl, rfl, rfl⟩
/-- both write: the class within its own cells, the reference within its own -/
theorem OKC.write {X : Nat} {f h : zG → Option (Int32 × zG)} (H : ∀ (k : Nat) (σ : aZ) (r : Nat) (g : zG), k < 512 → vZ k σ → CI σ X r g → MI σ (X + 53) g → ∃ v g1 σ', f g = some (v, g1) ∧ vZ (k + 1) σ' ∧ zR σ' = zR σ ∧ frm (fun b => b < X + 53 ∧ b ≠ X + 38 ∧ b ≠ X + 39) g g1 ∧ CI σ' X r g1 ∧ (∀ g1, MI σ (X + 53) g1 → ∃ g2, h g1 = some (v, g2) ∧ frm (fun b => X + 53 ≤ b) g1 g2 ∧ MI σ' (X + 53) g2)) : OKC X f h := by
  intro k σ r g hk hv hc hm
  obtain ⟨v, g1, σ', e1, hv', hR, hf, hc', hh⟩ := H k σ r g hk hv hc hm
  obtain ⟨g2, e2, hf2, hm2⟩ := hh g1 (hm.kept hf (fun b hb => hb.1))
  refine ⟨v, g1, g2, σ', e1, e2, hv', hc'.kept hf2 (fun b hb => hb), hm2, hR, ?_, ?_⟩
  · rw [(hf2.2 (X + 38) (show ¬ (X + 53 ≤ X + 38) by omega)).1, (hf.2 (X + 38) (show ¬ (X + 38 < X + 53 ∧ X + 38 ≠ X + 38 ∧ X + 38 ≠ X + 39) from fun z => z.2.1 rfl)).1]
  · rw [(hf2.2 (X + 39) (show ¬ (X + 53 ≤ X + 39) by omega)).1, (hf.2 (X + 39) (show ¬ (X + 39 < X + 53 ∧ X + 39 ≠ X + 38 ∧ X + 39 ≠ X + 39) from fun z => z.2.2 rfl)).1]
section OKS
variable {X : Nat}
theorem o_fault : OKC X (fun g => f_X9_fault X g) (fun g => f_X10_fault (X + 53) g) := OKC.read (fun k σ r g _ hv hc hm => p_fault hc.1 (by rw [hc.2.2.2.2.1, hm.2.2.2.1]))
theorem o_rule (x : Int32) : OKC X (fun g => f_X9_rule X x g) (fun g => f_X10_rule (X + 53) x g) := OKC.read (fun k σ r g _ hv hc hm => p_rule hc.1 hc.2.1 hm.1 hv.1 hc.2.2.1 hm.2.1 x)
theorem o_slug (x : Int32) : OKC X (fun g => f_X9_slug X x g) (fun g => f_X10_slug (X + 53) x g) := OKC.read (fun k σ r g _ hv hc hm => p_slug hc.1 hc.2.1 hm.1 hv.1 hc.2.2.1 hm.2.1 x)
theorem o_holes (x : Int32) : OKC X (fun g => f_X9_holes X x g) (fun g => f_X10_holes (X + 53) x g) := OKC.read (fun k σ r g _ hv hc hm => p_holes hc.1 hc.2.1 hm.1 hv.1 hc.2.2.1 hm.2.1 x)
theorem o_faces (x y : Int32) : OKC X (fun g => f_X9_faces X x y g) (fun g => f_X10_faces (X + 53) x y g) := OKC.read (fun k σ r g _ hv hc hm => p_faces hc.1 hc.2.1 hm.1 hv.1 hc.2.2.1 hm.2.1 x y)
theorem o_comes (x y z : Int32) : OKC X (fun g => f_X9_comes X x y z g) (fun g => f_X10_comes (X + 53) x y z g) := OKC.read (fun k σ r g _ hv hc hm => p_comes hc.1 hc.2.1 hm.1 hv.1 hc.2.2.1 hm.2.1 x y z)
theorem o_late (x y z : Int32) : OKC X (fun g => f_X9_late X x y z g) (fun g => f_X10_late (X + 53) x y z g) := OKC.read (fun k σ r g hk hv hc hm => p_late hc.1 hc.2.1 hm.1 hv.1 hc.2.2.1 hm.2.1 (T := (zPs σ).1) (by have := hv.2.2.2.1.1; omega) hc.2.2.2.2.2.2.1.1 hm.2.2.2.2.2.1.1 x y z)
theorem o_line (x : Int32) : OKC X (fun g => f_X9_line X x g) (fun g => f_X10_line (X + 53) x g) := OKC.read (fun k σ r g _ hv hc hm => p_line hc.1 hc.2.1 hm.1 hv.1 hc.2.2.1 hm.2.1 (ln := zLn σ) (fun c h => ⟨hc.2.2.2.2.2.1 c h, hm.2.2.2.2.1 c h, (hv.2.2.1 c h).1, (hv.2.2.1 c h).2⟩) x)
theorem o_ran (x : Int32) : OKC X (fun g => f_X9_ran X x g) (fun g => f_X10_ran (X + 53) x g) := OKC.read (fun k σ r g _ hv hc hm => p_ran (by rw [hc.2.2.2.2.2.2.2.2.2.1.1, hm.2.2.2.2.2.2.2.2.1.1]) (fun hz => by
  have h1 := hc.2.2.2.2.2.2.2.2.2.1
  have h2 := hm.2.2.2.2.2.2.2.2.1
  have hb : (zRn σ).1 = true := by
    rw [h1.1] at hz
    cases hq : (zRn σ).1 with
    | true => rfl
    | false => rw [hq] at hz; exact absurd rfl hz
  obtain ⟨a1, a2, a3⟩ := h1.2 hb
  obtain ⟨b1, b2, b3⟩ := h2.2 hb
  exact ⟨by rw [a1, b1], by rw [a2, b2], by rw [a3, b3]⟩) x)
theorem o_page (x y z : Int32) : OKC X (fun g => f_X9_page X x y z g) (fun g => f_X10_page (X + 53) x y z g) := OKC.read (fun k σ r g _ hv hc hm => by
  have hX := hc.1
  have hw := hc.2.1
  have hM := hm.1
  have b3 := hv.1.2.2.2.2.1
  have b7 := hv.1.2.2.2.2.2.2.2.2.1
  have e38 : g.2.1 (X + 53) 38 = X + 53 + 22 := by unfold rM at hM; simp only [hM]
  have e39 : g.2.1 (X + 53) 39 = X + 53 + 23 := by unfold rM at hM; simp only [hM]
  unfold f_X9_page f_X10_page
  rw [q_isRow hX hw hv.1 hc.2.2.1, zb_some, q_isColumn hX hw hv.1 hc.2.2.1, zb_some, zc_pos (c := zin 7 8) (by decide), hM.set, c7, hm.2.1.val (by omega) (by omega), m_upto (by omega) (by omega), zb_some, m_isColumn hM hv.1 hm.2.1, zb_some, m_in 0 1 0 1 rfl rfl, zb_some]
  by_cases h1 : 0 ≤ x.toInt ∧ x.toInt < aV (zR σ) 7
  · rw [if_pos h1, b1, b1]
    by_cases h2 : 0 ≤ y.toInt ∧ y.toInt < aV (zR σ) 3
    · rw [if_pos h2, b1, b1]
      obtain ⟨i, hi, rfl⟩ := i_one h1 (by omega)
      obtain ⟨j, hj, rfl⟩ := i_one h2 (by omega)
      have p1 : nI i * 40 + nI j = nI (40 * i + j) := by rw [show (40 : Int32) = nI 40 from rfl, pk_mul, nI_add]; congr 1; omega
      have p2 : 40 * nI i + nI j = nI (40 * i + j) := by rw [show (40 : Int32) = nI 40 from rfl, pk_mul, nI_add]
      unfold j_X9_page_27
      rw [zl_eq, p1, p2, zc_pos (zlit _ 2400 (by omega) (by omega)), zc_pos (zlit _ 2400 (by omega) (by omega)), zc_pos (zlit _ 2400 (by omega) (by omega)), zc_pos (zlit _ 2400 (by omega) (by omega)), nI_cl (by omega), hX.2.2.2.1, hX.2.2.2.2.2.2.2.2.2.2.2.1, hX.2.2.2.2.2.2.2.2.2.2.2.2.1, e38, e39]
      have c := hc.2.2.2.2.2.2.2.1 (40 * i + j) (by omega)
      have m := hm.2.2.2.2.2.2.1 (40 * i + j) (by omega)
      rw [c.1, c.2, m.1, m.2]
      by_cases z0 : z = 0
      · subst z0
        exact ⟨_, rfl, rfl⟩
      · by_cases z1 : z = 1
        · subst z1
          exact ⟨_, rfl, rfl⟩
        · rw [if_neg z0, if_neg z1, if_neg (show ¬ (0 ≤ z.toInt ∧ z.toInt ≤ 1) from fun e => by
            have e0 : ¬ z.toInt = 0 := fun e => z0 (i_eq.mpr e)
            have e1 : ¬ z.toInt = 1 := fun e => z1 (i_eq.mpr e)
            omega)]
          exact ⟨-1, rfl, rfl⟩
    · rw [if_neg h2]; exact ⟨-1, rfl, rfl⟩
  · rw [if_neg h1]; exact ⟨-1, rfl, rfl⟩)
theorem o_end (x : Int32) : OKC X (fun g => f_X9_end X x g) (fun g => f_X10_end (X + 53) x g) := OKC.write (fun k σ r g _ hv hc hm => by
  have hX := hc.1
  have ht := hv.2.1.1
  have hb : (nI (zTp σ).1).toInt = (zTp σ).1 := i_nI (by omega)
  have eC : f_X9_end X x g = (if 0 ≤ x.toInt ∧ x.toInt ≤ (zTp σ).1 then some (nI (zTp σ).1, zsi g (X + 23) 1 x) else some (-1, g)) := by
    unfold f_X9_end
    rw [hX.2.2.1, hc.2.2.2.1.1, zl_eq, zl_eq]
    simp only [i_lt, i_le, hb]
    show (if x.toInt < 0 then some ((-1 : Int32), g) else _) = _
    by_cases h1 : x.toInt < 0
    · rw [if_pos h1, if_neg (by omega)]
    · rw [if_neg h1]
      by_cases h2 : x.toInt ≤ (zTp σ).1
      · rw [if_pos h2, if_pos (by omega)]
      · rw [if_neg h2, if_neg (by omega)]
  have eM : ∀ g1, MI σ (X + 53) g1 → f_X10_end (X + 53) x g1 = (if 0 ≤ x.toInt ∧ x.toInt ≤ (zTp σ).1 then some (nI (zTp σ).1, zsi g1 (X + 53) 27 x) else some (-1, g1)) := by
    intro g1 h1
    unfold f_X10_end
    rw [h1.2.2.1.1, in_spec, i64, i64, hb, zb_some]
    by_cases h : 0 ≤ x.toInt ∧ x.toInt ≤ (zTp σ).1
    · rw [if_pos h, if_pos (show (0 : Int64).toInt ≤ x.toInt ∧ x.toInt ≤ _ from h), b1, zl_eq, zl_eq, h1.2.2.1.1]
    · rw [if_neg h, if_neg (show ¬ ((0 : Int64).toInt ≤ x.toInt ∧ x.toInt ≤ _) from h)]; rfl
  by_cases h : 0 ≤ x.toInt ∧ x.toInt ≤ (zTp σ).1
  · obtain ⟨n, hn, rfl⟩ := i_one (x := x) (n := (zTp σ).1 + 1) (by omega) (by omega)
    rw [if_pos h] at eC
    refine ⟨nI (zTp σ).1, zsi g (X + 23) 1 (nI n), (σ.1, (n, (zTp σ).2), σ.2.2), eC, ?_, rfl, frm.si (by omega), ?_, fun g1 h1 => ⟨zsi g1 (X + 53) 27 (nI n), by rw [eM g1 h1, if_pos h], frm.si (by omega), ?_⟩⟩
    · obtain ⟨v1, v2, v3⟩ := hv.next
      exact ⟨v1, ⟨by show n ≤ 240; omega, fun i hi => v2.2 i (by have : i < n := hi; omega)⟩, v3⟩
    · obtain ⟨h1, h2, h3, h4, h5, h6, h7, h8, h9, h10, h11⟩ := hc
      have hr : r = X + 1 ∨ r = X + 12 := h2.2.1.imp (fun z => z.1) (fun z => z.1)
      unfold CI
      rw [zsi_at (b := X + 24) (by omega), zsi_at (b := X + 32) (by omega), zsi_at (b := X + 31) (by omega), zsi_at (b := X + 29) (by omega), zsi_at (b := X + 30) (by omega), zsi_at (b := X + 33) (by omega), zsi_at (b := X + 34) (by omega), zsi_at (b := X + 35) (by omega), zsi_at (b := X) (by omega), zsi_at (b := X + 50) (by omega), zsi_at (b := X + 51) (by omega), zsi_at (b := X + 52) (by omega), zsi_get (j := 2) (by omega)]
      refine ⟨h1, h2, h3.kept (fun b b1 b2 => zsi_at (by omega)), ⟨zsi_same, fun i hi => h4.2 i (by have : i < n := hi; omega)⟩, h5, h6, h7, h8, ⟨h9.1, fun hz => ?_⟩, h10, h11⟩
      obtain ⟨q1, q2, q3, q4⟩ := h9.2 hz
      exact ⟨q1, q2, bits_kept q3, q4⟩
    · obtain ⟨h1, h2, h3, h4, h5, h6, h7, h8, h9, h10⟩ := h1
      unfold MI
      rw [zsi_at (b := X + 53 + 20) (by omega), zsi_at (b := X + 53 + 21) (by omega), zsi_at (b := X + 53 + 22) (by omega), zsi_at (b := X + 53 + 23) (by omega), zsi_at (b := X + 53 + 27) (by omega), zsi_at (b := X + 53 + 28) (by omega), zsi_at (b := X + 53 + 29) (by omega), zsi_at (b := X + 53 + 33) (by omega), zsi_at (b := X + 53 + 34) (by omega), zsi_at (b := X + 53 + 35) (by omega), zsi_get (j := 32) (by omega), zsi_get (j := 34) (by omega), zsi_get (j := 35) (by omega), zsi_get (j := 36) (by omega), zsi_get (j := 44) (by omega), zsi_get (j := 45) (by omega), zsi_get (j := 46) (by omega), zsi_get (j := 47) (by omega), zsi_get (j := 51) (by omega), zsi_get (j := 52) (by omega), zsi_get (j := 53) (by omega), zsi_get (j := 54) (by omega)]
      exact ⟨h1, h2.kept (zsi_get (by omega)) (zsi_get (by omega)) (fun b b1 b2 => zsi_at (by omega)), ⟨zsi_same, fun i hi => h3.2 i (by have : i < n := hi; omega)⟩, h4, h5, h6, h7, h8, h9, h10⟩
  · rw [if_neg h] at eC
    exact ⟨-1, g, σ, eC, hv.next, rfl, frm.refl _ _, hc, fun g1 h1 => ⟨g1, by rw [eM g1 h1, if_neg h], frm.refl _ _, h1⟩⟩)
end OKS
