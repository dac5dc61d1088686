section CO
variable {n p q : Nat} {ch : Nat → Nat} {g : zG} {a M X r : Nat} {ρ : aR}
theorem dec_has (n : Nat) (ch : Nat → Nat) (l : Nat) : (∃ i, i < n ∧ ch i = l) ∨ ∀ i, i < n → ch i ≠ l := by
  by_cases h : ∃ i, i < n ∧ ch i = l
  · exact Or.inl h
  · exact Or.inr (fun i hi e => h ⟨i, hi, e⟩)
theorem m_has (hn : n ≤ 49) (hM : rM M g) (h0 : g.1 M 0 = nI n) (hc : ∀ i, i < n → g.1 (M + 1) i = nI (ch i)) (hch : ∀ i, i < n → ch i ≤ 26) {l : Nat} (hl : l ≤ 26) : ((∃ i, i < n ∧ ch i = l) ∧ f_X10_has M (nI l) g = some (1, g)) ∨ ((∀ i, i < n → ch i ≠ l) ∧ f_X10_has M (nI l) g = some (0, g)) := by
  let Inv : Nat → Int32 × Int32 → Prop := fun k s => (s = (1, nI k) ∧ ∃ i, i < k ∧ ch i = l) ∨ (s = (0, nI k) ∧ ∀ i, i < k → ch i ≠ l)
  let Qf : Int32 → Prop := fun r => (r = 1 ∧ ∃ i, i < n ∧ ch i = l) ∨ (r = 0 ∧ ∀ i, i < n → ch i ≠ l)
  let sf : Int32 × Int32 → Option ((Int32 × Int32) ⊕ Int32) := fun s => l_X10_has_4 M (nI l) g s.1 s.2
  have hS : ∀ k s, k < n → Inv k s → (∃ s', sf s = some (.inl s') ∧ Inv (k + 1) s') ∨ ∃ r, sf s = some (.inr r) ∧ Qf r := by
    intro k s hk hI
    left
    have hle : ¬ nI n ≤ nI k := fun e => by have := (nle (by omega) (by omega)).mp e; omega
    rcases hI with ⟨rfl, i, hi, e⟩ | ⟨rfl, hno⟩
    · refine ⟨(1, nI (k + 1)), ?_, Or.inl ⟨rfl, i, by omega, e⟩⟩
      show l_X10_has_4 M (nI l) g 1 (nI k) = _
      unfold l_X10_has_4
      rw [h0, if_neg hle, b1, zl_eq, nI_1]
    · have e0 : l_X10_has_4 M (nI l) g 0 (nI k) = (if nI (ch k) = nI l then some (.inl (1, nI (k + 1))) else some (.inl (0, nI (k + 1)))) := by
        unfold l_X10_has_4
        rw [h0, if_neg hle, b0, zc_pos (zlit k 49 (by omega) (by omega)), nI_cl (by omega), hM.1, hc k hk, zl_eq, zl_eq, nI_1]
      have hck := hch k hk
      by_cases e : ch k = l
      · refine ⟨(1, nI (k + 1)), ?_, Or.inl ⟨rfl, k, by omega, e⟩⟩
        show l_X10_has_4 M (nI l) g 0 (nI k) = _
        rw [e0, if_pos (by rw [e])]
      · refine ⟨(0, nI (k + 1)), ?_, Or.inr ⟨rfl, fun j hj => ?_⟩⟩
        · show l_X10_has_4 M (nI l) g 0 (nI k) = _
          rw [e0, if_neg (fun e2 => e ((nI_inj (by omega) (by omega)).mp e2))]
        · rcases Nat.lt_or_ge j k with h | h
          · exact hno j h
          · have : j = k := by omega
            rw [this]; exact e
  have hE : ∀ s, Inv n s → ∃ r, sf s = some (.inr r) ∧ Qf r := by
    intro s hI
    have hle : nI n ≤ nI n := (nle (by omega) (by omega)).mpr (Nat.le_refl _)
    rcases hI with ⟨rfl, h⟩ | ⟨rfl, h⟩
    · refine ⟨1, ?_, Or.inl ⟨rfl, h⟩⟩
      show l_X10_has_4 M (nI l) g 1 (nI n) = _
      unfold l_X10_has_4
      rw [h0, if_pos hle]
    · refine ⟨0, ?_, Or.inr ⟨rfl, h⟩⟩
      show l_X10_has_4 M (nI l) g 0 (nI n) = _
      unfold l_X10_has_4
      rw [h0, if_pos hle]
  obtain ⟨r, h1, h2⟩ := zw_run Inv Qf n hS hE n 0 zN (0, 0) (by omega) (by have := zN_big; omega) (Or.inr ⟨rfl, fun i hi => by omega⟩)
  have e : f_X10_has M (nI l) g = j_X10_has_38 M r g := by
    unfold f_X10_has
    rw [show zw zN (fun s => l_X10_has_4 M (nI l) g s.1 s.2) (0, 0) = some r from h1, zk_some]
  rcases h2 with ⟨rfl, h⟩ | ⟨rfl, h⟩
  · left; refine ⟨h, ?_⟩; rw [e]; unfold j_X10_has_38; rw [zc_pos (Or.inr rfl)]
  · right; refine ⟨h, ?_⟩; rw [e]; unfold j_X10_has_38; rw [zc_pos (Or.inl rfl)]
theorem m_comesBy (hv : vCh n p q ch) (hM : rM M g) (h : mCh n p q ch M g) {c l t u : Nat} (hc : c < 40) (hl : 1 ≤ l ∧ l ≤ 26) (ht : t < 1999999000) (hu : fst n p q ch c l t u) (hd : u < t + 300) : f_X10_comesBy M (nI c) (nI l) (nI t) g = some (nI u, g) := by
  have hch := hv.2.2.2
  have e : ∀ k, t + k < 2000000000 → l_X10_comesBy_3 M (nI c) (nI l) (nI (t + k)) g = (if (if (c * q + (t + k)) % p = 0 then nI (ch (slg n p q c (t + k))) else -4) = nI l then some (.inr (nI (t + k), g)) else some (.inl (nI (t + (k + 1)), g))) := by
    intro k hk
    unfold l_X10_comesBy_3
    rw [m_letterAt hv hM h hc hk, zb_some, zl_eq, nI_1]
    rfl
  have hz := zw_seq (step := fun s : Int32 × zG => l_X10_comesBy_3 M (nI c) (nI l) s.1 s.2) (fun k => (nI (t + k), g)) (nI u, g) (u - t) (fun k hk => ?_) ?_ (N := zN) (by have := zN_big; omega)
  · unfold f_X10_comesBy
    rw [show ((nI t, g) : Int32 × zG) = (nI (t + 0), g) from rfl, hz, zk_some]
    rfl
  · show l_X10_comesBy_3 M (nI c) (nI l) (nI (t + k)) g = _
    rw [e k (by omega), if_neg]
    intro e2
    have hno := hu.2.2 (t + k) (by omega) (by omega)
    apply hno
    by_cases h0 : (c * q + (t + k)) % p = 0
    · rw [if_pos h0] at e2
      have h3 := hch _ (slg_lt (p := p) (q := q) hv.1.1 c (t + k))
      exact ⟨h0, (nI_inj (by omega) (by omega)).mp e2⟩
    · rw [if_neg h0] at e2
      exact absurd e2.symm (nm4 (by omega))
  · show l_X10_comesBy_3 M (nI c) (nI l) (nI (t + (u - t))) g = _
    have hf := hu.2.1
    have h1 := hu.1
    rw [e _ (by omega), show t + (u - t) = u by omega, if_pos hf.1, if_pos (by rw [hf.2])]
theorem np_le (hv : vCh n p q ch) : n * p ≤ 288 := by
  have h1 := hv.1
  have h2 := hv.2.1
  exact Nat.mul_le_mul h1.2 h2.2
/-- what a letter's next coming is, in both -/
theorem both_next (hv : vCh n p q ch) (hc : cCh n p q ch a g) (hM : rM M g) (hm : mCh n p q ch M g) {c l t : Nat} (h1 : c < 40) (h2 : 1 ≤ l ∧ l ≤ 26) (h3 : t < 1999999000) : (∃ u, f_X0_nextTick a (nI c) (nI l) (nI t) g = some (nI u, g) ∧ f_X10_has M (nI l) g = some (1, g) ∧ f_X10_comesBy M (nI c) (nI l) (nI t) g = some (nI u, g) ∧ fst n p q ch c l t u ∧ u < t + 288) ∨ (f_X0_nextTick a (nI c) (nI l) (nI t) g = some (-4, g) ∧ f_X10_has M (nI l) g = some (0, g)) := by
  have hb := np_le hv
  have hn := hv.1
  rcases m_has (ch := ch) (l := l) (by omega) hM hm.1 hm.2.2.2 (fun i hi => (hv.2.2.2 i hi).2) h2.2 with ⟨⟨i, hi, e⟩, hh⟩ | ⟨hno, hh⟩
  · rcases q_nextTick hv hc h1 h2.2 h3 with ⟨u, e1, e2, e3⟩ | ⟨e1, e2⟩
    · exact Or.inl ⟨u, e1, hh, m_comesBy hv hM hm h1 h2 h3 e2 (by omega), e2, by omega⟩
    · exact absurd e (e2 i hi)
  · rcases q_nextTick hv hc h1 h2.2 h3 with ⟨u, e1, e2, e3⟩ | ⟨e1, e2⟩
    · exact absurd e2.2.1.2 (hno _ (slg_lt hn.1 c u))
    · exact Or.inr ⟨e1, hh⟩
theorem p_faces (hX : rX X g) (hw : rW X r g) (hM : rM (X + 53) g) (hv : vR ρ) (hc : cR ρ r g) (hm : mR ρ (X + 53) g) (x y : Int32) : ∃ v, f_X9_faces X x y g = some (v, g) ∧ f_X10_faces (X + 53) x y g = some (v, g) := by
  have hr := hX.rules hw
  have hb := hv.2.2.2.2.1
  unfold f_X9_faces f_X10_faces
  rw [q_isColumn hX hw hv hc, zb_some, m_isColumn hM hv hm, zb_some, q_isTick, zb_some, m_in 0 1000000 0 1000000 rfl rfl, zb_some, hw.1, hr.1]
  by_cases h : 0 ≤ x.toInt ∧ x.toInt < aV ρ 3
  · rw [if_pos h, b1, b1]
    by_cases h2 : 0 ≤ y.toInt ∧ y.toInt ≤ 1000000
    · rw [if_pos h2, b1, b1]
      obtain ⟨c, hc1, rfl⟩ := i_one h (by omega)
      obtain ⟨t, ht1, rfl⟩ := i_one (x := y) (n := 1000001) (by omega) (by omega)
      rw [q_letterFacing hv.ch (hc.ch hr) (by omega) (by omega), zb_some, m_letterAt hv.ch hM hm.ch (by omega) (by omega), zb_some]
      exact ⟨_, rfl, rfl⟩
    · rw [if_neg h2]; exact ⟨-1, rfl, rfl⟩
  · rw [if_neg h]; exact ⟨-1, rfl, rfl⟩
theorem p_comes (hX : rX X g) (hw : rW X r g) (hM : rM (X + 53) g) (hv : vR ρ) (hc : cR ρ r g) (hm : mR ρ (X + 53) g) (x y z : Int32) : ∃ v, f_X9_comes X x y z g = some (v, g) ∧ f_X10_comes (X + 53) x y z g = some (v, g) := by
  have hr := hX.rules hw
  have hb := hv.2.2.2.2.1
  unfold f_X9_comes f_X10_comes
  rw [q_isColumn hX hw hv hc, zb_some, m_isColumn hM hv hm, zb_some, q_isLetter, zb_some, m_in 1 26 1 26 rfl rfl, zb_some, q_isTick, zb_some, m_in 0 1000000 0 1000000 rfl rfl, zb_some, hw.1, hr.1]
  by_cases h : 0 ≤ x.toInt ∧ x.toInt < aV ρ 3
  · rw [if_pos h, b1, b1]
    by_cases h2 : 1 ≤ y.toInt ∧ y.toInt ≤ 26
    · rw [if_pos h2, b1, b1]
      by_cases h3 : 0 ≤ z.toInt ∧ z.toInt ≤ 1000000
      · rw [if_pos h3, b1, b1]
        obtain ⟨c, hc1, rfl⟩ := i_one h (by omega)
        obtain ⟨l, hl1, rfl⟩ := i_one (x := y) (n := 27) (by omega) (by omega)
        obtain ⟨t, ht1, rfl⟩ := i_one (x := z) (n := 1000001) (by omega) (by omega)
        rw [i_nI (by omega)] at h2
        rcases both_next (c := c) (l := l) (t := t) hv.ch (hc.ch hr) hM hm.ch (by omega) (by omega) (by omega) with ⟨u, e1, e2, e3, -⟩ | ⟨e1, e2⟩
        · rw [e1, zb_some, e2, zb_some, b1, e3, zb_some]; exact ⟨_, rfl, rfl⟩
        · rw [e1, zb_some, e2, zb_some, b0]; exact ⟨_, rfl, rfl⟩
      · rw [if_neg h3]; exact ⟨-1, rfl, rfl⟩
    · rw [if_neg h2]; exact ⟨-1, rfl, rfl⟩
  · rw [if_neg h]; exact ⟨-1, rfl, rfl⟩
theorem p_late (hX : rX X g) (hw : rW X r g) (hM : rM (X + 53) g) (hv : vR ρ) (hc : cR ρ r g) (hm : mR ρ (X + 53) g) {T : Nat} (hT : T < 1900000000) (h31 : g.1 (X + 31) 2 = nI T) (h34 : g.1 (X + 53) 34 = nI T) (x y z : Int32) : ∃ v, f_X9_late X x y z g = some (v, g) ∧ f_X10_late (X + 53) x y z g = some (v, g) := by
  have hr := hX.rules hw
  have hb := hv.2.2.2.2.1
  unfold f_X9_late f_X10_late
  rw [q_isColumn hX hw hv hc, zb_some, m_isColumn hM hv hm, zb_some, q_isLetter, zb_some, m_in 1 26 1 26 rfl rfl, zb_some, m_in (-20) 20 (-20) 20 rfl rfl, zb_some, hw.1, hr.1, hX.2.2.2.2.1, h31]
  by_cases h : 0 ≤ x.toInt ∧ x.toInt < aV ρ 3
  · rw [if_pos h, b1, b1]
    by_cases h2 : 1 ≤ y.toInt ∧ y.toInt ≤ 26
    · rw [if_pos h2, b1, b1]
      have elt : (z < (-20 : Int32)) ↔ z.toInt < -20 := i_lt
      have ele : (z ≤ (20 : Int32)) ↔ z.toInt ≤ 20 := i_le
      by_cases h3 : -20 ≤ z.toInt ∧ z.toInt ≤ 20
      · rw [if_neg (show ¬ z < (-20 : Int32) by rw [elt]; omega), if_pos (show z ≤ (20 : Int32) by rw [ele]; omega), if_pos h3, b1]
        obtain ⟨c, hc1, rfl⟩ := i_one h (by omega)
        obtain ⟨l, hl1, rfl⟩ := i_one (x := y) (n := 27) (by omega) (by omega)
        rw [i_nI (by omega)] at h2
        rcases both_next (c := c) (l := l) (t := T) hv.ch (hc.ch hr) hM hm.ch (by omega) (by omega) (by omega) with ⟨u, e1, e2, e3, hf, hu⟩ | ⟨e1, e2⟩
        · rw [e1, zb_some, if_neg (nm4 (by omega)), e2, zb_some, b1, h34, e3, zb_some, zl_eq, hw.1, hr.1]
          have hadd : (nI u + z).toInt = u + z.toInt := by rw [i_add (by rw [i_nI (by omega)]; omega), i_nI (by omega)]
          have e0 : ((0 : Int32) ≤ nI u + z) ↔ 0 ≤ (u : Int) + z.toInt := by rw [i_le, hadd]; rfl
          by_cases h5 : 0 ≤ (u : Int) + z.toInt
          · rw [if_pos (e0.mpr h5), if_pos (e0.mpr h5)]
            have hw2 : nI u + z = nI ((u + z.toInt).toNat) := by
              apply i_eq.mpr
              rw [hadd, i_nI (by omega)]
              omega
            rw [hw2, q_letterFacing hv.ch (hc.ch hr) (by omega) (by omega), zb_some, m_letterAt hv.ch hM hm.ch (by omega) (by omega), zb_some, m_letterAt hv.ch hM hm.ch (by omega) (by omega), zb_some]
            generalize (if (c * aV ρ 2 + (↑u + z.toInt).toNat) % aV ρ 1 = 0 then nI (aC ρ (slg (aN ρ) (aV ρ 1) (aV ρ 2) c (↑u + z.toInt).toNat)) else -4) = A
            by_cases hA : A = -4
            · rw [if_pos hA]; exact ⟨_, rfl, rfl⟩
            · rw [if_neg hA]; exact ⟨_, rfl, rfl⟩
          · rw [if_neg (fun e => h5 (e0.mp e)), if_neg (fun e => h5 (e0.mp e))]; exact ⟨_, rfl, rfl⟩
        · rw [e1, zb_some, if_pos rfl, e2, zb_some, b0]; exact ⟨_, rfl, rfl⟩
      · rw [if_neg h3, b0]
        refine ⟨-1, ?_, rfl⟩
        by_cases h4 : z.toInt < -20
        · rw [if_pos (elt.mpr h4)]
        · rw [if_neg (fun e => h4 (elt.mp e)), if_neg (fun e => h3 ⟨by omega, ele.mp e⟩)]
    · rw [if_neg h2]; exact ⟨-1, rfl, rfl⟩
  · rw [if_neg h]; exact ⟨-1, rfl, rfl⟩
end CO
