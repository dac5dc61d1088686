-- ===== every call of every script =====
section LOK
variable {X : Nat}
def INV (X k : Nat) (g : zG) : Prop := ∃ σ r, vZ k σ ∧ CI σ X r g ∧ MI σ (X + 53) g ∧ TI (zR σ) X g
theorem fin_call {f h : zG → Option (Int32 × zG)} (H : OKT X f h) {k : Nat} (hk : k < 512) {g : zG} (hI : INV X k g) (l3 : Int32) : ∃ g2, zb (f g) (fun v1 g1 => zb (h g1) (fun v2 g2 => zcont l3 v1 v2 g2)) = some (.inl (l3 + 4, g2)) ∧ INV X (k + 1) g2 := by
  obtain ⟨σ, r, h1, h2, h3, h4⟩ := hI
  obtain ⟨v, g1, g2, σ', r', e1, e2, e3, e4, e5, e6⟩ := H k σ r g hk h1 h2 h3 h4
  refine ⟨g2, ?_, σ', r', e3, e4, e5, e6⟩
  rw [e1, zb_some, e2, zb_some]
  unfold zcont
  rw [if_pos rfl]
theorem step_ok {L k : Nat} {xs : Nat → Int32} {g : zG} (hL : L ≤ 2048) (hk : 4 * k + 4 ≤ L) (hI : INV X k g) : ∃ g2, lstep L xs X (nI (4 * k)) g = some (.inl (nI (4 * k) + 4, g2)) ∧ INV X (k + 1) g2 := by
  have hk5 : k < 512 := by omega
  have z0 : zin (nI (4 * k)) L := zlit (4 * k) L (by omega) (by omega)
  have z1 : zin (nI (4 * k) + 1) L := by rw [show nI (4 * k) + 1 = nI (4 * k + 1) from nI_add _ 1]; exact zlit (4 * k + 1) L (by omega) (by omega)
  have z2 : zin (nI (4 * k) + 2) L := by rw [show nI (4 * k) + 2 = nI (4 * k + 2) from nI_add _ 2]; exact zlit (4 * k + 2) L (by omega) (by omega)
  have z3 : zin (nI (4 * k) + 3) L := by rw [show nI (4 * k) + 3 = nI (4 * k + 3) from nI_add _ 3]; exact zlit (4 * k + 3) L (by omega) (by omega)
  have hlt : ¬ Int32.ofNat L - 4 < nI (4 * k) := fun z => by
    have h1 := i_lt.mp z
    have h4 : (4 : Int32).toInt = 4 := rfl
    have hl : (Int32.ofNat L).toInt = L := i_nI (show L < 2147483648 by omega)
    rw [i_sub (by rw [hl, h4]; omega), hl, h4, i_nI (by omega)] at h1
    omega
  unfold lstep
  rw [if_neg hlt, zc_pos z0, zl_eq]
  generalize nI (4 * k) = l3 at *
  generalize xs l3.toNatClampNeg &&& 31 = v
  by_cases h0 : v = 0
  · rw [if_pos h0]
    unfold lc_0
    simp only [zc_pos z1, zc_pos z2]
    exact fin_call (OKC.t (o_feed _)) hk5 hI l3
  rw [if_neg h0]
  by_cases h1 : v = 1
  · rw [if_pos h1]
    unfold lc_1
    simp only [zc_pos z1]
    exact fin_call (OKC.t (o_end _)) hk5 hI l3
  rw [if_neg h1]
  by_cases h2 : v = 2
  · rw [if_pos h2]
    unfold lc_2
    exact fin_call o_text hk5 hI l3
  rw [if_neg h2]
  by_cases h3 : v = 3
  · rw [if_pos h3]
    unfold lc_3
    exact fin_call (OKC.t o_fault) hk5 hI l3
  rw [if_neg h3]
  by_cases h4 : v = 4
  · rw [if_pos h4]
    unfold lc_4
    simp only [zc_pos z1]
    exact fin_call (OKC.t (o_rule _)) hk5 hI l3
  rw [if_neg h4]
  by_cases h5 : v = 5
  · rw [if_pos h5]
    unfold lc_5
    simp only [zc_pos z1]
    exact fin_call (OKC.t (o_slug _)) hk5 hI l3
  rw [if_neg h5]
  by_cases h6 : v = 6
  · rw [if_pos h6]
    unfold lc_6
    simp only [zc_pos z1]
    exact fin_call (OKC.t (o_holes _)) hk5 hI l3
  rw [if_neg h6]
  by_cases h7 : v = 7
  · rw [if_pos h7]
    unfold lc_7
    simp only [zc_pos z1, zc_pos z2]
    exact fin_call (OKC.t (o_order _ _)) hk5 hI l3
  rw [if_neg h7]
  by_cases h8 : v = 8
  · rw [if_pos h8]
    unfold lc_8
    simp only [zc_pos z1, zc_pos z2]
    exact fin_call (OKC.t (o_faces _ _)) hk5 hI l3
  rw [if_neg h8]
  by_cases h9 : v = 9
  · rw [if_pos h9]
    unfold lc_9
    simp only [zc_pos z1, zc_pos z2, zc_pos z3]
    exact fin_call (OKC.t (o_comes _ _ _)) hk5 hI l3
  rw [if_neg h9]
  by_cases h10 : v = 10
  · rw [if_pos h10]
    unfold lc_10
    simp only [zc_pos z1, zc_pos z2, zc_pos z3]
    exact fin_call (OKC.t (o_late _ _ _)) hk5 hI l3
  rw [if_neg h10]
  by_cases h11 : v = 11
  · rw [if_pos h11]
    unfold lc_11
    simp only [zc_pos z1, zc_pos z2]
    exact fin_call (OKC.t (o_put _ _)) hk5 hI l3
  rw [if_neg h11]
  by_cases h12 : v = 12
  · rw [if_pos h12]
    unfold lc_12
    simp only [zc_pos z1]
    exact fin_call (OKC.t (o_line _)) hk5 hI l3
  rw [if_neg h12]
  by_cases h13 : v = 13
  · rw [if_pos h13]
    unfold lc_13
    simp only [zc_pos z1]
    exact fin_call (OKC.t (o_ticks _)) hk5 hI l3
  rw [if_neg h13]
  by_cases h14 : v = 14
  · rw [if_pos h14]
    unfold lc_14
    exact fin_call (OKC.t o_go) hk5 hI l3
  rw [if_neg h14]
  by_cases h15 : v = 15
  · rw [if_pos h15]
    unfold lc_15
    simp only [zc_pos z1]
    exact fin_call (OKC.t (o_struck _)) hk5 hI l3
  rw [if_neg h15]
  by_cases h16 : v = 16
  · rw [if_pos h16]
    unfold lc_16
    simp only [zc_pos z1, zc_pos z2]
    exact fin_call (OKC.t (o_slipped _ _)) hk5 hI l3
  rw [if_neg h16]
  by_cases h17 : v = 17
  · rw [if_pos h17]
    unfold lc_17
    simp only [zc_pos z1, zc_pos z2]
    exact fin_call (OKC.t (o_seen _ _)) hk5 hI l3
  rw [if_neg h17]
  by_cases h18 : v = 18
  · rw [if_pos h18]
    unfold lc_18
    simp only [zc_pos z1]
    exact fin_call (OKC.t (o_slips _)) hk5 hI l3
  rw [if_neg h18]
  by_cases h19 : v = 19
  · rw [if_pos h19]
    unfold lc_19
    simp only [zc_pos z1]
    exact fin_call (OKC.t (o_space _)) hk5 hI l3
  rw [if_neg h19]
  by_cases h20 : v = 20
  · rw [if_pos h20]
    unfold lc_20
    simp only [zc_pos z1]
    exact fin_call (OKC.t (o_skip _)) hk5 hI l3
  rw [if_neg h20]
  by_cases h21 : v = 21
  · rw [if_pos h21]
    unfold lc_21
    simp only [zc_pos z1]
    exact fin_call (OKC.t (o_now _)) hk5 hI l3
  rw [if_neg h21]
  by_cases h22 : v = 22
  · rw [if_pos h22]
    unfold lc_22
    simp only [zc_pos z1, zc_pos z2, zc_pos z3]
    exact fin_call (OKC.t (o_page _ _ _)) hk5 hI l3
  rw [if_neg h22]
  by_cases h23 : v = 23
  · rw [if_pos h23]
    unfold lc_23
    exact fin_call (OKC.t o_run) hk5 hI l3
  rw [if_neg h23]
  by_cases h24 : v = 24
  · rw [if_pos h24]
    unfold lc_24
    simp only [zc_pos z1]
    exact fin_call (OKC.t (o_ran _)) hk5 hI l3
  rw [if_neg h24]
  by_cases h25 : v = 25
  · rw [if_pos h25]
    unfold lc_25
    simp only [zc_pos z1]
    exact fin_call (o_best _) hk5 hI l3
  rw [if_neg h25]
  by_cases h26 : v = 26
  · rw [if_pos h26]
    unfold lc_26
    simp only [zc_pos z1]
    exact fin_call (o_twice _) hk5 hI l3
  rw [if_neg h26]
  by_cases h27 : v = 27
  · rw [if_pos h27]
    unfold lc_27
    simp only [zc_pos z1, zc_pos z2, zc_pos z3]
    exact fin_call (OKC.t (o_sheet _ _ _)) hk5 hI l3
  rw [if_neg h27]
  by_cases h28 : v = 28
  · rw [if_pos h28]
    unfold lc_28
    simp only [zc_pos z1, zc_pos z2, zc_pos z3]
    exact fin_call (OKC.t (o_lay _ _ _)) hk5 hI l3
  rw [if_neg h28]
  by_cases h29 : v = 29
  · rw [if_pos h29]
    unfold lc_29
    simp only [zc_pos z1, zc_pos z2, zc_pos z3]
    exact fin_call (OKC.t (o_read _ _ _)) hk5 hI l3
  rw [if_neg h29]
  by_cases h30 : v = 30
  · rw [if_pos h30]
    unfold lc_30
    simp only [zc_pos z1]
    exact fin_call (OKC.t (o_count _)) hk5 hI l3
  rw [if_neg h30]
  obtain ⟨σ, r, w1, w2, w3, w4⟩ := hI
  exact ⟨g, rfl, σ, r, w1.next, w2, w3, w4⟩
theorem law_ok_proof : law_ok := by
  intro L xs sz g hL hsz
  obtain ⟨g1, a1, a2, a3, a4⟩ := i_class hsz g
  obtain ⟨B, b1, b2, b3, b4⟩ := zzx (g := g1) (a := sz + 53)
  obtain ⟨g2, c1, c2, c3⟩ := i_ref (M := sz + 53) b3
  have cf : cF (fun x => sz + 53 ≤ x) g1 g2 := (b2.mono (fun x hx => by omega)).trans c2
  have hT : TI (zR σ0) sz g2 := ⟨Or.inl (by rw [(cf (sz + 38) (by omega)).1]; exact a3), Or.inl (by rw [(cf (sz + 38) (by omega)).1]; exact a4)⟩
  have hI0 : INV sz 0 g2 := ⟨σ0, sz + 1, σ0_v, a2.up cf, c3, hT⟩
  obtain ⟨r, e1, e2⟩ := zw_run (step := fun s : Int32 × zG => lstep L xs sz s.1 s.2) (fun k s => s.1 = nI (4 * k) ∧ INV sz k s.2) (fun r => r.1 = 1) (L / 4) (fun k s hk hs => by
    obtain ⟨s1, s2⟩ := s
    obtain ⟨h1, h2⟩ := hs
    left
    have h1 : s1 = nI (4 * k) := h1
    subst h1
    obtain ⟨g', q1, q2⟩ := step_ok (xs := xs) hL (show 4 * k + 4 ≤ L by omega) h2
    exact ⟨_, q1, (show nI (4 * k) + 4 = nI (4 * (k + 1)) from nI_add _ 4), q2⟩) (fun s hs => by
    obtain ⟨s1, s2⟩ := s
    obtain ⟨h1, h2⟩ := hs
    have h1 : s1 = nI (4 * (L / 4)) := h1
    subst h1
    refine ⟨(1, s2), ?_, rfl⟩
    show lstep L xs sz (nI (4 * (L / 4))) s2 = _
    unfold lstep
    rw [if_pos (i_lt.mpr (by
      have h4 : (4 : Int32).toInt = 4 := rfl
      have hl : (Int32.ofNat L).toInt = L := i_nI (show L < 2147483648 by omega)
      rw [i_sub (by rw [hl, h4]; omega), hl, h4, i_nI (by omega)]
      omega))]) (L / 4) 0 zN (0, g2) (by omega) (by have := zN_big; omega) ⟨rfl, hI0⟩
  refine ⟨r.2, ?_⟩
  unfold f_law
  rw [a1, zb_some, b1.e, show f_X10_init (sz + 54) (sz + 53) B = _ from c1, zb_some, e1]
  rw [show r = (1, r.2) from Prod.ext e2 rfl]
end LOK
