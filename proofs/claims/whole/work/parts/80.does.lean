-- ===== a line struck by either printer, in both =====
section DO
variable {b : Bool} {ρ : aR} {n : Nat} {ch : Nat → Nat}
theorem adr.ca {X a r ca : Nat} {g : zG} (ha : adr b X a r ca) (h1 : rX X g) : g.2.1 ca 0 = ca + 1 := by
  rcases ha.2 with ⟨-, -, hc⟩ | ⟨-, -, hc⟩
  · rcases ha.1 with hr | hr
    · rw [hc, hr]; exact h1.1.2.2.2.2.1
    · rw [hc, hr]; exact h1.2.1.2.2.2.2.1
  · rw [hc]; unfold rX at h1; simp only [h1]
theorem go_line {X a r ca : Nat} {g : zG} {π : aJ} (ha : adr b X a r ca) (hv : vR ρ) (hch : vCh n (aV ρ 1) (aV ρ 2) ch) (hl : vLn ρ (pLn π)) (hon : ∀ c, c < aV ρ 3 → pLn π c ≠ 0 → ∃ i, i < n ∧ ch i = pLn π c) (hB : PCb ρ n ch X a r ca g) (hV : PCv b ρ π X a g) : cLine n (aV ρ 1) (aV ρ 2) (aV ρ 3) (a + 2) (a + 1) ca ch (pLn π) g := by
  have hp := ha.p hB.1
  have hca := ha.ca hB.1
  have b3 := hv.2.2.2.2.1
  have hadr := ha
  unfold adr at hadr
  exact ⟨⟨hp.2.2.1, hp.2.2.2.1, hp.2.2.2.2.1, hp.2.2.2.2.2.1⟩, hch, hB.2.2.2, by omega, fun c hc => ⟨hV.1 c (by omega), (hl c (by omega)).1⟩, hon, by omega, by omega, by rw [hca]; omega⟩
theorem go_mline {M : Nat} {g : zG} {π : aJ} (hv : vR ρ) (hch : vCh n (aV ρ 1) (aV ρ 2) ch) (hl : vLn ρ (pLn π)) (hB : PMb ρ n ch M g) (hV : PMv b ρ π M g) : mLine n (aV ρ 1) (aV ρ 2) (aV ρ 3) M ch (pLn π) g := by
  have b3 := hv.2.2.2.2.1
  exact ⟨hB.1, hch, hB.2.2, hB.val (by omega) (by omega), by omega, fun c hc => ⟨hV.1 c (by omega), (hl c (by omega)).1⟩⟩
theorem goJ_v {Bt Bp By : Nat} {π : aJ} (hJ : vJ b ρ Bt Bp By π) {e m : Nat} {A : Nat → Option Nat} {W : Nat → Bool} (he : e ≤ Bt + 11520) (hA : ∀ c t, A c = some t → t < e ∧ pLn π c ≠ 0 ∧ (c * aV ρ 2 + t) % aV ρ 1 = 0) : vJ b ρ (Bt + 12740) (Bp + 9) (By + 1) (goJ π e A W m) := by
  refine ⟨fun c hc => ⟨Nat.zero_le _, fun _ => rfl⟩, hJ.2.1, by show e ≤ _; omega, fun hb => ⟨by have := (hJ.2.2.2 hb).1; show pPs π ≤ _; omega, mkY_v (fun c hc => (hJ.1 c hc).1) (hJ.2.2.2 hb).2.1, fun _ c hc => ⟨?_, Or.inl rfl⟩⟩⟩
  show enc (A c) = -4 ∨ ∃ t, t ≤ Bt + 12740 ∧ enc (A c) = nI t ∧ _
  cases h : A c with
  | none => exact Or.inl rfl
  | some t =>
    obtain ⟨t1, t2, t3⟩ := hA c t h
    exact Or.inr ⟨t, by omega, rfl, t3⟩
theorem add_b0 (x : Int32) : x + 0 = x := by simp
theorem go_two (hv : vR ρ) (hch : vCh n (aV ρ 1) (aV ρ 2) ch) (hn : b = true → n = aN ρ) {Bt Bp By : Nat} {π : aJ} (hJ : vJ b ρ Bt Bp By π) (hBt : Bt < 1800000000) : ∃ (ok : Bool) (t : Nat) (π' : aJ), ((ok = true ↔ ∀ c, c < aV ρ 3 → pLn π c ≠ 0 → ∃ i, i < n ∧ ch i = pLn π c) ∧ pRw π' = pRw π ∧ (ok = true → pLn π' = fun _ => 0)) ∧ vJ b ρ (Bt + 12740) (Bp + 9) (By + 1) π' ∧ t < 2147483648 ∧ pLs π' = pLs π + bI ok ∧ (∀ X a r ca g, adr b X a r ca → PCb ρ n ch X a r ca g → PCv b ρ π X a g → ∃ g', f_X2_strikeLine a g = some (if ok = true then nI t else -2, g') ∧ frm (SC b X a) g g' ∧ PCv b ρ π' X a g') ∧ ∀ M g, PMb ρ n ch M g → PMv b ρ π M g → f_X10_canGo M g = some (bI ok, g) ∧ (ok = false → π' = π) ∧ (ok = true → b = true → ∃ g', f_X10_goes M g = some (nI t, g') ∧ mKp b M g g' ∧ PMv b ρ π' M g') ∧ (ok = true → b = false → ∃ g1 g', f_X10_strikes M (nI (aV ρ 4)) g = some (nI t, g1) ∧ zw zN (fun s => l_X10_does_60 M s.1 s.2) (0, zsi g1 M 34 (g.1 M 34 + nI t)) = some g' ∧ mKp b M g g' ∧ PMv b ρ π' M g') := by
  have b3 := hv.2.2.2.2.1
  have b4 := hv.2.2.2.2.2.1
  have htk := hJ.2.2.1
  have hin : ∀ c, c < 40 → pLn π c ≠ 0 → c < aV ρ 3 := fun c c1 c2 => by
    rcases Nat.lt_or_ge c (aV ρ 3) with h | h
    · exact h
    · exact absurd ((hJ.1 c c1).2 h) c2
  by_cases hall : ∀ c, c < aV ρ 3 → pLn π c ≠ 0 → ∃ i, i < n ∧ ch i = pLn π c
  · obtain ⟨e, A, W, m, ⟨e1, e2⟩, hA2, hA1, hm, hW, hC, hMM⟩ := strike_both hch (show aV ρ 3 ≤ 40 by omega) b4 hall (show pTk π < 1890000000 by omega)
    refine ⟨true, e - pTk π, goJ π e A W m, ⟨⟨fun _ => hall, fun _ => rfl⟩, rfl, fun _ => rfl⟩, goJ_v hJ (by omega) hA1, by omega, rfl, fun X a r ca g ha hB hV => ?_, fun M g hB hV => ?_⟩
    · obtain ⟨g1, h1, h2⟩ := hC (a + 2) (a + 1) ca g (go_line ha hv hch hJ.1 hall hB hV)
      have hcan : f_X2_canStrike a g = some (1, g) := by
        rcases q_canStrike hch hB.2.1.2 hB.2.2.2 (ln := pLn π) (fun c hc => ⟨by rw [(ha.p hB.1).1]; exact hV.1 c hc, (hJ.1 c hc).1⟩) with h | ⟨⟨c, c1, c2, c3⟩, -⟩
        · exact h.2
        · exact absurd (hall c (hin c c1 c2) c2) c3
      exact q_strikeLine ha hv hJ e1 hW hB hV hcan h1 h2
    · have hL := go_mline hv hch hJ.1 hB hV
      have hcan : f_X10_canGo M g = some (1, g) := by
        rcases m_canGo hL with h | ⟨⟨c, c1, c2, c3⟩, -⟩
        · exact h.2
        · exact absurd (hall c c1 c2) c3
      obtain ⟨g1, h1, h2⟩ := hMM M g hL hV.2.1.1
      refine ⟨hcan, fun z => (by cases z), fun _ hb => ?_, fun _ hb => ?_⟩
      · subst hb
        exact m_goes hv hJ e1 hW (fun c t h => ⟨by have := (hA1 c t h).1; omega, (hA1 c t h).2.1⟩) hA2 (hn rfl) hB hV h1 h2
      · have hM1 : rM M (zsi g1 M 34 (g.1 M 34 + nI (e - pTk π))) := hB.1.kept h2.1.1
        have fz := zfl_frm (zsi g1 M 34 (g.1 M 34 + nI (e - pTk π))) (M + 21) 0 (fun _ => (0 : Int32)) 40
        have ez : ∀ x, x ≠ M + 21 → (zfl (zsi g1 M 34 (g.1 M 34 + nI (e - pTk π))) (M + 21) 0 (fun _ => 0) 40).1 x = (zsi g1 M 34 (g.1 M 34 + nI (e - pTk π))).1 x := fun x hx => (fz.2 x hx).1
        refine ⟨g1, _, h1, m_clear hM1, ⟨((h2.1.mono (fun x hx => by unfold SM; omega)).trans (frm.si (Or.inl rfl))).trans (fz.mono (fun x hx => by unfold SM; omega)), fun j hj => ?_⟩, ?_, ⟨?_, ?_⟩, fun z => by rw [hb] at z; cases z⟩
        · rw [ez M (by omega), zsi_get (fun e => hj (by unfold mFd; omega)), h2.2.1 j (fun e => hj (by unfold mFd; omega))]
        · intro c hc
          rw [zfl_get, if_pos (by omega)]; rfl
        · rw [ez M (by omega), zsi_same, hV.2.1.1, nI_add, show pTk π + (e - pTk π) = e by omega]; rfl
        · rw [ez M (by omega), zsi_get (by omega), h2.2.1 35 (by omega)]; exact hV.2.1.2
  · have hex : ∃ c, c < aV ρ 3 ∧ pLn π c ≠ 0 ∧ ¬ ∃ i, i < n ∧ ch i = pLn π c := Classical.byContradiction (fun hn => hall (fun c hc h0 => Classical.byContradiction (fun ho => hn ⟨c, hc, h0, ho⟩)))
    obtain ⟨c, c1, c2, c3⟩ := hex
    refine ⟨false, 0, π, ⟨⟨fun z => (by cases z), fun z => absurd z hall⟩, rfl, fun z => (by cases z)⟩, hJ.le (by omega) (by omega) (by omega), by omega, (add_b0 _).symm, fun X a r ca g ha hB hV => ⟨g, ?_, frm.refl _ _, hV⟩, fun M g hB hV => ⟨?_, fun _ => rfl, fun z => (by cases z), fun z => by cases z⟩⟩
    · have hcan : f_X2_canStrike a g = some (0, g) := by
        rcases q_canStrike hch hB.2.1.2 hB.2.2.2 (ln := pLn π) (fun c hc => ⟨by rw [(ha.p hB.1).1]; exact hV.1 c hc, (hJ.1 c hc).1⟩) with h | h
        · exact absurd (h.1 c (by omega) c2) c3
        · exact h.2
      unfold f_X2_strikeLine
      rw [hcan, zb_some, b0]
      rfl
    · rcases m_canGo (go_mline hv hch hJ.1 hB hV) with h | h
      · exact absurd (h.1 c c1 c2) c3
      · exact h.2
theorem go_both (hv : vR ρ) (hch : vCh n (aV ρ 1) (aV ρ 2) ch) (hn : b = true → n = aN ρ) {Bt Bp By : Nat} {π : aJ} (hJ : vJ b ρ Bt Bp By π) (hBt : Bt < 1800000000) : ∃ (ok : Bool) (t : Nat) (π' : aJ), vJ b ρ (Bt + 12740) (Bp + 9) (By + 1) π' ∧ t < 2147483648 ∧ pLs π' = pLs π + bI ok ∧ (∀ X a r ca g, adr b X a r ca → PCb ρ n ch X a r ca g → PCv b ρ π X a g → ∃ g', f_X2_strikeLine a g = some (if ok = true then nI t else -2, g') ∧ frm (SC b X a) g g' ∧ PCv b ρ π' X a g') ∧ ∀ M g, PMb ρ n ch M g → PMv b ρ π M g → f_X10_canGo M g = some (bI ok, g) ∧ (ok = false → π' = π) ∧ (ok = true → b = true → ∃ g', f_X10_goes M g = some (nI t, g') ∧ mKp b M g g' ∧ PMv b ρ π' M g') ∧ (ok = true → b = false → ∃ g1 g', f_X10_strikes M (nI (aV ρ 4)) g = some (nI t, g1) ∧ zw zN (fun s => l_X10_does_60 M s.1 s.2) (0, zsi g1 M 34 (g.1 M 34 + nI t)) = some g' ∧ mKp b M g g' ∧ PMv b ρ π' M g') := by
  obtain ⟨ok, t, π', -, h⟩ := go_two hv hch hn hJ hBt
  exact ⟨ok, t, π', h⟩
-- ===== letters of a put =====
def putJ (ρ : aR) (π : aJ) (k : Nat) : aJ := (fun c => if aU ρ k ≤ c ∧ c < aU ρ k + aY ρ k then aL ρ (aF ρ k + (c - aU ρ k)) else pLn π c, π.2)
theorem putJ_v {Bt Bp By : Nat} {π : aJ} (hv : vR ρ) (hJ : vJ b ρ Bt Bp By π) {k : Nat} (hk : k < aM ρ) (h0 : aA ρ k = 0) : vJ b ρ Bt Bp By (putJ ρ π k) := by
  obtain ⟨o1, o2, o3, o4, o5, o6, o7, o8⟩ := hv.2.2.2.2.2.2.2.2.2.2.2.2 k hk
  have o2 := o2 h0
  refine ⟨fun c hc => ?_, hJ.2⟩
  show (if aU ρ k ≤ c ∧ c < aU ρ k + aY ρ k then aL ρ (aF ρ k + (c - aU ρ k)) else pLn π c) ≤ 26 ∧ (_ → (if aU ρ k ≤ c ∧ c < aU ρ k + aY ρ k then aL ρ (aF ρ k + (c - aU ρ k)) else pLn π c) = 0)
  by_cases h : aU ρ k ≤ c ∧ c < aU ρ k + aY ρ k
  · rw [if_pos h]
    exact ⟨(o8 (c - aU ρ k) (by omega)).2, fun z => by omega⟩
  · rw [if_neg h]; exact hJ.1 c hc
theorem q_fill {X a r ca : Nat} {g : zG} {π : aJ} (ha : adr b X a r ca) (hv : vR ρ) {k : Nat} (hk : k < aM ρ) (h0 : aA ρ k = 0) (hB : PCb ρ n ch X a r ca g) (hV : PCv b ρ π X a g) : ∃ g', f_X2_fillLine a (r + 3) (nI k) g = some (0, g') ∧ frm (SC b X a) g g' ∧ PCv b ρ (putJ ρ π k) X a g' := by
  obtain ⟨o1, o2, o3, o4, o5, o6, o7, o8⟩ := hv.2.2.2.2.2.2.2.2.2.2.2.2 k hk
  have o2 := o2 h0
  have b3 := hv.2.2.2.2.1
  have hM := hv.2.2.2.2.2.2.2.2.2.2.2.1
  have hr := ha.ru hB.1
  have hp := ha.p hB.1
  obtain ⟨d1, d2, d3, d4, d5⟩ := hB.2.2.1.2.2.2.1 k hk
  have hadr := ha
  unfold adr at hadr
  have hk24 := zlit k 24 (by omega) (by omega)
  have hkc := nI_cl (show k < 2147483648 by omega)
  have fz := zfl_frm g (a + 1) (aU ρ k) (fun i => nI (aL ρ (aF ρ k + i))) (aY ρ k)
  have ez : ∀ x, x ≠ a + 1 → (zfl g (a + 1) (aU ρ k) (fun i => nI (aL ρ (aF ρ k + i))) (aY ρ k)).1 x = g.1 x := fun x hx => (fz.2 x hx).1
  refine ⟨zfl g (a + 1) (aU ρ k) (fun i => nI (aL ρ (aF ρ k + i))) (aY ρ k), ?_, fz.mono (fun x hx => by unfold SC; omega), ?_, ?_, ?_⟩
  · unfold f_X2_fillLine
    simp only [zc_pos hk24, hkc, zl_eq]
    rw [hr.2.2.2.2.2.2.1, d2, hr.2.2.2.2.2.2.2.2.1, d4, show (40 : Int32) = nI 40 from rfl, pk_sub (show aU ρ k ≤ 40 by omega), zmin_n (by omega) (by omega), show min (aY ρ k) (40 - aU ρ k) = aY ρ k by omega]
    have hz := zw_seq (step := fun s : Int32 × zG => l_X2_fillLine_25 a (r + 3) (nI k) (nI (aU ρ k)) (nI (aY ρ k)) s.1 s.2) (fun i => (nI i, zfl g (a + 1) (aU ρ k) (fun i => nI (aL ρ (aF ρ k + i))) i)) (zfl g (a + 1) (aU ρ k) (fun i => nI (aL ρ (aF ρ k + i))) (aY ρ k)) (aY ρ k) (fun i hi => ?_) ?_ (N := zN) (by have := zN_big; omega)
    · rw [show ((0, g) : Int32 × zG) = (nI 0, zfl g (a + 1) (aU ρ k) (fun i => nI (aL ρ (aF ρ k + i))) 0) from rfl, hz, zk_some]
      rfl
    · show l_X2_fillLine_25 a (r + 3) (nI k) (nI (aU ρ k)) (nI (aY ρ k)) (nI i) _ = _
      unfold l_X2_fillLine_25 f_X3_letterOf
      rw [if_neg (fun e => by have := (nle (by omega) (by omega)).mp e; omega)]
      simp only [zc_pos hk24, hkc]
      rw [zfl_r, hr.2.2.2.2.2.2.2.1, zfl_at _ _ _ _ _ (show r + 6 ≠ a + 1 by omega), d3, nI_add, zc_pos (zlit (aF ρ k + i) 240 (by omega) (by omega)), nI_cl (by omega), hr.2.2.2.2.2.2.2.2.2, zfl_at _ _ _ _ _ (show r + 8 ≠ a + 1 by omega), d5 i hi, zb_some, nI_add, zc_pos (zlit (aU ρ k + i) 40 (by omega) (by omega)), zl_eq, zl_eq, hp.1, nI_1, nI_cl (by omega)]
      rfl
    · show l_X2_fillLine_25 a (r + 3) (nI k) (nI (aU ρ k)) (nI (aY ρ k)) (nI (aY ρ k)) _ = _
      unfold l_X2_fillLine_25
      rw [if_pos ((nle (by omega) (by omega)).mpr (Nat.le_refl _))]
  · intro c hc
    rw [zfl_get]
    show _ = nI (if aU ρ k ≤ c ∧ c < aU ρ k + aY ρ k then aL ρ (aF ρ k + (c - aU ρ k)) else pLn π c)
    by_cases h : aU ρ k ≤ c ∧ c < aU ρ k + aY ρ k
    · rw [if_pos h, if_pos h]
    · rw [if_neg h, if_neg h]; exact hV.1 c hc
  · rw [ez a (by omega)]; exact hV.2.1
  · intro hb
    rw [ez a (by omega), ez (X + 29) (by omega), ez (X + 30) (by omega), ez (a + 2) (by omega), ez (a + 3) (by omega), ez (a + 4) (by omega), zfl_r]
    obtain ⟨w1, w2, w3⟩ := hV.2.2 hb
    exact ⟨w1, w2, w3.kept⟩
theorem m_puts {M : Nat} {g : zG} {π : aJ} (hv : vR ρ) {k : Nat} (hk : k < aM ρ) (h0 : aA ρ k = 0) (hB : PMb ρ n ch M g) (hV : PMv b ρ π M g) : ∃ g', f_X10_puts M (nI k) g = some (0, g') ∧ mKp b M g g' ∧ PMv b ρ (putJ ρ π k) M g' := by
  obtain ⟨o1, o2, o3, o4, o5, o6, o7, o8⟩ := hv.2.2.2.2.2.2.2.2.2.2.2.2 k hk
  have o2 := o2 h0
  have b3 := hv.2.2.2.2.1
  have hM := hv.2.2.2.2.2.2.2.2.2.2.2.1
  obtain ⟨d1, d2, d3, d4, d5⟩ := hB.2.1.2.1 k hk
  have hR := hB.1
  have e6 : g.2.1 M 6 = M + 5 := by unfold rM at hR; simp only [hR]
  have e7 : g.2.1 M 7 = M + 6 := by unfold rM at hR; simp only [hR]
  have e8 : g.2.1 M 8 = M + 7 := by unfold rM at hR; simp only [hR]
  have e9 : g.2.1 M 9 = M + 8 := by unfold rM at hR; simp only [hR]
  have hk24 := zlit k 24 (by omega) (by omega)
  have hkc := nI_cl (show k < 2147483648 by omega)
  have fz := zfl_frm g (M + 21) (aU ρ k) (fun i => nI (aL ρ (aF ρ k + i))) (aY ρ k)
  have ez : ∀ x, x ≠ M + 21 → (zfl g (M + 21) (aU ρ k) (fun i => nI (aL ρ (aF ρ k + i))) (aY ρ k)).1 x = g.1 x := fun x hx => (fz.2 x hx).1
  refine ⟨zfl g (M + 21) (aU ρ k) (fun i => nI (aL ρ (aF ρ k + i))) (aY ρ k), ?_, ⟨fz.mono (fun x hx => by unfold SM; omega), fun j _ => by rw [ez M (by omega)]⟩, ?_, ?_, ?_⟩
  · unfold f_X10_puts
    have hz := zw_seq (step := fun s : Int32 × zG => l_X10_puts_2 M (nI k) s.1 s.2) (fun i => (nI i, zfl g (M + 21) (aU ρ k) (fun i => nI (aL ρ (aF ρ k + i))) i)) (zfl g (M + 21) (aU ρ k) (fun i => nI (aL ρ (aF ρ k + i))) (aY ρ k)) (aY ρ k) (fun i hi => ?_) ?_ (N := zN) (by have := zN_big; omega)
    · rw [show ((0, g) : Int32 × zG) = (nI 0, zfl g (M + 21) (aU ρ k) (fun i => nI (aL ρ (aF ρ k + i))) 0) from rfl, hz, zk_some]
      rfl
    · show l_X10_puts_2 M (nI k) (nI i) _ = _
      unfold l_X10_puts_2
      simp only [zc_pos hk24, hkc, zl_eq]
      rw [zfl_r, e6, e7, e8, e9, hR.li, zfl_at _ _ _ _ _ (show M + 7 ≠ M + 21 by omega), d4, if_neg (fun e => by have := (nle (by omega) (by omega)).mp e; omega), zfl_at _ _ _ _ _ (show M + 6 ≠ M + 21 by omega), d3, zfl_at _ _ _ _ _ (show M + 5 ≠ M + 21 by omega), d2, nI_add, nI_add, zc_pos (zlit (aF ρ k + i) 240 (by omega) (by omega)), zc_pos (zlit (aU ρ k + i) 40 (by omega) (by omega)), nI_cl (by omega), nI_cl (by omega), zfl_at _ _ _ _ _ (show M + 8 ≠ M + 21 by omega), d5 i hi, nI_1]
      rfl
    · show l_X10_puts_2 M (nI k) (nI (aY ρ k)) _ = _
      unfold l_X10_puts_2
      simp only [zc_pos hk24, hkc]
      rw [zfl_r, e8, zfl_at _ _ _ _ _ (show M + 7 ≠ M + 21 by omega), d4, if_pos ((nle (by omega) (by omega)).mpr (Nat.le_refl _))]
  · intro c hc
    rw [zfl_get]
    show _ = nI (if aU ρ k ≤ c ∧ c < aU ρ k + aY ρ k then aL ρ (aF ρ k + (c - aU ρ k)) else pLn π c)
    by_cases h : aU ρ k ≤ c ∧ c < aU ρ k + aY ρ k
    · rw [if_pos h, if_pos h]
    · rw [if_neg h, if_neg h]; exact hV.1 c hc
  · rw [ez M (by omega)]; exact hV.2.1
  · intro hb
    rw [ez M (by omega), ez (M + 22) (by omega), ez (M + 23) (by omega), ez (M + 27) (by omega), ez (M + 28) (by omega), ez (M + 29) (by omega)]
    exact hV.2.2 hb
-- ===== to a hole, told of all =====
/-- the first hole behind a row; none -/
def frH (ρ : aR) (w c k : Nat) : Prop := (1 ≤ k ∧ k ≤ aV ρ 7) ∧ (aH ρ ((w + k) % aV ρ 7)).testBit c = true ∧ ∀ j, 1 ≤ j → j < k → ¬ (aH ρ ((w + j) % aV ρ 7)).testBit c = true
def noH (ρ : aR) (w c : Nat) : Prop := ∀ j, 1 ≤ j → j ≤ aV ρ 7 → ¬ (aH ρ ((w + j) % aV ρ 7)).testBit c = true
theorem rows_two (b : Bool) {ρ : aR} {n : Nat} {ch : Nat → Nat} (hv : vR ρ) {w c : Nat} (hw : w < aV ρ 7) (hc : c < 8) : (∃ k, frH ρ w c k ∧ (1 ≤ k ∧ k ≤ aV ρ 7) ∧ (∀ X a r ca g, adr b X a r ca → PCb ρ n ch X a r ca g → f_X5_rowsToHole r (nI w) (nI c) g = some (nI k, g)) ∧ ∀ M g, PMb ρ n ch M g → g.1 M 35 = nI w → f_X10_toHole M (nI c) g = some (nI k, g)) ∨ (noH ρ w c ∧ (∀ X a r ca g, adr b X a r ca → PCb ρ n ch X a r ca g → f_X5_rowsToHole r (nI w) (nI c) g = some (-4, g)) ∧ ∀ M g, PMb ρ n ch M g → g.1 M 35 = nI w → f_X10_toHole M (nI c) g = some (-4, g)) := by
  have b7 := hv.2.2.2.2.2.2.2.2.1
  have bh := hv.2.2.2.2.2.2.2.2.2.1
  have turnC : ∀ X a r ca g, adr b X a r ca → PCb ρ n ch X a r ca g → ∀ k, 1 ≤ k → k ≤ aV ρ 7 → l_X5_rowsToHole_14 r (nI c) (nI (aV ρ 7)) g (nI ((w + (k - 1)) % aV ρ 7)) (nI k) = if (aH ρ ((w + k) % aV ρ 7)).testBit c then some (.inr (.inl (nI k))) else some (.inl (nI ((w + k) % aV ρ 7), nI (k + 1))) := by
    intro X a r ca g ha hB k k1 k2
    have hr := ha.ru hB.1
    have hmod := Nat.mod_lt (w + (k - 1)) (show 0 < aV ρ 7 by omega)
    have hmod2 := Nat.mod_lt (w + k) (show 0 < aV ρ 7 by omega)
    have ej : j_X5_rowsToHole_36_14 r (nI c) (nI (aV ρ 7)) (nI k) (nI ((w + k) % aV ρ 7)) g = if (aH ρ ((w + k) % aV ρ 7)).testBit c then some (.inr (.inl (nI k))) else some (.inl (nI ((w + k) % aV ρ 7), nI (k + 1))) := by
      unfold j_X5_rowsToHole_36_14
      have := bh ((w + k) % aV ρ 7)
      rw [zc_pos (zlit _ 60 (by omega) (by omega)), nI_cl (by omega), hr.2.2.2.1, hB.2.2.1.2.2.2.2.2 _ (by omega), zbit (by omega) (by omega), zl_eq, nI_1]
      cases h : (aH ρ ((w + k) % aV ρ 7)).testBit c with
      | true => rfl
      | false => rfl
    unfold l_X5_rowsToHole_14
    rw [if_neg (fun e => by have := (nlt (by omega) (by omega)).mp e; omega), nI_1]
    rcases mod_s (R := aV ρ 7) (w := w + (k - 1)) (by omega) with ⟨m1, m2, m3⟩ | ⟨m1, m2, m3⟩
    · rw [show w + (k - 1) + 1 = w + k by omega] at m1
      rw [if_pos ((nle (by omega) (by omega)).mpr (by omega)), show (0 : Int32) = nI ((w + k) % aV ρ 7) by rw [m1]; rfl, ej]
    · rw [show w + (k - 1) + 1 = w + k by omega] at m1
      rw [if_neg (fun e => by have := (nle (by omega) (by omega)).mp e; omega), ← m1, ej]
  have turnM : ∀ M g, PMb ρ n ch M g → g.1 M 35 = nI w → ∀ k, 1 ≤ k → k ≤ aV ρ 7 → l_X10_toHole_2 M (nI c) g (nI k) = if (aH ρ ((w + k) % aV ρ 7)).testBit c then some (.inr (.inl (nI k))) else some (.inl (nI (k + 1))) := by
    intro M g hB h35 k k1 k2
    have hM := hB.1
    have hmod2 := Nat.mod_lt (w + k) (show 0 < aV ρ 7 by omega)
    have := bh ((w + k) % aV ρ 7)
    unfold l_X10_toHole_2
    simp only [zc_pos (show zin 7 8 by decide)]
    rw [hM.set, c7, hB.val (by omega) (by omega), h35, nI_add, zrem_nI (by omega) (by omega) (by omega), if_neg (fun e => by have := (nlt (by omega) (by omega)).mp e; omega), zc_pos (nz (by omega) (by omega)), zc_pos (zlit _ 60 (by omega) (by omega)), nI_cl (by omega), hM.ho, hB.2.1.2.2.2 _ (by omega), zbit (by omega) (by omega), zl_eq, nI_1]
    cases h : (aH ρ ((w + k) % aV ρ 7)).testBit c with
    | true => rfl
    | false => rfl
  have startC : ∀ X a r ca g, adr b X a r ca → PCb ρ n ch X a r ca g → ∀ x, zw zN (fun s => l_X5_rowsToHole_14 r (nI c) (nI (aV ρ 7)) g s.1 s.2) (nI ((w + 0) % aV ρ 7), nI 1) = some x → f_X5_rowsToHole r (nI w) (nI c) g = zk2 (some x) (fun x => j_X5_rowsToHole_52 r x g) := by
    intro X a r ca g ha hB x hx
    have hr := ha.ru hB.1
    unfold f_X5_rowsToHole
    rw [zc_pos (c := zin 7 8) (by decide), hr.2.2.1, c7, hB.2.2.1.val (by omega) (by omega), zl_eq]
    rw [Nat.add_zero, Nat.mod_eq_of_lt hw] at hx
    rw [show ((nI w, 1) : Int32 × Int32) = (nI w, nI 1) from rfl, hx]
  have startM : ∀ M g x, zw zN (fun s => l_X10_toHole_2 M (nI c) g s) (nI 1) = some x → f_X10_toHole M (nI c) g = zk2 (some x) (fun x => j_X10_toHole_40 M x g) := by
    intro M g x hx
    unfold f_X10_toHole
    rw [show (1 : Int32) = nI 1 from rfl, hx]
  by_cases hex : ∃ k, (1 ≤ k ∧ k ≤ aV ρ 7) ∧ (aH ρ ((w + k) % aV ρ 7)).testBit c = true
  · left
    obtain ⟨k, ⟨⟨k1, k2⟩, k3⟩, kl⟩ := pk_least _ hex
    have hno : ∀ j, 1 ≤ j → j < k → ¬ (aH ρ ((w + j) % aV ρ 7)).testBit c = true := fun j j1 j2 h => kl j j2 ⟨⟨j1, by omega⟩, h⟩
    refine ⟨k, ⟨⟨k1, k2⟩, k3, hno⟩, ⟨k1, k2⟩, fun X a r ca g ha hB => ?_, fun M g hB h35 => ?_⟩
    · rw [startC X a r ca g ha hB (.inl (nI k)) (zw_seq (step := fun s : Int32 × Int32 => l_X5_rowsToHole_14 r (nI c) (nI (aV ρ 7)) g s.1 s.2) (fun i => (nI ((w + i) % aV ρ 7), nI (i + 1))) (.inl (nI k)) (k - 1) (fun i hi => by
        have := turnC X a r ca g ha hB (i + 1) (by omega) (by omega)
        rw [show i + 1 - 1 = i by omega, if_neg (hno (i + 1) (by omega) (by omega))] at this
        exact this) (by
        have := turnC X a r ca g ha hB k k1 k2
        rw [if_pos k3] at this
        show l_X5_rowsToHole_14 r (nI c) (nI (aV ρ 7)) g (nI ((w + (k - 1)) % aV ρ 7)) (nI (k - 1 + 1)) = _
        rw [show k - 1 + 1 = k by omega]; exact this) (N := zN) (by have := zN_big; omega))]
      rfl
    · rw [startM M g (.inl (nI k)) (zw_seq (step := fun s : Int32 => l_X10_toHole_2 M (nI c) g s) (fun i => nI (i + 1)) (.inl (nI k)) (k - 1) (fun i hi => by
        have := turnM M g hB h35 (i + 1) (by omega) (by omega)
        rw [if_neg (hno (i + 1) (by omega) (by omega))] at this
        exact this) (by
        have := turnM M g hB h35 k k1 k2
        rw [if_pos k3] at this
        show l_X10_toHole_2 M (nI c) g (nI (k - 1 + 1)) = _
        rw [show k - 1 + 1 = k by omega]; exact this) (N := zN) (by have := zN_big; omega))]
      rfl
  · right
    have hno : ∀ j, 1 ≤ j → j ≤ aV ρ 7 → ¬ (aH ρ ((w + j) % aV ρ 7)).testBit c = true := fun j j1 j2 h => hex ⟨j, ⟨j1, j2⟩, h⟩
    refine ⟨hno, fun X a r ca g ha hB => ?_, fun M g hB h35 => ?_⟩
    · rw [startC X a r ca g ha hB (.inr (-4, g)) (zw_seq (step := fun s : Int32 × Int32 => l_X5_rowsToHole_14 r (nI c) (nI (aV ρ 7)) g s.1 s.2) (fun i => (nI ((w + i) % aV ρ 7), nI (i + 1))) (.inr (-4, g)) (aV ρ 7) (fun i hi => by
        have := turnC X a r ca g ha hB (i + 1) (by omega) (by omega)
        rw [show i + 1 - 1 = i by omega, if_neg (hno (i + 1) (by omega) (by omega))] at this
        exact this) (by
        show l_X5_rowsToHole_14 r (nI c) (nI (aV ρ 7)) g (nI ((w + aV ρ 7) % aV ρ 7)) (nI (aV ρ 7 + 1)) = _
        unfold l_X5_rowsToHole_14
        rw [if_pos ((nlt (by omega) (by omega)).mpr (by omega))]) (N := zN) (by have := zN_big; omega))]
      rfl
    · rw [startM M g (.inr (-4, g)) (zw_seq (step := fun s : Int32 => l_X10_toHole_2 M (nI c) g s) (fun i => nI (i + 1)) (.inr (-4, g)) (aV ρ 7) (fun i hi => by
        have := turnM M g hB h35 (i + 1) (by omega) (by omega)
        rw [if_neg (hno (i + 1) (by omega) (by omega))] at this
        exact this) (by
        show l_X10_toHole_2 M (nI c) g (nI (aV ρ 7 + 1)) = _
        unfold l_X10_toHole_2
        simp only [zc_pos (show zin 7 8 by decide)]
        rw [hB.1.set, c7, hB.val (by omega) (by omega), if_pos ((nlt (by omega) (by omega)).mpr (by omega))]) (N := zN) (by have := zN_big; omega))]
      rfl
theorem rows_all (b : Bool) {ρ : aR} {n : Nat} {ch : Nat → Nat} (hv : vR ρ) {w c : Nat} (hw : w < aV ρ 7) (hc : c < 8) : (∃ k, (1 ≤ k ∧ k ≤ aV ρ 7) ∧ (∀ X a r ca g, adr b X a r ca → PCb ρ n ch X a r ca g → f_X5_rowsToHole r (nI w) (nI c) g = some (nI k, g)) ∧ ∀ M g, PMb ρ n ch M g → g.1 M 35 = nI w → f_X10_toHole M (nI c) g = some (nI k, g)) ∨ ((∀ X a r ca g, adr b X a r ca → PCb ρ n ch X a r ca g → f_X5_rowsToHole r (nI w) (nI c) g = some (-4, g)) ∧ ∀ M g, PMb ρ n ch M g → g.1 M 35 = nI w → f_X10_toHole M (nI c) g = some (-4, g)) := by
  rcases rows_two b (n := n) (ch := ch) hv hw hc with ⟨k, -, h⟩ | ⟨-, h⟩
  · exact Or.inl ⟨k, h⟩
  · exact Or.inr h
theorem mv_lt (hv : vR ρ) {k : Nat} (hk : k ≤ 60) : (if k = 0 then 0 else aV ρ 5 + k * aV ρ 6) < 2147483648 := by
  have b5 := hv.2.2.2.2.2.2.1
  have b6 := hv.2.2.2.2.2.2.2.1
  have hmul : k * aV ρ 6 ≤ 60 * 20 := Nat.mul_le_mul hk b6.2
  split <;> omega
-- ===== one order =====
def Dok (b : Bool) (ρ : aR) (n : Nat) (ch : Nat → Nat) (k : Nat) (π : aJ) (ok : Bool) (π' : aJ) : Prop :=
  (∀ X a r ca g, adr b X a r ca → PCb ρ n ch X a r ca g → PCv b ρ π X a g → ∃ g', l_X2_runProgram_10 a (r + 3) (nI k) g = some (if ok = true then .inl (nI (k + 1), g') else .inr (.inl (nI k, g'))) ∧ frm (SC b X a) g g' ∧ PCv b ρ π' X a g') ∧
  ∀ M g, PMb ρ n ch M g → PMv b ρ π M g → ∃ g', f_X10_does M (nI k) (bT b) g = some (bI ok, g') ∧ mKp b M g g' ∧ PMv b ρ π' M g'
/-- an order, of line and row alone -/
def aStp (ρ : aR) (on : Nat → Prop) (k : Nat) (ln : Nat → Nat) (w : Nat) (ok : Bool) (ln' : Nat → Nat) (w' : Nat) : Prop :=
  (aA ρ k = 0 → ok = true ∧ w' = w ∧ ln' = fun c => if aU ρ k ≤ c ∧ c < aU ρ k + aY ρ k then aL ρ (aF ρ k + (c - aU ρ k)) else ln c) ∧
  (aA ρ k = 1 → (ok = true ↔ ∀ c, c < aV ρ 3 → ln c ≠ 0 → on (ln c)) ∧ w' = w ∧ (ok = true → ln' = fun _ => 0)) ∧
  (aA ρ k = 2 → ok = true ∧ w' = (w + aU ρ k) % aV ρ 7 ∧ ln' = ln) ∧
  (aA ρ k = 3 → ln' = ln ∧ ((ok = true ∧ ∃ j, frH ρ w (aU ρ k) j ∧ w' = (w + j) % aV ρ 7) ∨ (ok = false ∧ noH ρ w (aU ρ k))))
theorem mvJ_rw {π : aJ} (hw : pRw π < aV ρ 7) (k : Nat) : pRw (mvJ ρ π k) = (pRw π + k) % aV ρ 7 ∧ pLn (mvJ ρ π k) = pLn π := by
  unfold mvJ
  by_cases e : k = 0
  · rw [if_pos e, e, Nat.add_zero, Nat.mod_eq_of_lt hw]; exact ⟨rfl, rfl⟩
  · rw [if_neg e]; exact ⟨rfl, rfl⟩
theorem do_two (hv : vR ρ) (hch : vCh n (aV ρ 1) (aV ρ 2) ch) (hn : b = true → n = aN ρ) {Bt Bp By : Nat} {π : aJ} (hJ : vJ b ρ Bt Bp By π) (hBt : Bt < 1800000000) (hBp : Bp < 1800000000) {k : Nat} (hk : k < aM ρ) : ∃ ok π', aStp ρ (fun l => ∃ i, i < n ∧ ch i = l) k (pLn π) (pRw π) ok (pLn π') (pRw π') ∧ Dok b ρ n ch k π ok π' ∧ vJ b ρ (Bt + 12740) (Bp + 9) (By + 1) π' ∧ pLs π' = pLs π + nI (if ok = true ∧ aA ρ k = 1 then 1 else 0) := by
  obtain ⟨o1, o2, o3, o4, o5, o6, o7, o8⟩ := hv.2.2.2.2.2.2.2.2.2.2.2.2 k hk
  have hM := hv.2.2.2.2.2.2.2.2.2.2.2.1
  have hk24 := zlit k 24 (by omega) (by omega)
  have hkc := nI_cl (show k < 2147483648 by omega)
  have b7 := hv.2.2.2.2.2.2.2.2.1
  -- the first words of an order
  have stC : ∀ X a r ca g, adr b X a r ca → PCb ρ n ch X a r ca g → l_X2_runProgram_10 a (r + 3) (nI k) g = (if nI (aA ρ k + 9) = 9 then (zb (f_X2_fillLine a (r + 3) (nI k) g) (fun v11 g12 => j_X2_runProgram_114_10 a (r + 3) (nI k) 1 g12)) else (if nI (aA ρ k + 9) = 10 then (zb (f_X2_strikeLine a g) (fun v14 g15 => if v14 = (-2) then (j_X2_runProgram_75_10 a (r + 3) (nI k) 0 g15) else (j_X2_runProgram_75_10 a (r + 3) (nI k) 1 g15))) else (if nI (aA ρ k + 9) = 11 then (zb (f_X2_moveBy a (nI (aU ρ k)) g) (fun v19 g20 => j_X2_runProgram_114_10 a (r + 3) (nI k) 1 g20)) else (zb (f_X2_moveToHole a (nI (aU ρ k)) g) (fun v22 g23 => if v22 = (-4) then (j_X2_runProgram_113_10 a (r + 3) (nI k) 0 g23) else (j_X2_runProgram_113_10 a (r + 3) (nI k) 1 g23)))))) := by
    intro X a r ca g ha hB
    have hr := ha.ru hB.1
    obtain ⟨d1, d2, d3, d4, d5⟩ := hB.2.2.1.2.2.2.1 k hk
    unfold l_X2_runProgram_10
    simp only [zc_pos hk24, hkc, zl_eq]
    rw [hB.2.2.1.2.2.1, if_neg (fun e => by have := (nle (by omega) (by omega)).mp e; omega), hr.2.2.2.2.2.1, hr.2.2.2.2.2.2.1, d1, d2]
  have e1 : ∀ a r' g, j_X2_runProgram_114_10 a r' (nI k) 1 g = some (.inl (nI (k + 1), g)) := fun a r' g => by
    unfold j_X2_runProgram_114_10
    rw [b1, zl_eq, nI_1]
  have e0 : ∀ a r' g, j_X2_runProgram_114_10 a r' (nI k) 0 g = some (.inr (.inl (nI k, g))) := fun a r' g => by
    unfold j_X2_runProgram_114_10
    rw [b0]
  have k9 : ∀ d, d ≤ 9 → (nI (aA ρ k + 9) = nI d ↔ aA ρ k + 9 = d) := fun d hd => nI_inj (by omega) (by omega)
  have ka : ∀ d, d ≤ 9 → (nI (aA ρ k + 9) = nI (d + 9) ↔ aA ρ k = d) := fun d hd => ⟨fun e => by have := (nI_inj (by omega) (by omega)).mp e; omega, fun e => by rw [e]⟩
  have km : ∀ d, d ≤ 9 → (nI (aA ρ k) = nI d ↔ aA ρ k = d) := fun d hd => nI_inj (by omega) (by omega)
  have stM : ∀ M g, PMb ρ n ch M g → g.2.1 M 5 = M + 4 ∧ g.2.1 M 6 = M + 5 ∧ g.1 (M + 4) k = nI (aA ρ k) ∧ g.1 (M + 5) k = nI (aU ρ k) := fun M g hB => by
    obtain ⟨d1, d2, d3, d4, d5⟩ := hB.2.1.2.1 k hk
    have hR := hB.1
    exact ⟨by unfold rM at hR; simp only [hR], by unfold rM at hR; simp only [hR], d1, d2⟩
  by_cases h0 : aA ρ k = 0
  · refine ⟨true, putJ ρ π k, ⟨fun _ => ⟨rfl, rfl, rfl⟩, fun z => absurd (h0.symm.trans z) (by decide), fun z => absurd (h0.symm.trans z) (by decide), fun z => absurd (h0.symm.trans z) (by decide)⟩, ⟨fun X a r ca g ha hB hV => ?_, fun M g hB hV => ?_⟩, (putJ_v hv hJ hk h0).le (by omega) (by omega) (by omega), ?_⟩
    · obtain ⟨g', q1, q2, q3⟩ := q_fill ha hv hk h0 hB hV
      refine ⟨g', ?_, q2, q3⟩
      rw [stC X a r ca g ha hB, if_pos (show nI (aA ρ k + 9) = 9 from (ka 0 (by omega)).mpr h0), q1, zb_some, e1]
      rfl
    · obtain ⟨g', q1, q2, q3⟩ := m_puts hv hk h0 hB hV
      obtain ⟨m5, m6, m1, m2⟩ := stM M g hB
      refine ⟨g', ?_, q2, q3⟩
      unfold f_X10_does
      simp only [zc_pos hk24, hkc]
      rw [m5, m1, if_pos (show nI (aA ρ k) = 0 from (km 0 (by omega)).mpr h0), q1, zb_some]
      rfl
    · rw [if_neg (by omega)]; exact (add_b0 _).symm
  by_cases h1 : aA ρ k = 1
  · obtain ⟨ok, t, π', w0, w1, w2, w3, w4, w5⟩ := go_two hv hch hn hJ hBt
    refine ⟨ok, π', ⟨fun z => absurd (h1.symm.trans z) (by decide), fun _ => w0, fun z => absurd (h1.symm.trans z) (by decide), fun z => absurd (h1.symm.trans z) (by decide)⟩, ⟨fun X a r ca g ha hB hV => ?_, fun M g hB hV => ?_⟩, w1, ?_⟩
    · obtain ⟨g', q1, q2, q3⟩ := w4 X a r ca g ha hB hV
      refine ⟨g', ?_, q2, q3⟩
      rw [stC X a r ca g ha hB, if_neg (show ¬ nI (aA ρ k + 9) = 9 from fun e => h0 ((ka 0 (by omega)).mp e)), if_pos (show nI (aA ρ k + 9) = 10 from (ka 1 (by omega)).mpr h1), q1, zb_some]
      unfold j_X2_runProgram_75_10
      rw [e1, e0]
      cases ok with
      | true =>
        rw [if_pos rfl, if_pos rfl, if_neg (fun e => by
          have := congrArg Int32.toInt e
          rw [i_nI w2] at this
          have h2 : (-2 : Int32).toInt = -2 := rfl
          omega)]
      | false => rfl
    · obtain ⟨v1, v2, v3, v4⟩ := w5 M g hB hV
      obtain ⟨m5, m6, m1, m2⟩ := stM M g hB
      unfold f_X10_does
      simp only [zc_pos hk24, hkc]
      rw [m5, m1, if_neg (show ¬ nI (aA ρ k) = 0 from fun e => h0 ((km 0 (by omega)).mp e)), if_pos (show nI (aA ρ k) = 1 from (km 1 (by omega)).mpr h1), v1, zb_some]
      cases ok with
      | false =>
        rw [bI_f, b0, v2 rfl]
        exact ⟨g, rfl, mKp.refl _ _, hV⟩
      | true =>
        rw [bI_t, b1]
        cases b with
        | true =>
          obtain ⟨g', q1, q2, q3⟩ := v3 rfl rfl
          rw [bT_t rfl, b0, q1, zb_some]
          exact ⟨g', rfl, q2, q3⟩
        | false =>
          obtain ⟨g1, g', q1, q2, q3, q4⟩ := v4 rfl rfl
          rw [bT_f (b := false) (by decide), b1, zc_pos (c := zin 4 8) (by decide), hB.1.set, c4, hB.val (by omega) (by omega), q1, zb_some, zl_eq, q2, zk_some]
          exact ⟨g', rfl, q3, q4⟩
    · rw [w3]
      cases ok with
      | true => rw [if_pos ⟨rfl, h1⟩]; rfl
      | false => rw [if_neg (fun z => (by cases z.1))]; rfl
  by_cases h2 : aA ρ k = 2
  · have hu := o4 h2
    refine ⟨true, mvJ ρ π (aU ρ k), ⟨fun z => absurd (h2.symm.trans z) (by decide), fun z => absurd (h2.symm.trans z) (by decide), fun _ => ⟨rfl, mvJ_rw hJ.2.1 _⟩, fun z => absurd (h2.symm.trans z) (by decide)⟩, ⟨fun X a r ca g ha hB hV => ?_, fun M g hB hV => ?_⟩, mvJ_v hv hJ (by omega) (Or.inl hu), ?_⟩
    · obtain ⟨g', q1, q2, q3⟩ := q_moveBy ha hv hJ (by omega) (by omega) hB hV (show aU ρ k ≤ 60 by omega)
      refine ⟨g', ?_, q2, q3⟩
      rw [stC X a r ca g ha hB, if_neg (show ¬ nI (aA ρ k + 9) = 9 from fun e => h0 ((ka 0 (by omega)).mp e)), if_neg (show ¬ nI (aA ρ k + 9) = 10 from fun e => h1 ((ka 1 (by omega)).mp e)), if_pos (show nI (aA ρ k + 9) = 11 from (ka 2 (by omega)).mpr h2), q1, zb_some, e1]
      rfl
    · obtain ⟨g', q1, q2, q3⟩ := m_moves hv hJ (by omega) (by omega) hB hV (show aU ρ k ≤ 60 by omega)
      obtain ⟨m5, m6, m1, m2⟩ := stM M g hB
      refine ⟨g', ?_, q2, q3⟩
      unfold f_X10_does j_X10_does_118
      simp only [zc_pos hk24, hkc]
      rw [m5, m1, m6, m2, if_neg (show ¬ nI (aA ρ k) = 0 from fun e => h0 ((km 0 (by omega)).mp e)), if_neg (show ¬ nI (aA ρ k) = 1 from fun e => h1 ((km 1 (by omega)).mp e)), if_pos (show nI (aA ρ k) = 2 from (km 2 (by omega)).mpr h2), if_neg (nm4 (by omega)), q1, zb_some]
      rfl
    · rw [if_neg (fun z => h1 z.2)]
      unfold mvJ
      by_cases e : aU ρ k = 0
      · rw [if_pos e]; exact (add_b0 _).symm
      · rw [if_neg e]; exact (add_b0 _).symm
  · have h3 : aA ρ k = 3 := by omega
    have hu := o5 h3
    have hls : ∀ j, pLs (mvJ ρ π j) = pLs π := fun j => by
      unfold mvJ
      by_cases e : j = 0
      · rw [if_pos e]
      · rw [if_neg e]; rfl
    rcases rows_two b (n := n) (ch := ch) hv hJ.2.1 (show aU ρ k < 8 by omega) with ⟨j, j0, ⟨j1, j2⟩, c1, c2⟩ | ⟨c0, c1, c2⟩
    · refine ⟨true, mvJ ρ π j, ⟨fun z => absurd z h0, fun z => absurd z h1, fun z => absurd z h2, fun _ => ⟨(mvJ_rw hJ.2.1 _).2, Or.inl ⟨rfl, j, j0, (mvJ_rw hJ.2.1 _).1⟩⟩⟩, ⟨fun X a r ca g ha hB hV => ?_, fun M g hB hV => ?_⟩, mvJ_v hv hJ (by omega) (Or.inr j2), ?_⟩
      · obtain ⟨g', q1, q2, q3⟩ := q_moveBy ha hv hJ (by omega) (by omega) hB hV (show j ≤ 60 by omega)
        refine ⟨g', ?_, q2, q3⟩
        rw [stC X a r ca g ha hB, if_neg (show ¬ nI (aA ρ k + 9) = 9 from fun e => h0 ((ka 0 (by omega)).mp e)), if_neg (show ¬ nI (aA ρ k + 9) = 10 from fun e => h1 ((ka 1 (by omega)).mp e)), if_neg (show ¬ nI (aA ρ k + 9) = 11 from fun e => h2 ((ka 2 (by omega)).mp e))]
        unfold f_X2_moveToHole
        rw [hB.2.1.1, hV.2.1.2.1, c1 X a r ca g ha hB, zb_some, if_neg (nm4 (by omega)), q1, zb_some, zb_some, if_neg (nm4 (mv_lt hv (show j ≤ 60 by omega)))]
        unfold j_X2_runProgram_113_10
        rw [e1]
        rfl
      · obtain ⟨g', q1, q2, q3⟩ := m_moves hv hJ (by omega) (by omega) hB hV (show j ≤ 60 by omega)
        obtain ⟨m5, m6, m1, m2⟩ := stM M g hB
        refine ⟨g', ?_, q2, q3⟩
        unfold f_X10_does j_X10_does_118
        simp only [zc_pos hk24, hkc]
        rw [m5, m1, m6, m2, if_neg (show ¬ nI (aA ρ k) = 0 from fun e => h0 ((km 0 (by omega)).mp e)), if_neg (show ¬ nI (aA ρ k) = 1 from fun e => h1 ((km 1 (by omega)).mp e)), if_neg (show ¬ nI (aA ρ k) = 2 from fun e => h2 ((km 2 (by omega)).mp e)), c2 M g hB hV.2.1.2, zb_some, if_neg (nm4 (by omega)), q1, zb_some]
        rfl
      · rw [if_neg (fun z => h1 z.2), hls]; exact (add_b0 _).symm
    · refine ⟨false, π, ⟨fun z => absurd z h0, fun z => absurd z h1, fun z => absurd z h2, fun _ => ⟨rfl, Or.inr ⟨rfl, c0⟩⟩⟩, ⟨fun X a r ca g ha hB hV => ⟨g, ?_, frm.refl _ _, hV⟩, fun M g hB hV => ⟨g, ?_, mKp.refl _ _, hV⟩⟩, hJ.le (by omega) (by omega) (by omega), ?_⟩
      · rw [stC X a r ca g ha hB, if_neg (show ¬ nI (aA ρ k + 9) = 9 from fun e => h0 ((ka 0 (by omega)).mp e)), if_neg (show ¬ nI (aA ρ k + 9) = 10 from fun e => h1 ((ka 1 (by omega)).mp e)), if_neg (show ¬ nI (aA ρ k + 9) = 11 from fun e => h2 ((ka 2 (by omega)).mp e))]
        unfold f_X2_moveToHole
        rw [hB.2.1.1, hV.2.1.2.1, c1 X a r ca g ha hB, zb_some, if_pos rfl, zb_some, if_pos rfl]
        unfold j_X2_runProgram_113_10
        rw [e0]
        rfl
      · obtain ⟨m5, m6, m1, m2⟩ := stM M g hB
        unfold f_X10_does j_X10_does_118
        simp only [zc_pos hk24, hkc]
        rw [m5, m1, m6, m2, if_neg (show ¬ nI (aA ρ k) = 0 from fun e => h0 ((km 0 (by omega)).mp e)), if_neg (show ¬ nI (aA ρ k) = 1 from fun e => h1 ((km 1 (by omega)).mp e)), if_neg (show ¬ nI (aA ρ k) = 2 from fun e => h2 ((km 2 (by omega)).mp e)), c2 M g hB hV.2.1.2, zb_some, if_pos rfl]
        rfl
      · rw [if_neg (fun z => (by cases z.1))]; exact (add_b0 _).symm
theorem do_both (hv : vR ρ) (hch : vCh n (aV ρ 1) (aV ρ 2) ch) (hn : b = true → n = aN ρ) {Bt Bp By : Nat} {π : aJ} (hJ : vJ b ρ Bt Bp By π) (hBt : Bt < 1800000000) (hBp : Bp < 1800000000) {k : Nat} (hk : k < aM ρ) : ∃ ok π', Dok b ρ n ch k π ok π' ∧ vJ b ρ (Bt + 12740) (Bp + 9) (By + 1) π' ∧ pLs π' = pLs π + nI (if ok = true ∧ aA ρ k = 1 then 1 else 0) := by
  obtain ⟨ok, π', -, h⟩ := do_two hv hch hn hJ hBt hBp hk
  exact ⟨ok, π', h⟩
theorem aStp.uniq {on on' : Nat → Prop} {k w : Nat} {ln ln1 ln2 : Nat → Nat} {ok1 ok2 : Bool} {w1 w2 : Nat} (he : ∀ l, on l ↔ on' l) (hk : aA ρ k ≤ 3) (h1 : aStp ρ on k ln w ok1 ln1 w1) (h2 : aStp ρ on' k ln w ok2 ln2 w2) : ok1 = ok2 ∧ (ok1 = true → ln1 = ln2 ∧ w1 = w2) := by
  obtain ⟨a0, a1, a2, a3⟩ := h1
  obtain ⟨b0, b1, b2, b3⟩ := h2
  by_cases e0 : aA ρ k = 0
  · obtain ⟨x1, x2, x3⟩ := a0 e0
    obtain ⟨y1, y2, y3⟩ := b0 e0
    exact ⟨x1.trans y1.symm, fun _ => ⟨x3.trans y3.symm, x2.trans y2.symm⟩⟩
  by_cases e1 : aA ρ k = 1
  · obtain ⟨x1, x2, x3⟩ := a1 e1
    obtain ⟨y1, y2, y3⟩ := b1 e1
    have hq : ok1 = true ↔ ok2 = true := by
      rw [x1, y1]
      exact ⟨fun h c c1 c2 => (he _).mp (h c c1 c2), fun h c c1 c2 => (he _).mpr (h c c1 c2)⟩
    have e : ok1 = ok2 := by
      cases ok1 <;> cases ok2
      · rfl
      · exact absurd (hq.mpr rfl) (by decide)
      · exact absurd (hq.mp rfl) (by decide)
      · rfl
    exact ⟨e, fun z => ⟨(x3 z).trans (y3 (e ▸ z)).symm, x2.trans y2.symm⟩⟩
  by_cases e2 : aA ρ k = 2
  · obtain ⟨x1, x2, x3⟩ := a2 e2
    obtain ⟨y1, y2, y3⟩ := b2 e2
    exact ⟨x1.trans y1.symm, fun _ => ⟨x3.trans y3.symm, x2.trans y2.symm⟩⟩
  · obtain ⟨x1, x2⟩ := a3 (by omega)
    obtain ⟨y1, y2⟩ := b3 (by omega)
    rcases x2 with ⟨x3, j, ⟨j1, j2, j3⟩, x4⟩ | ⟨x3, x4⟩
    · rcases y2 with ⟨y3, i, ⟨i1, i2, i3⟩, y4⟩ | ⟨y3, y4⟩
      · have : j = i := by
          rcases Nat.lt_trichotomy j i with h | h | h
          · exact absurd j2 (i3 j j1.1 h)
          · exact h
          · exact absurd i2 (j3 i i1.1 h)
        exact ⟨x3.trans y3.symm, fun _ => ⟨x1.trans y1.symm, by rw [x4, y4, this]⟩⟩
      · exact absurd j2 (y4 j j1.1 j1.2)
    · rcases y2 with ⟨y3, i, ⟨i1, i2, i3⟩, y4⟩ | ⟨y3, y4⟩
      · exact absurd i2 (x4 i i1.1 i1.2)
      · exact ⟨x3.trans y3.symm, fun z => by rw [x3] at z; cases z⟩
/-- a program, of line and row alone: is all of it done -/
def Rs (ρ : aR) (on : Nat → Prop) : Nat → Nat → (Nat → Nat) → Nat → Bool → Prop
  | 0, _, _, _, fin => fin = true
  | d + 1, k, ln, w, fin => ∃ ok ln' w', aStp ρ on k ln w ok ln' w' ∧ (ok = false → fin = false) ∧ (ok = true → Rs ρ on d (k + 1) ln' w' fin)
theorem Rs.uniq {on on' : Nat → Prop} (he : ∀ l, on l ↔ on' l) (ho : ∀ k, k < aM ρ → aA ρ k ≤ 3) : ∀ (d k w : Nat) (ln : Nat → Nat) (f1 f2 : Bool), k + d ≤ aM ρ → Rs ρ on d k ln w f1 → Rs ρ on' d k ln w f2 → f1 = f2 := by
  intro d
  induction d with
  | zero => intro k w ln f1 f2 _ h1 h2; exact h1.trans h2.symm
  | succ d ih =>
    intro k w ln f1 f2 hk h1 h2
    obtain ⟨ok1, ln1, w1, s1, n1, t1⟩ := h1
    obtain ⟨ok2, ln2, w2, s2, n2, t2⟩ := h2
    obtain ⟨u1, u2⟩ := aStp.uniq he (ho k (by omega)) s1 s2
    subst u1
    cases ok1 with
    | false => exact (n1 rfl).trans (n2 rfl).symm
    | true =>
      obtain ⟨v1, v2⟩ := u2 rfl
      subst v1
      subst v2
      exact ih (k + 1) w1 ln1 f1 f2 (by omega) (t1 rfl) (t2 rfl)
end DO
