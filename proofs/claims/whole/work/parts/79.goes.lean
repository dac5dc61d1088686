section GO2
variable {ρ : aR} {n : Nat} {ch : Nat → Nat} {M : Nat}
theorem m_goes (hv : vR ρ) {Bt Bp By : Nat} {π : aJ} (hJ : vJ true ρ Bt Bp By π) {e m : Nat} {A : Nat → Option Nat} {W : Nat → Bool} (he : pTk π ≤ e) (hW : ∀ c, W c = true → c < aV ρ 3 ∧ pLn π c ≠ 0) (hA1 : ∀ c t, A c = some t → t < 2000000000 ∧ pLn π c ≠ 0) (hA2 : ∀ c, c < aV ρ 3 → pLn π c ≠ 0 → ∃ t, A c = some t) (hn : n = aN ρ) {g : zG} (hB : PMb ρ n ch M g) (hV : PMv true ρ π M g) {g1 : zG} (hmk : f_X10_strikes M (nI (aV ρ 4)) g = some (nI (e - pTk π), g1)) (hst : mSt n (aV ρ 1) (aV ρ 2) (aV ρ 3) M g A W m g1) : ∃ g', f_X10_goes M g = some (nI (e - pTk π), g') ∧ mKp true M g g' ∧ PMv true ρ (goJ π e A W m) M g' := by
  have b3 := hv.2.2.2.2.1
  have b7 := hv.2.2.2.2.2.2.2.2.1
  obtain ⟨j1, j2, j3, j4⟩ := hJ
  obtain ⟨v1, ⟨v2, v3⟩, v5⟩ := hV
  obtain ⟨v6, v7, v8⟩ := v5 rfl
  obtain ⟨s1, s2, s3, s4⟩ := hst
  have k1 : mKp true M g g1 := ⟨s1.mono (fun x hx => SM_t (by omega)), fun j hj => s2 j (fun z => hj (mFd_t (by omega)))⟩
  have hB1 := hB.kept k1
  have hAn : ∀ c, pLn π c = 0 → A c = none := fun c h => by
    cases hh : A c with
    | none => rfl
    | some t => exact absurd h (hA1 c t hh).2
  have hWn : ∀ c, pLn π c = 0 → W c = false := fun c h => by
    cases hh : W c with
    | false => rfl
    | true => exact absurd h (hW c hh).2
  let g8 : zG := zsi (zsi (zsi (zsi g1 M 44 1) M 45 0) M 47 0) M 46 (nI m)
  have e8 : ∀ x, x ≠ M → g8.1 x = g1.1 x := fun x hx => by
    show (zsi (zsi (zsi (zsi g1 M 44 1) M 45 0) M 47 0) M 46 (nI m)).1 x = g1.1 x
    rw [zsi_at hx, zsi_at hx, zsi_at hx, zsi_at hx]
  have e8m : ∀ j, j ≠ 44 → j ≠ 45 → j ≠ 47 → j ≠ 46 → g8.1 M j = g1.1 M j := fun j a1 a2 a3 a4 => by
    show (zsi (zsi (zsi (zsi g1 M 44 1) M 45 0) M 47 0) M 46 (nI m)).1 M j = g1.1 M j
    rw [zsi_get a4, zsi_get a3, zsi_get a2, zsi_get a1]
  have e8r : g8.2 = g1.2 := rfl
  let ln := pLn π
  let sf : Int32 × zG → Option ((Int32 × zG) ⊕ zG) := fun s => l_X10_goes_36 M (nI (e - pTk π)) s.1 s.2
  let R : Nat → zG → Prop := fun c g' => frm (fun x => x = M ∨ (M + 21 ≤ x ∧ x ≤ M + 23) ∨ (M + 27 ≤ x ∧ x ≤ M + 29)) g8 g' ∧ (∀ j, j ≠ 45 → j ≠ 47 → g'.1 M j = g8.1 M j) ∧ g'.1 M 45 = nI (cw (fun c => decide (ln c ≠ 0)) c) ∧ g'.1 M 47 = nI (cw W c) ∧ (∀ j, j < 40 → g'.1 (M + 21) j = if j < c then 0 else nI (ln j)) ∧ (∀ j, j < c → j < 40 → g'.1 (M + 27) j = enc (A j) ∧ g'.1 (M + 28) j = (if ln j = 0 then -4 else g8.1 (M + 25) j) ∧ g'.1 (M + 29) j = -4) ∧ cPg (mkY (pYs π) (pRw π) ln c) (g'.1 (M + 22)) (g'.1 (M + 23))
  let Inv : Nat → Int32 × zG → Prop := fun c x => ∃ g', x = (nI c, g') ∧ R c g'
  have hS : ∀ c x, c < 40 → Inv c x → (∃ x', sf x = some (.inl x') ∧ Inv (c + 1) x') ∨ ∃ y, sf x = some (.inr y) ∧ R 40 y := by
    intro c x hc hI
    obtain ⟨g', rfl, q1, q2, q3, q4, q5, q6, q7⟩ := hI
    left
    have hr : g'.2.1 = g1.2.1 := q1.1
    have hM : rM M g' := hB1.1.kept hr
    have eg : ∀ x, ¬ (x = M ∨ (M + 21 ≤ x ∧ x ≤ M + 23) ∨ (M + 27 ≤ x ∧ x ≤ M + 29)) → g'.1 x = g1.1 x := fun x hx => by rw [(q1.2 x hx).1, e8 x (by omega)]
    have eC : g'.1 (M + 2) 3 = nI (aV ρ 3) := by rw [eg (M + 2) (by omega)]; exact hB1.val (by omega) (by omega)
    have e35 : g'.1 M 35 = nI (pRw π) := by rw [q2 35 (by omega) (by omega), e8m 35 (by omega) (by omega) (by omega) (by omega), k1.2 35 |> fun h => s2 35 (by omega)]; exact v3
    have el : g'.1 (M + 21) c = nI (ln c) := by rw [q5 c hc, if_neg (by omega)]
    have hlc : ln c ≤ 26 := (j1 c hc).1
    have hz40 := zlit c 40 hc (by omega)
    have hcl := nI_cl (show c < 2147483648 by omega)
    show ∃ x', l_X10_goes_36 M (nI (e - pTk π)) (nI c) g' = some (.inl x') ∧ Inv (c + 1) x'
    by_cases h0 : ln c = 0
    · have e1 : l_X10_goes_36 M (nI (e - pTk π)) (nI c) g' = j_X10_goes_65_36 M (nI (e - pTk π)) (nI c) g' := by
        unfold l_X10_goes_36
        rw [if_neg (show ¬ (40 : Int32) ≤ nI c from fun e => by have := (nle (a := 40) (by omega) (by omega)).mp e; omega)]
        simp only [zc_pos (show zin 3 8 by decide), zc_pos hz40, hcl]
        rw [hM.set, c3, eC, hM.li, el]
        by_cases hcc : nI (aV ρ 3) ≤ nI c
        · rw [if_pos hcc]
        · rw [if_neg hcc, if_pos (by rw [h0]; rfl)]
      rw [e1]
      have t1 : j_X10_goes_65_36 M (nI (e - pTk π)) (nI c) g' = j_X10_goes_87_36 M (nI (e - pTk π)) (nI c) 0 (M + 27) (nI c) (-4) g' := by
        unfold j_X10_goes_65_36 j_X10_goes_66_36
        rw [b0, hM.sAt]
      have t2 : j_X10_goes_87_36 M (nI (e - pTk π)) (nI c) 0 (M + 27) (nI c) (-4) g' = j_X10_goes_108_36 M (nI (e - pTk π)) (nI c) 0 (M + 28) (nI c) (-4) (zsi g' (M + 27) c (-4)) := by
        unfold j_X10_goes_87_36
        rw [zc_pos hz40, zl_eq, b0, hcl, show (zsi g' (M + 27) c (-4)).2.1 M 49 = M + 28 from hM.sMe]
      have t3 : ∀ (G : zG), G.2.1 M 50 = M + 29 → j_X10_goes_108_36 M (nI (e - pTk π)) (nI c) 0 (M + 28) (nI c) (-4) G = j_X10_goes_131_36 M (nI (e - pTk π)) (nI c) 0 M ((zsi (zsi G (M + 28) c (-4)) (M + 29) c (-4)).1 M 45) 0 (zsi (zsi G (M + 28) c (-4)) (M + 29) c (-4)) := by
        intro G hG
        unfold j_X10_goes_108_36
        rw [zc_pos hz40, zl_eq, zc_pos hz40, zl_eq, b0, hcl, show (zsi G (M + 28) c (-4)).2.1 M 50 = M + 29 from hG]
      have t4 : ∀ (G : zG) (v : Int32), j_X10_goes_131_36 M (nI (e - pTk π)) (nI c) 0 M v 0 G = j_X10_goes_158_36 M (nI (e - pTk π)) (nI c) 0 M ((zsi G M 45 (v + 0)).1 M 47) 0 (zsi G M 45 (v + 0)) := by
        intro G v
        unfold j_X10_goes_131_36 j_X10_goes_157_36
        rw [zl_eq, b0]
      have t5 : ∀ (G : zG) (v : Int32), G.2.1 M 37 = M + 21 → j_X10_goes_158_36 M (nI (e - pTk π)) (nI c) 0 M v 0 G = some (.inl (nI (c + 1), zsi (zsi G M 47 (v + 0)) (M + 21) c 0)) := by
        intro G v hG
        unfold j_X10_goes_158_36
        rw [zl_eq, b0, zc_pos hz40, zl_eq, zl_eq, hcl, nI_1, show (zsi G M 47 (v + 0)).2.1 M 37 = M + 21 from hG]
      rw [t1, t2, t3 (zsi g' (M + 27) c (-4)) hM.sSe, t4, t5]
      rotate_left
      · exact hM.li
      refine ⟨_, rfl, _, rfl, ?_, fun j a1 a2 => ?_, ?_, ?_, fun j hj => ?_, fun j a1 a2 => ?_, ?_⟩
      · refine q1.trans ?_
        refine ((((((frm.si ?_).trans (frm.si ?_)).trans (frm.si ?_)).trans (frm.si ?_)).trans (frm.si ?_)).trans (frm.si ?_)) <;> omega
      · simp only [zsi_if]
        rw [if_neg (by omega), if_neg (by omega), if_neg (by omega), if_neg (by omega), if_neg (by omega), if_neg (by omega)]
        exact q2 j a1 a2
      · simp only [zsi_if]
        rw [if_neg (by omega), if_neg (by omega), if_pos ⟨trivial, trivial⟩, if_neg (by omega), if_neg (by omega), if_neg (by omega), q3, cw_f (decide_eq_false (by omega))]
        exact nI_add _ 0
      · simp only [zsi_if]
        rw [if_neg (by omega), if_pos ⟨trivial, trivial⟩, if_neg (by omega), if_neg (by omega), if_neg (by omega), if_neg (by omega), q4, cw_f (hWn c h0)]
        exact nI_add _ 0
      · simp only [zsi_if]
        by_cases ej : j = c
        · rw [if_pos ⟨trivial, ej⟩, if_pos (by omega)]
        · rw [if_neg (fun z => ej z.2), if_neg (by omega), if_neg (by omega), if_neg (by omega), if_neg (by omega), if_neg (by omega), q5 j hj]
          by_cases h : j < c
          · rw [if_pos h, if_pos (by omega)]
          · rw [if_neg h, if_neg (by omega)]
      · simp only [zsi_if]
        rw [if_neg (show ¬ (M + 27 = M + 21 ∧ j = c) by omega), if_neg (show ¬ (M + 27 = M ∧ j = 47) by omega), if_neg (show ¬ (M + 27 = M ∧ j = 45) by omega), if_neg (show ¬ (M + 27 = M + 29 ∧ j = c) by omega), if_neg (show ¬ (M + 27 = M + 28 ∧ j = c) by omega), if_neg (show ¬ (M + 28 = M + 21 ∧ j = c) by omega), if_neg (show ¬ (M + 28 = M ∧ j = 47) by omega), if_neg (show ¬ (M + 28 = M ∧ j = 45) by omega), if_neg (show ¬ (M + 28 = M + 29 ∧ j = c) by omega), if_neg (show ¬ (M + 28 = M + 27 ∧ j = c) by omega), if_neg (show ¬ (M + 29 = M + 21 ∧ j = c) by omega), if_neg (show ¬ (M + 29 = M ∧ j = 47) by omega), if_neg (show ¬ (M + 29 = M ∧ j = 45) by omega), if_neg (show ¬ (M + 29 = M + 28 ∧ j = c) by omega), if_neg (show ¬ (M + 29 = M + 27 ∧ j = c) by omega)]
        by_cases ej : j = c
        · subst ej
          rw [if_pos (show True ∧ j = j from ⟨trivial, rfl⟩), if_pos (show True ∧ j = j from ⟨trivial, rfl⟩), if_pos (show True ∧ j = j from ⟨trivial, rfl⟩), hAn j h0, if_pos h0]
          exact ⟨rfl, rfl, rfl⟩
        · rw [if_neg (show ¬ (True ∧ j = c) from fun z => ej z.2), if_neg (show ¬ (True ∧ j = c) from fun z => ej z.2), if_neg (show ¬ (True ∧ j = c) from fun z => ej z.2)]
          exact q6 j (by omega) a2
      · rw [mkY_no h0]
        intro j hj
        simp only [zsi_if]
        rw [if_neg (by omega), if_neg (by omega), if_neg (by omega), if_neg (by omega), if_neg (by omega), if_neg (by omega), if_neg (by omega), if_neg (by omega), if_neg (by omega), if_neg (by omega), if_neg (by omega), if_neg (by omega)]
        exact q7 j hj
    · have hcC : c < aV ρ 3 := by
        rcases Nat.lt_or_ge c (aV ρ 3) with h | h
        · exact h
        · exact absurd ((j1 c hc).2 h) h0
      obtain ⟨t, ht⟩ := hA2 c hcC h0
      obtain ⟨c24, c26, c25⟩ := s4 c hcC
      have e24 : g'.1 (M + 24) c = enc (A c) := by rw [eg (M + 24) (by omega)]; exact c24
      have e26 : g'.1 (M + 26) c = bI (W c) := by rw [eg (M + 26) (by omega)]; exact c26
      have e25 : g'.1 (M + 25) c = g8.1 (M + 25) c := by rw [eg (M + 25) (by omega), e8 (M + 25) (by omega)]
      have e1 : l_X10_goes_36 M (nI (e - pTk π)) (nI c) g' = j_X10_goes_66_36 M (nI (e - pTk π)) (nI c) 1 g' := by
        unfold l_X10_goes_36
        rw [if_neg (show ¬ (40 : Int32) ≤ nI c from fun e => by have := (nle (a := 40) (by omega) (by omega)).mp e; omega)]
        simp only [zc_pos (show zin 3 8 by decide), zc_pos hz40, hcl]
        rw [hM.set, c3, eC, hM.li, el, if_neg (fun e => by have := (nle (by omega) (by omega)).mp e; omega), if_neg (fun e => h0 ((nI_zr (by omega)).mp e))]
      rw [e1]
      have hpl : 40 * nI (pRw π) + nI c = nI (pRw π * 40 + c) := by rw [show (40 : Int32) = nI 40 from rfl, pk_mul, nI_add]; congr 1; omega
      have hzp := zlit (pRw π * 40 + c) 2400 (by omega) (by omega)
      have hcp := nI_cl (show pRw π * 40 + c < 2147483648 by omega)
      have key : ∀ w : Nat, j_X10_goes_158_36 M (nI (e - pTk π)) (nI c) 1 M (nI (cw W c)) (nI w) (zsi (zsi (zsi (zsi g' (M + 27) c (enc (A c))) (M + 28) c (g8.1 (M + 25) c)) (M + 29) c (-4)) M 45 (nI (cw (fun c => decide (ln c ≠ 0)) (c + 1)))) = some (.inl (nI (c + 1), zsi (zsi (zsi (zsi (zsi (zsi (zsi (zsi g' (M + 27) c (enc (A c))) (M + 28) c (g8.1 (M + 25) c)) (M + 29) c (-4)) M 45 (nI (cw (fun c => decide (ln c ≠ 0)) (c + 1)))) M 47 (nI (cw W c + w))) (M + 22) (pRw π * 40 + c) (nI (ln c))) (M + 23) (pRw π * 40 + c) (nI ((mkY (pYs π) (pRw π) ln c).2 (pRw π * 40 + c) + 1))) (M + 21) c 0)) := by
        intro w
        unfold j_X10_goes_158_36
        rw [zl_eq, b1, nI_add]
        simp only [zc_pos hz40, hcl, zl_eq, zsi_r, nI_1]
        rw [hM.li, hM.pr, hM.ti]
        have h35 : ∀ (G : zG), G.1 M 35 = nI (pRw π) → 40 * G.1 M 35 + nI c = nI (pRw π * 40 + c) := fun G hG => by rw [hG]; exact hpl
        rw [h35 (zsi _ M 47 _) (by rw [zsi_get (by omega), zsi_get (by omega), zsi_at (by omega), zsi_at (by omega), zsi_at (by omega)]; exact e35)]
        simp only [zc_pos hzp, hcp]
        rw [h35 (zsi _ (M + 22) _ _) (by rw [zsi_at (by omega), zsi_get (by omega), zsi_get (by omega), zsi_at (by omega), zsi_at (by omega), zsi_at (by omega)]; exact e35)]
        simp only [zc_pos hzp, hcp]
        rw [zsi_at (b := M + 21) (by omega), zsi_at (b := M + 21) (by omega), zsi_at (b := M + 21) (by omega), zsi_at (b := M + 21) (by omega), zsi_at (b := M + 21) (by omega), el, zsi_at (b := M + 23) (by omega), zsi_at (b := M + 23) (by omega), zsi_at (b := M + 23) (by omega), zsi_at (b := M + 23) (by omega), zsi_at (b := M + 23) (by omega), zsi_at (b := M + 23) (by omega), (q7 (pRw π * 40 + c) (by omega)).2, nI_1]
      have e2 : j_X10_goes_66_36 M (nI (e - pTk π)) (nI c) 1 g' = j_X10_goes_158_36 M (nI (e - pTk π)) (nI c) 1 M (nI (cw W c)) (nI (if W c then 1 else 0)) (zsi (zsi (zsi (zsi g' (M + 27) c (enc (A c))) (M + 28) c (g8.1 (M + 25) c)) (M + 29) c (-4)) M 45 (nI (cw (fun c => decide (ln c ≠ 0)) (c + 1)))) := by
        have t1 : j_X10_goes_66_36 M (nI (e - pTk π)) (nI c) 1 g' = j_X10_goes_87_36 M (nI (e - pTk π)) (nI c) 1 (M + 27) (nI c) (enc (A c)) g' := by
          unfold j_X10_goes_66_36
          rw [b1, zc_pos hz40, hM.sAt, hcl, hM.at, e24]
        have t2 : j_X10_goes_87_36 M (nI (e - pTk π)) (nI c) 1 (M + 27) (nI c) (enc (A c)) g' = j_X10_goes_108_36 M (nI (e - pTk π)) (nI c) 1 (M + 28) (nI c) (g8.1 (M + 25) c) (zsi g' (M + 27) c (enc (A c))) := by
          unfold j_X10_goes_87_36
          rw [zc_pos hz40, zl_eq, b1, zc_pos hz40, hcl, show (zsi g' (M + 27) c (enc (A c))).2.1 M 49 = M + 28 from hM.sMe, show (zsi g' (M + 27) c (enc (A c))).2.1 M 41 = M + 25 from hM.me, zsi_at (b := M + 25) (by omega), e25]
        have t3 : ∀ (G : zG) (v : Int32), G.2.1 M 50 = M + 29 → j_X10_goes_108_36 M (nI (e - pTk π)) (nI c) 1 (M + 28) (nI c) v G = j_X10_goes_131_36 M (nI (e - pTk π)) (nI c) 1 M ((zsi (zsi G (M + 28) c v) (M + 29) c (-4)).1 M 45) 1 (zsi (zsi G (M + 28) c v) (M + 29) c (-4)) := by
          intro G v hG
          unfold j_X10_goes_108_36
          rw [zc_pos hz40, zl_eq, zc_pos hz40, zl_eq, b1, hcl, show (zsi G (M + 28) c v).2.1 M 50 = M + 29 from hG]
        rw [t1, t2, t3 (zsi g' (M + 27) c (enc (A c))) _ hM.sSe]
        rw [zsi_at (b := M) (by omega), zsi_at (b := M) (by omega), zsi_at (b := M) (by omega), q3]
        unfold j_X10_goes_131_36 j_X10_goes_157_36
        rw [zl_eq, b1, zc_pos hz40, hcl, nI_1, show cw (fun c => decide (ln c ≠ 0)) c + 1 = cw (fun c => decide (ln c ≠ 0)) (c + 1) from (cw_t (f := fun c => decide (ln c ≠ 0)) (decide_eq_true h0)).symm]
        generalize hV : nI (cw (fun c => decide (ln c ≠ 0)) (c + 1)) = V
        rw [show (zsi (zsi (zsi (zsi g' (M + 27) c (enc (A c))) (M + 28) c (g8.1 (M + 25) c)) (M + 29) c (-4)) M 45 V).2.1 M 42 = M + 26 from hM.hw]
        rw [zsi_at (b := M + 26) (by omega), zsi_at (b := M + 26) (by omega), zsi_at (b := M + 26) (by omega), zsi_at (b := M + 26) (by omega), e26, zsi_get (j := 47) (by omega), zsi_at (b := M) (by omega), zsi_at (b := M) (by omega), zsi_at (b := M) (by omega), q4]
        cases W c with
        | false => rfl
        | true => rfl
      rw [e2, key]
      refine ⟨_, rfl, _, rfl, ?_, fun j a1 a2 => ?_, ?_, ?_, fun j hj => ?_, fun j a1 a2 => ?_, ?_⟩
      · refine q1.trans ?_
        refine ((((((((frm.si ?_).trans (frm.si ?_)).trans (frm.si ?_)).trans (frm.si ?_)).trans (frm.si ?_)).trans (frm.si ?_)).trans (frm.si ?_)).trans (frm.si ?_)) <;> omega
      · rw [zsi_at (by omega), zsi_at (by omega), zsi_at (by omega), zsi_get a2, zsi_get a1, zsi_at (by omega), zsi_at (by omega), zsi_at (by omega)]
        exact q2 j a1 a2
      · rw [zsi_at (by omega), zsi_at (by omega), zsi_at (by omega), zsi_get (by omega), zsi_same]
      · rw [zsi_at (by omega), zsi_at (by omega), zsi_at (by omega), zsi_same]
        cases hw : W c with
        | false => rw [cw_f hw]; rfl
        | true => rw [cw_t hw]; rfl
      · by_cases ej : j = c
        · rw [ej, zsi_same, if_pos (by omega)]
        · rw [zsi_get ej, zsi_at (by omega), zsi_at (by omega), zsi_at (by omega), zsi_at (by omega), zsi_at (by omega), zsi_at (by omega), zsi_at (by omega), q5 j hj]
          by_cases h : j < c
          · rw [if_pos h, if_pos (by omega)]
          · rw [if_neg h, if_neg (by omega)]
      · have p27 : ∀ x, x = M + 27 ∨ x = M + 28 ∨ x = M + 29 → (zsi (zsi (zsi (zsi (zsi (zsi (zsi (zsi g' (M + 27) c (enc (A c))) (M + 28) c (g8.1 (M + 25) c)) (M + 29) c (-4)) M 45 (nI (cw (fun c => decide (ln c ≠ 0)) (c + 1)))) M 47 (nI (cw W c + if W c = true then 1 else 0))) (M + 22) (pRw π * 40 + c) (nI (ln c))) (M + 23) (pRw π * 40 + c) (nI ((mkY (pYs π) (pRw π) ln c).2 (pRw π * 40 + c) + 1))) (M + 21) c 0).1 x = (zsi (zsi (zsi g' (M + 27) c (enc (A c))) (M + 28) c (g8.1 (M + 25) c)) (M + 29) c (-4)).1 x := fun x hx => by
          rw [zsi_at (by omega), zsi_at (by omega), zsi_at (by omega), zsi_at (by omega), zsi_at (by omega)]
        rw [p27 (M + 27) (by omega), p27 (M + 28) (by omega), p27 (M + 29) (by omega)]
        rw [zsi_at (b := M + 27) (by omega), zsi_at (b := M + 27) (by omega), zsi_at (b := M + 28) (by omega)]
        by_cases ej : j = c
        · subst ej
          rw [zsi_same, zsi_same, zsi_same, if_neg h0]
          exact ⟨rfl, rfl, rfl⟩
        · rw [zsi_get ej, zsi_get ej, zsi_get ej, zsi_at (b := M + 28) (by omega), zsi_at (b := M + 29) (by omega), zsi_at (b := M + 29) (by omega)]
          exact q6 j (by omega) a2
      · intro j hj
        obtain ⟨m1, m2⟩ := mkY_yes (y := pYs π) (row := pRw π) hc h0 j
        rw [m1, m2]
        rw [zsi_at (b := M + 22) (by omega), zsi_at (b := M + 22) (by omega), zsi_at (b := M + 23) (by omega)]
        by_cases ej : j = pRw π * 40 + c
        · rw [if_pos ej, if_pos ej, ej, zsi_same, zsi_same]
          exact ⟨rfl, rfl⟩
        · rw [if_neg ej, if_neg ej, zsi_get ej, zsi_get ej]
          rw [zsi_at (b := M + 22) (by omega), zsi_at (b := M + 22) (by omega), zsi_at (b := M + 22) (by omega), zsi_at (b := M + 22) (by omega), zsi_at (b := M + 22) (by omega), zsi_at (b := M + 23) (by omega), zsi_at (b := M + 23) (by omega), zsi_at (b := M + 23) (by omega), zsi_at (b := M + 23) (by omega), zsi_at (b := M + 23) (by omega), zsi_at (b := M + 23) (by omega)]
          exact q7 j hj
  have hE : ∀ x, Inv 40 x → ∃ y, sf x = some (.inr y) ∧ R 40 y := by
    intro x hI
    obtain ⟨g', rfl, hR⟩ := hI
    refine ⟨g', ?_, hR⟩
    show l_X10_goes_36 M (nI (e - pTk π)) (nI 40) g' = _
    unfold l_X10_goes_36
    rw [if_pos (show (40 : Int32) ≤ nI 40 from (nle (a := 40) (by omega) (by omega)).mpr (Nat.le_refl _))]
  have eg1 : ∀ x, ¬ (x = M ∨ x = M + 24 ∨ x = M + 25 ∨ x = M + 26) → g1.1 x = g.1 x := fun x hx => (s1.2 x hx).1
  have hR0 : R 0 g8 := by
    refine ⟨frm.refl _ _, fun _ _ _ => rfl, ?_, ?_, fun j hj => ?_, fun j hj => by omega, ?_⟩
    · show (zsi (zsi (zsi (zsi g1 M 44 1) M 45 0) M 47 0) M 46 (nI m)).1 M 45 = _
      rw [zsi_get (by omega), zsi_get (by omega), zsi_same]; rfl
    · show (zsi (zsi (zsi (zsi g1 M 44 1) M 45 0) M 47 0) M 46 (nI m)).1 M 47 = _
      rw [zsi_get (by omega), zsi_same]; rfl
    · rw [e8 (M + 21) (by omega), eg1 (M + 21) (by omega), if_neg (by omega)]; exact v1 j hj
    · rw [mkY_0, e8 (M + 22) (by omega), e8 (M + 23) (by omega), eg1 (M + 22) (by omega), eg1 (M + 23) (by omega)]; exact v7
  obtain ⟨g', e1, q1, q2, q3, q4, q5, q6, q7⟩ := zw_run Inv (R 40) 40 hS hE 40 0 zN (nI 0, g8) (by omega) (by have := zN_big; omega) ⟨g8, rfl, hR0⟩
  have k8 : mKp true M g g8 := k1.trans ⟨(((frm.si (Or.inl rfl)).trans (frm.si (Or.inl rfl))).trans (frm.si (Or.inl rfl))).trans (frm.si (Or.inl rfl)), fun j hj => e8m j (fun z => hj (mFd_t (by omega))) (fun z => hj (mFd_t (by omega))) (fun z => hj (mFd_t (by omega))) (fun z => hj (mFd_t (by omega)))⟩
  have e34 : g'.1 M 34 = nI (pTk π) := by rw [q2 34 (by omega) (by omega), e8m 34 (by omega) (by omega) (by omega) (by omega), s2 34 (by omega)]; exact v2
  refine ⟨zsi g' M 34 (nI e), ?_, ?_, ?_, ⟨zsi_same, ?_⟩, fun _ => ⟨?_, ?_, ?_⟩⟩
  · unfold f_X10_goes
    rw [zc_pos (c := zin 4 8) (by decide), hB.1.set, c4, hB.val (by omega) (by omega), hmk, zb_some, zl_eq, zl_eq, zl_eq, zl_eq, zsi_get (by omega), zsi_get (by omega), zsi_get (by omega), s3]
    rw [show zw zN (fun s => l_X10_goes_36 M (nI (e - pTk π)) s.1 s.2) (0, zsi (zsi (zsi (zsi g1 M 44 1) M 45 0) M 47 0) M 46 (nI m)) = some g' from e1, zk_some]
    unfold j_X10_goes_217
    rw [zl_eq, e34, nI_add, show pTk π + (e - pTk π) = e by omega]
  · exact (k8.trans ⟨q1.mono (fun x hx => SM_t (by omega)), fun j hj => q2 j (fun z => hj (mFd_t (by omega))) (fun z => hj (mFd_t (by omega)))⟩).trans ⟨frm.si (Or.inl rfl), fun j hj => zsi_get (fun z => hj (mFd_t (by omega)))⟩
  · rw [zsi_at (by omega)]
    intro c hc
    rw [q5 c hc, if_pos hc]; rfl
  · rw [zsi_get (by omega), q2 35 (by omega) (by omega), e8m 35 (by omega) (by omega) (by omega) (by omega), s2 35 (by omega)]; exact v3
  · rw [zsi_get (by omega), q2 36 (by omega) (by omega), e8m 36 (by omega) (by omega) (by omega) (by omega), s2 36 (by omega)]; exact v6
  · rw [zsi_at (by omega), zsi_at (by omega)]; exact q7
  · rw [zsi_get (by omega), zsi_get (by omega), zsi_get (by omega), zsi_get (by omega), zsi_at (by omega), zsi_at (by omega), zsi_at (by omega)]
    refine ⟨?_, fun _ => ⟨q3, ?_, q4, fun c hc => ⟨(q6 c (by omega) (by omega)).1, (q6 c (by omega) (by omega)).2.2, fun h4 => ?_, fun t ht h4 => ?_⟩⟩⟩
    · rw [q2 44 (by omega) (by omega)]
      show (zsi (zsi (zsi (zsi g1 M 44 1) M 45 0) M 47 0) M 46 (nI m)).1 M 44 = _
      rw [zsi_get (by omega), zsi_get (by omega), zsi_get (by omega), zsi_same]; rfl
    · rw [q2 46 (by omega) (by omega)]
      show (zsi (zsi (zsi (zsi g1 M 44 1) M 45 0) M 47 0) M 46 (nI m)).1 M 46 = _
      rw [zsi_same]; rfl
    · have h4 : enc (A c) = -4 := h4
      have : A c = none := (enc_4 (fun t ht => by have := (hA1 c t ht).1; omega)).mp h4
      rw [(q6 c (by omega) (by omega)).2.1, if_pos]
      apply Classical.byContradiction
      intro h5
      obtain ⟨t, ht⟩ := hA2 c hc h5
      rw [this] at ht; cases ht
    · have h4 : enc (A c) = nI t := h4
      cases hh : A c with
      | none => rw [hh] at h4; exact absurd h4.symm (nm4 (by omega))
      | some u =>
        obtain ⟨u1, u2⟩ := hA1 c u hh
        rw [hh] at h4
        have hut : u = t := (nI_inj (by omega) (by omega)).mp h4
        rw [(q6 c (by omega) (by omega)).2.1, if_neg u2, e8 (M + 25) (by omega), (s4 c hc).2.2 u hh, hut, hn]
end GO2
