-- ===== the letter that is best put on once more =====
section TW
variable {ρ : aR}
def hDo (o : Option (Nat × Nat)) (X : Nat) (g : zG) : Prop := match o with
  | none => g.1 (X + 38) 3 = -4
  | some (T, l) => g.1 (X + 38) 3 = nI T ∧ g.1 (X + 38) 4 = nI l
def bsT (o : Option (Nat × Nat)) : Int32 := match o with
  | none => -4
  | some (_, l) => nI l
def dT (o : Option (Nat × Nat)) : Int32 := match o with
  | none => -4
  | some (T, _) => nI T
def lsT (o : Option (Nat × Nat)) : Int32 := match o with
  | none => 1000000000
  | some (T, _) => nI T
def vDo (o : Option (Nat × Nat)) : Prop := ∀ T l, o = some (T, l) → T ≤ 400000 ∧ l ≤ 26
/-- the chain with a place more, whatever stands there -/
def TD (ρ : aR) (X r : Nat) (g : zG) : Prop := rX X g ∧ (r = X + 1 ∨ r = X + 12) ∧ cR ρ r g ∧ g.1 (X + 40) 1 = nI (aN ρ + 1) ∧ g.1 (X + 40) 2 = nI (aV ρ 1) ∧ g.1 (X + 40) 3 = nI (aV ρ 2) ∧ ∀ i, i < aN ρ → g.1 (X + 41) i = nI (aC ρ i)
def PD (ρ : aR) (M : Nat) (g : zG) : Prop := rM M g ∧ mP ρ M g ∧ g.1 M 0 = nI (aN ρ + 1) ∧ g.1 (M + 2) 1 = nI (aV ρ 1) ∧ g.1 (M + 2) 2 = nI (aV ρ 2) ∧ ∀ i, i < aN ρ → g.1 (M + 1) i = nI (aC ρ i)
theorem TC.td {X r l : Nat} {g : zG} (h : TC ρ (aN ρ + 1) (zup (aC ρ) (aN ρ) l) X r g) : TD ρ X r g := by
  have hC := h.oC
  obtain ⟨h1, h2, h3, c1, c2, c3, c4⟩ := h
  exact ⟨h1, h2, h3, c1, c2, c3, fun i hi => by have := hC.2.2 i (by omega); rw [zup_ne (by omega)] at this; exact this⟩
theorem PMb.pd {M l : Nat} {g : zG} (h : PMb ρ (aN ρ + 1) (zup (aC ρ) (aN ρ) l) M g) : PD ρ M g := by
  obtain ⟨h1, h2, c1, c2, c3, c4⟩ := h
  exact ⟨h1, h2, c1, c2, c3, fun i hi => by have := c4 i (by omega); rw [zup_ne (by omega)] at this; exact this⟩
theorem TD.tc {X r l : Nat} {g : zG} (h : TD ρ X r g) : TC ρ (aN ρ + 1) (zup (aC ρ) (aN ρ) l) X r (zsi g (X + 41) (aN ρ) (nI l)) := by
  obtain ⟨h1, h2, h3, c1, c2, c3, c4⟩ := h
  have hq := h1.tp
  refine ⟨h1.kept rfl, h2, h3.kept (fun b b1 b2 => zsi_at (by omega)), by rw [zsi_at (by omega)]; exact c1, by rw [zsi_at (by omega)]; exact c2, by rw [zsi_at (by omega)]; exact c3, fun i hi => ?_⟩
  rw [zsi_r, hq.2.2.2.1]
  by_cases e : i = aN ρ
  · rw [e, zsi_same, zup_same]
  · rw [zsi_get e, zup_ne e]; exact c4 i (by omega)
theorem PD.pm {M l : Nat} {g : zG} (h : PD ρ M g) : PMb ρ (aN ρ + 1) (zup (aC ρ) (aN ρ) l) M (zsi g (M + 1) (aN ρ) (nI l)) := by
  obtain ⟨h1, h2, c1, c2, c3, c4⟩ := h
  unfold PMb mP mCh at *
  rw [zsi_at (b := M + 4) (by omega), zsi_at (b := M + 5) (by omega), zsi_at (b := M + 6) (by omega), zsi_at (b := M + 7) (by omega), zsi_at (b := M + 8) (by omega), zsi_at (b := M + 2) (by omega), zsi_at (b := M + 3) (by omega), zsi_at (b := M) (by omega)]
  refine ⟨h1.kept rfl, h2, c1, c2, c3, fun i hi => ?_⟩
  by_cases e : i = aN ρ
  · rw [e, zsi_same, zup_same]
  · rw [zsi_get e, zup_ne e]; exact c4 i (by omega)
theorem TD.kept {X r : Nat} {S : Nat → Prop} {g g' : zG} (h : TD ρ X r g) (hf : frm S g g') (hS : ∀ x, S x → x = X + 38) : TD ρ X r g' := by
  obtain ⟨h1, h2, h3, c1, c2, c3, c4⟩ := h
  have e : ∀ x, x ≠ X + 38 → g'.1 x = g.1 x := fun x hx => (hf.2 x (fun z => hx (hS x z))).1
  refine ⟨h1.kept hf.1, h2, h3.kept (fun b b1 b2 => e b (by omega)), ?_⟩
  rw [e (X + 40) (by omega), e (X + 41) (by omega)]
  exact ⟨c1, c2, c3, c4⟩
theorem dbl_all (hv : vR ρ) (hn : aN ρ < 48) : ∀ (d l : Nat) (o : Option (Nat × Nat)), l + d = 27 → 1 ≤ l → vDo o → ∃ o', vDo o' ∧
    (∀ X r g N, TD ρ X r g → hDo o X g → d < N → ∃ g', zw N (fun s : Int32 × zG => l_X8_findDouble_67 (X + 38) r s.1 s.2) (nI l, g) = some g' ∧ frX (fun x => X + 38 ≤ x ∧ x ≤ X + 48 ∧ x ≠ X + 39) X g g' ∧ (∀ j, j ≠ 3 → j ≠ 4 → g'.1 (X + 38) j = g.1 (X + 38) j) ∧ hDo o' X g') ∧
    ∀ M g N x1 v, PD ρ M g → d < N → ∃ g', zw N (fun s : Int32 × Int32 × Int32 × zG => l_X10_twice_66 M x1 v s.1 s.2.1 s.2.2.1 s.2.2.2) (bsT o, lsT o, nI l, g) = some (bsT o', lsT o', g') ∧ frO M g g' ∧ PD ρ M g' := by
  have bn := hv.1
  have bC := hv.2.1
  intro d
  induction d with
  | zero =>
    intro l o hl h1 ho
    refine ⟨o, ho, fun X r g N hT hD hN => ⟨g, ?_, frX.refl _ _ _, fun _ _ _ => rfl, hD⟩, fun M g N x1 v hP hN => ⟨g, ?_, frO.refl _ _, hP⟩⟩
    · obtain ⟨N, rfl⟩ : ∃ K, N = K + 1 := ⟨N - 1, by omega⟩
      apply zw_end
      show l_X8_findDouble_67 (X + 38) r (nI l) g = _
      unfold l_X8_findDouble_67
      rw [if_pos (show (26 : Int32) < nI l from (nlt (a := 26) (by omega) (by omega)).mpr (by omega))]
    · obtain ⟨N, rfl⟩ : ∃ K, N = K + 1 := ⟨N - 1, by omega⟩
      apply zw_end
      show l_X10_twice_66 M x1 v (bsT o) (lsT o) (nI l) g = _
      unfold l_X10_twice_66
      rw [if_pos (show (26 : Int32) < nI l from (nlt (a := 26) (by omega) (by omega)).mpr (by omega))]
  | succ d ih =>
    intro l o hl h1 ho
    have hch : vCh (aN ρ + 1) (aV ρ 1) (aV ρ 2) (zup (aC ρ) (aN ρ) l) := ⟨by omega, by have := hv.2.2.1; omega, hv.2.2.2.1, fun i hi => by
      by_cases e : i = aN ρ
      · rw [e, zup_same]; omega
      · rw [zup_ne e]; exact bC i (by omega)⟩
    obtain ⟨fin, V, hV, hRs, cT, mT⟩ := try_two hv hch
    -- what is best behind this letter
    obtain ⟨o1, o1t, o1f⟩ : ∃ o1 : Option (Nat × Nat), (fin = true ∧ (∀ T m, o = some (T, m) → V < T) → o1 = some (V, l)) ∧ (¬ (fin = true ∧ (∀ T m, o = some (T, m) → V < T)) → o1 = o) := by
      by_cases h : fin = true ∧ (∀ T m, o = some (T, m) → V < T)
      · exact ⟨some (V, l), fun _ => rfl, fun z => absurd h z⟩
      · exact ⟨o, fun z => absurd z h, fun _ => rfl⟩
    have ho1 : vDo o1 := by
      intro T m e
      by_cases h : fin = true ∧ (∀ T m, o = some (T, m) → V < T)
      · have : o1 = some (V, l) := o1t h
        rw [this] at e
        cases e
        omega
      · have : o1 = o := o1f h
        rw [this] at e
        exact ho T m e
    obtain ⟨o', k1, k2, k3⟩ := ih (l + 1) o1 (by omega) (by omega) ho1
    refine ⟨o', k1, fun X r g N hT hD hN => ?_, fun M g N x1 v hP hN => ?_⟩
    · obtain ⟨N, rfl⟩ : ∃ K, N = K + 1 := ⟨N - 1, by omega⟩
      have hq := hT.1.tp
      obtain ⟨g2, a1, a2⟩ := cT X r _ (hT.tc (l := l))
      have hT2 := ((hT.tc (l := l)).kept a2 (fun x hx => hx)).td
      have f2 : frX (fun x => X + 38 ≤ x ∧ x ≤ X + 48 ∧ x ≠ X + 39) X g g2 := (frX.of (frm.si (show X + 38 ≤ X + 41 ∧ X + 41 ≤ X + 48 ∧ X + 41 ≠ X + 39 by omega))).trans (a2.mono (fun x hx => by omega))
      have e8 : g2.1 (X + 38) = g.1 (X + 38) := by
        rw [(a2.2.2 (X + 38) (by omega)).1, zsi_at (by omega)]
      have st : l_X8_findDouble_67 (X + 38) r (nI l) g = (if (if fin = true then nI V else -4) = (-4) then some (.inl (nI (l + 1), g2)) else (if g.1 (X + 38) 3 = (-4) then some (.inl (nI (l + 1), zsi (zsi g2 (X + 38) 3 (if fin = true then nI V else -4)) (X + 38) 4 (nI l))) else (if g.1 (X + 38) 3 ≤ (if fin = true then nI V else -4) then some (.inl (nI (l + 1), g2)) else some (.inl (nI (l + 1), zsi (zsi g2 (X + 38) 3 (if fin = true then nI V else -4)) (X + 38) 4 (nI l)))))) := by
        unfold l_X8_findDouble_67
        rw [if_neg (show ¬ (26 : Int32) < nI l from fun e => by have := (nlt (a := 26) (by omega) (by omega)).mp e; omega), hq.2.2.1, hq.2.2.2.1, hT.2.2.2.1, nI_s1 (by omega), show aN ρ + 1 - 1 = aN ρ by omega, zc_pos (zlit (aN ρ) 48 hn (by omega)), nI_cl (by omega), zl_eq, a1, zb_some, e8]
        simp only [zl_eq, nI_1]
      have up : ∀ (G : zG), l_X8_findDouble_67 (X + 38) r (nI l) g = some (.inl (nI (l + 1), G)) → TD ρ X r G → frX (fun x => X + 38 ≤ x ∧ x ≤ X + 48 ∧ x ≠ X + 39) X g G → (∀ j, j ≠ 3 → j ≠ 4 → G.1 (X + 38) j = g.1 (X + 38) j) → hDo o1 X G → ∃ g', zw (N + 1) (fun s : Int32 × zG => l_X8_findDouble_67 (X + 38) r s.1 s.2) (nI l, g) = some g' ∧ frX (fun x => X + 38 ≤ x ∧ x ≤ X + 48 ∧ x ≠ X + 39) X g g' ∧ (∀ j, j ≠ 3 → j ≠ 4 → g'.1 (X + 38) j = g.1 (X + 38) j) ∧ hDo o' X g' := by
        intro G z1 z2 z3 z4 z5
        obtain ⟨g', t1, t2, t3, t4⟩ := k2 X r G N z2 z5 (by omega)
        exact ⟨g', by rw [zw_step (s' := (nI (l + 1), G)) z1]; exact t1, z3.trans t2, fun j j1 j2 => by rw [t3 j j1 j2, z4 j j1 j2], t4⟩
      have fw : frm (fun x => x = X + 38) g2 (zsi (zsi g2 (X + 38) 3 (nI V)) (X + 38) 4 (nI l)) := (frm.si (S := fun x => x = X + 38) rfl).trans (frm.si (S := fun x => x = X + 38) rfl)
      have keep : o1 = o → l_X8_findDouble_67 (X + 38) r (nI l) g = some (.inl (nI (l + 1), g2)) → ∃ g', zw (N + 1) (fun s : Int32 × zG => l_X8_findDouble_67 (X + 38) r s.1 s.2) (nI l, g) = some g' ∧ frX (fun x => X + 38 ≤ x ∧ x ≤ X + 48 ∧ x ≠ X + 39) X g g' ∧ (∀ j, j ≠ 3 → j ≠ 4 → g'.1 (X + 38) j = g.1 (X + 38) j) ∧ hDo o' X g' := fun eo z => up g2 z hT2 f2 (fun j _ _ => by rw [e8]) (by
        rw [eo]
        cases o with
        | none => show g2.1 (X + 38) 3 = -4; rw [e8]; exact hD
        | some p => obtain ⟨T, m⟩ := p; show g2.1 (X + 38) 3 = nI T ∧ g2.1 (X + 38) 4 = nI m; rw [e8]; exact hD)
      have take : o1 = some (V, l) → l_X8_findDouble_67 (X + 38) r (nI l) g = some (.inl (nI (l + 1), zsi (zsi g2 (X + 38) 3 (nI V)) (X + 38) 4 (nI l))) → ∃ g', zw (N + 1) (fun s : Int32 × zG => l_X8_findDouble_67 (X + 38) r s.1 s.2) (nI l, g) = some g' ∧ frX (fun x => X + 38 ≤ x ∧ x ≤ X + 48 ∧ x ≠ X + 39) X g g' ∧ (∀ j, j ≠ 3 → j ≠ 4 → g'.1 (X + 38) j = g.1 (X + 38) j) ∧ hDo o' X g' := fun eo z => up _ z (hT2.kept fw (fun x hx => hx)) (f2.trans (frX.of (fw.mono (fun x hx => by omega)))) (fun j j1 j2 => by rw [zsi_get j2, zsi_get j1, e8]) (by
        rw [eo]
        show (zsi (zsi g2 (X + 38) 3 (nI V)) (X + 38) 4 (nI l)).1 (X + 38) 3 = nI V ∧ (zsi (zsi g2 (X + 38) 3 (nI V)) (X + 38) 4 (nI l)).1 (X + 38) 4 = nI l
        rw [zsi_same, zsi_get (by omega), zsi_same]; exact ⟨rfl, rfl⟩)
      cases hfin : fin with
      | false =>
        rw [hfin, if_neg (show ¬ (false = true) by decide), if_pos rfl] at st
        exact keep (o1f (fun z => by rw [hfin] at z; cases z.1)) st
      | true =>
        rw [hfin, if_pos rfl, if_neg (nm4 (by omega))] at st
        cases o with
        | none =>
          rw [if_pos (show g.1 (X + 38) 3 = -4 from hD)] at st
          exact take (o1t ⟨hfin, fun T m e => (by cases e)⟩) st
        | some p =>
          obtain ⟨T, m⟩ := p
          have hT3 := (ho T m rfl).1
          have hD' : g.1 (X + 38) 3 = nI T := hD.1
          rw [hD', if_neg (nm4 (by omega))] at st
          by_cases e : T ≤ V
          · rw [if_pos ((nle (by omega) (by omega)).mpr e)] at st
            exact keep (o1f (fun z => by have := z.2 T m rfl; omega)) st
          · rw [if_neg (fun z => e ((nle (by omega) (by omega)).mp z))] at st
            exact take (o1t ⟨hfin, fun T' m' e' => by cases e'; omega⟩) st
    · obtain ⟨N, rfl⟩ : ∃ K, N = K + 1 := ⟨N - 1, by omega⟩
      obtain ⟨g2, a1, a2⟩ := mT M _ (hP.pm (l := l))
      have hP2 := (a2.pmb (hP.pm (l := l))).pd
      obtain ⟨g', t1, t2, t3⟩ := k3 M g2 N x1 v hP2 (by omega)
      refine ⟨g', ?_, ((frO.of (frm.si (S := fun x => x = M + 1) rfl) (fun x hx => Or.inl hx)).trans (frO.ofR a2)).trans t2, t3⟩
      rw [zw_step (s' := (bsT o1, lsT o1, nI (l + 1), g2)) ?_]
      · exact t1
      · show l_X10_twice_66 M x1 v (bsT o) (lsT o) (nI l) g = _
        unfold l_X10_twice_66 j_X10_twice_105_66
        rw [if_neg (show ¬ (26 : Int32) < nI l from fun e => by have := (nlt (a := 26) (by omega) (by omega)).mp e; omega), hP.2.2.1, nI_s1 (by omega), show aN ρ + 1 - 1 = aN ρ by omega, zc_pos (zlit (aN ρ) 49 (by omega) (by omega)), nI_cl (by omega), zl_eq, hP.1.1, a1, zb_some]
        simp only [zl_eq, nI_1]
        by_cases h : fin = true ∧ (∀ T m, o = some (T, m) → V < T)
        · have e1 : o1 = some (V, l) := o1t h
          have hlt : ¬ lsT o ≤ nI V := by
            cases o with
            | none => exact fun e => by have := (nle (a := 1000000000) (by omega) (by omega)).mp e; omega
            | some p =>
              obtain ⟨T, m⟩ := p
              have := h.2 T m rfl
              have := (ho T m rfl).1
              exact fun e => by have := (nle (by omega) (by omega)).mp e; omega
          rw [e1, h.1, if_pos rfl, if_neg hlt, if_neg hlt]
          rfl
        · have e1 : o1 = o := o1f h
          have hle : lsT o ≤ (if fin = true then nI V else 1000000000) := by
            cases hfin : fin with
            | false =>
              rw [if_neg (by decide)]
              cases o with
              | none => exact Int32.le_refl _
              | some p =>
                obtain ⟨T, m⟩ := p
                have := (ho T m rfl).1
                exact (nle (b := 1000000000) (by omega) (by omega)).mpr (by omega)
            | true =>
              rw [if_pos rfl]
              cases o with
              | none => exact absurd ⟨hfin, fun T m e => (by cases e)⟩ h
              | some p =>
                obtain ⟨T, m⟩ := p
                have := (ho T m rfl).1
                refine (nle (by omega) (by omega)).mpr (Classical.byContradiction (fun z => h ⟨hfin, fun T' m' e' => ?_⟩))
                cases e'
                omega
          rw [e1, if_pos hle, if_pos hle]
def ansT (D Lt Sg x : Int32) : Int32 := if D = -4 then -1000002 else if x = 0 then Lt else if x = 1 then D else if Sg = -4 then -1000004 else Sg - D
def RT (ρ : aR) (D Lt Sg : Int32) : Prop := ∀ (M k : Nat) (σ : aZ) (g : zG) (x : Int32), vZ k σ → zR σ = ρ → MI σ M g → (0 ≤ x.toInt ∧ x.toInt ≤ 2) → ∃ g', f_X10_twice M x g = some (ansT D Lt Sg x, g') ∧ frm (fun b => M ≤ b) g g' ∧ MI σ M g'
theorem twice_all (hv : vR ρ) (hn : aN ρ < 48) (hM0 : aM ρ ≠ 0) : ∃ D Sg, (∀ Lt, D = -4 → RT ρ D Lt Sg) ∧ ∃ Lt0, RT ρ D Lt0 Sg ∧ ∀ X r g, rX X g → (r = X + 1 ∨ r = X + 12) → cR ρ r g → g.1 (X + 38) 8 = 0 → ∃ g', f_X8_findDouble (X + 38) r g = some (0, g') ∧ frX (fun x => X + 38 ≤ x ∧ x ≤ X + 48 ∧ x ≠ X + 39) X g g' ∧ g'.1 (X + 38) 8 = 1 ∧ (∀ j, j ≠ 3 → j ≠ 4 → j ≠ 5 → j ≠ 8 → g'.1 (X + 38) j = g.1 (X + 38) j) ∧ g'.1 (X + 38) 3 = D ∧ g'.1 (X + 38) 5 = Sg ∧ (¬ D = -4 → g'.1 (X + 38) 4 = Lt0) := by
  have bn := hv.1
  have bC := hv.2.1
  have b24 := hv.2.2.2.2.2.2.2.2.2.2.2.1
  obtain ⟨fin, V, hV, hRs, cT, mT⟩ := try_two hv hv.ch
  obtain ⟨o', k1, k2, k3⟩ := dbl_all hv hn 26 1 none (by omega) (by omega) (fun T l e => (by cases e))
  obtain ⟨D, hDd⟩ : ∃ D : Int32, D = dT o' := ⟨_, rfl⟩
  obtain ⟨Sg, hSd⟩ : ∃ S : Int32, S = (if fin = true then nI V else -4) := ⟨_, rfl⟩
  have hRT : ∀ Lt, (∀ T l, o' = some (T, l) → Lt = nI l) → RT ρ D Lt Sg := by
    intro Lt hLt M k σ g x hvz hσ hm hx
    subst hσ
    obtain ⟨hB, -⟩ := hm.toM 0
    obtain ⟨g1, a1, a2⟩ := mT M g hB
    have hB1 := a2.pmb hB
    have fz0 := zfl_frm g1 (M + 31) 0 (fun j => g1.1 (M + 1) j) 49
    obtain ⟨G2, hG2⟩ : ∃ G, G = zfl g1 (M + 31) 0 (fun j => g1.1 (M + 1) j) 49 := ⟨_, rfl⟩
    rw [← hG2] at fz0
    have hB2 : PMb (zR σ) (aN (zR σ)) (aC (zR σ)) M G2 := hB1.frm9 fz0 (fun x hx => by omega)
    have hP3 : PD (zR σ) M (zsi G2 M 0 (nI (aN (zR σ) + 1))) := by
      obtain ⟨h1, h2, c1, c2, c3, c4⟩ := hB2
      refine ⟨h1.kept rfl, ?_, zsi_same, by rw [zsi_at (by omega)]; exact c2, by rw [zsi_at (by omega)]; exact c3, by rw [zsi_at (by omega)]; exact c4⟩
      unfold mP at *
      rw [zsi_at (b := M + 4) (by omega), zsi_at (b := M + 5) (by omega), zsi_at (b := M + 6) (by omega), zsi_at (b := M + 7) (by omega), zsi_at (b := M + 8) (by omega), zsi_at (b := M + 2) (by omega), zsi_at (b := M + 3) (by omega), zsi_get (by omega)]
      exact h2
    obtain ⟨g4, t1, t2, t3⟩ := k3 M (zsi G2 M 0 (nI (aN (zR σ) + 1))) zN x (if fin = true then nI V else 1000000000) hP3 (by have := zN_big; omega)
    obtain ⟨G5, hG5⟩ : ∃ G, G = zsi g4 M 0 (nI (aN (zR σ))) := ⟨_, rfl⟩
    have g5r : G5.2 = g4.2 := by rw [hG5]; rfl
    have hM5 : rM M G5 := t3.1.kept (by rw [g5r])
    obtain ⟨G6, hG6⟩ : ∃ G, G = zfl G5 (M + 1) 0 (fun j => G5.1 (M + 31) j) 49 := ⟨_, rfl⟩
    have g6r : G6.2 = G5.2 := by rw [hG6, zfl_r]
    have fz6 := zfl_frm G5 (M + 1) 0 (fun j => G5.1 (M + 31) j) 49
    rw [← hG6] at fz6
    have e5 : ∀ y, y ≠ M → G5.1 y = g4.1 y := fun y hy => by rw [hG5]; exact zsi_at hy
    have ez : ∀ y, y ≠ M + 1 → G6.1 y = G5.1 y := fun y hy => (fz6.2 y hy).1
    have e3 : ∀ y, y ≠ M → (zsi G2 M 0 (nI (aN (zR σ) + 1))).1 y = G2.1 y := fun y hy => zsi_at hy
    have e2 : ∀ y, y ≠ M + 31 → G2.1 y = g1.1 y := fun y hy => (fz0.2 y hy).1
    have e31 : ∀ j, j < 49 → G5.1 (M + 31) j = g.1 (M + 1) j := fun j hj => by
      rw [e5 _ (by omega), (t2.2.2.2 (M + 31) (by omega) (by omega) (by omega) (by omega) (by omega) (by omega)).1, e3 _ (by omega), hG2, zfl_get, if_pos (by omega), Nat.sub_zero, (a2.2.2.2 (M + 1) (by omega) (by omega) (by omega) (by omega)).1]
    have hfld : ∀ j, j ≠ 43 → j ≠ 0 → G6.1 M j = g.1 M j := fun j j1 j2 => by
      rw [ez M (by omega), hG5, zsi_get j2, t2.2.1 j j1, zsi_get j2, e2 M (by omega), a2.2.1 j j1]
    have hfl0 : G6.1 M 0 = g.1 M 0 := by
      rw [ez M (by omega), hm.2.1.1, hG5, zsi_same]
    have htail : j_X10_twice_128 M x (if fin = true then nI V else 1000000000) (bsT o') (lsT o') g4 = some (ansT D Lt Sg x, G6) := by
      unfold j_X10_twice_128
      rw [t3.2.2.1, nI_s1 (by omega), show aN (zR σ) + 1 - 1 = aN (zR σ) by omega, zl_eq, ← hG5, m_again hM5, zb_some, ← hG6]
      unfold ansT
      cases ho : o' with
      | none =>
        have eD : D = -4 := by rw [hDd, ho]; rfl
        rw [eD]
        rfl
      | some p =>
        obtain ⟨T, l⟩ := p
        have eD : D = nI T := by rw [hDd, ho]; rfl
        obtain ⟨v1, v2⟩ := k1 T l ho
        rw [eD, hLt T l ho, if_neg (nm4 (show T < 2147483648 by omega))]
        show (if nI l = -4 then _ else _) = _
        rw [if_neg (nm4 (by omega))]
        by_cases x0 : x = 0
        · rw [if_pos x0, if_pos x0]; rfl
        · rw [if_neg x0, if_neg x0]
          by_cases x1 : x = 1
          · rw [if_pos x1, if_pos x1]; rfl
          · rw [if_neg x1, if_neg x1]
            cases hfin : fin with
            | false =>
              have eS : Sg = -4 := by rw [hSd, hfin]; rfl
              rw [eS]; rfl
            | true =>
              have eS : Sg = nI V := by rw [hSd, hfin]; rfl
              rw [eS, if_pos rfl, if_neg (show ¬ nI V = 1000000000 from fun e => by have := (nI_inj (b := 1000000000) (by omega) (by omega)).mp e; omega), if_neg (nm4 (by omega))]
              rfl
    refine ⟨G6, ?_, ?_, ?_⟩
    · unfold f_X10_twice
      rw [m_in 0 2 0 2 rfl rfl, zb_some, if_pos hx, b1, hm.2.1.1, hm.2.1.2.2.1, if_neg (show ¬ nI (aN (zR σ)) = 48 from fun e => by have := (nI_inj (b := 48) (by omega) (by omega)).mp e; omega), if_neg (fun e => hM0 ((nI_zr (by omega)).mp e)), a1, zb_some, m_keepCh hB1.1, zb_some, ← hG2, hB2.2.2.1, nI_1, zl_eq, show zw zN (fun s : Int32 × Int32 × Int32 × zG => l_X10_twice_66 M x (if fin = true then nI V else 1000000000) s.1 s.2.1 s.2.2.1 s.2.2.2) (-4, 1000000000, 1, zsi G2 M 0 (nI (aN (zR σ) + 1))) = some (bsT o', lsT o', g4) from t1, zk_some]
      exact htail
    · refine ⟨?_, fun b hb => ?_⟩
      · rw [g6r, g5r, t2.1, zsi_r, fz0.1, a2.1]
      · have hb' : b < M := Nat.lt_of_not_le hb
        constructor
        · rw [ez b (by omega), e5 b (by omega), (t2.2.2.2 b (by omega) (by omega) (by omega) (by omega) (by omega) (by omega)).1, e3 b (by omega), e2 b (by omega), (a2.2.2.2 b (by omega) (by omega) (by omega) (by omega)).1]
        · rw [g6r, g5r, (t2.2.2.2 b (by omega) (by omega) (by omega) (by omega) (by omega) (by omega)).2, zsi_l, (fz0.2 b (by omega)).2, (a2.2.2.2 b (by omega) (by omega) (by omega) (by omega)).2]
    · refine hm.tri ?_ (fun j hj => ?_) (fun i hi => ?_) (fun c hc => ?_) (fun y y0 y1 y2 y3 y4 => ?_) hv
      · rw [g6r, g5r, t2.1, zsi_r, fz0.1, a2.1]
      · by_cases j0 : j = 0
        · rw [j0, hfl0]
        · exact hfld j hj j0
      · rw [hG6, zfl_get, if_pos (by omega), Nat.sub_zero, e31 i hi]
      · rw [ez (M + 21) (by omega), e5 _ (by omega), t2.2.2.1 c hc, e3 _ (by omega), e2 _ (by omega), a2.2.2.1 c hc]
      · rw [ez y y1, e5 y (by omega), (t2.2.2.2 y (by omega) y1 y2 y3 (by omega) (by omega)).1, e3 y (by omega), e2 y (by omega), (a2.2.2.2 y (by omega) y2 y3 (by omega)).1]
  refine ⟨D, Sg, fun Lt hD => ?_, bsT o', hRT _ (fun T l e => by rw [e]; rfl), fun X r g hX hr hc h8 => ?_⟩
  · refine hRT Lt (fun T l e => ?_)
    have eD : D = nI T := by rw [hDd, e]; rfl
    have := (k1 T l e).1
    rw [eD] at hD
    exact absurd hD (nm4 (by omega))
  · have hq := hX.tp
    have hrr : rR r g := by
      rcases hr with e | e
      · rw [e]; exact hX.1
      · rw [e]; exact hX.2.1
    obtain ⟨gA, hgA⟩ : ∃ G, G = zsi (zsi g (X + 38) 8 1) (X + 38) 3 (-4) := ⟨_, rfl⟩
    have fA : frm (fun x => x = X + 38) g gA := by
      rw [hgA]
      exact (frm.si (S := fun x => x = X + 38) rfl).trans (frm.si (S := fun x => x = X + 38) rfl)
    have hXA : rX X gA := hX.kept fA.1
    have hcA : cR ρ r gA := hc.kept (fun b b1 b2 => (fA.2 b (by omega)).1)
    obtain ⟨gB, c1, c2, c3⟩ := q_copy hv hXA hr hcA
    have hXB := hXA.kept c2.1
    have hTB : TC ρ (aN ρ) (aC ρ) X r gB := ⟨hXB, hr, hcA.kept (fun b b1 b2 => (c2.2 b (by omega)).1), c3⟩
    obtain ⟨gC, t1, t2⟩ := cT X r gB hTB
    have hTC := hTB.kept t2 (fun x hx => hx)
    have hC3 := hTC.oC
    obtain ⟨gD, hgD⟩ : ∃ G, G = zsi gC (X + 38) 5 Sg := ⟨_, rfl⟩
    obtain ⟨gE, hgE⟩ : ∃ G, G = zsi gD (X + 40) 1 (nI (aN ρ + 1)) := ⟨_, rfl⟩
    have hTE : TD ρ X r gE := by
      obtain ⟨w1, w2, w3, w4, w5, w6, w7⟩ := hTC
      rw [hgE, hgD]
      refine ⟨w1.kept rfl, w2, w3.kept (fun b b1 b2 => ?_), ?_, ?_, ?_, fun i hi => ?_⟩
      · rw [zsi_at (by omega), zsi_at (by omega)]
      · exact zsi_same
      · rw [zsi_get (by omega), zsi_at (by omega)]; exact w5
      · rw [zsi_get (by omega), zsi_at (by omega)]; exact w6
      · rw [zsi_at (by omega), zsi_at (by omega)]; exact hC3.2.2 i hi
    have eC : gC.1 (X + 38) = gA.1 (X + 38) := by rw [(t2.2.2 (X + 38) (by omega)).1, (c2.2 (X + 38) (by omega)).1]
    have eE : ∀ j, gE.1 (X + 38) j = if j = 5 then Sg else gA.1 (X + 38) j := fun j => by
      rw [hgE, zsi_at (by omega), hgD]
      by_cases j5 : j = 5
      · rw [if_pos j5, j5, zsi_same]
      · rw [if_neg j5, zsi_get j5, eC]
    have hDE : hDo none X gE := by
      show gE.1 (X + 38) 3 = -4
      rw [eE, if_neg (by omega), hgA, zsi_same]
    obtain ⟨g', z1, z2, z3, z4⟩ := k2 X r gE zN hTE hDE (by have := zN_big; omega)
    refine ⟨g', ?_, ?_, ?_, ?_, ?_, ?_, ?_⟩
    · unfold f_X8_findDouble
      have e6 : gD.2.1 (X + 38) 6 = X + 40 := by rw [hgD]; exact hTC.1.tp.2.2.1
      have e7 : gD.1 (X + 40) 1 = nI (aN ρ) := by
        rw [hgD, zsi_at (by omega)]; exact hC3.2.1
      rw [if_pos h8, zl_eq, zl_eq, ← hgA, hXA.tp.2.2.1, show gA.2.1 r 0 = r + 1 by rw [fA.1]; exact hrr.1, c1, zb_some, t1, zb_some, ← hSd, zl_eq, ← hgD]
      rw [e6, e7, if_pos (show nI (aN ρ) < (48 : Int32) from (nlt (b := 48) (by omega) (by omega)).mpr hn), nI_1, zl_eq, ← hgE]
      show zk (zw zN (fun s : Int32 × zG => l_X8_findDouble_67 (X + 38) r s.1 s.2) (nI 1, gE)) _ = _
      rw [z1, zk_some]
      rfl
    · have fE : frX (fun x => X + 38 ≤ x ∧ x ≤ X + 48 ∧ x ≠ X + 39) X gC gE := by
        rw [hgE, hgD]
        exact frX.of ((frm.si (show X + 38 ≤ X + 38 ∧ X + 38 ≤ X + 48 ∧ X + 38 ≠ X + 39 by omega)).trans (frm.si (show X + 38 ≤ X + 40 ∧ X + 40 ≤ X + 48 ∧ X + 40 ≠ X + 39 by omega)))
      exact ((((frX.of (fA.mono (fun x hx => by omega))).trans (frX.of (c2.mono (fun x hx => by omega)))).trans (t2.mono (fun x hx => by omega))).trans fE).trans z2
    · rw [z3 8 (by omega) (by omega), eE, if_neg (by omega)]
      rw [hgA, zsi_get (by omega), zsi_same]
    · intro j j3 j4 j5 j8
      rw [z3 j j3 j4, eE, if_neg j5]
      rw [hgA, zsi_get j3, zsi_get j8]
    · cases ho : o' with
      | none =>
        rw [ho] at z4
        rw [hDd, ho]; exact z4
      | some p =>
        obtain ⟨T, l⟩ := p
        rw [ho] at z4
        rw [hDd, ho]; exact z4.1
    · rw [z3 5 (by omega) (by omega), eE, if_pos rfl]
    · intro hD
      cases ho : o' with
      | none =>
        exact absurd (by rw [hDd, ho]; rfl) hD
      | some p =>
        obtain ⟨T, l⟩ := p
        rw [ho] at z4
        exact z4.2
end TW
