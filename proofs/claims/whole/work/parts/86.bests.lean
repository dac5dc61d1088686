-- ===== best, of both =====
section BEST2
variable {ρ : aR} {X : Nat}
theorem PMb.frm9 {n : Nat} {f : Nat → Nat} {M : Nat} {S : Nat → Prop} {g g' : zG} (h : PMb ρ n f M g) (hf : frm S g g') (hS : ∀ x, S x → M + 9 ≤ x) : PMb ρ n f M g' := by
  have e : ∀ x, x < M + 9 → g'.1 x = g.1 x := fun x hx => (hf.2 x (fun z => by have := hS x z; omega)).1
  obtain ⟨h1, h2⟩ := h
  unfold PMb mP mCh at *
  rw [e (M + 4) (by omega), e (M + 5) (by omega), e (M + 6) (by omega), e (M + 7) (by omega), e (M + 8) (by omega), e (M + 2) (by omega), e (M + 3) (by omega), e M (by omega), e (M + 1) (by omega)]
  exact ⟨h1.kept hf.1, h2⟩
theorem frO.frm {M : Nat} {g g' : zG} (h : frO M g g') : frm (fun b => M ≤ b) g g' := ⟨h.1, fun b hb => h.2.2.2 b (fun e => hb (by omega)) (fun e => hb (by omega)) (fun e => hb (by omega)) (fun e => hb (by omega)) (fun e => hb (by omega)) (fun e => hb (by omega))⟩
def ansB (n : Nat) (T : Int32) (L : Nat → Int32) (x : Int32) : Int32 := if T = -4 then -2 else if x = 0 then T else if nI n ≤ x - 10 then -4 else L (x - 10).toNatClampNeg
/-- what the reference's search answers, told of the text alone -/
def RB (ρ : aR) (T : Int32) (L : Nat → Int32) : Prop := ∀ (M k : Nat) (σ : aZ) (g : zG) (x : Int32), vZ k σ → zR σ = ρ → MI σ M g → (x = 0 ∨ (10 ≤ x.toInt ∧ x.toInt ≤ 15)) → ∃ g', j_X10_best_20 M x g = some (ansB (aN ρ) T L x, g') ∧ frm (fun b => M ≤ b) g g' ∧ MI σ M g'
theorem srt_ex {n : Nat} (f : Nat → Nat) (hn : 2 ≤ n ∧ n ≤ 48) (hf : ∀ i, i < n → f i ≤ 26) : ∃ f', srt n f' ∧ Pm 0 n f f' := by
  obtain ⟨f', g', -, -, -, h1, h2⟩ := c_sort (n := n) (a := 0) (f := f) (g := (fun b j => if b = 0 then nI n else nI (f j), fun _ _ => 1, fun _ _ => 0)) ⟨rfl, rfl, fun i _ => rfl⟩ hn hf
  exact ⟨f', h1, h2⟩
/-- the end of the reference's search -/
theorem b_end (hv : vR ρ) (hn6 : aN ρ ≤ 6) {M k : Nat} {σ : aZ} {g G1 g' : zG} {x : Int32} (hσ : zR σ = ρ) (hm : MI σ M g) (hx : x = 0 ∨ (10 ≤ x.toInt ∧ x.toInt ≤ 15)) (hG1 : G1 = zfl g (M + 31) 0 (fun j => g.1 (M + 1) j) 49) (hf : frO M G1 g') {T : Int32} {L : Nat → Int32} {l2 : Int32} (hT : (l2 = 1000000000 ∧ T = -4) ∨ (l2 = T ∧ ¬ T = 1000000000 ∧ ¬ T = -4 ∧ ∀ i, i < aN ρ → g'.1 (M + 32) i = L i)) : ∃ g2, j_X10_best_163 M x l2 g' = some (ansB (aN ρ) T L x, g2) ∧ frm (fun b => M ≤ b) g g2 ∧ MI σ M g2 := by
  subst hσ
  have bn := hv.1
  have fz0 := zfl_frm g (M + 31) 0 (fun j => g.1 (M + 1) j) 49
  rw [← hG1] at fz0
  have hM' : rM M g' := (hm.1.kept fz0.1).kept hf.1
  have fz := zfl_frm g' (M + 1) 0 (fun j => g'.1 (M + 31) j) 49
  have e31 : ∀ j, j < 49 → g'.1 (M + 31) j = g.1 (M + 1) j := fun j hj => by
    rw [(hf.2.2.2 (M + 31) (by omega) (by omega) (by omega) (by omega) (by omega) (by omega)).1, hG1, zfl_get, if_pos (by omega), Nat.sub_zero]
  have ez : ∀ y, y ≠ M + 1 → (zfl g' (M + 1) 0 (fun j => g'.1 (M + 31) j) 49).1 y = g'.1 y := fun y hy => (fz.2 y hy).1
  have h0 : (zfl g' (M + 1) 0 (fun j => g'.1 (M + 31) j) 49).1 M 0 = nI (aN (zR σ)) := by
    rw [ez M (by omega), hf.2.1 0 (by omega), (fz0.2 M (by omega)).1]; exact hm.2.1.1
  refine ⟨zfl g' (M + 1) 0 (fun j => g'.1 (M + 31) j) 49, ?_, ((fz0.mono (fun y hy => by omega)).trans hf.frm).trans (fz.mono (fun y hy => by omega)), ?_⟩
  · unfold j_X10_best_163
    rw [m_again hM', zb_some, h0]
    unfold ansB
    rcases hT with ⟨e1, e2⟩ | ⟨e1, e2, e3, e4⟩
    · rw [if_pos e1, if_pos e2]
    · rw [e1, if_neg e2, if_neg e3]
      by_cases hx0 : x = 0
      · rw [if_pos hx0, if_pos hx0]
      · rw [if_neg hx0, if_neg hx0]
        rcases hx with hx | hx
        · exact absurd hx hx0
        · obtain ⟨i, i1, i2⟩ : ∃ i, i < 6 ∧ x - 10 = nI i := by
            have h10 : (x - 10).toInt = x.toInt - 10 := i_sub (by show -2147483648 ≤ x.toInt - 10 ∧ x.toInt - 10 < 2147483648; omega)
            exact i_one (n := 6) (by rw [h10]; omega) (by omega)
          rw [i2]
          by_cases h : nI (aN (zR σ)) ≤ nI i
          · rw [if_pos h, if_pos h]
          · rw [if_neg h, if_neg h, zc_pos (zlit i 6 i1 (by omega)), nI_cl (by omega), zfl_r, hM'.kl.2.2, ez (M + 32) (by omega), e4 i (Classical.byContradiction (fun z => h ((nle (by omega) (by omega)).mpr (by omega))))]
  · refine hm.tri (by rw [zfl_r]; exact hf.1.trans fz0.1) (fun j hj => ?_) (fun i hi => ?_) (fun c hc => ?_) (fun y y0 y1 y2 y3 y4 => ?_) hv
    · rw [ez M (by omega), hf.2.1 j hj, (fz0.2 M (by omega)).1]
    · rw [zfl_get, if_pos (by omega), Nat.sub_zero, e31 i hi]
    · rw [ez (M + 21) (by omega), hf.2.2.1 c hc, (fz0.2 (M + 21) (by omega)).1]
    · rw [ez y y1, (hf.2.2.2 y (by omega) y1 y2 y3 (by omega) (by omega)).1, (fz0.2 y (by omega)).1]
theorem best_all (hv : vR ρ) (hn6 : aN ρ ≤ 6) (hM0 : aM ρ ≠ 0) : ∃ T L, RB ρ T L ∧ ∀ X r g, rX X g → (r = X + 1 ∨ r = X + 12) → cR ρ r g → g.1 (X + 38) 7 = 0 → ∃ g', f_X8_findOrder (X + 38) r g = some (0, g') ∧ frX (fun x => X + 38 ≤ x ∧ x ≤ X + 48) X g g' ∧ g'.1 (X + 38) 7 = 1 ∧ (∀ j, j ≠ 2 → j ≠ 7 → g'.1 (X + 38) j = g.1 (X + 38) j) ∧ g'.1 (X + 38) 2 = T ∧ ∀ i, i < aN ρ → g'.1 (X + 39) i = L i := by
  have bn := hv.1
  have bC := hv.2.1
  have b24 := hv.2.2.2.2.2.2.2.2.2.2.2.1
  have hfc := fct_mono (aN ρ) hn6
  obtain ⟨f0, hs0, hP0⟩ := srt_ex (aC ρ) bn (fun i hi => (bC i hi).2)
  have hf0 : ∀ i, i < aN ρ → 1 ≤ f0 i ∧ f0 i ≤ 26 := hP0.all (Q := fun v => 1 ≤ v ∧ v ≤ 26) bC
  have hch : vCh (aN ρ) (aV ρ 1) (aV ρ 2) f0 := ⟨by omega, by have := hv.2.2.1; omega, hv.2.2.2.1, hf0⟩
  obtain ⟨fin, V, hV, hRs, cT, mT⟩ := try_two hv hch
  have hRs' : Rs ρ (fun l => ∃ i, i < aN ρ ∧ aC ρ i = l) (aM ρ) 0 (fun _ => 0) 0 fin := by
    obtain ⟨fin2, V2, -, hRs2, -, -⟩ := try_two hv hv.ch
    have : fin = fin2 := Rs.uniq (on := fun l => ∃ i, i < aN ρ ∧ f0 i = l) (on' := fun l => ∃ i, i < aN ρ ∧ aC ρ i = l) (fun l => ⟨fun h => hP0.symm.has h, fun h => hP0.has h⟩) (fun k hk => (hv.2.2.2.2.2.2.2.2.2.2.2.2 k hk).1) (aM ρ) 0 0 (fun _ => 0) fin fin2 (by omega) hRs hRs2
    rw [this]; exact hRs2
  -- both up to the first order
  have begC : ∀ X r g, rX X g → (r = X + 1 ∨ r = X + 12) → cR ρ r g → g.1 (X + 38) 7 = 0 → ∃ g2, TC ρ (aN ρ) f0 X r g2 ∧ frX (fun x => X + 38 ≤ x ∧ x ≤ X + 48) X g g2 ∧ g2.1 (X + 38) 7 = 1 ∧ (∀ j, j ≠ 2 → j ≠ 7 → g2.1 (X + 38) j = g.1 (X + 38) j) ∧ g2.1 (X + 38) 2 = (if fin = true then nI V else -4) ∧ (∀ i, i < aN ρ → g2.1 (X + 39) i = nI (f0 i)) ∧ f_X8_findOrder (X + 38) r g = zk (zw zN (fun s => l_X8_findOrder_42 (X + 38) r s.1 s.2) (1, g2)) (fun x => j_X8_findOrder_93 (X + 38) x) := by
    intro X r g hX hr hc h7
    have hq := hX.tp
    have hrr : rR r g := by
      rcases hr with e | e
      · rw [e]; exact hX.1
      · rw [e]; exact hX.2.1
    have fA : frm (fun x => X + 38 ≤ x ∧ x ≤ X + 48) g (zsi g (X + 38) 7 1) := frm.si (show X + 38 ≤ X + 38 ∧ X + 38 ≤ X + 48 by omega)
    have hXA : rX X (zsi g (X + 38) 7 1) := hX.kept fA.1
    have hcA : cR ρ r (zsi g (X + 38) 7 1) := hc.kept (fun b b1 b2 => zsi_at (by omega))
    obtain ⟨gB, c1, c2, c3⟩ := q_copy hv hXA hr hcA
    have hXB := hXA.kept c2.1
    have hcB : cR ρ r gB := hcA.kept (fun b b1 b2 => (c2.2 b (by omega)).1)
    have hTB : TC ρ (aN ρ) (aC ρ) X r gB := ⟨hXB, hr, hcB, c3⟩
    obtain ⟨f1, gC, s1, s2, s3, s4, s5⟩ := c_sort hTB.oC bn (fun i hi => (bC i hi).2)
    have hTC1 := hTB.chg s2 s3
    have hTC0 : TC ρ (aN ρ) f0 X r gC := by
      obtain ⟨w1, w2, w3, w4, w5, w6, w7⟩ := hTC1
      exact ⟨w1, w2, w3, w4, w5, w6, fun i hi => by rw [w7 i hi, srt_eq s4 hs0 (s5.symm.trans hP0) i hi]⟩
    obtain ⟨gD, t1, t2⟩ := cT X r gC hTC0
    have hTD := hTC0.kept t2 (fun x hx => hx)
    obtain ⟨gE, u1, u2, u3, u4, u5⟩ := q_keep (v := if fin = true then nI V else -4) hTD.1
    have fr : frX (fun x => X + 38 ≤ x ∧ x ≤ X + 48) X g gE := ((((frX.of fA).trans (frX.of (c2.mono (fun x hx => by omega)))).trans (frX.of (s2.mono (fun x hx => by omega)))).trans (t2.mono (fun x hx => by omega))).trans (frX.of (u2.mono (fun x hx => by omega)))
    have eD : gD.1 (X + 38) = (zsi g (X + 38) 7 1).1 (X + 38) := by
      rw [(t2.2.2 (X + 38) (by omega)).1, (s2.2 (X + 38) (by omega)).1, (c2.2 (X + 38) (by omega)).1]
    have hTE : TC ρ (aN ρ) f0 X r gE := by
      obtain ⟨w1, w2, w3, w4⟩ := hTD
      have e : ∀ x, ¬ (x = X + 38 ∨ x = X + 39) → gE.1 x = gD.1 x := fun x hx => (u2.2 x hx).1
      refine ⟨w1.kept u2.1, w2, w3.kept (fun b b1 b2 => e b (by omega)), ?_⟩
      unfold cCh at *
      rw [u2.1, w1.tp.2.2.2.1, e (X + 40) (by omega), e (X + 41) (by omega), ← w1.tp.2.2.2.1]
      exact w4
    refine ⟨gE, hTE, fr, ?_, ?_, u3, fun i hi => ?_, ?_⟩
    · rw [u4 7 (by omega), eD, zsi_same]
    · intro j j1 j2
      rw [u4 j j1, eD, zsi_get j2]
    · rw [u5 i (by omega)]; exact hTD.oC.2.2 i hi
    · unfold f_X8_findOrder
      rw [if_pos h7, zl_eq, zsi_r, hq.2.2.1, hrr.1, c1, zb_some, hXB.tp.2.2.1, s1, zb_some, t1, zb_some, u1, zb_some]
  have begM : ∀ M k σ g x, vZ k σ → zR σ = ρ → MI σ M g → ∃ g2, PMb ρ (aN ρ) f0 M g2 ∧ frO M (zfl g (M + 31) 0 (fun j => g.1 (M + 1) j) 49) g2 ∧ j_X10_best_20 M x g = zk (zw zN (fun s : Int32 × Int32 × zG => l_X10_best_104 M x s.1 s.2.1 s.2.2) (1000000000, 1, g2)) (fun y => j_X10_best_163 M x y.1 y.2) := by
    intro M k σ g x hvz hσ hm
    subst hσ
    obtain ⟨hB, -⟩ := hm.toM 0
    have fz0 := zfl_frm g (M + 31) 0 (fun j => g.1 (M + 1) j) 49
    have hB1 := hB.frm9 fz0 (fun x hx => by omega)
    obtain ⟨f1, g2, s1, s2, s3, s4, s5⟩ := m_sort hB1.oM bn (fun i hi => (bC i hi).2) x
    have hB2 := hB1.chg s2 s3
    have hB3 : PMb (zR σ) (aN (zR σ)) f0 M g2 := by
      obtain ⟨w1, w2, w3, w4, w5, w6⟩ := hB2
      exact ⟨w1, w2, w3, w4, w5, fun i hi => by rw [w6 i hi, srt_eq s4 hs0 (s5.symm.trans hP0) i hi]⟩
    refine ⟨g2, hB3, frO.of s2 (fun x hx => Or.inl hx), ?_⟩
    unfold j_X10_best_20
    rw [hm.2.1.1, hm.2.1.2.2.1, if_neg (show ¬ (6 : Int32) < nI (aN (zR σ)) from fun e => by have := (nlt (a := 6) (by omega) (by omega)).mp e; omega), if_neg (fun e => hM0 ((nI_zr (by omega)).mp e)), m_keepCh hm.1, zb_some, s1, zk_some]
    rfl
  obtain ⟨zK, hzK⟩ : ∃ K, zN = K + 1 := ⟨99999, rfl⟩
  cases fin with
  | true =>
    obtain ⟨T', L', k1, k2, k3⟩ := ord_all hv rfl hn6 hRs' (fct (aN ρ)) f0 V f0 hP0 (by omega) hV
    refine ⟨nI T', fun i => nI (L' i), fun M k σ g x hvz hσ hm hx => ?_, fun X r g hX hr hc h7 => ?_⟩
    · obtain ⟨g2, hB2, hf2, e2⟩ := begM M k σ g x hvz hσ hm
      obtain ⟨g3, a1, a2⟩ := mT M g2 hB2
      have hB3 := a2.pmb hB2
      have fz := zfl_frm g3 (M + 32) 0 (fun j => g3.1 (M + 1) j) (aN ρ)
      have hB4 := hB3.frm9 fz (fun x hx => by omega)
      obtain ⟨v, g8, o1⟩ := m_on (by omega) (fun i hi => (hf0 i hi).2) hB4.oM
      obtain ⟨g', t1, t2, t3⟩ := k3 M _ zK x hB4 (fun i hi => by rw [zfl_get, if_pos (by omega), Nat.sub_zero]; exact hB3.oM.2.2 i hi) (by have : zN = 100000 := rfl; omega)
      rw [o1, zb_some] at t1
      have hw : zw zN (fun s : Int32 × Int32 × zG => l_X10_best_104 M x s.1 s.2.1 s.2.2) (1000000000, 1, g2) = some (nI T', g') := by
        rw [hzK, zw_step (s' := (nI V, v, g8)) (by
          show l_X10_best_104 M x 1000000000 1 g2 = _
          unfold l_X10_best_104
          rw [b1, a1, if_pos rfl, zb_some, if_neg (show ¬ (1000000000 : Int32) ≤ nI V from fun e => by have := (nle (a := 1000000000) (by omega) (by omega)).mp e; omega), m_cpBest hB3.1 hB3.2.2.1 hn6, zk_some]
          unfold j_X10_best_155_104
          rw [o1, zb_some])]
        exact t1
      rw [e2, hw, zk_some]
      refine b_end hv hn6 (k := k) hσ hm hx rfl (((hf2.trans (frO.ofR a2)).trans (frO.of fz (fun x hx => Or.inr hx))).trans t2) (Or.inr ⟨rfl, fun e => ?_, nm4 (by omega), t3⟩)
      have := (nI_inj (b := 1000000000) (by omega) (by omega)).mp e
      omega
    · obtain ⟨g2, hT2, f2, e7, ej, e2, eL, hgo⟩ := begC X r g hX hr hc h7
      obtain ⟨g', t1, t2, t3, t4, t5⟩ := k2 X r g2 zN 1 hT2 e2 eL (by omega) (by have : zN = 100000 := rfl; omega)
      refine ⟨g', ?_, f2.trans t2, by rw [t3 7 (by omega)]; exact e7, fun j j1 j2 => by rw [t3 j j1, ej j j1 j2], t4, t5⟩
      rw [hgo, show zw zN (fun s : Int32 × zG => l_X8_findOrder_42 (X + 38) r s.1 s.2) (1, g2) = some g' from t1, zk_some]
      rfl
  | false =>
    refine ⟨-4, fun i => nI (f0 i), fun M k σ g x hvz hσ hm hx => ?_, fun X r g hX hr hc h7 => ?_⟩
    · obtain ⟨g2, hB2, hf2, e2⟩ := begM M k σ g x hvz hσ hm
      obtain ⟨g3, a1, a2⟩ := mT M g2 hB2
      have hB3 := a2.pmb hB2
      obtain ⟨v, g8, o1⟩ := m_on (by omega) (fun i hi => (hf0 i hi).2) hB3.oM
      obtain ⟨g', t1, t2⟩ := ord_none hv rfl hn6 hRs' (fct (aN ρ)) f0 hP0 (by omega) M g3 zK x hB3 (by have : zN = 100000 := rfl; omega)
      rw [o1, zb_some] at t1
      have hw : zw zN (fun s : Int32 × Int32 × zG => l_X10_best_104 M x s.1 s.2.1 s.2.2) (1000000000, 1, g2) = some (1000000000, g') := by
        rw [hzK, zw_step (s' := (1000000000, v, g8)) (by
          show l_X10_best_104 M x 1000000000 1 g2 = _
          unfold l_X10_best_104
          rw [b1, a1, if_neg (by decide), zb_some, if_pos (Int32.le_refl _)]
          unfold j_X10_best_155_104
          rw [o1, zb_some])]
        exact t1
      rw [e2, hw, zk_some]
      exact b_end hv hn6 (k := k) hσ hm hx rfl ((hf2.trans (frO.ofR a2)).trans t2) (Or.inl ⟨rfl, rfl⟩)
    · obtain ⟨g2, hT2, f2, e7, ej, e2, eL, hgo⟩ := begC X r g hX hr hc h7
      rw [if_neg (by decide)] at e2
      refine ⟨g2, ?_, f2, e7, ej, e2, eL⟩
      have hw : zw zN (fun s : Int32 × zG => l_X8_findOrder_42 (X + 38) r s.1 s.2) (1, g2) = some g2 := by
        rw [hzK]
        apply zw_end
        show l_X8_findOrder_42 (X + 38) r 1 g2 = _
        unfold l_X8_findOrder_42
        rw [if_neg (by decide), if_pos e2]
      rw [hgo, hw, zk_some]
      rfl
end BEST2
