section OTX
variable {X : Nat}
theorem SCt_lt {d x : Nat} (hd : d = X + 1 ∨ d = X + 12) (h : SCt X d x) : x < X + 53 ∧ x ≠ X + 38 ∧ x ≠ X + 39 := by
  unfold SCt at h
  omega
theorem SMt_ge {M x : Nat} (h : SMt M x) : M ≤ x := by
  unfold SMt at h
  omega
theorem TI.keptC {ρ : aR} {g g' : zG} {S : Nat → Prop} (h : TI ρ X g) (hf : frm S g g') (hS : ∀ x, S x → x ≠ X + 38 ∧ x ≠ X + 39) : TI ρ X g' := by
  unfold TI at *
  rw [(hf.2 (X + 38) (fun z => (hS _ z).1 rfl)).1, (hf.2 (X + 39) (fun z => (hS _ z).2 rfl)).1]
  exact h
theorem o_text : OKT X (fun g => f_X9_text X g) (fun g => f_X10_text (X + 53) g) := by
  intro k σ r g hk hv hc hm ht
  have hX := hc.1
  have hvt := hv.2.1
  have hl := hvt.1
  obtain ⟨d, h1, hd⟩ : ∃ d, g.2.1 X 1 = d ∧ ((r = X + 1 ∧ d = X + 12) ∨ (r = X + 12 ∧ d = X + 1)) := by
    rcases hc.2.1.2.1 with ⟨e1, e2⟩ | ⟨e1, e2⟩
    · exact ⟨_, e2, Or.inl ⟨e1, rfl⟩⟩
    · exact ⟨_, e2, Or.inr ⟨e1, rfl⟩⟩
  have hd2 : d = X + 1 ∨ d = X + 12 := by omega
  obtain ⟨g7, p1, p2, p3, p4, p5, p6⟩ := txt_C hc hd
  -- a text with a fault
  have bad : ∀ (c x : Nat) (ga : zG), 1 ≤ c ∧ c ≤ 7 → f_X4_readInto (X + 23) d g = some (0, ga) → ga.1 (X + 23) 2 = nI c → ga.1 (X + 23) 3 = nI x → frm (SCt X d) g ga → (∀ g1, MI σ (X + 53) g1 → ∃ g2, f_X10_text (X + 53) g1 = some (-10 - nI x, g2) ∧ frm (SMt (X + 53)) g1 g2 ∧ MI (zBad σ c) (X + 53) g2) → ∃ v g1 g2 σ' r', f_X9_text X g = some (v, g1) ∧ f_X10_text (X + 53) g1 = some (v, g2) ∧ vZ (k + 1) σ' ∧ CI σ' X r' g2 ∧ MI σ' (X + 53) g2 ∧ TI (zR σ') X g2 := by
    intro c x ga hcc w1 w2 w3 w4 hM
    obtain ⟨g2, u1, u2, u3⟩ := txt_B hc hd h1 w1 w2 w3 w4
    obtain ⟨g3, y1, y2, y3⟩ := hM g2 (hm.kept u2 (fun b hb => (SCt_lt hd2 hb).1))
    refine ⟨_, g2, g3, zBad σ c, r, u1, y1, zBad_v hv, u3.kept y2 (fun b hb => SMt_ge hb), y3, ?_⟩
    exact (TI.keptC ht u2 (fun x hx => (SCt_lt hd2 hx).2)).kept y2 (fun b hb => SMt_ge hb)
  show ∃ v g1 g2 σ' r', f_X9_text X g = some (v, g1) ∧ f_X10_text (X + 53) g1 = some (v, g2) ∧ vZ (k + 1) σ' ∧ CI σ' X r' g2 ∧ MI σ' (X + 53) g2 ∧ TI (zR σ') X g2
  rcases loop_both hvt (zTp σ).1 0 0 δ0 (by omega) (Nat.zero_le _) (δ0_v 0) (Nat.le_refl _) with ⟨c, x, c1, c2, c3, c4⟩ | ⟨δ, m, c1, c2, c3, c4⟩
  · obtain ⟨ga, w1, w2, w3, w4⟩ := c3 X d g7 zN p2 p3 p4 p5 (by have := zN_big; omega)
    refine bad c x ga (by omega) (by rw [p1]; exact w1) w2 w3 (p6.1.trans w4.1) (fun g1 hm1 => ?_)
    obtain ⟨q7, y1, y2, y3, y4⟩ := txt_M hvt hm1
    obtain ⟨y, q8, z1, z2, z3⟩ := c4 (X + 53) q7 zN y2 y3 (by have := zN_big; omega)
    have fr : frm (SMt (X + 53)) g1 (zsi q8 (X + 53) 27 0) := (y4.1.trans z3.1).trans (frm.si (Or.inl rfl))
    refine ⟨zsi q8 (X + 53) 27 0, ?_, fr, hm1.bad fr (fun j j1 j2 => ?_) zsi_same (by rw [zsi_get (by omega)]; exact z2.1)⟩
    · rw [y1, z1, zk_some]
      exact txt_F (by omega) z2
    · rw [zsi_get j2, z3.2 j j1, y4.2 j j1]
  · obtain ⟨ga, w1, w2, w3, w4, w5⟩ := c3 X d g7 zN p2 p3 p4 p5 (by have := zN_big; omega)
    have hVd := c1
    obtain ⟨v1, v2, ⟨v3, v4, v5, v6, v7, v8, v9⟩, v10, ⟨v11, v12⟩, v13, v14, v15, ⟨v16, v16'⟩, v17⟩ := c1
    have hCa := w2
    obtain ⟨n1, n2, n3, n4, n5, n6, n7, n8, ⟨n9, n10⟩, n11⟩ := w2
    have hra := hCa.rr
    -- settled
    obtain ⟨gs, s1, s2, s3, s4, s5, s6, s7⟩ := q_settle (δ := δ) hra (fun i hi => ⟨n8 i hi, v10 i⟩) ⟨fun z => by
      obtain ⟨r', hr'⟩ := v15.mp z
      obtain ⟨i, i1, i2, i3⟩ := v14 r' hr'
      rcases (v17 i i1).1 with q | q
      · exact ⟨r', by omega, hr'⟩
      · omega, fun ⟨r', _, hr'⟩ => v15.mpr ⟨r', hr'⟩⟩
    have es : ∀ y, ¬ (y = d + 1 ∨ y = d + 10) → gs.1 y = ga.1 y := fun y hy => (s2.2 y hy).1
    have hXs : rX X gs := hCa.1.1.kept s2.1
    have hrs : rR d gs := by
      rcases hd2 with e | e
      · rw [e]; exact hXs.1
      · rw [e]; exact hXs.2.1
    have hKs : ∀ i, i < dq δ → gs.1 (X + 25) i = nI (dK δ i).1 ∧ gs.1 (X + 26) i = nI (dK δ i).2.1 ∧ gs.1 (X + 27) i = nI (dK δ i).2.2 := fun i hi => by
      rw [es (X + 25) (by omega), es (X + 26) (by omega), es (X + 27) (by omega)]; exact n10 i hi
    obtain ⟨qb1, qb2⟩ := q_behind (δ := δ) (g := gs) hXs hrs (by omega) (by rw [es (X + 23) (by omega)]; exact n9) hKs (fun k k1 k2 => by rw [es (d + 9) (by omega)]; exact n7 k k1 k2) (fun i hi => by
      rcases (v17 i hi).1 with q | q
      · exact ⟨Or.inl q.1, by omega⟩
      · exact ⟨Or.inr q.1, by omega⟩) ⟨by omega, by omega⟩
    have frs : frm (SCt X d) g gs := (p6.1.trans w5.1).trans (s2.mono (fun y hy => Or.inr (Or.inr (by omega))))
    -- the reference behind its lines
    have refM : ∀ g1, MI σ (X + 53) g1 → ∃ q8, MB (zTp σ) (X + 53) δ q8 ∧ q8.1 (X + 53) 32 = 0 ∧ hF (X + 53) g1 q8 ∧ f_X10_text (X + 53) g1 = j_X10_text_44 (X + 53) (nI m) q8 := by
      intro g1 hm1
      obtain ⟨q7, y1, y2, y3, y4⟩ := txt_M hvt hm1
      obtain ⟨q8, z1, z2, z3, z4⟩ := c4 (X + 53) q7 zN y2 y3 (by have := zN_big; omega)
      exact ⟨q8, z2, z3, y4.trans z4, by rw [y1, z1, zk_some]⟩
    have refB : ∀ q8, MB (zTp σ) (X + 53) δ q8 → q8.1 (X + 53) 32 = 0 → ((∀ i, i < dq δ → (dK δ i).2.1 ≤ lim δ i) → zw zN (fun s : Int32 × zG => l_X10_text_51 (X + 53) (nI m) s.1 s.2) (0, zsi q8 (X + 53) 27 0) = some (zsi q8 (X + 53) 27 0)) ∧ ∀ i, i < dq δ → ¬ (dK δ i).2.1 ≤ lim δ i → (∀ j, j < i → (dK δ j).2.1 ≤ lim δ j) → zw zN (fun s : Int32 × zG => l_X10_text_51 (X + 53) (nI m) s.1 s.2) (0, zsi q8 (X + 53) 27 0) = some (zsi (zsi (zsi q8 (X + 53) 27 0) (X + 53) 32 (nI (dK δ i).1)) (X + 53) 33 (nI (dK δ i).2.2)) := by
      intro q8 hB h32
      obtain ⟨o0, o1, o2, o3, o4, o5, o6, ⟨o7, o8⟩, o9, o10⟩ := hB
      refine m_behind (δ := δ) (g := zsi q8 (X + 53) 27 0) (o0.1.kept rfl) (by omega) (by rw [zsi_get (by omega)]; exact o7) (fun i hi => by rw [zsi_at (by omega), zsi_at (by omega)]; exact o8 i hi) (fun k k1 k2 => by rw [zsi_at (by omega)]; exact o5 k k1 k2) (fun i hi => by
        rcases (v17 i hi).1 with q | q
        · exact ⟨Or.inl q.1, by omega⟩
        · exact ⟨Or.inr q.1, by omega⟩) ⟨by omega, by omega⟩ (by rw [zsi_get (by omega)]; exact h32) (nI m)
    by_cases hgood : ∀ i, i < dq δ → (dK δ i).2.1 ≤ lim δ i
    · -- the new rules
      have hrd : f_X4_readInto (X + 23) d g = some (1, gs) := by
        rw [p1]
        apply w1
        rw [s1, zb_some, qb1 hgood, zb_some, zc_pos (Or.inr rfl)]
      obtain ⟨g6, a1, a2, a3, a4, a5⟩ := zsix (g0 := gs) (a := X + 23) (k := 1) (x := 0)
      have hX6 : rX X g6 := hXs.kept (by rw [a2])
      have er : g6.2.1 = g.2.1 := by rw [a2, s3, w5.1.1, p6.1.1]
      have hX13 : rX X (zsr (zsr g6 X 0 d) X 1 r) := by
        have o1 : ∀ y, y ≠ X → (zsr (zsr g6 X 0 d) X 1 r).2.1 y = g6.2.1 y := fun y hy => by rw [zsr_at hy, zsr_at hy]
        have o2 : ∀ j, j ≠ 0 → j ≠ 1 → (zsr (zsr g6 X 0 d) X 1 r).2.1 X j = g6.2.1 X j := fun j j1 j2 => by rw [zsr_get j2, zsr_get j1]
        unfold rX rR at *
        simp only [o2 2 (by omega) (by omega), o2 3 (by omega) (by omega), o2 4 (by omega) (by omega), o2 5 (by omega) (by omega), o2 6 (by omega) (by omega)]
        simp (disch := omega) only [o1]
        exact hX6
      obtain ⟨gt, t1, t2, t3, t4, t5, t6, t7, t8, t9, t10, t11, t12, t13⟩ := q_takeRules (g := zsr (zsr g6 X 0 d) X 1 r) hX13 (by rw [zsr_get (by omega), zsr_same]) hd2
      have xt : ∀ y, y ≠ X → ¬ (X + 29 ≤ y ∧ y ≤ X + 33) → y ≠ X + 38 → gt.1 y = g6.1 y := fun y a b c => t2 y a b c
      have x6 : ∀ y, y ≠ X + 23 → g6.1 y = gs.1 y := fun y hy => a3 y hy
      have xg : ∀ y, ¬ SCt X d y → gs.1 y = g.1 y := fun y hy => (frs.2 y hy).1
      have r0 : gt.2.1 X 0 = d := by rw [t4 X (by omega), zsr_get (by omega), zsr_same]
      have r1 : gt.2.1 X 1 = r := by rw [t4 X (by omega), zsr_same]
      have rXt : rX X gt := by
        unfold rX rR at *
        simp only [t5 0 (by omega) (by omega), t5 1 (by omega) (by omega), t5 6 (by omega) (by omega)]
        simp (disch := omega) only [t4]
        exact hX13
      have hcI : CI (zGood σ δ) X d gt := by
        refine ⟨rXt, ⟨r0, hd.elim (fun z => Or.inr ⟨z.2, r1.trans z.1⟩) (fun z => Or.inl ⟨z.2, r1.trans z.1⟩), t6, t7⟩, ⟨⟨?_, ?_, ?_⟩, fun i hi => ?_, ?_, fun k hk => ?_, fun k k1 k2 => ?_, fun i hi => ?_⟩, ⟨?_, fun i hi => absurd hi (Nat.not_lt_zero _)⟩, ?_, fun c hcc => ?_, ⟨t8.1, t8.2.1, t8.2.2⟩, t11, ⟨t10, fun z => (by cases z)⟩, ⟨t13, fun z => (by cases z)⟩, ?_⟩
        · rw [xt _ (by omega) (by omega) (by omega), x6 _ (by omega), s4]; exact n3.1
        · rw [xt _ (by omega) (by omega) (by omega), x6 _ (by omega), s5]; exact n7 1 (by omega) (by omega)
        · rw [xt _ (by omega) (by omega) (by omega), x6 _ (by omega), s6]; exact n7 2 (by omega) (by omega)
        · rw [xt _ (by omega) (by omega) (by omega), x6 _ (by omega), es _ (by omega)]; exact n3.2 i hi
        · rw [xt _ (by omega) (by omega) (by omega), x6 _ (by omega), es _ (by omega)]; exact n4.1
        · have hk : k < aM (dR δ) := hk
          obtain ⟨o1, o2, o3, o4⟩ := n5 k hk
          rw [xt (d + 4) (by omega) (by omega) (by omega), x6 (d + 4) (by omega), es (d + 4) (by omega), xt (d + 5) (by omega) (by omega) (by omega), x6 (d + 5) (by omega), es (d + 5) (by omega), xt (d + 6) (by omega) (by omega) (by omega), x6 (d + 6) (by omega), es (d + 6) (by omega), xt (d + 7) (by omega) (by omega) (by omega), x6 (d + 7) (by omega), es (d + 7) (by omega), xt (d + 8) (by omega) (by omega) (by omega), x6 (d + 8) (by omega), es (d + 8) (by omega)]
          refine ⟨o1, o2, o3, o4, fun i hi => ?_⟩
          have hi : i < aY (dR δ) k := hi
          have := (v12 k hk).2.2.2.2.2.1
          exact n6 _ (by show aF (dR δ) k + i < dl δ; omega)
        · rw [xt _ (by omega) (by omega) (by omega), x6 _ (by omega), es _ (by omega)]; exact n7 k k1 k2
        · rw [xt _ (by omega) (by omega) (by omega), x6 _ (by omega)]; exact s7 i hi
        · rw [xt _ (by omega) (by omega) (by omega), a5]; rfl
        · rw [xt _ (by omega) (by omega) (by omega), a4 2 (by omega), es _ (by omega), w4]; rfl
        · rw [t9 c hcc]; rfl
        · have o : ∀ y, X + 50 ≤ y → y ≤ X + 52 → gt.1 y = g.1 y := fun y a b => by rw [xt y (by omega) (by omega) (by omega), x6 y (by omega), xg y (by unfold SCt; omega)]
          rw [o (X + 50) (by omega) (by omega), o (X + 51) (by omega) (by omega), o (X + 52) (by omega) (by omega)]
          exact hc.2.2.2.2.2.2.2.2.2.2
      have eC : f_X9_text X g = some (nI m, gt) := by
        unfold f_X9_text
        rw [hX.re, h1, hrd, zb_some, hXs.re, zl_eq, a1, b1, zl_eq, er, h1, hc.2.1.1, zl_eq, zl_eq, t1, zb_some, rXt.re, xt _ (by omega) (by omega) (by omega), a4 4 (by omega), es _ (by omega), w3]
      have frt : frm (fun y => y < X + 53) g g6 := (frs.mono (fun y hy => (SCt_lt hd2 hy).1)).trans (by rw [← a1]; exact frm.si (show X + 23 < X + 53 by omega))
      have hm1 : MI σ (X + 53) gt := by
        have hm6 := hm.kept frt (fun y hy => hy)
        have e : ∀ y, X + 53 ≤ y → gt.1 y = g6.1 y := fun y hy => xt y (by omega) (by omega) (by omega)
        have e2 : gt.2.1 (X + 53) = g6.2.1 (X + 53) := by rw [t4 _ (by omega), zsr_at (by omega), zsr_at (by omega)]
        obtain ⟨k1, k2, k3⟩ := hm6
        refine ⟨?_, k2.kept (by rw [e _ (Nat.le_refl _)]) (by rw [e _ (Nat.le_refl _)]) (fun b b1 _ => e b (by omega)), ?_⟩
        · unfold rM at *
          rw [e2]
          exact k1
        · rw [e (X + 53) (Nat.le_refl _), e (X + 53 + 20) (by omega), e (X + 53 + 21) (by omega), e (X + 53 + 22) (by omega), e (X + 53 + 23) (by omega), e (X + 53 + 27) (by omega), e (X + 53 + 28) (by omega), e (X + 53 + 29) (by omega), e (X + 53 + 33) (by omega), e (X + 53 + 34) (by omega), e (X + 53 + 35) (by omega)]
          exact k3
      obtain ⟨q8, z1, z2, z3, z4⟩ := refM gt hm1
      obtain ⟨q9, y1, y2, y3, y4, y5⟩ := zsix (g0 := q8) (a := X + 53) (k := 27) (x := 0)
      have hB9 : rM (X + 53) q9 ∧ mD δ (X + 53) q9 := by
        obtain ⟨o0, o⟩ := z1
        refine ⟨o0.1.kept (by rw [y2]), ?_⟩
        unfold mD at *
        rw [y3 (X + 53 + 9) (by omega), y3 (X + 53 + 10) (by omega), y3 (X + 53 + 11) (by omega), y3 (X + 53 + 12) (by omega), y3 (X + 53 + 13) (by omega), y3 (X + 53 + 14) (by omega), y3 (X + 53 + 15) (by omega), y3 (X + 53 + 16) (by omega), y3 (X + 53 + 17) (by omega), y3 (X + 53 + 18) (by omega), y3 (X + 53 + 19) (by omega), y4 10 (by omega), y4 15 (by omega), y4 20 (by omega), y4 23 (by omega), y4 14 (by omega)]
        exact o
      obtain ⟨qz, u1, u2, u3, u4, u5, u6, u7, u8, u9, u10⟩ := m_keep (δ := δ) hB9.1 hB9.2 v1.2 v11 (fun k hk => (v12 k hk).2.2.2.2.2.1) (by omega)
      have rl := (refB q8 z1 z2).1 hgood
      rw [y1] at rl
      have eM : f_X10_text (X + 53) gt = some (nI m, qz) := by
        rw [z4]
        unfold j_X10_text_44
        rw [zl_eq, y1, rl, zk_some]
        unfold j_X10_text_148
        rw [y4 32 (by omega), z2, if_pos (Int32.le_refl _), u1, zb_some]
      have fz : frm (fun y => X + 53 ≤ y) gt qz := by
        refine ⟨by rw [u2, y2]; exact z3.1.1, fun y hy => ⟨?_, ?_⟩⟩
        · have hy : y < X + 53 := Nat.lt_of_not_le hy
          rw [u4 y (by omega) (by omega) (by omega), y3 y (by omega), (z3.1.2 y (by unfold SMt; omega)).1]
        · have hy : y < X + 53 := Nat.lt_of_not_le hy
          rw [u2, y2, (z3.1.2 y (by unfold SMt; omega)).2]
      have hmI : MI (zGood σ δ) (X + 53) qz := by
        have o : ∀ y, y = X + 53 + 33 ∨ y = X + 53 + 34 ∨ y = X + 53 + 35 → qz.1 y = gt.1 y := fun y hy => by
          rw [u4 y (by omega) (by omega) (by omega), y3 y (by omega), (z3.1.2 y (by unfold SMt; omega)).1]
        refine ⟨(hB9.1).kept (by rw [u2]), u5, ⟨?_, fun i hi => absurd hi (Nat.not_lt_zero _)⟩, ?_, fun c hcc => ?_, ⟨u7.1, u7.2.1, u7.2.2⟩, u8, ⟨u9, fun z => (by cases z)⟩, ⟨u10, fun z => (by cases z)⟩, ?_⟩
        · rw [u3 27 (by omega) (by omega) (by omega) (by omega) (by omega) (by omega) (by omega), y5]; rfl
        · rw [u3 32 (by omega) (by omega) (by omega) (by omega) (by omega) (by omega) (by omega), y4 32 (by omega), z2]; rfl
        · rw [u6 c hcc]; rfl
        · rw [o _ (Or.inl rfl), o _ (Or.inr (Or.inl rfl)), o _ (Or.inr (Or.inr rfl))]
          exact hm1.2.2.2.2.2.2.2.2.2
      refine ⟨nI m, gt, qz, zGood σ δ, d, eC, eM, zGood_v hv hVd hl hgood, hcI.kept fz (fun y hy => hy), hmI, ?_⟩
      have e38 : qz.1 (X + 38) = gt.1 (X + 38) := (fz.2 (X + 38) (by omega)).1
      refine ⟨Or.inl ?_, Or.inl ?_⟩
      · rw [e38]; exact t12.1
      · rw [e38]; exact t12.2
    · have hex : ∃ i, i < dq δ ∧ ¬ (dK δ i).2.1 ≤ lim δ i := Classical.byContradiction (fun hn => hgood (fun i hi => Classical.byContradiction (fun z => hn ⟨i, hi, z⟩)))
      obtain ⟨i, ⟨i1, i2⟩, i3⟩ := pk_least _ hex
      have hj : ∀ j, j < i → (dK δ j).2.1 ≤ lim δ j := fun j hj => Classical.byContradiction (fun z => i3 j hj ⟨by omega, z⟩)
      have hk67 : (dK δ i).1 = 6 ∨ (dK δ i).1 = 7 := by
        rcases (v17 i i1).1 with q | q
        · exact Or.inl q.1
        · exact Or.inr q.1
      have hrd : f_X4_readInto (X + 23) d g = some (0, zsi (zsi gs (X + 23) 2 (nI (dK δ i).1)) (X + 23) 3 (nI (dK δ i).2.2)) := by
        rw [p1]
        apply w1
        rw [s1, zb_some, qb2 i i1 i2 hj, zb_some, zc_pos (Or.inl rfl)]
      refine bad (dK δ i).1 (dK δ i).2.2 _ (by omega) hrd (by rw [zsi_get (by omega), zsi_same]) zsi_same ((frs.trans (frm.si (Or.inl rfl))).trans (frm.si (Or.inl rfl))) (fun g1 hm1 => ?_)
      obtain ⟨q8, z1, z2, z3, z4⟩ := refM g1 hm1
      have rl := (refB q8 z1 z2).2 i i1 i2 hj
      have fr : frm (SMt (X + 53)) g1 (zsi (zsi (zsi q8 (X + 53) 27 0) (X + 53) 32 (nI (dK δ i).1)) (X + 53) 33 (nI (dK δ i).2.2)) := ((z3.1.trans (frm.si (Or.inl rfl))).trans (frm.si (Or.inl rfl))).trans (frm.si (Or.inl rfl))
      refine ⟨_, ?_, fr, hm1.bad fr (fun j j1 j2 => ?_) (by rw [zsi_get (by omega), zsi_get (by omega), zsi_same]) (by rw [zsi_get (by omega), zsi_same])⟩
      · rw [z4]
        unfold j_X10_text_44
        rw [zl_eq, rl, zk_some]
        unfold j_X10_text_148
        rw [zsi_get (j := 32) (by omega), zsi_same, if_neg (show ¬ nI (dK δ i).1 ≤ (0 : Int32) from fun z => by have := (nle (b := 0) (by omega) (by omega)).mp z; omega), zsi_same]
      · have j1' := j1
        unfold tFd at j1'
        rw [zsi_get (by omega), zsi_get (by omega), zsi_get j2, z3.2 j j1]
end OTX
