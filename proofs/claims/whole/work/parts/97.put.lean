-- ===== letters to be put =====
theorem lw_7 (v n x : Nat) : -(nI v) - nI n = lw (7, v + n, x) := by
  show _ = -(nI (v + n))
  rw [← nI_add, Int32.neg_add]
section PUT
variable {t : aT} {δ : aD} {p s : Nat}
theorem put_v {f e v x n : Nat} (hV : vD δ s) (hm : aM (dR δ) < 24) (hL : ∀ i, i < e - f → 1 ≤ tl t f i ∧ tl t f i ≤ 26) (hv : v ≤ 39) (hx : x ≤ 240) (hn : 1 ≤ e - f ∧ e - f ≤ 240) (hl : dl δ + (e - f) ≤ n) (hq : 7 * (dq δ + 1) ≤ n) : vD (addO (addK (addL δ (tl t f) (e - f)) (7, v + (e - f), x)) 0 v (dl δ) (e - f)) n := by
  obtain ⟨v1, v2, v3, v4, ⟨v5, v5'⟩, v6, v7, v8, v9, v10⟩ := hV
  have old : ∀ i, i < dq δ → (if i = dq δ then ((7, v + (e - f), x) : Nat × Nat × Nat) else dK δ i) = dK δ i := fun i hi => if_neg (by omega)
  refine ⟨v1, v2, v3, v4, ⟨by show aM (dR δ) + 1 ≤ 24; omega, fun k hk => ?_⟩, fun i hi => ?_, fun y hy => ?_, v8, ⟨hl, hq⟩, fun i hi => ?_⟩
  · have hk : k < aM (dR δ) + 1 := hk
    show zup (aA (dR δ)) (aM (dR δ)) 0 k ≤ 3 ∧ (zup (aA (dR δ)) (aM (dR δ)) 0 k ≠ 0 → zup (aY (dR δ)) (aM (dR δ)) (e - f) k = 0) ∧ (zup (aA (dR δ)) (aM (dR δ)) 0 k = 2 → zup (aU (dR δ)) (aM (dR δ)) v k ≤ 9) ∧ (zup (aA (dR δ)) (aM (dR δ)) 0 k = 3 → zup (aU (dR δ)) (aM (dR δ)) v k ≤ 7) ∧ zup (aU (dR δ)) (aM (dR δ)) v k ≤ 59 ∧ zup (aF (dR δ)) (aM (dR δ)) (dl δ) k + zup (aY (dR δ)) (aM (dR δ)) (e - f) k ≤ dl δ + (e - f) ∧ (zup (aA (dR δ)) (aM (dR δ)) 0 k = 0 → ∃ i, i < dq δ + 1 ∧ (if i = dq δ then ((7, v + (e - f), x) : Nat × Nat × Nat) else dK δ i).1 = 7 ∧ (if i = dq δ then ((7, v + (e - f), x) : Nat × Nat × Nat) else dK δ i).2.1 = zup (aU (dR δ)) (aM (dR δ)) v k + zup (aY (dR δ)) (aM (dR δ)) (e - f) k)
    by_cases ek : k = aM (dR δ)
    · rw [ek, zup_same, zup_same, zup_same, zup_same]
      exact ⟨by omega, fun z => absurd rfl z, fun z => (by cases z), fun z => (by cases z), by omega, Nat.le_refl _, fun _ => ⟨dq δ, by omega, by rw [if_pos rfl], by rw [if_pos rfl]⟩⟩
    · rw [zup_ne ek, zup_ne ek, zup_ne ek, zup_ne ek]
      obtain ⟨a1, a2, a3, a4, a5, a6, a7⟩ := v5' k (by omega)
      refine ⟨a1, a2, a3, a4, a5, by omega, fun z => ?_⟩
      obtain ⟨i, i1, i2⟩ := a7 z
      exact ⟨i, by omega, by rw [old i i1]; exact i2⟩
  · have hi : i < dl δ + (e - f) := hi
    show 1 ≤ (if i < dl δ then aL (dR δ) i else tl t f (i - dl δ)) ∧ (if i < dl δ then aL (dR δ) i else tl t f (i - dl δ)) ≤ 26
    by_cases e1 : i < dl δ
    · rw [if_pos e1]; exact v6 i e1
    · rw [if_neg e1]; exact hL _ (by omega)
  · obtain ⟨i, i1, i2⟩ := v7 y hy
    refine ⟨i, by show i < dq δ + 1; omega, ?_⟩
    show (if i = dq δ then ((7, v + (e - f), x) : Nat × Nat × Nat) else dK δ i).1 = 6 ∧ (if i = dq δ then ((7, v + (e - f), x) : Nat × Nat × Nat) else dK δ i).2.1 = _
    rw [old i i1]; exact i2
  · have hi : i < dq δ + 1 := hi
    show ((((if i = dq δ then ((7, v + (e - f), x) : Nat × Nat × Nat) else dK δ i).1 = 6 ∧ 1 ≤ (if i = dq δ then ((7, v + (e - f), x) : Nat × Nat × Nat) else dK δ i).2.1 ∧ (if i = dq δ then ((7, v + (e - f), x) : Nat × Nat × Nat) else dK δ i).2.1 ≤ 60) ∨ ((if i = dq δ then ((7, v + (e - f), x) : Nat × Nat × Nat) else dK δ i).1 = 7 ∧ 1 ≤ (if i = dq δ then ((7, v + (e - f), x) : Nat × Nat × Nat) else dK δ i).2.1 ∧ (if i = dq δ then ((7, v + (e - f), x) : Nat × Nat × Nat) else dK δ i).2.1 ≤ 300)) ∧ (if i = dq δ then ((7, v + (e - f), x) : Nat × Nat × Nat) else dK δ i).2.2 ≤ 240)
    by_cases e1 : i = dq δ
    · rw [if_pos e1]
      exact ⟨Or.inr ⟨rfl, by show 1 ≤ v + (e - f); omega, by show v + (e - f) ≤ 300; omega⟩, hx⟩
    · rw [if_neg e1]; exact v10 i (by omega)
theorem b_put (hv : vTp t) (hp : p ≤ t.1) (hV : vD δ s) (hs : s + 3 ≤ p) (hm : aM (dR δ) < 24) : Res t δ p (fun δ' p' => vD δ' (p' + 1) ∧ dW δ' = dW δ) (fun X d g => f_X4_readPut (X + 23) (d + 3) g) (fun M g => f_X10_readOrder M 9 g) := by
  have hl := hv.1
  obtain ⟨⟨k1, k2, k3⟩, k4, k5, k6, -⟩ := lx_tok hv hp
  obtain ⟨⟨m1, m2, m3⟩, m4, m5, m6, m7, m8⟩ := lx_tok hv k3
  obtain ⟨⟨n1, n2, n3⟩, n4, n5, n6, n7, n8⟩ := lx_tok hv m3
  have q9 := hV.2.2.2.2.2.2.2.2.1
  have q0 : ∀ (M : Nat) (g : zG), f_X10_readOrder M 9 g = zl (g.1 M 20) (fun v27 => zb (f_X10_toLetters M g) (fun v29 g30 => if (g30.1 M 32) = 0 then (j_X10_readOrder_40 M 9 v27 ((g30.1 M 28) - (g30.1 M 29)) g30) else (j_X10_readOrder_40 M 9 v27 0 g30))) := fun M g => rfl
  -- the reference, behind a fault in the letters
  have badM : ∀ (M c x : Nat) (g1 : zG) (v27 : Int32), FS c x M g1 → 1 ≤ c ∧ c ≤ 7 → j_X10_readOrder_40 M 9 v27 0 g1 = some (0, g1) := by
    intro M c x g1 v27 hFS hc
    unfold j_X10_readOrder_40 j_X10_readOrder_91
    have st : zw zN (fun s : Int32 × zG => l_X10_readOrder_44 M 9 0 v27 s.1 s.2) (0, g1) = some g1 := by
      obtain ⟨K, hK⟩ : ∃ K, zN = K + 1 := ⟨99999, rfl⟩
      rw [hK]
      apply zw_end
      show l_X10_readOrder_44 M 9 0 v27 0 g1 = _
      unfold l_X10_readOrder_44
      rw [if_pos (Int32.le_refl _)]
    rw [st, zk_some, m_nextF hFS hc, zb_some, zl_eq, m_numF hFS hc, zb_some, m_laterF hFS hc, zb_some, m_addOrderF hFS hc]
  by_cases h3 : tc 3 t p = 0
  · by_cases h1 : tc 1 t (lx t p).2.2 = 0
    · have hk1 := (tc_0 h1).1
      have hkb := m7 hk1
      have hfe3 := k6 (by have := (tc_0 h3).1; omega)
      generalize hFq : (lx t (lx t p).2.2).2.1 = f at *
      generalize hEq : (lx t (lx t p).2.2).2.2 = e at *
      have hfe := m6 (by omega)
      have enI : nI e - nI f = nI (e - f) := pk_sub m2
      have hdl : dl δ + (e - f) ≤ e := by omega
      have hL : ∀ i, i < e - f → 1 ≤ tl t f i ∧ tl t f i ≤ 26 := fun i hi => by
        have := kb_letter (hkb (f + i) (by omega) (by omega))
        unfold tl
        omega
      have hle := nc_le (t := t) 0 39 e
      -- both up to the number
      have begC : ∀ X d g, CB t X d δ g → g.1 (X + 23) 7 = nI p → g.1 (X + 23) 2 = 0 → ∃ g2, CB t X d (addL δ (tl t f) (e - f)) g2 ∧ g2.1 (X + 23) 7 = nI e ∧ g2.1 (X + 23) 2 = 0 ∧ kF X d g g2 ∧ f_X4_readPut (X + 23) (d + 3) g = j_X4_readPut_56 (X + 23) (d + 3) (nI (e - f)) g2 := by
        intro X d g hC h7 h2
        obtain ⟨g1, z1, z2, z3, z4, z5⟩ := ((q_cn hv hp hC h7 h2 (fun g12 => zl ((g12.1 (X + 23) 7) - (g12.1 (X + 23) 6)) (fun v14 => zk (zw zN (fun s => l_X4_readPut_31 (X + 23) (d + 3) v14 s.1 s.2) (0, g12)) (fun x => j_X4_readPut_56 (X + 23) (d + 3) v14 x)))).2 h3).2 h1
        rw [hFq] at z3
        rw [hEq] at z4
        obtain ⟨g2, w1, w2, w3, w4⟩ := q_letters hv (e := e) ⟨m2, m3⟩ hkb (hC.kept z2) z3 (by omega)
        refine ⟨g2, w2, by rw [w4]; exact z4, by rw [w4]; exact z5, (kF.of z2).trans w3, ?_⟩
        unfold f_X4_readPut
        rw [z1, z3, z4, enI, zl_eq, w1, zk_some]
      have begM : ∀ M g, MB t M δ g → LA t p M g → ∃ g2, MB t M (addL δ (tl t f) (e - f)) g2 ∧ LA t e M g2 ∧ hF M g g2 ∧ f_X10_readOrder M 9 g = zl (g2.1 M 29) (fun v15 => zb (f_X10_readNumber M 0 39 g2) (fun v16 g17 => zb (f_X10_asksLater M ((-v16) - nI (e - f)) v15 g17) (fun v18 g19 => j_X10_readOrder_147 M 9 v16 (nI (e - f)) (nI (dl δ)) g19))) := by
        intro M g hB hLA
        obtain ⟨g1, z1, z2, z3, z4⟩ := m_toL hv hp hB.1 hLA
        have hLK := (z4 h3).2 h1
        rw [hFq, hEq] at hLK
        obtain ⟨y32, y30, y29, y28, y31⟩ := hLK
        obtain ⟨g2, w1, w2, w3, w4⟩ := m_letters hv (e := e) (l1 := 9) (l4 := nI (dl δ)) ⟨m2, m3⟩ hkb (hB.kept z2) y29 (by omega)
        obtain ⟨g3, u1, u2, u3⟩ := m_next_t hv m3 w2.1 (by rw [w4 28 (by omega)]; exact y28) (by rw [w4 32 (by omega)]; exact y32)
        refine ⟨g3, w2.kept u2, u3, ((hF.of z2).trans w3).trans (hF.of u2), ?_⟩
        rw [q0, hB.2.2.1.2, zl_eq, z1, zb_some, y32, if_pos rfl, y28, y29, enI]
        unfold j_X10_readOrder_40
        rw [w1, zk_some]
        unfold j_X10_readOrder_91
        rw [u1, zb_some]
      have z9 : ∀ (X : Nat) (g : zG), f_X4_takeNumber (X + 23) (zTabF 0 (9 : Int32).toNatClampNeg) (zTabF 1 (9 : Int32).toNatClampNeg) g = f_X4_takeNumber (X + 23) (nI 0) (nI 39) g := fun X g => rfl
      by_cases hc : nc 0 39 t e = 0
      · right
        obtain ⟨hk2, v1, v2⟩ := nc_0 hc
        have hfe4 := n6 (by omega)
        generalize hr : vl t (lx t e).2.1 (lx t e).2.2 = v at *
        refine ⟨addO (addK (addL δ (tl t f) (e - f)) (7, v + (e - f), (lx t e).2.1)) 0 v (dl δ) (e - f), (lx t e).2.2, ⟨put_v hV hm hL v2 (by omega) (by omega) (by omega) (by omega), rfl⟩, ⟨by omega, n3⟩, fun X d g hC h7 h2 => ?_, fun M g hB hLA => ?_⟩
        · obtain ⟨g2, b1', b2, b3, b4, b5⟩ := begC X d g hC h7 h2
          obtain ⟨g3, z1, z2, z3, z4⟩ := q_num (X := X) (lo := 0) (hi := 39) hv (by omega) (by omega) m3 b1'.1 b2
          obtain ⟨y6, y7, y8, y2⟩ := z3 hc
          rw [hr] at y8
          have hC3 := b1'.kept z2
          obtain ⟨g4, a1, a2, a3, a4⟩ := q_later hC3 (κ := (7, v + (e - f), (lx t e).2.1)) (by show dq δ < 34; omega) y6
          obtain ⟨g5, c1, c2, c3, c4⟩ := q_addOrder (a := 0) (u := v) (y := e - f) a2 (by exact hm) (by show e - f ≤ dl δ + (e - f); omega)
          have e1 : dl (addK (addL δ (tl t f) (e - f)) (7, v + (e - f), (lx t e).2.1)) - (e - f) = dl δ := by
            show dl δ + (e - f) - (e - f) = dl δ
            omega
          rw [e1] at c2
          show COK t X d _ _ g (f_X4_readPut (X + 23) (d + 3) g)
          rw [b5]
          unfold j_X4_readPut_56
          rw [zc_pos (by decide), zc_pos (by decide), z9, z1, if_pos hc, zb_some, b1, y8, nI_add, show f_X4_lookLater (X + 23) 7 (nI (v + (e - f))) g3 = _ from a1, zb_some, a4 8 (by omega), y8, show f_X3_addOrder (d + 3) 9 (nI v) (nI (e - f)) g4 = _ from c1, zb_some]
          exact ⟨_, rfl, c2, by rw [c4, a4 7 (by omega)]; exact y7, by rw [c4, a4 2 (by omega), y2]; exact b3, ((b4.trans (kF.of z2)).trans a3).trans c3⟩
        · obtain ⟨g2, b1', b2, b3, b4⟩ := begM M g hB hLA
          obtain ⟨y, g3, z1, z2, z3, z4⟩ := m_number (lo := 0) (hi := 39) hv (by omega) (by omega) m3 b1'.1 b2
          obtain ⟨y1, y2⟩ := z3 hc
          rw [hr] at y1
          have hB3 := b1'.kept z2
          show MOK t M _ _ g (f_X10_readOrder M 9 g)
          rw [b4, (b2.le (by omega)).2.2.1, zl_eq, show f_X10_readNumber M 0 39 g2 = _ from z1, zb_some, y1, lw_7 v (e - f) (lx t e).2.1]
          by_cases h5 : (lx t (lx t e).2.2).1 = 5
          · have hFS := y2.fs h5
            rw [m_laterF hFS (by omega), zb_some, m_addOrderF hFS (by omega)]
            exact ⟨_, _, rfl, hB3.1, fun z => absurd h5 z, y2, b3.trans (hF.of z2)⟩
          · have hLK := y2.le h5
            obtain ⟨g4, a1, a2, a3, a4⟩ := m_later hB3 (κ := (7, v + (e - f), (lx t e).2.1)) (by show dq δ < 64; omega) hLK.1
            obtain ⟨g5, c1, c2, c3, c4⟩ := m_addOrder (a := 0) (u := v) (f := dl δ) (y := e - f) a2 (by exact hm) (by rw [a4 32 (by omega)]; exact hLK.1)
            rw [show f_X10_asksLater M (lw (7, v + (e - f), (lx t e).2.1)) (nI (lx t e).2.1) g3 = _ from a1, zb_some, show j_X10_readOrder_147 M 9 (nI v) (nI (e - f)) (nI (dl δ)) g4 = _ from c1]
            exact ⟨_, _, rfl, c2.1, fun _ => c2.2, (y2.f15 a4 (by omega)).f15 c4 (by omega), ((b3.trans (hF.of z2)).trans a3).trans c3⟩
      · left
        refine ⟨nc 0 39 t e, (lx t e).2.1, by omega, by omega, fun X d g hC h7 h2 => ?_, fun M g hB hLA => ?_⟩
        · obtain ⟨g2, b1', b2, b3, b4, b5⟩ := begC X d g hC h7 h2
          obtain ⟨g3, z1, z2, z3, z4⟩ := q_num (X := X) (lo := 0) (hi := 39) hv (by omega) (by omega) m3 b1'.1 b2
          show CNO X d _ _ g (f_X4_readPut (X + 23) (d + 3) g)
          rw [b5]
          unfold j_X4_readPut_56
          rw [zc_pos (by decide), zc_pos (by decide), z9, z1, if_neg hc, zb_some, b0]
          exact ⟨_, rfl, (z4 hc).1, (z4 hc).2, b4.trans (kF.of z2)⟩
        · obtain ⟨g2, b1', b2, b3, b4⟩ := begM M g hB hLA
          obtain ⟨y, g3, z1, z2, z3, z4⟩ := m_number (lo := 0) (hi := 39) hv (by omega) (by omega) m3 b1'.1 b2
          have hFS := z4 hc
          show MNO M _ _ g (f_X10_readOrder M 9 g)
          rw [b4, zl_eq, show f_X10_readNumber M 0 39 g2 = _ from z1, zb_some, m_laterF hFS (by omega), zb_some, m_addOrderF hFS (by omega)]
          exact ⟨_, _, rfl, hFS, b3.trans (hF.of z2)⟩
    · left
      have hle := tc_le (t := t) 1 (lx t p).2.2
      refine ⟨tc 1 t (lx t p).2.2, (lx t (lx t p).2.2).2.1, by omega, by omega, fun X d g hC h7 h2 => ?_, fun M g hB hLA => ?_⟩
      · exact ((q_cn hv hp hC h7 h2 _).2 h3).1 h1
      · obtain ⟨g1, z1, z2, z3, z4⟩ := m_toL hv hp hB.1 hLA
        have hFS := (z4 h3).1 h1
        show MNO M _ _ g (f_X10_readOrder M 9 g)
        rw [q0, zl_eq, z1, zb_some, hFS.1, if_neg (nz (by omega) (by omega)), badM M _ _ g1 _ hFS (by omega)]
        exact ⟨_, _, rfl, hFS, hF.of z2⟩
  · left
    have hle := tc_le (t := t) 3 p
    refine ⟨tc 3 t p, (lx t p).2.1, by omega, by omega, fun X d g hC h7 h2 => ?_, fun M g hB hLA => ?_⟩
    · exact (q_cn hv hp hC h7 h2 _).1 h3
    · obtain ⟨g1, z1, z2, z3, z4⟩ := m_toL hv hp hB.1 hLA
      have hFS := z3 h3
      show MNO M _ _ g (f_X10_readOrder M 9 g)
      rw [q0, zl_eq, z1, zb_some, hFS.1, if_neg (nz (by omega) (by omega)), badM M _ _ g1 _ hFS (by omega)]
      exact ⟨_, _, rfl, hFS, hF.of z2⟩
end PUT
