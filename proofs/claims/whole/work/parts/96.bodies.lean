-- ===== a number behind a word =====
def lol : List Nat := [0, 2, 1, 1, 1, 0, 1, 1, 0, 0, 0, 0, 0]
def hil : List Nat := [0, 6, 6, 40, 40, 20, 20, 60, 59, 39, 0, 9, 7]
def lo (w : Nat) : Nat := lol.getD w 0
def hi (w : Nat) : Nat := hil.getD w 0
theorem tab_w : ∀ w, w < 13 → zTabF 0 (nI w).toNatClampNeg = nI (lo w) ∧ zTabF 1 (nI w).toNatClampNeg = nI (hi w) ∧ lo w < 256 ∧ hi w < 256 := by decide +kernel
theorem m_least (w : Nat) (h1 : 1 ≤ w) (h2 : w ≤ 7) (g : zG) : f_X10_least (nI w) g = some (nI (lo w), g) ∧ f_X10_most (nI w) g = some (nI (hi w), g) := by
  have hq : w = 1 ∨ w = 2 ∨ w = 3 ∨ w = 4 ∨ w = 5 ∨ w = 6 ∨ w = 7 := by omega
  rcases hq with rfl | rfl | rfl | rfl | rfl | rfl | rfl <;> exact ⟨rfl, rfl⟩
section BD2
variable {t : aT} {δ : aD} {p s : Nat}
theorem setV_c {X d w v : Nat} {g : zG} (hC : CB t X d δ g) : CB t X d (setV δ w v) (zsi g (d + 9) w (nI v)) := by
  obtain ⟨c0, c00, c1, c2, c3, c4, c5, c6, c7, c9⟩ := hC
  have e : ∀ x, x ≠ d + 9 → (zsi g (d + 9) w (nI v)).1 x = g.1 x := fun x hx => zsi_at hx
  refine ⟨⟨c0.1.kept rfl, by rw [e (X + 23) (by omega)]; exact c0.2.1, fun i hi => by rw [e (X + 24) (by omega)]; exact c0.2.2 i hi⟩, c00, ?_⟩
  unfold cD
  rw [e (d + 1) (by omega), e (d + 2) (by omega), e (d + 3) (by omega), e (d + 4) (by omega), e (d + 5) (by omega), e (d + 6) (by omega), e (d + 7) (by omega), e (d + 8) (by omega), e (d + 10) (by omega), e (X + 23) (by omega), e (X + 25) (by omega), e (X + 26) (by omega), e (X + 27) (by omega)]
  refine ⟨c1, c2, c3, c4, fun k k1 k2 => ?_, c6, c7, c9⟩
  show _ = nI (zup (aV (dR δ)) w v k)
  by_cases ek : k = w
  · rw [ek, zsi_same, zup_same]
  · rw [zsi_get ek, zup_ne ek]; exact c5 k k1 k2
theorem setV_m {M w v : Nat} {g : zG} (hC : MB t M δ g) : MB t M (setV δ w v) (zsi g (M + 10) w (nI v)) := by
  obtain ⟨c0, c1, c2, c3, c4, c5, c6, c7, c9, c10⟩ := hC
  have e : ∀ x, x ≠ M + 10 → (zsi g (M + 10) w (nI v)).1 x = g.1 x := fun x hx => zsi_at hx
  refine ⟨⟨c0.1.kept rfl, by rw [e M (by omega)]; exact c0.2.1, fun i hi => by rw [e (M + 20) (by omega)]; exact c0.2.2 i hi⟩, ?_⟩
  unfold mD
  rw [e M (by omega), e (M + 9) (by omega), e (M + 11) (by omega), e (M + 12) (by omega), e (M + 13) (by omega), e (M + 14) (by omega), e (M + 15) (by omega), e (M + 16) (by omega), e (M + 17) (by omega), e (M + 18) (by omega), e (M + 19) (by omega)]
  refine ⟨c1, c2, c3, c4, fun k k1 k2 => ?_, c6, c7, c9, c10⟩
  show _ = nI (zup (aV (dR δ)) w v k)
  by_cases ek : k = w
  · rw [ek, zsi_same, zup_same]
  · rw [zsi_get ek, zup_ne ek]; exact c5 k k1 k2
theorem LA.si {M a j x : Nat} {y : Int32} {g : zG} (h : LA t x M g) (ha : a ≠ M) : LA t x M (zsi g a j y) := by
  unfold LA LK FS at *
  rw [zsi_at (b := M) (fun z => ha z.symm)]
  exact h
theorem FS.si {M a j c x : Nat} {y : Int32} {g : zG} (h : FS c x M g) (ha : a ≠ M) : FS c x M (zsi g a j y) := by
  unfold FS at *
  rw [zsi_at (b := M) (fun z => ha z.symm)]
  exact h
/-- the number of the reference, with what follows it -/
def fmV (w M : Nat) (g : zG) (k : zG → Option (Int32 × zG)) : Option (Int32 × zG) := zb (f_X10_least (nI w) g) (fun v23 g24 => zb (f_X10_most (nI w) g24) (fun v25 g26 => zb (f_X10_readNumber M v23 v25 g26) (fun v27 g28 => zc (zin (nI w) 8) (zl (zsi g28 (g.2.1 M 12) (nI w).toNatClampNeg v27) (fun g29 => k g29)))))
theorem b_num (hv : vTp t) (hp : p ≤ t.1) (hV : vD δ s) (hs : s ≤ p) {w : Nat} (hw : 1 ≤ w ∧ w ≤ 7) : Res t δ p (fun δ' p' => vD δ' (p' + 1) ∧ dW δ' = dW δ) (fun X d g => f_X4_readNumbered (X + 23) (nI w) d g) (fun M g => fmV w M g (fun g => some (0, g))) := by
  have hl := hv.1
  obtain ⟨⟨k1, k2, k3⟩, k4, -⟩ := lx_tok hv hp
  obtain ⟨t1, t2, t3, t4⟩ := tab_w w (by omega)
  have hle := nc_le (t := t) (lo w) (hi w) p
  by_cases hc : nc (lo w) (hi w) t p = 0
  · right
    obtain ⟨hk2, v1, v2⟩ := nc_0 hc
    have hvd : vD (setV δ w (vl t (lx t p).2.1 (lx t p).2.2)) ((lx t p).2.2 + 1) := by
      generalize vl t (lx t p).2.1 (lx t p).2.2 = v at *
      obtain ⟨u1, u2, ⟨u3, u4, u5, u6, u7, u8, u9⟩, u10, u11, u12, u13, u14, u15, u16⟩ := hV
      refine ⟨u1, u2, ?_, u10, u11, u12, u13, u14, ⟨by show dl δ ≤ _; omega, by show 7 * dq δ ≤ _; omega⟩, u16⟩
      show (2 ≤ zup (aV (dR δ)) w v 1 ∧ zup (aV (dR δ)) w v 1 ≤ 6) ∧ (1 ≤ zup (aV (dR δ)) w v 2 ∧ zup (aV (dR δ)) w v 2 ≤ 6) ∧ (1 ≤ zup (aV (dR δ)) w v 3 ∧ zup (aV (dR δ)) w v 3 ≤ 40) ∧ (1 ≤ zup (aV (dR δ)) w v 4 ∧ zup (aV (dR δ)) w v 4 ≤ 40) ∧ zup (aV (dR δ)) w v 5 ≤ 20 ∧ (1 ≤ zup (aV (dR δ)) w v 6 ∧ zup (aV (dR δ)) w v 6 ≤ 20) ∧ (1 ≤ zup (aV (dR δ)) w v 7 ∧ zup (aV (dR δ)) w v 7 ≤ 60)
      have hq : w = 1 ∨ w = 2 ∨ w = 3 ∨ w = 4 ∨ w = 5 ∨ w = 6 ∨ w = 7 := by omega
      rcases hq with rfl | rfl | rfl | rfl | rfl | rfl | rfl
      · have y1 : 2 ≤ v := v1
        have y2 : v ≤ 6 := v2
        exact ⟨⟨y1, y2⟩, u4, u5, u6, u7, u8, u9⟩
      · have y1 : 1 ≤ v := v1
        have y2 : v ≤ 6 := v2
        exact ⟨u3, ⟨y1, y2⟩, u5, u6, u7, u8, u9⟩
      · have y1 : 1 ≤ v := v1
        have y2 : v ≤ 40 := v2
        exact ⟨u3, u4, ⟨y1, y2⟩, u6, u7, u8, u9⟩
      · have y1 : 1 ≤ v := v1
        have y2 : v ≤ 40 := v2
        exact ⟨u3, u4, u5, ⟨y1, y2⟩, u7, u8, u9⟩
      · have y2 : v ≤ 20 := v2
        exact ⟨u3, u4, u5, u6, y2, u8, u9⟩
      · have y1 : 1 ≤ v := v1
        have y2 : v ≤ 20 := v2
        exact ⟨u3, u4, u5, u6, u7, ⟨y1, y2⟩, u9⟩
      · have y1 : 1 ≤ v := v1
        have y2 : v ≤ 60 := v2
        exact ⟨u3, u4, u5, u6, u7, u8, ⟨y1, y2⟩⟩
    refine ⟨setV δ w (vl t (lx t p).2.1 (lx t p).2.2), (lx t p).2.2, ⟨hvd, rfl⟩, ⟨by omega, k3⟩, fun X d g hC h7 h2 => ?_, fun M g hB hLA => ?_⟩
    · obtain ⟨g1, z1, z2, z3, z4⟩ := q_num (X := X) hv t3 t4 hp hC.1 h7
      obtain ⟨y6, y7, y8, y2⟩ := z3 hc
      have hC1 := hC.kept z2
      have h2d := hC1.2.1
      have hr1 := hC1.rr
      show COK t X d _ _ g (f_X4_readNumbered (X + 23) (nI w) d g)
      unfold f_X4_readNumbered
      rw [zc_pos (show zin (nI w) (zTabN 0) from zlit w 13 (by omega) (by omega)), zc_pos (show zin (nI w) (zTabN 1) from zlit w 13 (by omega) (by omega)), t1, t2, z1, if_pos hc, zb_some, b1, if_neg (show ¬ (7 : Int32) < nI w from fun z => by have := (nlt (a := 7) (by omega) (by omega)).mp z; omega), zc_pos (zlit w 8 (by omega) (by omega)), nI_cl (by omega), hr1.2.2.1, y8, zl_eq]
      refine ⟨_, rfl, setV_c hC1, by rw [zsi_at (by omega)]; exact y7, by rw [zsi_at (by omega), y2]; exact h2, (kF.of z2).trans (kF.si (by omega) h2d)⟩
    · obtain ⟨y, g1, z1, z2, z3, z4⟩ := m_number hv t3 t4 hp hB.1 hLA
      obtain ⟨y1, y2⟩ := z3 hc
      obtain ⟨l1, l2⟩ := m_least w hw.1 hw.2 g
      have hB1 := setV_m (w := w) (v := vl t (lx t p).2.1 (lx t p).2.2) (hB.kept z2)
      show MOK t M _ _ g (fmV w M g (fun g => some (0, g)))
      unfold fmV
      rw [l1, zb_some, l2, zb_some, z1, zb_some, zc_pos (zlit w 8 (by omega) (by omega)), nI_cl (by omega), hB.1.1.dr.2.1, y1, zl_eq]
      exact ⟨_, _, rfl, hB1.1, fun _ => hB1.2, y2.si (by omega), (hF.of z2).trans (hF.si (by omega))⟩
  · left
    refine ⟨nc (lo w) (hi w) t p, (lx t p).2.1, by omega, by omega, fun X d g hC h7 h2 => ?_, fun M g hB hLA => ?_⟩
    · obtain ⟨g1, z1, z2, z3, z4⟩ := q_num (X := X) hv t3 t4 hp hC.1 h7
      show CNO X d _ _ g (f_X4_readNumbered (X + 23) (nI w) d g)
      unfold f_X4_readNumbered
      rw [zc_pos (show zin (nI w) (zTabN 0) from zlit w 13 (by omega) (by omega)), zc_pos (show zin (nI w) (zTabN 1) from zlit w 13 (by omega) (by omega)), t1, t2, z1, if_neg hc, zb_some, b0]
      exact ⟨g1, rfl, (z4 hc).1, (z4 hc).2, kF.of z2⟩
    · obtain ⟨y, g1, z1, z2, z3, z4⟩ := m_number hv t3 t4 hp hB.1 hLA
      obtain ⟨l1, l2⟩ := m_least w hw.1 hw.2 g
      show MNO M _ _ g (fmV w M g (fun g => some (0, g)))
      unfold fmV
      rw [l1, zb_some, l2, zb_some, z1, zb_some, zc_pos (zlit w 8 (by omega) (by omega)), nI_cl (by omega), hB.1.1.dr.2.1, zl_eq]
      exact ⟨_, _, rfl, (z4 hc).si (by omega), (hF.of z2).trans (hF.si (by omega))⟩
-- ===== orders without letters =====
theorem addO_v {a u y n : Nat} (hV : vD δ s) (hm : aM (dR δ) < 24) (ha : 1 ≤ a ∧ a ≤ 3) (h2 : a = 2 → u ≤ 9) (h3 : a = 3 → u ≤ 7) (hu : u ≤ 59) (hs : s ≤ n) : vD (addO δ a u (dl δ) 0) n := by
  obtain ⟨v1, v2, v3, v4, ⟨v5, v5'⟩, v6, v7, v8, v9, v10⟩ := hV
  refine ⟨v1, v2, v3, v4, ⟨by show aM (dR δ) + 1 ≤ 24; omega, fun k hk => ?_⟩, v6, v7, v8, ⟨by show dl δ ≤ n; omega, by show 7 * dq δ ≤ n; omega⟩, v10⟩
  have hk : k < aM (dR δ) + 1 := hk
  show zup (aA (dR δ)) (aM (dR δ)) a k ≤ 3 ∧ (zup (aA (dR δ)) (aM (dR δ)) a k ≠ 0 → zup (aY (dR δ)) (aM (dR δ)) 0 k = 0) ∧ (zup (aA (dR δ)) (aM (dR δ)) a k = 2 → zup (aU (dR δ)) (aM (dR δ)) u k ≤ 9) ∧ (zup (aA (dR δ)) (aM (dR δ)) a k = 3 → zup (aU (dR δ)) (aM (dR δ)) u k ≤ 7) ∧ zup (aU (dR δ)) (aM (dR δ)) u k ≤ 59 ∧ zup (aF (dR δ)) (aM (dR δ)) (dl δ) k + zup (aY (dR δ)) (aM (dR δ)) 0 k ≤ dl δ ∧ (zup (aA (dR δ)) (aM (dR δ)) a k = 0 → ∃ i, i < dq δ ∧ (dK δ i).1 = 7 ∧ (dK δ i).2.1 = zup (aU (dR δ)) (aM (dR δ)) u k + zup (aY (dR δ)) (aM (dR δ)) 0 k)
  by_cases e : k = aM (dR δ)
  · rw [e, zup_same, zup_same, zup_same, zup_same]
    exact ⟨by omega, fun _ => rfl, h2, h3, hu, by omega, fun z => by omega⟩
  · rw [zup_ne e, zup_ne e, zup_ne e, zup_ne e]
    exact v5' k (by omega)
theorem b_go (hv : vTp t) (hp : p ≤ t.1) (hV : vD δ s) (hs : s ≤ p) (hm : aM (dR δ) < 24) : Res t δ p (fun δ' p' => vD δ' (p' + 1) ∧ dW δ' = dW δ) (fun _ d g => zb (f_X3_addOrder (d + 3) 10 0 0 g) (fun _ g => some (1, g))) (fun M g => f_X10_readOrder M 10 g) := by
  right
  refine ⟨addO δ 1 0 (dl δ) 0, p, ⟨addO_v (y := 0) hV hm (by omega) (fun z => by omega) (fun z => by omega) (by omega) (by omega), rfl⟩, ⟨Nat.le_refl _, hp⟩, fun X d g hC h7 h2 => ?_, fun M g hB hLA => ?_⟩
  · obtain ⟨g1, z1, z2, z3, z4⟩ := q_addOrder (a := 1) (u := 0) (y := 0) hC hm (Nat.zero_le _)
    rw [Nat.sub_zero] at z2
    show COK t X d _ _ g (zb (f_X3_addOrder (d + 3) 10 0 0 g) (fun _ g => some (1, g)))
    rw [show f_X3_addOrder (d + 3) 10 0 0 g = _ from z1, zb_some]
    exact ⟨g1, rfl, z2, by rw [z4]; exact h7, by rw [z4]; exact h2, z3⟩
  · show MOK t M _ _ g (f_X10_readOrder M 10 g)
    unfold f_X10_readOrder
    rw [zl_eq, if_neg (by decide), if_pos rfl, hB.2.2.1.2]
    by_cases h5 : (lx t p).1 = 5
    · have hFS := hLA.fs h5
      rw [m_addOrderF hFS (by omega)]
      exact ⟨_, g, rfl, hB.1, fun z => absurd h5 z, hLA, hF.refl _ _⟩
    · obtain ⟨y32, y30, y29, y28, y31⟩ := hLA.le h5
      obtain ⟨g1, z1, z2, z3, z4⟩ := m_addOrder (a := 1) (u := 0) (f := dl δ) (y := 0) hB hm y32
      rw [show j_X10_readOrder_147 M 10 0 0 (nI (dl δ)) g = _ from z1]
      exact ⟨_, g1, rfl, z2.1, fun _ => z2.2, Or.inl ⟨h5, by rw [z4 32 (by omega)]; exact y32, by rw [z4 30 (by omega)]; exact y30, by rw [z4 29 (by omega)]; exact y29, by rw [z4 28 (by omega)]; exact y28, fun z => by rw [z4 31 (by omega)]; exact y31 z⟩, z3⟩
theorem LA.f15 {M j x : Nat} {g g' : zG} (h : LA t x M g) (hj : ∀ i, i ≠ j → g'.1 M i = g.1 M i) (h2 : ¬ (28 ≤ j ∧ j ≤ 33)) : LA t x M g' := by
  unfold LA LK FS at *
  rw [hj 32 (by omega), hj 30 (by omega), hj 29 (by omega), hj 28 (by omega), hj 31 (by omega), hj 33 (by omega)]
  exact h
theorem b_ord (hv : vTp t) (hp : p ≤ t.1) (hV : vD δ s) (hs : s ≤ p) (hm : aM (dR δ) < 24) {w : Nat} (hw : w = 11 ∨ w = 12) : Res t δ p (fun δ' p' => vD δ' (p' + 1) ∧ dW δ' = dW δ) (fun X d g => f_X4_readNumbered (X + 23) (nI w) d g) (fun M g => f_X10_readOrder M (nI w) g) := by
  have hl := hv.1
  obtain ⟨⟨k1, k2, k3⟩, k4, -⟩ := lx_tok hv hp
  obtain ⟨t1, t2, t3, t4⟩ := tab_w w (by omega)
  have hle := nc_le (t := t) (lo w) (hi w) p
  have hlo : lo w = 0 := by rcases hw with e | e <;> rw [e] <;> rfl
  have hhi : hi w = if w = 11 then 9 else 7 := by rcases hw with e | e <;> rw [e] <;> rfl
  have em : ∀ M g, f_X10_readOrder M (nI w) g = zb (f_X10_readNumber M (nI (lo w)) (nI (hi w)) g) (fun v11 g12 => j_X10_readOrder_147 M (nI w) v11 0 (g.1 M 20) g12) := by
    intro M g
    unfold f_X10_readOrder j_X10_readOrder_143
    rw [zl_eq]
    rcases hw with e | e <;> rw [e] <;> rfl
  have ew : nI w = nI (w - 9 + 9) := by rw [show w - 9 + 9 = w by omega]
  by_cases hc : nc (lo w) (hi w) t p = 0
  · right
    obtain ⟨hk2, v1, v2⟩ := nc_0 hc
    refine ⟨addO δ (w - 9) (vl t (lx t p).2.1 (lx t p).2.2) (dl δ) 0, (lx t p).2.2, ⟨addO_v (y := 0) hV hm (by omega) (fun z => by rw [hhi] at v2; rcases hw with e | e <;> subst e <;> simp at v2 z <;> omega) (fun z => by rw [hhi] at v2; rcases hw with e | e <;> subst e <;> simp at v2 z <;> omega) (by rw [hhi] at v2; split at v2 <;> omega) (by omega), rfl⟩, ⟨by omega, k3⟩, fun X d g hC h7 h2 => ?_, fun M g hB hLA => ?_⟩
    · obtain ⟨g1, z1, z2, z3, z4⟩ := q_num (X := X) hv t3 t4 hp hC.1 h7
      obtain ⟨y6, y7, y8, y2⟩ := z3 hc
      have hC1 := hC.kept z2
      have hr1 := hC1.rr
      obtain ⟨g2, a1, a2, a3, a4⟩ := q_addOrder (a := w - 9) (u := vl t (lx t p).2.1 (lx t p).2.2) (y := 0) hC1 hm (Nat.zero_le _)
      rw [Nat.sub_zero, ← ew] at *
      show COK t X d _ _ g (f_X4_readNumbered (X + 23) (nI w) d g)
      unfold f_X4_readNumbered
      rw [zc_pos (show zin (nI w) (zTabN 0) from zlit w 13 (by omega) (by omega)), zc_pos (show zin (nI w) (zTabN 1) from zlit w 13 (by omega) (by omega)), t1, t2, z1, if_pos hc, zb_some, b1, if_pos (show (7 : Int32) < nI w from (nlt (a := 7) (by omega) (by omega)).mpr (by omega)), hr1.2.1, y8, show f_X3_addOrder (d + 3) (nI w) (nI (vl t (lx t p).2.1 (lx t p).2.2)) 0 g1 = _ from a1, zb_some]
      exact ⟨_, rfl, a2, by rw [a4]; exact y7, by rw [a4, y2]; exact h2, (kF.of z2).trans a3⟩
    · obtain ⟨y, g1, z1, z2, z3, z4⟩ := m_number hv t3 t4 hp hB.1 hLA
      obtain ⟨y1, y2⟩ := z3 hc
      have hB1 := hB.kept z2
      show MOK t M _ _ g (f_X10_readOrder M (nI w) g)
      rw [em, z1, zb_some, y1, hB.2.2.1.2, ew]
      by_cases h5 : (lx t (lx t p).2.2).1 = 5
      · have hFS := y2.fs h5
        rw [m_addOrderF hFS (by omega)]
        exact ⟨_, g1, rfl, hB1.1, fun z => absurd h5 z, y2, hF.of z2⟩
      · obtain ⟨g2, a1, a2, a3, a4⟩ := m_addOrder (a := w - 9) (u := vl t (lx t p).2.1 (lx t p).2.2) (f := dl δ) (y := 0) hB1 hm (y2.le h5).1
        rw [show j_X10_readOrder_147 M (nI (w - 9 + 9)) (nI (vl t (lx t p).2.1 (lx t p).2.2)) 0 (nI (dl δ)) g1 = _ from a1]
        exact ⟨_, g2, rfl, a2.1, fun _ => a2.2, y2.f15 a4 (by omega), (hF.of z2).trans a3⟩
  · left
    refine ⟨nc (lo w) (hi w) t p, (lx t p).2.1, by omega, by omega, fun X d g hC h7 h2 => ?_, fun M g hB hLA => ?_⟩
    · obtain ⟨g1, z1, z2, z3, z4⟩ := q_num (X := X) hv t3 t4 hp hC.1 h7
      show CNO X d _ _ g (f_X4_readNumbered (X + 23) (nI w) d g)
      unfold f_X4_readNumbered
      rw [zc_pos (show zin (nI w) (zTabN 0) from zlit w 13 (by omega) (by omega)), zc_pos (show zin (nI w) (zTabN 1) from zlit w 13 (by omega) (by omega)), t1, t2, z1, if_neg hc, zb_some, b0]
      exact ⟨g1, rfl, (z4 hc).1, (z4 hc).2, kF.of z2⟩
    · obtain ⟨y, g1, z1, z2, z3, z4⟩ := m_number hv t3 t4 hp hB.1 hLA
      show MNO M _ _ g (f_X10_readOrder M (nI w) g)
      rw [em, z1, zb_some, m_addOrderF (z4 hc) (by omega)]
      exact ⟨_, _, rfl, z4 hc, hF.of z2⟩
-- ===== a hole =====
theorem or_lt {a c : Nat} (ha : a < 256) (hc : c < 8) : a ||| 2 ^ c < 256 := by
  have h1 : (2 : Nat) ^ c < 2 ^ 8 := Nat.pow_lt_pow_right (by omega) hc
  exact Nat.or_lt_two_pow (n := 8) ha h1
theorem or_ne {a c : Nat} : a ||| 2 ^ c ≠ 0 := by
  intro h
  have h1 := congrArg (fun x => x.testBit c) h
  simp at h1
theorem setH_c {X d r c : Nat} {g : zG} (hC : CB t X d δ g) (hr : r < 60) : CB t X d (setH δ r c) (zsi g (d + 10) r (nI (aH (dR δ) r ||| 2 ^ c))) := by
  obtain ⟨c0, c00, c1, c2, c3, c4, c5, c6, c7, c9⟩ := hC
  have e : ∀ x, x ≠ d + 10 → (zsi g (d + 10) r (nI (aH (dR δ) r ||| 2 ^ c))).1 x = g.1 x := fun x hx => zsi_at hx
  refine ⟨⟨c0.1.kept rfl, by rw [e (X + 23) (by omega)]; exact c0.2.1, fun i hi => by rw [e (X + 24) (by omega)]; exact c0.2.2 i hi⟩, c00, ?_⟩
  unfold cD
  rw [e (d + 1) (by omega), e (d + 2) (by omega), e (d + 3) (by omega), e (d + 4) (by omega), e (d + 5) (by omega), e (d + 6) (by omega), e (d + 7) (by omega), e (d + 8) (by omega), e (d + 9) (by omega), e (X + 23) (by omega), e (X + 25) (by omega), e (X + 26) (by omega), e (X + 27) (by omega)]
  refine ⟨c1, c2, c3, c4, c5, fun i hi => ?_, c7, c9⟩
  show _ = nI (zup (aH (dR δ)) r (aH (dR δ) r ||| 2 ^ c) i)
  by_cases ek : i = r
  · rw [ek, zsi_same, zup_same]
  · rw [zsi_get ek, zup_ne ek]; exact c6 i hi
theorem setH_m {M r c : Nat} {g : zG} (hC : MB t M δ g) (hr : r < 60) : MB t M (setH δ r c) (zsi (zsi g (M + 11) r (nI (aH (dR δ) r ||| 2 ^ c))) M 14 1) := by
  obtain ⟨c0, c1, c2, c3, c4, c5, c6, c7, c9, c10⟩ := hC
  obtain ⟨G, hG⟩ : ∃ G, G = zsi (zsi g (M + 11) r (nI (aH (dR δ) r ||| 2 ^ c))) M 14 1 := ⟨_, rfl⟩
  have e : ∀ x, x ≠ M → x ≠ M + 11 → G.1 x = g.1 x := fun x hx hx2 => by rw [hG, zsi_at hx, zsi_at hx2]
  have em : ∀ j, j ≠ 14 → G.1 M j = g.1 M j := fun j hj => by rw [hG, zsi_get hj, zsi_at (b := M) (by omega)]
  rw [← hG]
  refine ⟨⟨c0.1.kept (by rw [hG]; rfl), by rw [em 27 (by omega)]; exact c0.2.1, fun i hi => by rw [e (M + 20) (by omega) (by omega)]; exact c0.2.2 i hi⟩, ?_⟩
  unfold mD
  rw [e (M + 9) (by omega) (by omega), e (M + 10) (by omega) (by omega), e (M + 12) (by omega) (by omega), e (M + 13) (by omega) (by omega), e (M + 14) (by omega) (by omega), e (M + 15) (by omega) (by omega), e (M + 16) (by omega) (by omega), e (M + 17) (by omega) (by omega), e (M + 18) (by omega) (by omega), e (M + 19) (by omega) (by omega), em 10 (by omega), em 15 (by omega), em 20 (by omega), em 23 (by omega)]
  refine ⟨c1, c2, c3, c4, c5, fun i hi => ?_, c7, c9, by rw [hG, zsi_same]; rfl⟩
  show _ = nI (zup (aH (dR δ)) r (aH (dR δ) r ||| 2 ^ c) i)
  rw [hG, zsi_at (b := M + 11) (by omega)]
  by_cases ek : i = r
  · rw [ek, zsi_same, zup_same]
  · rw [zsi_get ek, zup_ne ek]; exact c6 i hi
theorem setH_v {r c x n : Nat} (hV : vD δ s) (hr : r < 60) (hc : c < 8) (hx : x ≤ 240) (hs : s ≤ n) (hq : 7 * (dq δ + 1) ≤ n) : vD (setH (addK δ (6, r + 1, x)) r c) n := by
  obtain ⟨v1, v2, v3, v4, ⟨v5, v5'⟩, v6, v7, v8, v9, v10⟩ := hV
  have old : ∀ i, i < dq δ → (if i = dq δ then ((6, r + 1, x) : Nat × Nat × Nat) else dK δ i) = dK δ i := fun i hi => if_neg (by omega)
  refine ⟨v1, v2, v3, fun y => ?_, ⟨v5, fun k hk => ?_⟩, v6, fun y hy => ?_, ?_, ⟨by show dl δ ≤ n; omega, by show 7 * (dq δ + 1) ≤ n; omega⟩, fun i hi => ?_⟩
  · show zup (aH (dR δ)) r (aH (dR δ) r ||| 2 ^ c) y < 256
    by_cases e : y = r
    · rw [e, zup_same]; exact or_lt (v4 r) hc
    · rw [zup_ne e]; exact v4 y
  · obtain ⟨a1, a2, a3, a4, a5, a6, a7⟩ := v5' k hk
    refine ⟨a1, a2, a3, a4, a5, a6, fun z => ?_⟩
    obtain ⟨i, i1, i2⟩ := a7 z
    refine ⟨i, by show i < dq δ + 1; omega, ?_⟩
    show (if i = dq δ then ((6, r + 1, x) : Nat × Nat × Nat) else dK δ i).1 = 7 ∧ (if i = dq δ then ((6, r + 1, x) : Nat × Nat × Nat) else dK δ i).2.1 = _
    rw [old i i1]; exact i2
  · by_cases e : y = r
    · refine ⟨dq δ, by show dq δ < dq δ + 1; omega, ?_⟩
      show (if dq δ = dq δ then ((6, r + 1, x) : Nat × Nat × Nat) else dK δ (dq δ)).1 = 6 ∧ (if dq δ = dq δ then ((6, r + 1, x) : Nat × Nat × Nat) else dK δ (dq δ)).2.1 = _
      rw [if_pos rfl, e]; exact ⟨rfl, rfl⟩
    · have hy : zup (aH (dR δ)) r (aH (dR δ) r ||| 2 ^ c) y ≠ 0 := hy
      rw [zup_ne e] at hy
      obtain ⟨i, i1, i2⟩ := v7 y hy
      refine ⟨i, by show i < dq δ + 1; omega, ?_⟩
      show (if i = dq δ then ((6, r + 1, x) : Nat × Nat × Nat) else dK δ i).1 = 6 ∧ (if i = dq δ then ((6, r + 1, x) : Nat × Nat × Nat) else dK δ i).2.1 = _
      rw [old i i1]; exact i2
  · refine ⟨fun _ => ⟨r, ?_⟩, fun _ => rfl⟩
    show zup (aH (dR δ)) r (aH (dR δ) r ||| 2 ^ c) r ≠ 0
    rw [zup_same]; exact or_ne
  · have hi : i < dq δ + 1 := hi
    show ((((if i = dq δ then ((6, r + 1, x) : Nat × Nat × Nat) else dK δ i).1 = 6 ∧ 1 ≤ (if i = dq δ then ((6, r + 1, x) : Nat × Nat × Nat) else dK δ i).2.1 ∧ (if i = dq δ then ((6, r + 1, x) : Nat × Nat × Nat) else dK δ i).2.1 ≤ 60) ∨ ((if i = dq δ then ((6, r + 1, x) : Nat × Nat × Nat) else dK δ i).1 = 7 ∧ 1 ≤ (if i = dq δ then ((6, r + 1, x) : Nat × Nat × Nat) else dK δ i).2.1 ∧ (if i = dq δ then ((6, r + 1, x) : Nat × Nat × Nat) else dK δ i).2.1 ≤ 300)) ∧ (if i = dq δ then ((6, r + 1, x) : Nat × Nat × Nat) else dK δ i).2.2 ≤ 240)
    by_cases e : i = dq δ
    · rw [if_pos e]
      exact ⟨Or.inl ⟨rfl, by show 1 ≤ r + 1; omega, by show r + 1 ≤ 60; omega⟩, hx⟩
    · rw [if_neg e]; exact v10 i (by omega)
theorem b_hole (hv : vTp t) (hp : p ≤ t.1) (hV : vD δ s) (hs : s + 4 ≤ p) : Res t δ p (fun δ' p' => vD δ' (p' + 1) ∧ dW δ' = dW δ) (fun X d g => f_X4_readHole (X + 23) (d + 10) g) (fun M g => f_X10_readHole M g) := by
  have hl := hv.1
  obtain ⟨⟨k1, k2, k3⟩, k4, k5, k6, -⟩ := lx_tok hv hp
  obtain ⟨⟨m1, m2, m3⟩, m4, m5, m6, -⟩ := lx_tok hv k3
  have hle := nc_le (t := t) 0 59 p
  have hle2 := nc_le (t := t) 0 7 (lx t p).2.2
  have z8 : ∀ (X : Nat) (g : zG), f_X4_takeNumber (X + 23) (zTabF 0 (8 : Int32).toNatClampNeg) (zTabF 1 (8 : Int32).toNatClampNeg) g = f_X4_takeNumber (X + 23) (nI 0) (nI 59) g := fun X g => rfl
  by_cases hc : nc 0 59 t p = 0
  · obtain ⟨hk2, v1, v2⟩ := nc_0 hc
    have hfe := k6 (by omega)
    have q9 := hV.2.2.2.2.2.2.2.2.1
    generalize hr : vl t (lx t p).2.1 (lx t p).2.2 = r at *
    -- the class up to the second number
    have begC : ∀ X d g, CB t X d δ g → g.1 (X + 23) 7 = nI p → g.1 (X + 23) 2 = 0 → ∃ g2, CB t X d (addK δ (6, r + 1, (lx t p).2.1)) g2 ∧ g2.1 (X + 23) 7 = nI (lx t p).2.2 ∧ g2.1 (X + 23) 2 = 0 ∧ kF X d g g2 ∧ f_X4_readHole (X + 23) (d + 10) g = zb (f_X4_takeNumber (X + 23) 0 7 g2) (fun v7 g8 => if v7 = 0 then (some ((0, g8))) else (zc (zin (nI r) 60) (zc (zin (nI r) 60) (zl (zsi g8 (d + 10) (nI r).toNatClampNeg ((g8.1 (d + 10) (nI r).toNatClampNeg) ||| (zshl 1 (g8.1 (X + 23) 8)))) (fun g10 => some ((1, g10))))))) := by
      intro X d g hC h7 h2
      obtain ⟨g1, z1, z2, z3, z4⟩ := q_num (X := X) (lo := 0) (hi := 59) hv (by omega) (by omega) hp hC.1 h7
      obtain ⟨y6, y7, y8, y2⟩ := z3 hc
      rw [hr] at y8
      have hC1 := hC.kept z2
      obtain ⟨g2, a1, a2, a3, a4⟩ := q_later hC1 (κ := (6, r + 1, (lx t p).2.1)) (by omega) y6
      refine ⟨g2, a2, by rw [a4 7 (by omega)]; exact y7, by rw [a4 2 (by omega), y2]; exact h2, (kF.of z2).trans a3, ?_⟩
      unfold f_X4_readHole
      rw [zc_pos (by decide), zc_pos (by decide), z8, z1, if_pos hc, zb_some, b1, y8, zl_eq, show nI r + 1 = nI (r + 1) from nI_1 r, show f_X4_lookLater (X + 23) 6 (nI (r + 1)) g1 = _ from a1, zb_some]
    have begM : ∀ M g, MB t M δ g → LA t p M g → ∃ g1, f_X10_readNumber M 0 59 g = some (nI r, g1) ∧ uF M g g1 ∧ LA t (lx t p).2.2 M g1 ∧ g.1 M 29 = nI (lx t p).2.1 := by
      intro M g hB hLA
      obtain ⟨y, g1, z1, z2, z3, z4⟩ := m_number (lo := 0) (hi := 59) hv (by omega) (by omega) hp hB.1 hLA
      obtain ⟨y1, y2⟩ := z3 hc
      rw [hr] at y1
      rw [y1] at z1
      exact ⟨g1, z1, z2, y2, (hLA.le (by omega)).2.2.1⟩
    by_cases hc2 : nc 0 7 t (lx t p).2.2 = 0
    · right
      obtain ⟨hk22, u1, u2⟩ := nc_0 hc2
      have hfe2 := m6 (by omega)
      generalize hch : vl t (lx t (lx t p).2.2).2.1 (lx t (lx t p).2.2).2.2 = c at *
      have hHr := hV.2.2.2.1 r
      have pw : (2 : Nat) ^ c < 256 := by
        have : (2 : Nat) ^ c < 2 ^ 8 := Nat.pow_lt_pow_right (by omega) (by omega)
        omega
      refine ⟨setH (addK δ (6, r + 1, (lx t p).2.1)) r c, (lx t (lx t p).2.2).2.2, ⟨setH_v hV (by omega) (by omega) (by omega) (by omega) (by omega), rfl⟩, ⟨by omega, m3⟩, fun X d g hC h7 h2 => ?_, fun M g hB hLA => ?_⟩
      · obtain ⟨g2, b1', b2, b3, b4, b5⟩ := begC X d g hC h7 h2
        obtain ⟨g3, z1, z2, z3, z4⟩ := q_num (X := X) (lo := 0) (hi := 7) hv (by omega) (by omega) k3 b1'.1 b2
        obtain ⟨y6, y7, y8, y2⟩ := z3 hc2
        rw [hch] at y8
        have hC3 := b1'.kept z2
        have h2d := hC3.2.1
        have eH : g3.1 (d + 10) r = nI (aH (dR δ) r) := hC3.2.2.2.2.2.2.2.1 r (by omega)
        show COK t X d _ _ g (f_X4_readHole (X + 23) (d + 10) g)
        rw [b5, show f_X4_takeNumber (X + 23) 0 7 g2 = _ from z1, if_pos hc2, zb_some, b1, zc_pos (zlit r 60 (by omega) (by omega)), zc_pos (zlit r 60 (by omega) (by omega)), nI_cl (by omega), y8, zshl_1 c (by omega), eH, nI_or, zl_eq]
        exact ⟨_, rfl, setH_c (δ := addK δ (6, r + 1, (lx t p).2.1)) hC3 (by omega), by rw [zsi_at (by omega)]; exact y7, by rw [zsi_at (by omega), y2]; exact b3, (b4.trans (kF.of z2)).trans (kF.si (by omega) h2d)⟩
      · obtain ⟨g1, z1, z2, z3, z4⟩ := begM M g hB hLA
        have hB1 := hB.kept z2
        obtain ⟨y, g2, w1, w2, w3, w4⟩ := m_number (lo := 0) (hi := 7) hv (by omega) (by omega) k3 hB1.1 z3
        obtain ⟨y1, y2⟩ := w3 hc2
        rw [hch] at y1
        have hB2 := hB1.kept w2
        show MOK t M _ _ g (f_X10_readHole M g)
        unfold f_X10_readHole j_X10_readHole_45
        rw [z4, zl_eq, z1, zb_some, show f_X10_readNumber M 0 7 g1 = _ from w1, zb_some]
        by_cases h5 : (lx t (lx t (lx t p).2.2).2.2).1 = 5
        · have hFS := y2.fs h5
          rw [hFS.1, if_neg (nz (by omega) (by omega)), m_laterF hFS (by omega), zb_some]
          exact ⟨_, _, rfl, hB2.1, fun z => absurd h5 z, y2, (hF.of z2).trans (hF.of w2)⟩
        · have hLK := y2.le h5
          have eH : g2.1 (M + 11) r = nI (aH (dR δ) r) := hB2.2.2.2.2.2.2.1 r (by omega)
          have hB3 := setH_m (r := r) (c := c) hB2 (by omega)
          obtain ⟨g3, a1, a2, a3, a4⟩ := m_later hB3 (κ := (6, r + 1, (lx t p).2.1)) (by show dq δ < 64; omega) (by rw [zsi_get (by omega), zsi_at (b := M) (by omega)]; exact hLK.1)
          rw [hLK.1, if_pos rfl, zc_pos (zlit r 60 (by omega) (by omega)), zc_pos (zlit r 60 (by omega) (by omega)), nI_cl (by omega), hB2.1.1.dr.2.2.1, y1, zshl_1 c (by omega), eH, nI_or, zl_eq, zl_eq, show f_X10_asksLater M (nI r) (nI (lx t p).2.1) _ = _ from a1, zb_some]
          refine ⟨_, _, rfl, a2.1, fun _ => a2.2, ?_, (((hF.of z2).trans (hF.of w2)).trans ((hF.si (by omega)).trans (hF.sf (by unfold tFd; omega)))).trans a3⟩
          have l1 : LA t (lx t (lx t p).2.2).2.2 M (zsi (zsi g2 (M + 11) r (nI (aH (dR δ) r ||| 2 ^ c))) M 14 1) := (y2.si (a := M + 11) (j := r) (y := nI (aH (dR δ) r ||| 2 ^ c)) (by omega)).f15 (j := 14) (fun i hi => zsi_get hi) (by omega)
          exact l1.f15 a4 (by omega)
    · left
      refine ⟨nc 0 7 t (lx t p).2.2, (lx t (lx t p).2.2).2.1, by omega, by omega, fun X d g hC h7 h2 => ?_, fun M g hB hLA => ?_⟩
      · obtain ⟨g2, b1', b2, b3, b4, b5⟩ := begC X d g hC h7 h2
        obtain ⟨g3, z1, z2, z3, z4⟩ := q_num (X := X) (lo := 0) (hi := 7) hv (by omega) (by omega) k3 b1'.1 b2
        show CNO X d _ _ g (f_X4_readHole (X + 23) (d + 10) g)
        rw [b5, show f_X4_takeNumber (X + 23) 0 7 g2 = _ from z1, if_neg hc2, zb_some, b0]
        exact ⟨_, rfl, (z4 hc2).1, (z4 hc2).2, b4.trans (kF.of z2)⟩
      · obtain ⟨g1, z1, z2, z3, z4⟩ := begM M g hB hLA
        have hB1 := hB.kept z2
        obtain ⟨y, g2, w1, w2, w3, w4⟩ := m_number (lo := 0) (hi := 7) hv (by omega) (by omega) k3 hB1.1 z3
        have hFS := w4 hc2
        show MNO M _ _ g (f_X10_readHole M g)
        unfold f_X10_readHole j_X10_readHole_45
        rw [z4, zl_eq, z1, zb_some, show f_X10_readNumber M 0 7 g1 = _ from w1, zb_some, hFS.1, if_neg (nz (by omega) (by omega)), m_laterF hFS (by omega), zb_some]
        exact ⟨_, _, rfl, hFS, (hF.of z2).trans (hF.of w2)⟩
  · left
    refine ⟨nc 0 59 t p, (lx t p).2.1, by omega, by omega, fun X d g hC h7 h2 => ?_, fun M g hB hLA => ?_⟩
    · obtain ⟨g1, z1, z2, z3, z4⟩ := q_num (X := X) (lo := 0) (hi := 59) hv (by omega) (by omega) hp hC.1 h7
      show CNO X d _ _ g (f_X4_readHole (X + 23) (d + 10) g)
      unfold f_X4_readHole
      rw [zc_pos (by decide), zc_pos (by decide), z8, z1, if_neg hc, zb_some, b0]
      exact ⟨g1, rfl, (z4 hc).1, (z4 hc).2, kF.of z2⟩
    · obtain ⟨y, g1, z1, z2, z3, z4⟩ := m_number (lo := 0) (hi := 59) hv (by omega) (by omega) hp hB.1 hLA
      have hFS := z4 hc
      show MNO M _ _ g (f_X10_readHole M g)
      unfold f_X10_readHole j_X10_readHole_45
      rw [zl_eq, show f_X10_readNumber M 0 59 g = _ from z1, zb_some, m_numF hFS (by omega), zb_some, hFS.1, if_neg (nz (by omega) (by omega)), m_laterF hFS (by omega), zb_some]
      exact ⟨_, _, rfl, hFS, hF.of z2⟩
end BD2
