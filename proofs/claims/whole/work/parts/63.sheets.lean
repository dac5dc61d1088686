section OKS3
variable {X : Nat}
theorem m_up0 {g : zG} {n : Nat} (h2 : n < 2147483648) (x : Int32) : f_X10_in x.toInt64 0 ((nI n - 1).toInt64) g = some (if 0 ≤ x.toInt ∧ x.toInt < n then 1 else 0, g) := by
  have e : (nI n - 1).toInt = n - 1 := by rw [i_sub (by rw [i_nI h2]; show -2147483648 ≤ (n : Int) - 1 ∧ (n : Int) - 1 < 2147483648; omega), i_nI h2]; rfl
  rw [in_spec, i64, i64, e]
  congr 2
  show (if 0 ≤ x.toInt ∧ x.toInt ≤ (n : Int) - 1 then (1 : Int32) else 0) = _
  by_cases h : 0 ≤ x.toInt ∧ x.toInt < n
  · rw [if_pos h, if_pos (by omega)]
  · rw [if_neg h, if_neg (by omega)]
theorem o_order (x y : Int32) : OKC X (fun g => f_X9_order X x y g) (fun g => f_X10_order (X + 53) x y g) := OKC.read (fun k σ r g _ hv hc hm => by
  have hX := hc.1
  have hw := hc.2.1
  have hr := hX.rules hw
  have hM := hm.1
  have bm := hv.1.2.2.2.2.2.2.2.2.2.2.2.1
  have e5 : g.2.1 (X + 53) 5 = X + 53 + 4 := by unfold rM at hM; simp only [hM]
  have e6 : g.2.1 (X + 53) 6 = X + 53 + 5 := by unfold rM at hM; simp only [hM]
  have e7 : g.2.1 (X + 53) 7 = X + 53 + 6 := by unfold rM at hM; simp only [hM]
  have e8 : g.2.1 (X + 53) 8 = X + 53 + 7 := by unfold rM at hM; simp only [hM]
  have e9 : g.2.1 (X + 53) 9 = X + 53 + 8 := by unfold rM at hM; simp only [hM]
  unfold f_X9_order f_X10_order
  rw [hw.1, hr.2.1, zl_eq, hc.2.2.1.2.2.1, hm.2.1.2.2.1, m_up0 (by omega), zb_some, m_in 0 2 0 2 rfl rfl, zb_some]
  by_cases h : 0 ≤ x.toInt ∧ x.toInt < aM (zR σ)
  · obtain ⟨i, hi, rfl⟩ := i_one h (by omega)
    obtain ⟨d1, d2, d3, d4, d5⟩ := hc.2.2.1.2.2.2.1 i hi
    obtain ⟨f1, f2, f3, f4, f5⟩ := hm.2.1.2.2.2.1 i hi
    obtain ⟨v1, v2, v3, v4, v5, v6, v7, v8⟩ := hv.1.2.2.2.2.2.2.2.2.2.2.2.2 i hi
    have hz := zlit i 24 (by omega) (by omega)
    rw [if_neg (show ¬ nI i < (0 : Int32) from fun e => by have := (nlt (b := 0) (by omega) (by omega)).mp e; omega), if_pos ((nlt (by omega) (by omega)).mpr hi), if_pos h, b1, hr.2.2.2.2.2.1, hr.2.2.2.2.2.2.1, hr.2.2.2.2.2.2.2.2.1, e8]
    rw [zc_pos hz, zc_pos hz, zc_pos hz, zc_pos hz, zc_pos hz, nI_cl (by omega), d1, d2, d4, f4]
    have ej : ∀ y : Int32, j_X10_order_51 (X + 53) (nI i) y g = (if y = 0 then some (nI (aA (zR σ) i), g) else if y = 1 then some (nI (aU (zR σ) i), g) else if y = 2 then some (nI (aY (zR σ) i), g) else zc (zin (nI (aF (zR σ) i) + y - 10) 240) (some (g.1 (X + 53 + 8) (nI (aF (zR σ) i) + y - 10).toNatClampNeg, g))) := by
      intro y
      unfold j_X10_order_51
      rw [zc_pos hz, zc_pos hz, zc_pos hz, zc_pos hz, e5, e6, e7, e8, e9, nI_cl (by omega), f1, f2, f3, f4]
    have e10 : nI (aA (zR σ) i + 9) - 9 = nI (aA (zR σ) i) := by rw [show (9 : Int32) = nI 9 from rfl, pk_sub (by omega)]; congr 1
    by_cases y0 : y = 0
    · subst y0
      rw [e10, ej]
      exact ⟨_, rfl, rfl⟩
    · by_cases y1 : y = 1
      · subst y1; rw [ej]; exact ⟨_, rfl, rfl⟩
      · by_cases y2 : y = 2
        · subst y2; rw [ej]; exact ⟨_, rfl, rfl⟩
        · have n0 : ¬ y.toInt = 0 := fun e => y0 (i_eq.mpr e)
          have n1 : ¬ y.toInt = 1 := fun e => y1 (i_eq.mpr e)
          have n2 : ¬ y.toInt = 2 := fun e => y2 (i_eq.mpr e)
          rw [if_neg y0, if_neg y1, if_neg y2, if_neg (show ¬ (0 ≤ y.toInt ∧ y.toInt ≤ 2) by omega), b0]
          have e11 : (9 + nI (aY (zR σ) i)).toInt64.toInt = 9 + aY (zR σ) i := by
            rw [i64, show (9 : Int32) = nI 9 from rfl, nI_add, i_nI (by omega)]; omega
          rw [in_spec, i64, e11, zb_some, ej, if_neg y0, if_neg y1, if_neg y2]
          have elt : (y < (10 : Int32)) ↔ y.toInt < 10 := i_lt
          by_cases h2 : 10 ≤ y.toInt ∧ y.toInt ≤ 9 + aY (zR σ) i
          · obtain ⟨j, hj, rfl⟩ := i_one (x := y) (n := 10 + aY (zR σ) i) (by omega) (by omega)
            rw [i_nI (by omega)] at h2
            obtain ⟨m, rfl⟩ : ∃ m, j = m + 10 := ⟨j - 10, by omega⟩
            have e12 : nI (m + 10) - 10 = nI m := by rw [show (10 : Int32) = nI 10 from rfl, pk_sub (by omega)]; congr 1
            have e13 : nI (aF (zR σ) i) + nI (m + 10) - 10 = nI (aF (zR σ) i + m) := by rw [show (10 : Int32) = nI 10 from rfl, nI_add, pk_sub (by omega)]; congr 1
            have hz2 := zlit (aF (zR σ) i + m) 240 (by omega) (by omega)
            rw [if_neg (fun e => by have := elt.mp e; rw [i_nI (by omega)] at this; omega), e12, if_pos ((nlt (by omega) (by omega)).mpr (by omega)), if_pos (show (10 : Int64).toInt ≤ (nI (m + 10)).toInt ∧ (nI (m + 10)).toInt ≤ 9 + (aY (zR σ) i : Int) by rw [i_nI (by omega)]; exact h2), b1, e13, zc_pos hz2, nI_cl (by omega), f5 m (by omega)]
            unfold f_X3_letterOf
            rw [zc_pos hz, hr.2.2.2.2.2.2.2.1, hr.2.2.2.2.2.2.2.2.2, nI_cl (by omega), d3, nI_add, zc_pos hz2, nI_cl (by omega), zb_some, d5 m (by omega)]
            exact ⟨_, rfl, rfl⟩
          · rw [if_neg (show ¬ ((10 : Int64).toInt ≤ y.toInt ∧ y.toInt ≤ 9 + (aY (zR σ) i : Int)) from h2), b0]
            refine ⟨-1, ?_, rfl⟩
            by_cases h3 : y.toInt < 10
            · rw [if_pos (elt.mpr h3)]
            · rw [if_neg (fun e => h3 (elt.mp e)), if_neg]
              intro e
              have e14 : (y - 10).toInt = y.toInt - 10 := by
                have := i_rng y
                rw [i_sub (by show -2147483648 ≤ y.toInt - 10 ∧ y.toInt - 10 < 2147483648; omega)]; rfl
              rw [i_lt, e14, i_nI (by omega)] at e
              omega
  · rw [if_neg h, b0]
    refine ⟨-1, ?_, rfl⟩
    have elt : (x < (0 : Int32)) ↔ x.toInt < 0 := i_lt
    by_cases h1 : x.toInt < 0
    · rw [if_pos (elt.mpr h1)]
    · rw [if_neg (fun e => h1 (elt.mp e)), if_neg (fun e => by rw [i_lt, i_nI (by omega)] at e; omega)])
theorem q_isSheet {g : zG} (x : Int32) : f_X9_isSheet x g = some (if 0 ≤ x.toInt ∧ x.toInt < 4 then 1 else 0, g) := by
  unfold f_X9_isSheet
  simp only [i_lt, i_le]
  show (if x.toInt < 0 then some ((0 : Int32), g) else if 4 ≤ x.toInt then _ else _) = _
  by_cases h1 : x.toInt < 0
  · rw [if_pos h1, if_neg (by omega)]
  · rw [if_neg h1]
    by_cases h2 : 4 ≤ x.toInt
    · rw [if_pos h2, if_neg (by omega)]
    · rw [if_neg h2, if_pos (by omega)]
theorem q_isLane {g : zG} (x : Int32) : f_X9_isLane x g = some (if 0 ≤ x.toInt ∧ x.toInt < 3 then 1 else 0, g) := by
  unfold f_X9_isLane
  simp only [i_lt, i_le]
  show (if x.toInt < 0 then some ((0 : Int32), g) else if 3 ≤ x.toInt then _ else _) = _
  by_cases h1 : x.toInt < 0
  · rw [if_pos h1, if_neg (by omega)]
  · rw [if_neg h1]
    by_cases h2 : 3 ≤ x.toInt
    · rw [if_pos h2, if_neg (by omega)]
    · rw [if_neg h2, if_pos (by omega)]
theorem m_isSheet {g : zG} (x y : Int32) : f_X10_isSheet x y g = some (if (0 ≤ x.toInt ∧ x.toInt < 4) ∧ 0 ≤ y.toInt ∧ y.toInt < 3 then 1 else 0, g) := by
  unfold f_X10_isSheet
  rw [m_in 0 3 0 3 rfl rfl, zb_some, m_in 0 2 0 2 rfl rfl, zb_some]
  by_cases h1 : 0 ≤ x.toInt ∧ x.toInt < 4
  · rw [if_pos (show 0 ≤ x.toInt ∧ x.toInt ≤ 3 by omega), b1]
    by_cases h2 : 0 ≤ y.toInt ∧ y.toInt < 3
    · rw [if_pos (show 0 ≤ y.toInt ∧ y.toInt ≤ 2 by omega), b1, if_pos ⟨h1, h2⟩]
    · rw [if_neg (show ¬ (0 ≤ y.toInt ∧ y.toInt ≤ 2) by omega), b0, if_neg (fun z => h2 z.2)]
  · rw [if_neg (show ¬ (0 ≤ x.toInt ∧ x.toInt ≤ 3) by omega), b0, if_neg (fun z => h1 z.1)]
/-- cells become 0: i of them from a place on -/
def zclr (g : zG) (a b : Nat) : Nat → zG
  | 0 => g
  | i + 1 => zsi (zclr g a b i) a (b + i) 0
theorem zclr_r (g : zG) (a b i : Nat) : (zclr g a b i).2 = g.2 := by
  induction i with
  | zero => rfl
  | succ i ih => exact ih
theorem zclr_at (g : zG) (a b i : Nat) {c : Nat} (h : c ≠ a) : (zclr g a b i).1 c = g.1 c := by
  induction i with
  | zero => rfl
  | succ i ih => rw [show zclr g a b (i + 1) = zsi (zclr g a b i) a (b + i) 0 from rfl, zsi_at h, ih]
theorem zclr_get (g : zG) (a b i j : Nat) : (zclr g a b i).1 a j = if b ≤ j ∧ j < b + i then 0 else g.1 a j := by
  induction i with
  | zero => rw [if_neg (by omega)]; rfl
  | succ i ih =>
    rw [show zclr g a b (i + 1) = zsi (zclr g a b i) a (b + i) 0 from rfl]
    by_cases e : j = b + i
    · subst e; rw [zsi_same, if_pos (by omega)]
    · rw [zsi_get e, ih]
      by_cases h : b ≤ j ∧ j < b + i
      · rw [if_pos h, if_pos (by omega)]
      · rw [if_neg h, if_neg (by omega)]
theorem zclr_frm (g : zG) (a b i : Nat) : frm (fun c => c = a) g (zclr g a b i) := ⟨by rw [zclr_r], fun c hc => ⟨zclr_at g a b i hc, by rw [zclr_r]⟩⟩
theorem q_renew {g : zG} {a : Nat} (h0 : g.2.1 a 0 = a + 1) (h1 : g.2.1 a 1 = a + 2) (h2 : g.2.1 a 2 = a + 3) {k l n : Nat} (hk : k < 4) : f_X6_renew a (nI k) (nI l) (nI n) g = some (0, zclr (zsi (zsi g (a + 1) k (nI l)) (a + 2) k (nI n)) (a + 3) (k * 40) 40) := by
  unfold f_X6_renew
  rw [zc_pos (zlit k 4 hk (by omega)), zl_eq, zc_pos (zlit k 4 hk (by omega)), zl_eq, nI_cl (by omega), zsi_r, h0, h1]
  have hz := zw_seq (step := fun s : Int32 × zG => l_X6_renew_17 a (nI k) s.1 s.2) (fun i => (nI i, zclr (zsi (zsi g (a + 1) k (nI l)) (a + 2) k (nI n)) (a + 3) (k * 40) i)) (zclr (zsi (zsi g (a + 1) k (nI l)) (a + 2) k (nI n)) (a + 3) (k * 40) 40) 40 (fun i hi => ?_) ?_ (N := zN) (by have := zN_big; omega)
  · rw [show ((0, zsi (zsi g (a + 1) k (nI l)) (a + 2) k (nI n)) : Int32 × zG) = (nI 0, zclr (zsi (zsi g (a + 1) k (nI l)) (a + 2) k (nI n)) (a + 3) (k * 40) 0) from rfl, hz, zk_some]
    rfl
  · show l_X6_renew_17 a (nI k) (nI i) _ = _
    unfold l_X6_renew_17
    rw [if_neg (show ¬ (40 : Int32) ≤ nI i from fun e => by have := (nle (a := 40) (by omega) (by omega)).mp e; omega), show (40 : Int32) = nI 40 from rfl, pk_mul, nI_add, zc_pos (zlit _ 160 (by omega) (by omega)), zl_eq, zl_eq, nI_1, nI_cl (by omega), zclr_r, zsi_r, zsi_r, h2]
    rfl
  · show l_X6_renew_17 a (nI k) (nI 40) _ = _
    unfold l_X6_renew_17
    rw [if_pos (show (40 : Int32) ≤ nI 40 from (nle (a := 40) (by omega) (by omega)).mpr (Nat.le_refl _))]
theorem m_sheetloop {g : zG} {M : Nat} (h2 : g.2.1 M 60 = M + 35) {k : Nat} (hk : k < 4) : zw zN (fun s => l_X10_sheet_40 M (nI k) s.1 s.2) (0, g) = some (zclr g (M + 35) (k * 40) 40) := by
  have hz := zw_seq (step := fun s : Int32 × zG => l_X10_sheet_40 M (nI k) s.1 s.2) (fun i => (nI i, zclr g (M + 35) (k * 40) i)) (zclr g (M + 35) (k * 40) 40) 40 (fun i hi => ?_) ?_ (N := zN) (by have := zN_big; omega)
  · rw [show ((0, g) : Int32 × zG) = (nI 0, zclr g (M + 35) (k * 40) 0) from rfl, hz]
  · show l_X10_sheet_40 M (nI k) (nI i) _ = _
    unfold l_X10_sheet_40
    rw [if_neg (show ¬ (40 : Int32) ≤ nI i from fun e => by have := (nle (a := 40) (by omega) (by omega)).mp e; omega), show (40 : Int32) = nI 40 from rfl, pk_mul, nI_add, show 40 * k + i = k * 40 + i by omega, zc_pos (zlit _ 160 (by omega) (by omega)), zl_eq, zl_eq, nI_1, nI_cl (by omega), zclr_r, h2]
    rfl
  · show l_X10_sheet_40 M (nI k) (nI 40) _ = _
    unfold l_X10_sheet_40
    rw [if_pos (show (40 : Int32) ≤ nI 40 from (nle (a := 40) (by omega) (by omega)).mpr (Nat.le_refl _))]
def wset (w : aW) (k : Nat) (p : Option (Nat × Nat)) (f : Nat → Int32) : aW := (fun j => if j = k then p else w.1 j, f)
theorem o_sheet (x y z : Int32) : OKC X (fun g => f_X9_sheet X x y z g) (fun g => f_X10_sheet (X + 53) x y z g) := OKC.write (fun k σ r g _ hv hc hm => by
  have hX := hc.1
  have ele : (z ≤ (40 : Int32)) ↔ z.toInt ≤ 40 := i_le
  have e0 : ((0 : Int32) ≤ z) ↔ 0 ≤ z.toInt := i_le
  by_cases h1 : (0 ≤ x.toInt ∧ x.toInt < 4) ∧ 0 ≤ y.toInt ∧ y.toInt < 3
  · by_cases h2 : z.toInt ≤ 40
    · by_cases h3 : 0 ≤ z.toInt
      · obtain ⟨i, hi, rfl⟩ := i_one (n := 4) h1.1 (by omega)
        obtain ⟨l, hl, rfl⟩ := i_one (x := y) (n := 3) h1.2 (by omega)
        obtain ⟨n, hn, rfl⟩ := i_one (x := z) (n := 41) (by omega) (by omega)
        have eC : f_X9_sheet X (nI i) (nI l) (nI n) g = some (1, zclr (zsi (zsi g (X + 49 + 1) i (nI l)) (X + 49 + 2) i (nI n)) (X + 49 + 3) (i * 40) 40) := by
          unfold f_X9_sheet
          rw [q_isSheet, zb_some, q_isLane, zb_some, if_pos h1.1, b1, if_pos h1.2, b1, if_pos (ele.mpr h2), if_pos (e0.mpr h3), hX.2.2.2.2.2.2.1, q_renew (by rw [hX.2.2.2.2.2.2.2.2.2.2.2.2.2.2.2.2.2.2.2.2.2.2.2.2.2.2.2.2.2.2.2.1]) (by rw [hX.2.2.2.2.2.2.2.2.2.2.2.2.2.2.2.2.2.2.2.2.2.2.2.2.2.2.2.2.2.2.2.2.1]) (by rw [hX.2.2.2.2.2.2.2.2.2.2.2.2.2.2.2.2.2.2.2.2.2.2.2.2.2.2.2.2.2.2.2.2.2]) hi, zb_some]
        have fC : ∀ (g : zG) (a : Nat), frm (fun b => a + 1 ≤ b ∧ b ≤ a + 3) g (zclr (zsi (zsi g (a + 1) i (nI l)) (a + 2) i (nI n)) (a + 3) (i * 40) 40) := fun g a => ((frm.si (show a + 1 ≤ a + 1 ∧ a + 1 ≤ a + 3 by omega)).trans (frm.si (show a + 1 ≤ a + 2 ∧ a + 2 ≤ a + 3 by omega))).trans ((zclr_frm _ _ _ _).mono (fun b e => by rw [e]; omega))
        have key : ∀ (g : zG) (a : Nat), (∀ j, (zclr (zsi (zsi g (a + 1) i (nI l)) (a + 2) i (nI n)) (a + 3) (i * 40) 40).1 (a + 1) j = if j = i then nI l else g.1 (a + 1) j) ∧ (∀ j, (zclr (zsi (zsi g (a + 1) i (nI l)) (a + 2) i (nI n)) (a + 3) (i * 40) 40).1 (a + 2) j = if j = i then nI n else g.1 (a + 2) j) ∧ ∀ j, (zclr (zsi (zsi g (a + 1) i (nI l)) (a + 2) i (nI n)) (a + 3) (i * 40) 40).1 (a + 3) j = if i * 40 ≤ j ∧ j < i * 40 + 40 then 0 else g.1 (a + 3) j := by
          intro g a
          refine ⟨fun j => ?_, fun j => ?_, fun j => ?_⟩
          · rw [zclr_at _ _ _ _ (by omega), zsi_at (by omega)]
            by_cases e : j = i
            · subst e; rw [zsi_same, if_pos rfl]
            · rw [zsi_get e, if_neg e]
          · rw [zclr_at _ _ _ _ (by omega)]
            by_cases e : j = i
            · subst e; rw [zsi_same, if_pos rfl]
            · rw [zsi_get e, if_neg e, zsi_at (by omega)]
          · rw [zclr_get, zsi_at (by omega), zsi_at (by omega)]
        refine ⟨1, _, zSh' σ (wset (zSh σ) i (some (l, n)) (fun j => if i * 40 ≤ j ∧ j < i * 40 + 40 then 0 else (zSh σ).2 j)), eC, ?_, rfl, (fC g (X + 49)).mono (fun b hb => by omega), ?_, fun g1 h5 => ⟨zclr (zsi (zsi g1 (X + 53 + 32 + 1) i (nI l)) (X + 53 + 32 + 2) i (nI n)) (X + 53 + 32 + 3) (i * 40) 40, ?_, (fC g1 (X + 53 + 32)).mono (fun b hb => by omega), ?_⟩⟩
        · obtain ⟨v1, v2, v3, v4, v5, v6, v7⟩ := hv.next
          refine ⟨v1, v2, v3, v4, v5, v6, fun j hj a b hab => ?_⟩
          have hab : (if j = i then some (l, n) else (zSh σ).1 j) = some (a, b) := hab
          by_cases e : j = i
          · rw [if_pos e] at hab; cases hab; omega
          · rw [if_neg e] at hab; exact v7 j hj a b hab
        · refine hc.sh ((fC g (X + 49)).mono (fun b hb => by omega)) ?_
          obtain ⟨k1, k2, k3⟩ := key g (X + 49)
          obtain ⟨c1, c2⟩ := hc.2.2.2.2.2.2.2.2.2.2
          refine ⟨fun j hj => ⟨fun hz => ?_, fun a b hab => ?_⟩, fun j hj => ?_⟩
          · have hz : (if j = i then some (l, n) else (zSh σ).1 j) = none := hz
            by_cases e : j = i
            · rw [if_pos e] at hz; cases hz
            · rw [if_neg e] at hz; rw [k2, if_neg e]; exact (c1 j hj).1 hz
          · have hab : (if j = i then some (l, n) else (zSh σ).1 j) = some (a, b) := hab
            rw [k1, k2]
            by_cases e : j = i
            · rw [if_pos e] at hab; cases hab; rw [if_pos e, if_pos e]; exact ⟨rfl, rfl⟩
            · rw [if_neg e] at hab; rw [if_neg e, if_neg e]; exact (c1 j hj).2 a b hab
          · rw [k3]
            show _ = if i * 40 ≤ j ∧ j < i * 40 + 40 then 0 else (zSh σ).2 j
            by_cases e : i * 40 ≤ j ∧ j < i * 40 + 40
            · rw [if_pos e, if_pos e]
            · rw [if_neg e, if_neg e]; exact c2 j hj
        · have hM := h5.1
          have e58 : g1.2.1 (X + 53) 58 = X + 53 + 33 := by unfold rM at hM; simp only [hM]
          have e59 : g1.2.1 (X + 53) 59 = X + 53 + 34 := by unfold rM at hM; simp only [hM]
          have e60 : g1.2.1 (X + 53) 60 = X + 53 + 35 := by unfold rM at hM; simp only [hM]
          unfold f_X10_sheet
          rw [m_isSheet, zb_some, if_pos h1, b1, if_pos (ele.mpr h2), if_pos (e0.mpr h3), zc_pos (zlit i 4 hi (by omega)), zl_eq, zc_pos (zlit i 4 hi (by omega)), zl_eq, nI_cl (by omega), zsi_r, e58, e59, m_sheetloop (by rw [zsi_r, zsi_r]; exact e60) hi, zk_some]
          rfl
        · refine h5.sh ((fC g1 (X + 53 + 32)).mono (fun b hb => by omega)) ?_
          obtain ⟨k1, k2, k3⟩ := key g1 (X + 53 + 32)
          obtain ⟨c1, c2⟩ := h5.2.2.2.2.2.2.2.2.2
          refine ⟨fun j hj => ⟨fun hz => ?_, fun a b hab => ?_⟩, fun j hj => ?_⟩
          · have hz : (if j = i then some (l, n) else (zSh σ).1 j) = none := hz
            by_cases e : j = i
            · rw [if_pos e] at hz; cases hz
            · rw [if_neg e] at hz
              have := k1 j
              rw [if_neg e] at this
              exact this.trans ((c1 j hj).1 hz)
          · have hab : (if j = i then some (l, n) else (zSh σ).1 j) = some (a, b) := hab
            have q1 := k1 j
            have q2 := k2 j
            by_cases e : j = i
            · rw [if_pos e] at hab q1 q2; cases hab; exact ⟨q1, q2⟩
            · rw [if_neg e] at hab q1 q2; exact ⟨q1.trans ((c1 j hj).2 a b hab).1, q2.trans ((c1 j hj).2 a b hab).2⟩
          · have q3 := k3 j
            show _ = if i * 40 ≤ j ∧ j < i * 40 + 40 then 0 else (zSh σ).2 j
            by_cases e : i * 40 ≤ j ∧ j < i * 40 + 40
            · rw [if_pos e] at q3 ⊢; exact q3
            · rw [if_neg e] at q3 ⊢; exact q3.trans (c2 j hj)
      · refine ⟨-14, g, σ, ?_, hv.next, rfl, frm.refl _ _, hc, fun g1 h5 => ⟨g1, ?_, frm.refl _ _, h5⟩⟩
        · show f_X9_sheet X x y z g = _
          unfold f_X9_sheet
          rw [q_isSheet, zb_some, q_isLane, zb_some, if_pos h1.1, b1, if_pos h1.2, b1, if_pos (ele.mpr h2), if_neg (fun e => h3 (e0.mp e))]
        · show f_X10_sheet (X + 53) x y z g1 = _
          unfold f_X10_sheet
          rw [m_isSheet, zb_some, if_pos h1, b1, if_pos (ele.mpr h2), if_neg (fun e => h3 (e0.mp e))]
    · refine ⟨-1, g, σ, ?_, hv.next, rfl, frm.refl _ _, hc, fun g1 h5 => ⟨g1, ?_, frm.refl _ _, h5⟩⟩
      · show f_X9_sheet X x y z g = _
        unfold f_X9_sheet
        rw [q_isSheet, zb_some, q_isLane, zb_some, if_pos h1.1, b1, if_pos h1.2, b1, if_neg (fun e => h2 (ele.mp e))]
      · show f_X10_sheet (X + 53) x y z g1 = _
        unfold f_X10_sheet
        rw [m_isSheet, zb_some, if_pos h1, b1, if_neg (fun e => h2 (ele.mp e))]
  · refine ⟨-1, g, σ, ?_, hv.next, rfl, frm.refl _ _, hc, fun g1 h5 => ⟨g1, ?_, frm.refl _ _, h5⟩⟩
    · show f_X9_sheet X x y z g = _
      unfold f_X9_sheet
      rw [q_isSheet, zb_some, q_isLane, zb_some]
      by_cases h2 : 0 ≤ x.toInt ∧ x.toInt < 4
      · rw [if_pos h2, b1, if_neg (fun e => h1 ⟨h2, e⟩), b0]
      · rw [if_neg h2, b0]
    · show f_X10_sheet (X + 53) x y z g1 = _
      unfold f_X10_sheet
      rw [m_isSheet, zb_some, if_neg h1, b0])
end OKS3
