section OKS5
variable {X : Nat}
theorem rX.sh {g : zG} (h : rX X g) : g.2.1 X 6 = X + 49 := by unfold rX at h; simp only [h]
theorem rX.sh0 {g : zG} (h : rX X g) : g.2.1 (X + 49) 0 = X + 50 := by unfold rX at h; simp only [h]
theorem rX.sh1 {g : zG} (h : rX X g) : g.2.1 (X + 49) 1 = X + 51 := by unfold rX at h; simp only [h]
theorem rX.sh2 {g : zG} (h : rX X g) : g.2.1 (X + 49) 2 = X + 52 := by unfold rX at h; simp only [h]
theorem rM.la {M : Nat} {g : zG} (h : rM M g) : g.2.1 M 58 = M + 33 := by unfold rM at h; simp only [h]
theorem rM.si {M : Nat} {g : zG} (h : rM M g) : g.2.1 M 59 = M + 34 := by unfold rM at h; simp only [h]
theorem rM.ce {M : Nat} {g : zG} (h : rM M g) : g.2.1 M 60 = M + 35 := by unfold rM at h; simp only [h]
theorem nm1 {a : Nat} (ha : a < 2147483648) : ¬ nI a = -1 := fun e => by
  have h := congrArg Int32.toInt e
  rw [i_nI ha] at h
  have h2 : (-1 : Int32).toInt = -1 := rfl
  omega
theorem q_hasCell {g : zG} {i n : Nat} (h : g.1 (g.2.1 (X + 49) 1) i = nI n) (hi : i < 4) (hn : n ≤ 40) (y : Int32) : f_X6_hasCell (X + 49) (nI i) y g = some (if 0 ≤ y.toInt ∧ y.toInt < n then 1 else 0, g) := by
  unfold f_X6_hasCell
  have e0 : (y < (0 : Int32)) ↔ y.toInt < 0 := i_lt
  have e1 : (nI n ≤ y) ↔ (n : Int) ≤ y.toInt := by rw [i_le, i_nI (by omega)]
  by_cases h1 : y.toInt < 0
  · rw [if_pos (e0.mpr h1), if_neg (by omega)]
  · rw [if_neg (fun e => h1 (e0.mp e)), zc_pos (zlit i 4 hi (by omega)), nI_cl (by omega), h]
    by_cases h2 : (n : Int) ≤ y.toInt
    · rw [if_pos (e1.mpr h2), if_neg (by omega)]
    · rw [if_neg (fun e => h2 (e1.mp e)), if_pos (by omega)]
theorem q_isNothing {g : zG} {i : Nat} (hi : i < 4) : f_X6_isNothing (X + 49) (nI i) g = some (if g.1 (g.2.1 (X + 49) 1) i = -1 then 1 else 0, g) := by
  unfold f_X6_isNothing
  rw [zc_pos (zlit i 4 hi (by omega)), nI_cl (by omega)]
  by_cases h : g.1 (g.2.1 (X + 49) 1) i = -1
  · rw [if_pos h, if_pos h]
  · rw [if_neg h, if_neg h]
/-- what a cell of a lane keeps -/
def lay' (l : Nat) (z : Int32) : Int32 := if l = 0 then z.toInt8.toInt32 else if l = 1 then z.toInt16.toInt32 else z
theorem nI_zr {a : Nat} (ha : a < 2147483648) : (nI a = 0) ↔ a = 0 := nI_inj (b := 0) ha (by omega)
theorem nI_on {a : Nat} (ha : a < 2147483648) : (nI a = 1) ↔ a = 1 := nI_inj (b := 1) ha (by omega)
theorem nI_is {a b : Nat} (ha : a < 2147483648) (hb : b < 2147483648) : (nI a = nI b) ↔ a = b := nI_inj ha hb
theorem o_lay (x y z : Int32) : OKC X (fun g => f_X9_lay X x y z g) (fun g => f_X10_lay (X + 53) x y z g) := OKC.write (fun k σ r g _ hv hc hm => by
  have hX := hc.1
  have hs := hc.2.2.2.2.2.2.2.2.2.2
  by_cases h1 : 0 ≤ x.toInt ∧ x.toInt < 4
  · have hi4 : (0 ≤ x.toInt ∧ x.toInt < 4) ∧ 0 ≤ (0 : Int32).toInt ∧ (0 : Int32).toInt < 3 := ⟨h1, by decide⟩
    obtain ⟨i, hi, rfl⟩ := i_one (n := 4) h1 (by omega)
    cases hw : (zSh σ).1 i with
    | none =>
      have c1 := (hs.1 i hi).1 hw
      refine ⟨-11, g, σ, ?_, hv.next, rfl, frm.refl _ _, hc, fun g1 h5 => ⟨g1, ?_, frm.refl _ _, h5⟩⟩
      · show f_X9_lay X _ y z g = _
        unfold f_X9_lay
        rw [q_isSheet, zb_some, if_pos h1, b1, hX.sh, q_isNothing hi, zb_some, hX.sh1, if_pos c1, b1]
      · have m1 := (h5.2.2.2.2.2.2.2.2.2.1 i hi).1 hw
        show f_X10_lay (X + 53) _ y z g1 = _
        unfold f_X10_lay
        rw [m_isSheet, zb_some, if_pos hi4, b1]
        simp only [zc_pos (zlit i 4 hi (by omega)), nI_cl (show i < 2147483648 by omega)]
        rw [h5.1.la, if_pos m1]
    | some q =>
      obtain ⟨l, n⟩ := q
      obtain ⟨c1, c2⟩ := (hs.1 i hi).2 l n hw
      obtain ⟨d1, d2⟩ := hv.2.2.2.2.2.2 i hi l n hw
      have eC : f_X9_lay X (nI i) y z g = (if 0 ≤ y.toInt ∧ y.toInt < n then some (1, zsi g (X + 52) (i * 40 + y.toInt.toNat) (lay' l z)) else some (-12, g)) := by
        unfold f_X9_lay
        rw [q_isSheet, zb_some, if_pos h1, b1, hX.sh, q_isNothing hi, zb_some, hX.sh1, if_neg (show ¬ g.1 (X + 51) i = -1 by rw [c2]; exact nm1 (by omega)), b0, hX.sh, q_hasCell (by rw [hX.sh1]; exact c2) hi d2, zb_some]
        by_cases h2 : 0 ≤ y.toInt ∧ y.toInt < n
        · rw [if_pos h2, if_pos h2, b1]
          obtain ⟨j, hj, rfl⟩ := i_one h2 (by omega)
          have ew : ∀ v, j_X6_write_33 (X + 49) (nI i) (nI j) v g = some (0, zsi g (X + 52) (i * 40 + j) v) := by
            intro v
            unfold j_X6_write_33
            rw [show (40 : Int32) = nI 40 from rfl, pk_mul, nI_add, zc_pos (zlit _ 160 (by omega) (by omega)), zl_eq, nI_cl (by omega), hX.sh2]
          unfold f_X6_write
          rw [zc_pos (zlit i 4 hi (by omega)), zc_pos (zlit i 4 hi (by omega)), nI_cl (by omega), hX.sh, hX.sh0, c1, ew, ew, ew, i_nI (by omega)]
          unfold lay'
          by_cases l0 : l = 0
          · rw [if_pos ((nI_zr (by omega)).mpr l0), zb_some, if_pos l0]; rfl
          · rw [if_neg (fun e => l0 ((nI_zr (by omega)).mp e)), if_neg l0]
            by_cases l1 : l = 1
            · rw [if_pos ((nI_on (by omega)).mpr l1), zb_some, if_pos l1]; rfl
            · rw [if_neg (fun e => l1 ((nI_on (by omega)).mp e)), zb_some, if_neg l1]; rfl
        · rw [if_neg h2, if_neg h2, b0]
      have eM : ∀ g1, MI σ (X + 53) g1 → f_X10_lay (X + 53) (nI i) y z g1 = (if 0 ≤ y.toInt ∧ y.toInt < n then some (1, zsi g1 (X + 53 + 35) (i * 40 + y.toInt.toNat) (lay' l z)) else some (-12, g1)) := by
        intro g1 h5
        obtain ⟨m1, m2⟩ := (h5.2.2.2.2.2.2.2.2.2.1 i hi).2 l n hw
        have hM := h5.1
        unfold f_X10_lay
        rw [m_isSheet, zb_some, if_pos hi4, b1]
        simp only [zc_pos (zlit i 4 hi (by omega)), nI_cl (show i < 2147483648 by omega)]
        rw [hM.la, hM.si, m1, m2, if_neg (nm4 (by omega)), m_up0 (by omega), zb_some]
        by_cases h2 : 0 ≤ y.toInt ∧ y.toInt < n
        · rw [if_pos h2, if_pos h2, b1]
          obtain ⟨j, hj, rfl⟩ := i_one h2 (by omega)
          rw [show (40 : Int32) = nI 40 from rfl, pk_mul, nI_add, show 40 * i + j = i * 40 + j by omega, zc_pos (zlit _ 160 (by omega) (by omega)), zc_pos (zlit _ 160 (by omega) (by omega)), zc_pos (zlit _ 160 (by omega) (by omega)), nI_cl (by omega), i_nI (by omega), zl_eq, zl_eq, zl_eq, hM.la, hM.ce, m1]
          unfold lay'
          by_cases l0 : l = 0
          · rw [if_pos ((nI_zr (by omega)).mpr l0), if_pos l0]; rfl
          · rw [if_neg (fun e => l0 ((nI_zr (by omega)).mp e)), if_neg l0]
            by_cases l1 : l = 1
            · rw [if_pos ((nI_on (by omega)).mpr l1), if_pos l1]; rfl
            · rw [if_neg (fun e => l1 ((nI_on (by omega)).mp e)), if_neg l1]; rfl
        · rw [if_neg h2, if_neg h2, b0]
      by_cases h2 : 0 ≤ y.toInt ∧ y.toInt < n
      · rw [if_pos h2] at eC
        have hw3 : ∀ (f : Nat → Int32) (g2 : zG) (a : Nat), (∀ j, j < 160 → g2.1 a j = (zSh σ).2 j) → ∀ j, j < 160 → (zsi g2 a (i * 40 + y.toInt.toNat) (lay' l z)).1 a j = (fun j => if j = i * 40 + y.toInt.toNat then lay' l z else (zSh σ).2 j) j := by
          intro f g2 a hg j hj
          show _ = if j = i * 40 + y.toInt.toNat then lay' l z else (zSh σ).2 j
          by_cases e : j = i * 40 + y.toInt.toNat
          · rw [if_pos e, e, zsi_same]
          · rw [if_neg e, zsi_get e, hg j hj]
        refine ⟨1, _, zSh' σ ((zSh σ).1, fun j => if j = i * 40 + y.toInt.toNat then lay' l z else (zSh σ).2 j), eC, ?_, rfl, frm.si (show X + 52 < X + 53 ∧ X + 52 ≠ X + 38 ∧ X + 52 ≠ X + 39 by omega), ?_, fun g1 h5 => ⟨zsi g1 (X + 53 + 35) (i * 40 + y.toInt.toNat) (lay' l z), by rw [eM g1 h5, if_pos h2], frm.si (show X + 53 ≤ X + 53 + 35 by omega), ?_⟩⟩
        · obtain ⟨v1, v2, v3, v4, v5, v6, v7⟩ := hv.next
          exact ⟨v1, v2, v3, v4, v5, v6, v7⟩
        · refine hc.sh (frm.si (show X + 50 ≤ X + 52 ∧ X + 52 ≤ X + 52 by omega)) ⟨?_, hw3 (fun _ => 0) _ _ hs.2⟩
          rw [zsi_at (b := X + 50) (by omega), zsi_at (b := X + 51) (by omega)]
          exact hs.1
        · have hs5 := h5.2.2.2.2.2.2.2.2.2
          refine h5.sh (frm.si (show X + 53 + 33 ≤ X + 53 + 35 ∧ X + 53 + 35 ≤ X + 53 + 35 by omega)) ⟨?_, hw3 (fun _ => 0) _ _ hs5.2⟩
          rw [zsi_at (b := X + 53 + 33) (by omega), zsi_at (b := X + 53 + 34) (by omega)]
          exact hs5.1
      · rw [if_neg h2] at eC
        exact ⟨-12, g, σ, eC, hv.next, rfl, frm.refl _ _, hc, fun g1 h5 => ⟨g1, by rw [eM g1 h5, if_neg h2], frm.refl _ _, h5⟩⟩
  · refine ⟨-1, g, σ, ?_, hv.next, rfl, frm.refl _ _, hc, fun g1 h5 => ⟨g1, ?_, frm.refl _ _, h5⟩⟩
    · show f_X9_lay X x y z g = _
      unfold f_X9_lay
      rw [q_isSheet, zb_some, if_neg h1, b0]
    · show f_X10_lay (X + 53) x y z g1 = _
      unfold f_X10_lay
      rw [m_isSheet, zb_some, if_neg (show ¬ ((0 ≤ x.toInt ∧ x.toInt < 4) ∧ 0 ≤ (0 : Int32).toInt ∧ (0 : Int32).toInt < 3) from fun e => h1 e.1), b0])
/-- told of a column -/
def skTell (s : aS) (c : Nat) (y : Int32) : aS := (s.1, s.2.1, s.2.2.1, s.2.2.2.1, s.2.2.2.2.1, fun j => if j = c then y else s.2.2.2.2.2 j)
theorem o_seen (x y : Int32) : OKC X (fun g => f_X9_seen X x y g) (fun g => f_X10_seen (X + 53) x y g) := OKC.write (fun k σ r g hk hv hc hm => by
  have hX := hc.1
  have b3 := hv.1.2.2.2.2.1
  have stay : ∀ v, f_X9_seen X x y g = some (v, g) → (∀ g1, MI σ (X + 53) g1 → f_X10_seen (X + 53) x y g1 = some (v, g1)) → ∃ v g1 σ', f_X9_seen X x y g = some (v, g1) ∧ vZ (k + 1) σ' ∧ zR σ' = zR σ ∧ frm (fun b => b < X + 53 ∧ b ≠ X + 38 ∧ b ≠ X + 39) g g1 ∧ CI σ' X r g1 ∧ (∀ g1, MI σ (X + 53) g1 → ∃ g2, f_X10_seen (X + 53) x y g1 = some (v, g2) ∧ frm (fun b => X + 53 ≤ b) g1 g2 ∧ MI σ' (X + 53) g2) := fun v e1 e2 => ⟨v, g, σ, e1, hv.next, rfl, frm.refl _ _, hc, fun g1 h5 => ⟨g1, e2 g1 h5, frm.refl _ _, h5⟩⟩
  by_cases h1 : 0 ≤ x.toInt ∧ x.toInt < aV (zR σ) 3
  · by_cases h2 : y = -4 ∨ (1 ≤ y.toInt ∧ y.toInt ≤ 26)
    · have eC : f_X9_seen X x y g = j_X9_seen_24 X x y g := by
        unfold f_X9_seen
        rw [q_isColumn hX hc.2.1 hv.1 hc.2.2.1, zb_some, if_pos h1, b1, q_isLetter, zb_some]
        by_cases h3 : y = -4
        · rw [if_pos h3]
        · rw [if_neg h3, if_pos (h2.resolve_left h3), b1]
      have eM : ∀ g1, MI σ (X + 53) g1 → f_X10_seen (X + 53) x y g1 = j_X10_seen_29 (X + 53) x y g1 := by
        intro g1 h5
        unfold f_X10_seen
        rw [m_isColumn h5.1 hv.1 h5.2.1, zb_some, if_pos h1, b1, m_in 1 26 1 26 rfl rfl, zb_some]
        by_cases h3 : y = -4
        · rw [if_pos h3]
        · rw [if_neg h3, if_pos (h2.resolve_left h3), b1]
      obtain ⟨c, hcc, rfl⟩ := i_one h1 (by omega)
      rcases sk_made hc hm with ⟨hz, e1, e2⟩ | ⟨e0, e1, e2⟩
      · refine stay (-12) ?_ (fun g1 h5 => ?_)
        · rw [eC]; unfold j_X9_seen_24; rw [hX.pr, hX.st, zl_eq, if_pos e1]
        · rw [eM g1 h5]; unfold j_X10_seen_29; rw [if_pos (by rw [h5.2.2.2.2.2.2.2.1.1, hz]; rfl)]
      · rcases sk_col hk hv hc hm e0 hcc with ⟨f0, f1, f2⟩ | ⟨f0, f1, f2⟩
        · refine stay (-12) ?_ (fun g1 h5 => ?_)
          · rw [eC]; unfold j_X9_seen_24; rw [hX.pr, hX.st, zl_eq, if_neg e1]; simp only [zc_pos (zlit c 40 (by omega) (by omega)), nI_cl (show c < 2147483648 by omega)]; rw [hX.s0, if_pos f1]
          · rw [eM g1 h5]; unfold j_X10_seen_29
            rw [if_neg (by rw [h5.2.2.2.2.2.2.2.1.1, e0]; decide)]
            simp only [zc_pos (zlit c 40 (by omega) (by omega)), nI_cl (show c < 2147483648 by omega)]
            rw [h5.1.sMe, if_pos (((h5.2.2.2.2.2.2.2.1.2 e0).2.2.2 c hcc).2.2.1 f0)]
        · obtain ⟨q1, q2, q3, q4⟩ := hc.2.2.2.2.2.2.2.2.1.2 e0
          have eC2 : f_X9_seen X (nI c) y g = some ((zSk σ).2.2.2.2.2 c, zsi g (X + 35) c y) := by
            rw [eC]; unfold j_X9_seen_24
            rw [hX.pr, hX.st, zl_eq, if_neg e1]
            simp only [zc_pos (zlit c 40 (by omega) (by omega)), nI_cl (show c < 2147483648 by omega)]
            rw [hX.s0, if_neg f1, hX.s1, zl_eq, zl_eq, (q4 c hcc).2]
          refine ⟨_, _, zSk' σ (skTell (zSk σ) c y), eC2, ?_, rfl, frm.si (show X + 35 < X + 53 ∧ X + 35 ≠ X + 38 ∧ X + 35 ≠ X + 39 by omega), hc.told (frm.si rfl) ⟨hc.2.2.2.2.2.2.2.2.1.1, fun _ => ⟨q1, q2, q3, fun j hj => ⟨(q4 j hj).1, ?_⟩⟩⟩, fun g1 h5 => ⟨zsi g1 (X + 53 + 29) c y, ?_, frm.si (show X + 53 ≤ X + 53 + 29 by omega), ?_⟩⟩
          · obtain ⟨v1, v2, v3, v4, v5, v6, v7⟩ := hv.next
            refine ⟨v1, v2, v3, v4, v5, fun hz j hj => ⟨(v6 hz j hj).1, ?_⟩, v7⟩
            show (if j = c then y else (zSk σ).2.2.2.2.2 j) = -4 ∨ (∃ l, 1 ≤ l ∧ l ≤ 26 ∧ (if j = c then y else (zSk σ).2.2.2.2.2 j) = nI l) ∧ (zSk σ).2.2.2.2.1 j ≠ -4
            by_cases ej : j = c
            · rw [if_pos ej]
              rcases h2 with h2 | h2
              · exact Or.inl h2
              · obtain ⟨l, hl, rfl⟩ := i_one (x := y) (n := 27) (by omega) (by omega)
                rw [i_nI (by omega)] at h2
                exact Or.inr ⟨⟨l, by omega, by omega, rfl⟩, by rw [ej]; exact f0⟩
            · rw [if_neg ej]; exact (v6 hz j hj).2
          · show _ = if j = c then y else (zSk σ).2.2.2.2.2 j
            by_cases ej : j = c
            · rw [if_pos ej, ej, zsi_same]
            · rw [if_neg ej, zsi_get ej]; exact (q4 j hj).2
          · obtain ⟨p1, p2, p3, p4⟩ := h5.2.2.2.2.2.2.2.1.2 e0
            have f2' : ¬ g1.1 (X + 53 + 28) c = -4 := by
              rcases (hv.2.2.2.2.2.1 e0 c hcc).1 with e | ⟨t, t1, t2, t3⟩
              · exact absurd e f0
              · have ht : t < 2000000000 := by
                  have : k * 400000 ≤ 512 * 400000 := Nat.mul_le_mul_right _ (by omega)
                  omega
                have hsl := slg_lt (p := aV (zR σ) 1) (q := aV (zR σ) 2) (n := aN (zR σ)) (by have := hv.1.1; omega) c t
                have hbn := hv.1.1
                rw [(p4 c hcc).2.2.2 t ht t2]; exact nm4 (by omega)
            rw [eM g1 h5]; unfold j_X10_seen_29
            rw [if_neg (by rw [h5.2.2.2.2.2.2.2.1.1, e0]; decide)]
            simp only [zc_pos (zlit c 40 (by omega) (by omega)), nI_cl (show c < 2147483648 by omega)]
            rw [h5.1.sMe, if_neg f2', h5.1.sSe, zl_eq, zl_eq, (p4 c hcc).2.1]
          · obtain ⟨p1, p2, p3, p4⟩ := h5.2.2.2.2.2.2.2.1.2 e0
            refine h5.told (frm.si rfl) ⟨h5.2.2.2.2.2.2.2.1.1, fun _ => ⟨p1, p2, p3, fun j hj => ⟨(p4 j hj).1, ?_, (p4 j hj).2.2⟩⟩⟩
            show _ = if j = c then y else (zSk σ).2.2.2.2.2 j
            by_cases ej : j = c
            · rw [if_pos ej, ej, zsi_same]
            · rw [if_neg ej, zsi_get ej]; exact (p4 j hj).2.1
    · refine stay (-10) ?_ (fun g1 h5 => ?_)
      · unfold f_X9_seen
        rw [q_isColumn hX hc.2.1 hv.1 hc.2.2.1, zb_some, if_pos h1, b1, if_neg (fun e => h2 (Or.inl e)), q_isLetter, zb_some, if_neg (fun e => h2 (Or.inr e)), b0]
      · unfold f_X10_seen
        rw [m_isColumn h5.1 hv.1 h5.2.1, zb_some, if_pos h1, b1, if_neg (fun e => h2 (Or.inl e)), m_in 1 26 1 26 rfl rfl, zb_some, if_neg (fun e => h2 (Or.inr e)), b0]
  · refine stay (-10) ?_ (fun g1 h5 => ?_)
    · unfold f_X9_seen
      rw [q_isColumn hX hc.2.1 hv.1 hc.2.2.1, zb_some, if_neg h1, b0]
    · unfold f_X10_seen
      rw [m_isColumn h5.1 hv.1 h5.2.1, zb_some, if_neg h1, b0])
end OKS5
