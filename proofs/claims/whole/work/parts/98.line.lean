-- ===== a line of a text =====
def MOK2 (t : aT) (M : Nat) (δ : aD) (p : Nat) (g0 : zG) (o : Option (Int32 × zG)) : Prop := ∃ y g', o = some (y, g') ∧ MB t M δ g' ∧ LA t p M g' ∧ hF M g0 g'
def setW (δ : aD) (w : Nat) : aD := (dR δ, dl δ, fun k => if k = w then true else dW δ k, dB δ, dq δ, dK δ)
section LIN
variable {t : aT} {δ : aD} {p : Nat}
/-- the stop behind a line -/
theorem fin_line (hv : vTp t) (hp : p ≤ t.1) {fc : Nat → Nat → zG → Option (Int32 × zG)} {fm : Nat → zG → Option (Int32 × zG)} {W : Nat → Bool} (hR : Res t δ p (fun δ' p' => vD δ' (p' + 1) ∧ dW δ' = W) fc fm) :
    (∃ c x, (1 ≤ c ∧ c ≤ 5) ∧ x ≤ 240 ∧ (∀ X d g, CB t X d δ g → g.1 (X + 23) 7 = nI p → g.1 (X + 23) 2 = 0 → CNO X d c x g (zb (fc X d g) (fun v g => j_X4_readLine_189 (X + 23) v g))) ∧ ∀ M g, MB t M δ g → LA t p M g → MNO M c x g (zb (fm M g) (fun _ g => j_X10_readLine_159 M g))) ∨
    ∃ δ' p', vD δ' p' ∧ (p < p' ∧ p' ≤ t.1) ∧ (∀ X d g, CB t X d δ g → g.1 (X + 23) 7 = nI p → g.1 (X + 23) 2 = 0 → COK t X d δ' p' g (zb (fc X d g) (fun v g => j_X4_readLine_189 (X + 23) v g))) ∧ ∀ M g, MB t M δ g → LA t p M g → MOK2 t M δ' p' g (zb (fm M g) (fun _ g => j_X10_readLine_159 M g)) := by
  have hl := hv.1
  have endF : ∀ (M c x : Nat) (g : zG), FS c x M g → 1 ≤ c ∧ c ≤ 7 → j_X10_readLine_159 M g = some (0, g) := by
    intro M c x g hFS hc
    unfold j_X10_readLine_159 j_X10_readLine_184
    rw [hFS.1, if_neg (nz (by omega) (by omega)), m_nextF hFS hc, zb_some]
  rcases hR with ⟨c, x, c1, c2, c3, c4⟩ | ⟨δ', q, ⟨c1, -⟩, ⟨c2, c2'⟩, c3, c4⟩
  · left
    refine ⟨c, x, c1, c2, fun X d g hC h7 h2 => ?_, fun M g hB hL => ?_⟩
    · obtain ⟨g', z1, z2, z3, z4⟩ := c3 X d g hC h7 h2
      rw [z1, zb_some]
      unfold j_X4_readLine_189
      rw [b0]
      exact ⟨g', rfl, z2, z3, z4⟩
    · obtain ⟨y, g', z1, z2, z3⟩ := c4 M g hB hL
      rw [z1, zb_some, endF M c x g' z2 (by omega)]
      exact ⟨_, g', rfl, z2, z3⟩
  · obtain ⟨⟨k1, k2, k3⟩, k4, k5, k6, -⟩ := lx_tok hv c2'
    have hle := tc_le (t := t) 4 q
    have stC : ∀ (X : Nat) (g : zG), j_X4_readLine_189 (X + 23) 1 g = zb (f_X4_take (X + 23) 59 g) (fun v2 g3 => if v2 = 0 then (some ((0, g3))) else (some ((1, g3)))) := by
      intro X g
      unfold j_X4_readLine_189
      rw [b1]
    by_cases h4 : tc 4 t q = 0
    · right
      have hk4 := (tc_0 h4).1
      have hfe := k6 (by omega)
      refine ⟨δ', (lx t q).2.2, c1.le (by omega), ⟨by omega, k3⟩, fun X d g hC h7 h2 => ?_, fun M g hB hL => ?_⟩
      · obtain ⟨g', z1, z2, z3, z4, z5⟩ := c3 X d g hC h7 h2
        obtain ⟨g2, w1, w2, w3, w4⟩ := q_take (X := X) hv (due := 4) (by omega) c2' z2.1 z3
        obtain ⟨y6, y7, y2⟩ := w3 h4
        rw [z1, zb_some, stC, show f_X4_take (X + 23) 59 g' = _ from w1, if_pos h4, zb_some, b1]
        exact ⟨g2, rfl, z2.kept w2, y7, by rw [y2]; exact z4, z5.trans (kF.of w2)⟩
      · obtain ⟨y, g', z1, z2, z3, z4, z5⟩ := c4 M g hB hL
        have h5 : (lx t q).1 ≠ 5 := by omega
        obtain ⟨y32, y30, y29, y28, y31⟩ := z4.le h5
        obtain ⟨g2, w1, w2, w3⟩ := m_next_t hv k3 z2 y28 y32
        rw [hk4] at y30
        rw [z1, zb_some]
        unfold j_X10_readLine_159 j_X10_readLine_180 j_X10_readLine_184
        rw [y32, if_pos rfl, y30, if_pos (show nI 4 = 4 from rfl), m_wantT, zb_some, w1, zb_some]
        exact ⟨_, g2, rfl, MB.kept ⟨z2, z3 h5⟩ w2, w3, z5.trans (hF.of w2)⟩
    · left
      refine ⟨tc 4 t q, (lx t q).2.1, by omega, by omega, fun X d g hC h7 h2 => ?_, fun M g hB hL => ?_⟩
      · obtain ⟨g', z1, z2, z3, z4, z5⟩ := c3 X d g hC h7 h2
        obtain ⟨g2, w1, w2, w3, w4⟩ := q_take (X := X) hv (due := 4) (by omega) c2' z2.1 z3
        rw [z1, zb_some, stC, show f_X4_take (X + 23) 59 g' = _ from w1, if_neg h4, zb_some, b0]
        exact ⟨g2, rfl, (w4 h4).1, (w4 h4).2, z5.trans (kF.of w2)⟩
      · obtain ⟨y, g', z1, z2, z3, z4, z5⟩ := c4 M g hB hL
        rw [z1, zb_some]
        by_cases h5 : (lx t q).1 = 5
        · have hFS := z4.fs h5
          have hc : tc 4 t q = 1 := if_pos h5
          rw [endF M 1 _ g' hFS (by omega), hc]
          exact ⟨_, g', rfl, hFS, z5⟩
        · obtain ⟨y32, y30, y29, y28, y31⟩ := z4.le h5
          have hn4 : (lx t q).1 ≠ 4 := fun z => h4 (by unfold tc; rw [if_neg h5, if_pos z])
          have hc : tc 4 t q = 2 := by unfold tc; rw [if_neg h5, if_neg hn4]
          obtain ⟨g2, w1, w2, w3⟩ := m_wantN (c := 2) y32 y29
          unfold j_X10_readLine_159 j_X10_readLine_180 j_X10_readLine_184
          rw [y32, if_pos rfl, y30, if_neg (show ¬ nI (lx t q).1 = 4 from fun z => hn4 ((nI_inj (b := 4) (by omega) (by omega)).mp z)), show f_X10_wants M 0 2 g' = _ from w1, zb_some, m_nextF w3 (by omega), zb_some, hc]
          exact ⟨_, g2, rfl, w3, z5.trans (hF.of w2)⟩
-- ===== the words =====
/-- the reference behind a word that may stand -/
def dsp (w M : Nat) (g12 : zG) : Option (Int32 × zG) := if nI w = 0 then (zb (f_X10_readChain M g12) (fun v14 g15 => j_X10_readLine_159 M g15)) else (if 8 ≤ nI w then (if nI w = 8 then (zb (f_X10_readHole M g12) (fun v18 g19 => j_X10_readLine_159 M g19)) else (zb (f_X10_readOrder M (nI w) g12) (fun v20 g21 => j_X10_readLine_159 M g21))) else fmV w M g12 (fun g => j_X10_readLine_159 M g))
theorem fmV_k {w M : Nat} {g : zG} {k : zG → Option (Int32 × zG)} : fmV w M g k = zb (fmV w M g (fun g => some (0, g))) (fun _ g => k g) := by
  unfold fmV
  cases h1 : f_X10_least (nI w) g with
  | none => rfl
  | some a =>
    obtain ⟨a1, a2⟩ := a
    rw [zb_some, zb_some]
    cases h2 : f_X10_most (nI w) a2 with
    | none => rfl
    | some b =>
      obtain ⟨b1, b2⟩ := b
      rw [zb_some, zb_some]
      cases h3 : f_X10_readNumber M a1 b1 b2 with
      | none => rfl
      | some c =>
        obtain ⟨c1, c2⟩ := c
        rw [zb_some, zb_some]
        unfold zc
        split
        · rfl
        · rfl
theorem body_w (hv : vTp t) (hp : p ≤ t.1) {s w : Nat} (hV : vD δ s) (hw : w < 13) (hs : s ≤ p) (h8 : w = 8 → s + 4 ≤ p) (h9 : w = 9 → s + 3 ≤ p) (hm : 9 ≤ w → aM (dR δ) < 24) : ∃ fc fm, Res t δ p (fun δ' p' => vD δ' (p' + 1) ∧ dW δ' = dW δ) fc fm ∧ (∀ X d g, rR d g → j_X4_readLine_76 (X + 23) d (nI w) g = zb (fc X d (zsi g (X + 23) 9 ((g.1 (X + 23) 9) ||| (zshl 1 (nI w))))) (fun v g => j_X4_readLine_189 (X + 23) v g)) ∧ ∀ M g, dsp w M g = zb (fm M g) (fun _ g => j_X10_readLine_159 M g) := by
  have hq : w = 0 ∨ (1 ≤ w ∧ w ≤ 7) ∨ w = 8 ∨ w = 9 ∨ w = 10 ∨ (w = 11 ∨ w = 12) := by omega
  have hn : ∀ j, j < 100 → (nI w = nI j ↔ w = j) := fun j hj => nI_inj (by omega) (by omega)
  have n0 : (nI w = 0 ↔ w = 0) := hn 0 (by omega)
  have n8 : (nI w = 8 ↔ w = 8) := hn 8 (by omega)
  have n9 : (nI w = 9 ↔ w = 9) := hn 9 (by omega)
  have n10 : (nI w = 10 ↔ w = 10) := hn 10 (by omega)
  have l8 : ((8 : Int32) ≤ nI w ↔ 8 ≤ w) := nle (a := 8) (by omega) (by omega)
  rcases hq with h | h | h | h | h | h
  · refine ⟨_, _, b_chain hv hp hV hs, fun X d g hr => ?_, fun M g => ?_⟩
    · unfold j_X4_readLine_76
      rw [zl_eq, if_pos (n0.mpr h), zsi_r, hr.1]
    · unfold dsp
      rw [if_pos (n0.mpr h)]
  · refine ⟨_, _, b_num hv hp hV hs h, fun X d g hr => ?_, fun M g => ?_⟩
    · unfold j_X4_readLine_76
      rw [zl_eq, if_neg (fun z => by have := n0.mp z; omega), if_neg (fun z => by have := n8.mp z; omega), if_neg (fun z => by have := n9.mp z; omega), if_neg (fun z => by have := n10.mp z; omega)]
    · unfold dsp
      rw [if_neg (fun z => by have := n0.mp z; omega), if_neg (fun z => by have := l8.mp z; omega)]
      exact fmV_k
  · refine ⟨_, _, b_hole hv hp hV (h8 h), fun X d g hr => ?_, fun M g => ?_⟩
    · unfold j_X4_readLine_76
      rw [zl_eq, if_neg (fun z => by have := n0.mp z; omega), if_pos (n8.mpr h), zsi_r, hr.2.2.2.1]
    · unfold dsp
      rw [if_neg (fun z => by have := n0.mp z; omega), if_pos (l8.mpr (by omega)), if_pos (n8.mpr h)]
  · refine ⟨_, _, b_put hv hp hV (h9 h) (hm (by omega)), fun X d g hr => ?_, fun M g => ?_⟩
    · unfold j_X4_readLine_76
      rw [zl_eq, if_neg (fun z => by have := n0.mp z; omega), if_neg (fun z => by have := n8.mp z; omega), if_pos (n9.mpr h), zsi_r, hr.2.1]
    · unfold dsp
      rw [if_neg (fun z => by have := n0.mp z; omega), if_pos (l8.mpr (by omega)), if_neg (fun z => by have := n8.mp z; omega), n9.mpr h]
  · refine ⟨_, _, b_go hv hp hV hs (hm (by omega)), fun X d g hr => ?_, fun M g => ?_⟩
    · unfold j_X4_readLine_76
      rw [zl_eq, if_neg (fun z => by have := n0.mp z; omega), if_neg (fun z => by have := n8.mp z; omega), if_neg (fun z => by have := n9.mp z; omega), if_pos (n10.mpr h), zsi_r, hr.2.1]
      show zb (f_X3_addOrder (d + 3) 10 0 0 _) _ = zb (zb (f_X3_addOrder (d + 3) 10 0 0 _) (fun _ g => some (1, g))) _
      cases f_X3_addOrder (d + 3) 10 0 0 (zsi g (X + 23) 9 ((g.1 (X + 23) 9) ||| (zshl 1 (nI w)))) with
      | none => rfl
      | some a => rfl
    · unfold dsp
      rw [if_neg (fun z => by have := n0.mp z; omega), if_pos (l8.mpr (by omega)), if_neg (fun z => by have := n8.mp z; omega), n10.mpr h]
  · refine ⟨_, _, b_ord hv hp hV hs (hm (by omega)) h, fun X d g hr => ?_, fun M g => ?_⟩
    · unfold j_X4_readLine_76
      rw [zl_eq, if_neg (fun z => by have := n0.mp z; omega), if_neg (fun z => by have := n8.mp z; omega), if_neg (fun z => by have := n9.mp z; omega), if_neg (fun z => by have := n10.mp z; omega)]
    · unfold dsp
      rw [if_neg (fun z => by have := n0.mp z; omega), if_pos (l8.mpr (by omega)), if_neg (fun z => by have := n8.mp z; omega)]
/-- behind a fault the reference goes through its words to no end -/
theorem dspF {w M c x : Nat} {g : zG} (hw : w < 13) (h : FS c x M g) (hc : 1 ≤ c ∧ c ≤ 7) (hM : rM M g) : ∃ g', dsp w M g = some (0, g') ∧ FS c x M g' ∧ hF M g g' := by
  have hn : ∀ j, j < 100 → (nI w = nI j ↔ w = j) := fun j hj => nI_inj (by omega) (by omega)
  have n0 : (nI w = 0 ↔ w = 0) := hn 0 (by omega)
  have n8 : (nI w = 8 ↔ w = 8) := hn 8 (by omega)
  have n9 : (nI w = 9 ↔ w = 9) := hn 9 (by omega)
  have n10 : (nI w = 10 ↔ w = 10) := hn 10 (by omega)
  have n11 : (nI w = 11 ↔ w = 11) := hn 11 (by omega)
  have l8 : ((8 : Int32) ≤ nI w ↔ 8 ≤ w) := nle (a := 8) (by omega) (by omega)
  have hnz : ¬ nI c = 0 := nz (by omega) (by omega)
  have endF : ∀ (g : zG), FS c x M g → j_X10_readLine_159 M g = some (0, g) := by
    intro g hFS
    unfold j_X10_readLine_159 j_X10_readLine_184
    rw [hFS.1, if_neg hnz, m_nextF hFS hc, zb_some]
  unfold dsp
  by_cases h0 : w = 0
  · rw [if_pos (n0.mpr h0)]
    unfold f_X10_readChain
    rw [m_toLF h hc, zb_some, zl_eq, h.1, if_neg hnz, m_chainF h hc, zb_some, endF g h]
    exact ⟨g, rfl, h, hF.refl _ _⟩
  · rw [if_neg (fun z => h0 (n0.mp z))]
    by_cases h8 : 8 ≤ w
    · rw [if_pos (l8.mpr h8)]
      by_cases e8 : w = 8
      · rw [if_pos (n8.mpr e8)]
        unfold f_X10_readHole j_X10_readHole_45
        rw [zl_eq, m_numF h hc, zb_some, m_numF h hc, zb_some, h.1, if_neg hnz, m_laterF h hc, zb_some, zb_some, endF g h]
        exact ⟨g, rfl, h, hF.refl _ _⟩
      · rw [if_neg (fun z => e8 (n8.mp z))]
        have ro : f_X10_readOrder M (nI w) g = some (0, g) := by
          unfold f_X10_readOrder
          rw [zl_eq]
          by_cases e9 : w = 9
          · rw [if_pos (n9.mpr e9), m_toLF h hc, zb_some, h.1, if_neg hnz]
            unfold j_X10_readOrder_40 j_X10_readOrder_91
            have st : zw zN (fun s : Int32 × zG => l_X10_readOrder_44 M (nI w) 0 (g.1 M 20) s.1 s.2) (0, g) = some g := by
              obtain ⟨K, hK⟩ : ∃ K, zN = K + 1 := ⟨99999, rfl⟩
              rw [hK]
              apply zw_end
              show l_X10_readOrder_44 M (nI w) 0 (g.1 M 20) 0 g = _
              unfold l_X10_readOrder_44
              rw [if_pos (Int32.le_refl _)]
            rw [st, zk_some, m_nextF h hc, zb_some, zl_eq, m_numF h hc, zb_some, m_laterF h hc, zb_some, m_addOrderF h hc]
          · rw [if_neg (fun z => e9 (n9.mp z))]
            by_cases e10 : w = 10
            · rw [if_pos (n10.mpr e10), m_addOrderF h hc]
            · rw [if_neg (fun z => e10 (n10.mp z))]
              unfold j_X10_readOrder_143
              rw [m_numF h hc, zb_some, m_numF h hc, zb_some, m_addOrderF h hc]
              split <;> rfl
        rw [ro, zb_some, endF g h]
        exact ⟨g, rfl, h, hF.refl _ _⟩
    · rw [if_neg (fun z => h8 (l8.mp z))]
      obtain ⟨l1, l2⟩ := m_least w (by omega) (by omega) g
      unfold fmV
      have h2 : FS c x M (zsi g (M + 10) w (g.1 M 31)) := h.si (by omega)
      rw [l1, zb_some, l2, zb_some, m_numF h hc, zb_some, zc_pos (zlit w 8 (by omega) (by omega)), nI_cl (by omega), hM.dr.2.1, zl_eq]
      exact ⟨_, endF _ h2, h2, hF.si (by omega)⟩
theorem setW_c {X d w : Nat} {g : zG} (hC : CB t X d δ g) (hw : w < 13) : CB t X d (setW δ w) (zsi g (X + 23) 9 ((g.1 (X + 23) 9) ||| (zshl 1 (nI w)))) := by
  obtain ⟨c0, c00, c1, c2, c3, c4, c5, c6, ⟨c7, c8⟩, w0, w1, w2, w3⟩ := hC
  have hp : (2 : Nat) ^ w < 2 ^ 13 := Nat.pow_lt_pow_right (by omega) hw
  rw [w2, zshl_1 w (by omega), nI_or]
  have e : ∀ x, x ≠ X + 23 → (zsi g (X + 23) 9 (nI (w0 ||| 2 ^ w))).1 x = g.1 x := fun x hx => zsi_at hx
  refine ⟨⟨c0.1.kept rfl, by rw [zsi_get (by omega)]; exact c0.2.1, fun i hi => by rw [e (X + 24) (by omega)]; exact c0.2.2 i hi⟩, c00, ?_⟩
  unfold cD
  rw [e (d + 1) (by omega), e (d + 2) (by omega), e (d + 3) (by omega), e (d + 4) (by omega), e (d + 5) (by omega), e (d + 6) (by omega), e (d + 7) (by omega), e (d + 8) (by omega), e (d + 9) (by omega), e (d + 10) (by omega), e (X + 25) (by omega), e (X + 26) (by omega), e (X + 27) (by omega), zsi_get (j := 13) (by omega)]
  refine ⟨c1, c2, c3, c4, c5, c6, ⟨c7, c8⟩, w0 ||| 2 ^ w, Nat.or_lt_two_pow (n := 13) w1 hp, zsi_same, fun k hk => ?_⟩
  show _ = (if k = w then true else dW δ k)
  rw [Nat.testBit_or, w3 k hk, Nat.testBit_two_pow]
  by_cases ek : k = w
  · rw [if_pos ek, ek]; simp
  · rw [if_neg ek, decide_eq_false (fun z => ek z.symm), Bool.or_false]
theorem setW_m {M w : Nat} {g : zG} (hC : MB t M δ g) (hw : w < 13) : MB t M (setW δ w) (zsi g (M + 17) w 1) := by
  obtain ⟨c0, c1, c2, c3, c4, c5, c6, c7, c9, c10⟩ := hC
  have e : ∀ x, x ≠ M + 17 → (zsi g (M + 17) w 1).1 x = g.1 x := fun x hx => zsi_at hx
  refine ⟨⟨c0.1.kept rfl, by rw [e M (by omega)]; exact c0.2.1, fun i hi => by rw [e (M + 20) (by omega)]; exact c0.2.2 i hi⟩, ?_⟩
  unfold mD
  rw [e M (by omega), e (M + 9) (by omega), e (M + 10) (by omega), e (M + 11) (by omega), e (M + 12) (by omega), e (M + 13) (by omega), e (M + 14) (by omega), e (M + 15) (by omega), e (M + 16) (by omega), e (M + 18) (by omega), e (M + 19) (by omega)]
  refine ⟨c1, c2, c3, c4, c5, c6, c7, fun k hk => ?_, c10⟩
  show _ = bI (if k = w then true else dW δ k)
  by_cases ek : k = w
  · rw [if_pos ek, ek, zsi_same]; rfl
  · rw [if_neg ek, zsi_get ek]; exact c9 k hk
theorem line_both (hv : vTp t) (hp : p ≤ t.1) (hV : vD δ p) (hk0 : (lx t p).1 ≠ 0) (hk5 : (lx t p).1 ≠ 5) :
    (∃ c x, (1 ≤ c ∧ c ≤ 5) ∧ x ≤ 240 ∧ (∀ X d g, CB t X d δ g → g.1 (X + 23) 5 = ckn (lx t p).1 → g.1 (X + 23) 6 = nI (lx t p).2.1 → g.1 (X + 23) 7 = nI (lx t p).2.2 → g.1 (X + 23) 2 = 0 → CNO X d c x g (f_X4_readLine (X + 23) d g)) ∧ ∀ M g, MB t M δ g → LA t p M g → MNO M c x g (f_X10_readLine M g)) ∨
    ∃ δ' p', vD δ' p' ∧ (p < p' ∧ p' ≤ t.1) ∧ (∀ X d g, CB t X d δ g → g.1 (X + 23) 5 = ckn (lx t p).1 → g.1 (X + 23) 6 = nI (lx t p).2.1 → g.1 (X + 23) 7 = nI (lx t p).2.2 → g.1 (X + 23) 2 = 0 → COK t X d δ' p' g (f_X4_readLine (X + 23) d g)) ∧ ∀ M g, MB t M δ g → LA t p M g → MOK2 t M δ' p' g (f_X10_readLine M g) := by
  have hl := hv.1
  obtain ⟨⟨k1, k2, k3⟩, k4, k5, k6, k7, k8⟩ := lx_tok hv hp
  have hfe := k6 hk0
  generalize hkq : (lx t p).1 = k at *
  generalize hfq : (lx t p).2.1 = f at *
  generalize heq : (lx t p).2.2 = e at *
  have lkOf : ∀ M g, LA t p M g → LK t k f e M g := by
    intro M g h
    have := h.le (by rw [hkq]; exact hk5)
    rw [hkq, hfq, heq] at this
    exact this
  -- a fault of the class at the word
  have failC : ∀ (X d c : Nat) (g : zG), g.1 (X + 23) 6 = nI f → CNO X d c f g (zb (f_X4_fail (X + 23) (nI c) (g.1 (X + 23) 6) g) (fun v33 g34 => zc (v33 = 0 ∨ v33 = 1) (some ((v33, g34))))) := by
    intro X d c g h6
    unfold f_X4_fail
    rw [zl_eq, zl_eq, zb_some, zc_pos (Or.inl rfl), h6]
    exact ⟨_, rfl, by rw [zsi_get (by omega), zsi_same], zsi_same, (kF.of (tF.si (by omega))).trans (kF.of (tF.si (by omega)))⟩
  -- no word
  have noWord : (∀ X d g, CB t X d δ g → g.1 (X + 23) 5 = ckn k → g.1 (X + 23) 6 = nI f → g.1 (X + 23) 7 = nI e → f_X4_wordOfToken (X + 23) g = some (-4, g)) → (∀ M g, MB t M δ g → LA t p M g → f_X10_readLine M g = j_X10_readLine_17 M (-4) g) → (∃ c x, (1 ≤ c ∧ c ≤ 5) ∧ x ≤ 240 ∧ (∀ X d g, CB t X d δ g → g.1 (X + 23) 5 = ckn k → g.1 (X + 23) 6 = nI f → g.1 (X + 23) 7 = nI e → g.1 (X + 23) 2 = 0 → CNO X d c x g (f_X4_readLine (X + 23) d g)) ∧ ∀ M g, MB t M δ g → LA t p M g → MNO M c x g (f_X10_readLine M g)) := by
    intro hcW hmW
    refine ⟨2, f, by omega, by omega, fun X d g hC h5 h6 h7 h2 => ?_, fun M g hB hL => ?_⟩
    · unfold f_X4_readLine
      rw [hcW X d g hC h5 h6 h7, zb_some, if_pos rfl]
      exact failC X d 2 g h6
    · obtain ⟨y32, y30, y29, y28, y31⟩ := lkOf M g hL
      obtain ⟨g2, w1, w2, w3⟩ := m_wantN (c := 2) y32 y29
      rw [hmW M g hB hL]
      unfold j_X10_readLine_17 j_X10_readLine_30
      rw [if_pos rfl, show f_X10_wants M 0 2 g = _ from w1, zb_some, w3.1, if_neg (show ¬ nI 2 ≤ (0 : Int32) by decide)]
      exact ⟨_, g2, rfl, w3, hF.of w2⟩
  by_cases hk1 : k = 1
  · have hkb := k7 hk1
    by_cases hex : ∃ w, w < 13 ∧ Rw t f e w
    · obtain ⟨w, ⟨hw, hRw⟩, hmin⟩ := pk_least _ hex
      have hn : ∀ v, v < w → ¬ Rw t f e v := fun v hv2 z => hmin v hv2 ⟨by omega, z⟩
      have hlen := hRw.1
      have wC : ∀ X d g, CB t X d δ g → g.1 (X + 23) 5 = ckn k → g.1 (X + 23) 6 = nI f → g.1 (X + 23) 7 = nI e → f_X4_wordOfToken (X + 23) g = some (nI w, g) := fun X d g hC h5 h6 h7 => (q_word hv hC.1 (by rw [h5, hk1]) h6 h7 ⟨k2, k3⟩ hkb).1 w hw hRw hn
      have wM : ∀ M g, MB t M δ g → LA t p M g → f_X10_readLine M g = j_X10_readLine_30 M (nI w) M 1 g := by
        intro M g hB hL
        obtain ⟨y32, y30, y29, y28, y31⟩ := lkOf M g hL
        unfold f_X10_readLine j_X10_readLine_17
        rw [y30, hk1, if_pos (show nI 1 = 1 from rfl), (m_word hv hB.1 y28 y29 ⟨k2, k3⟩).1 w hw hRw hn, zb_some, if_neg (nm4 (by omega))]
      have stC : ∀ X d g, CB t X d δ g → g.1 (X + 23) 5 = ckn k → g.1 (X + 23) 6 = nI f → g.1 (X + 23) 7 = nI e → f_X4_readLine (X + 23) d g = if 7 < w then j_X4_readLine_48 (X + 23) d (nI w) g else (if dW δ w = true then (zb (f_X4_fail (X + 23) 4 (g.1 (X + 23) 6) g) (fun v38 g39 => zc (v38 = 0 ∨ v38 = 1) (some ((v38, g39))))) else j_X4_readLine_48 (X + 23) d (nI w) g) := by
        intro X d g hC h5 h6 h7
        obtain ⟨w0, w1, w2, w3⟩ := hC.2.2.2.2.2.2.2.2.2
        unfold f_X4_readLine
        rw [wC X d g hC h5 h6 h7, zb_some, if_neg (nm4 (by omega)), w2, zbit (by omega) (by omega), w3 w hw]
        by_cases e7 : 7 < w
        · rw [if_pos e7, if_pos (show (7 : Int32) < nI w from (nlt (a := 7) (by omega) (by omega)).mpr e7)]
        · rw [if_neg e7, if_neg (show ¬ (7 : Int32) < nI w from fun z => e7 ((nlt (a := 7) (by omega) (by omega)).mp z))]
          cases hb : dW δ w with
          | true => rfl
          | false => rfl
      have st30 : ∀ M g, MB t M δ g → LA t p M g → j_X10_readLine_30 M (nI w) M 1 g = if 7 < w then j_X10_readLine_63 M (nI w) M 1 g else (if dW δ w = true then j_X10_readLine_63 M (nI w) M 0 g else j_X10_readLine_63 M (nI w) M 1 g) := by
        intro M g hB hL
        obtain ⟨y32, y30, y29, y28, y31⟩ := lkOf M g hL
        unfold j_X10_readLine_30 j_X10_readLine_58
        rw [m_wantT, zb_some, y32, if_pos (Int32.le_refl _), hB.1.1.dr.2.2.2.2.2.2.2.2.1]
        by_cases e7 : 7 < w
        · rw [if_pos e7, if_pos (show (8 : Int32) ≤ nI w from (nle (a := 8) (by omega) (by omega)).mpr (by omega))]
        · rw [if_neg e7, if_neg (show ¬ (8 : Int32) ≤ nI w from fun z => by have := (nle (a := 8) (by omega) (by omega)).mp z; omega), zc_pos (zlit w 13 hw (by omega)), nI_cl (by omega), hB.2.2.2.2.2.2.2.2.1 w hw]
          cases hb : dW δ w with
          | true => rfl
          | false => rfl
      have st88 : ∀ (M : Nat) (s1 : Int32) (g : zG), MD t M g → j_X10_readLine_88 M (nI w) M s1 g = zb (f_X10_wants M s1 5 g) (fun v7 g8 => zb (f_X10_next M (zsi g8 (g8.2.1 M 22) w 1)) (fun v11 g12 => dsp w M g12)) := by
        intro M s1 g hD
        unfold j_X10_readLine_88 dsp fmV
        simp only [zc_pos (zlit w 13 hw (by omega)), zl_eq, nI_cl (show w < 2147483648 by omega)]
        rfl
      by_cases h4 : w ≤ 7 ∧ dW δ w = true
      · left
        refine ⟨4, f, by omega, by omega, fun X d g hC h5 h6 h7 h2 => ?_, fun M g hB hL => ?_⟩
        · rw [stC X d g hC h5 h6 h7, if_neg (by omega), if_pos h4.2]
          exact failC X d 4 g h6
        · obtain ⟨y32, y30, y29, y28, y31⟩ := lkOf M g hL
          obtain ⟨g2, w1, w2, w3⟩ := m_wantN (c := 4) y32 y29
          have hB2 := hB.kept w2
          have hF2 : FS 4 f M (zsi g2 (M + 17) w 1) := w3.si (by omega)
          obtain ⟨g3, u1, u2, u3⟩ := dspF hw hF2 (by omega) (hB2.1.1.kept rfl)
          rw [wM M g hB hL, st30 M g hB hL, if_neg (by omega), if_pos h4.2]
          unfold j_X10_readLine_63 j_X10_readLine_83
          rw [show f_X10_wants M 0 4 g = _ from w1, zb_some, if_pos (show nI w < (9 : Int32) from (nlt (b := 9) (by omega) (by omega)).mpr (by omega)), st88 M 1 g2 hB2.1, m_wantT, zb_some, hB2.1.1.dr.2.2.2.2.2.2.2.2.1, m_nextF hF2 (by omega), zb_some, u1]
          exact ⟨_, g3, rfl, u2, ((hF.of w2).trans (hF.si (by omega))).trans u3⟩
      · have hC48 : ∀ X d g, CB t X d δ g → g.1 (X + 23) 5 = ckn k → g.1 (X + 23) 6 = nI f → g.1 (X + 23) 7 = nI e → f_X4_readLine (X + 23) d g = j_X4_readLine_48 (X + 23) d (nI w) g := by
          intro X d g hC h5 h6 h7
          rw [stC X d g hC h5 h6 h7]
          by_cases e7 : 7 < w
          · rw [if_pos e7]
          · rw [if_neg e7, if_neg (fun z => h4 ⟨by omega, z⟩)]
        have hM63 : ∀ M g, MB t M δ g → LA t p M g → f_X10_readLine M g = (if w < 9 then j_X10_readLine_88 M (nI w) M 1 g else if 24 ≤ aM (dR δ) then j_X10_readLine_88 M (nI w) M 0 g else j_X10_readLine_88 M (nI w) M 1 g) := by
          intro M g hB hL
          rw [wM M g hB hL, st30 M g hB hL]
          have e1 : j_X10_readLine_63 M (nI w) M 1 g = (if w < 9 then j_X10_readLine_88 M (nI w) M 1 g else if 24 ≤ aM (dR δ) then j_X10_readLine_88 M (nI w) M 0 g else j_X10_readLine_88 M (nI w) M 1 g) := by
            unfold j_X10_readLine_63 j_X10_readLine_83
            have h24 := hV.2.2.2.2.1.1
            rw [m_wantT, zb_some, hB.2.2.1.1]
            by_cases e9 : w < 9
            · rw [if_pos e9, if_pos (show nI w < (9 : Int32) from (nlt (b := 9) (by omega) (by omega)).mpr e9)]
            · rw [if_neg e9, if_neg (show ¬ nI w < (9 : Int32) from fun z => e9 ((nlt (b := 9) (by omega) (by omega)).mp z))]
              by_cases e24 : 24 ≤ aM (dR δ)
              · rw [if_pos e24, if_pos (show (24 : Int32) ≤ nI (aM (dR δ)) from (nle (a := 24) (by omega) (by omega)).mpr e24)]
              · rw [if_neg e24, if_neg (show ¬ (24 : Int32) ≤ nI (aM (dR δ)) from fun z => e24 ((nle (a := 24) (by omega) (by omega)).mp z))]
          by_cases e7 : 7 < w
          · rw [if_pos e7, e1]
          · rw [if_neg e7, if_neg (fun z => h4 ⟨by omega, z⟩), e1]
        by_cases h5f : 9 ≤ w ∧ 24 ≤ aM (dR δ)
        · left
          have h24 := hV.2.2.2.2.1.1
          refine ⟨5, f, by omega, by omega, fun X d g hC h5 h6 h7 h2 => ?_, fun M g hB hL => ?_⟩
          · rw [hC48 X d g hC h5 h6 h7]
            unfold j_X4_readLine_48
            rw [if_neg (show ¬ nI w < (9 : Int32) from fun z => by have := (nlt (b := 9) (by omega) (by omega)).mp z; omega), hC.rr.2.1, hC.2.2.2.1.1, if_neg (show ¬ nI (aM (dR δ)) < (24 : Int32) from fun z => by have := (nlt (b := 24) (by omega) (by omega)).mp z; omega)]
            exact failC X d 5 g h6
          · obtain ⟨y32, y30, y29, y28, y31⟩ := lkOf M g hL
            obtain ⟨g2, w1, w2, w3⟩ := m_wantN (c := 5) y32 y29
            have hB2 := hB.kept w2
            have hF2 : FS 5 f M (zsi g2 (M + 17) w 1) := w3.si (by omega)
            obtain ⟨g3, u1, u2, u3⟩ := dspF hw hF2 (by omega) (hB2.1.1.kept rfl)
            rw [hM63 M g hB hL, if_neg (by omega), if_pos h5f.2, st88 M 0 g hB.1, show f_X10_wants M 0 5 g = _ from w1, zb_some, hB2.1.1.dr.2.2.2.2.2.2.2.2.1, m_nextF hF2 (by omega), zb_some, u1]
            exact ⟨_, g3, rfl, u2, ((hF.of w2).trans (hF.si (by omega))).trans u3⟩
        · -- the line's own part
          have hw8 : w = 8 → p + 4 ≤ e := fun z => by
            rw [z] at hlen
            have : wn 8 = 4 := rfl
            omega
          have hw9 : w = 9 → p + 3 ≤ e := fun z => by
            rw [z] at hlen
            have : wn 9 = 3 := rfl
            omega
          have hV1 : vD (setW δ w) p := hV
          obtain ⟨fc, fm, hRes, eC, eM⟩ := body_w hv k3 (δ := setW δ w) hV1 hw (by omega) hw8 hw9 (fun z => by show aM (dR δ) < 24; omega)
          have begC : ∀ X d g, CB t X d δ g → g.1 (X + 23) 5 = ckn k → g.1 (X + 23) 6 = nI f → g.1 (X + 23) 7 = nI e → f_X4_readLine (X + 23) d g = zb (fc X d (zsi g (X + 23) 9 ((g.1 (X + 23) 9) ||| (zshl 1 (nI w))))) (fun v g => j_X4_readLine_189 (X + 23) v g) := by
            intro X d g hC h5 h6 h7
            have h24 := hV.2.2.2.2.1.1
            rw [hC48 X d g hC h5 h6 h7, ← eC X d g hC.rr]
            unfold j_X4_readLine_48
            by_cases e9 : w < 9
            · rw [if_pos (show nI w < (9 : Int32) from (nlt (b := 9) (by omega) (by omega)).mpr e9)]
            · rw [if_neg (show ¬ nI w < (9 : Int32) from fun z => e9 ((nlt (b := 9) (by omega) (by omega)).mp z)), hC.rr.2.1, hC.2.2.2.1.1, if_pos (show nI (aM (dR δ)) < (24 : Int32) from (nlt (b := 24) (by omega) (by omega)).mpr (by omega))]
          have begM : ∀ M g, MB t M δ g → LA t p M g → ∃ g2, MB t M (setW δ w) g2 ∧ LA t e M g2 ∧ hF M g g2 ∧ f_X10_readLine M g = zb (fm M g2) (fun _ g => j_X10_readLine_159 M g) := by
            intro M g hB hL
            obtain ⟨y32, y30, y29, y28, y31⟩ := lkOf M g hL
            have hB1 := setW_m hB hw
            obtain ⟨g2, u1, u2, u3⟩ := m_next_t hv k3 hB1.1 (by rw [zsi_at (b := M) (by omega)]; exact y28) (by rw [zsi_at (b := M) (by omega)]; exact y32)
            refine ⟨g2, hB1.kept u2, u3, (hF.si (by omega)).trans (hF.of u2), ?_⟩
            have e88 : f_X10_readLine M g = j_X10_readLine_88 M (nI w) M 1 g := by
              rw [hM63 M g hB hL]
              by_cases e9 : w < 9
              · rw [if_pos e9]
              · rw [if_neg e9, if_neg (fun z => h5f ⟨by omega, z⟩)]
            rw [e88, st88 M 1 g hB.1, m_wantT, zb_some, hB.1.1.dr.2.2.2.2.2.2.2.2.1, u1, zb_some, eM]
          rcases fin_line hv k3 hRes with ⟨c, x, c1, c2, c3, c4⟩ | ⟨δ', q, c1, ⟨c2, c2'⟩, c3, c4⟩
          · left
            refine ⟨c, x, c1, c2, fun X d g hC h5 h6 h7 h2 => ?_, fun M g hB hL => ?_⟩
            · rw [begC X d g hC h5 h6 h7]
              obtain ⟨g', z1, z2, z3, z4⟩ := c3 X d _ (setW_c hC hw) (by rw [zsi_get (by omega)]; exact h7) (by rw [zsi_get (by omega)]; exact h2)
              exact ⟨g', z1, z2, z3, (kF.sf (by omega)).trans z4⟩
            · obtain ⟨g2, b1', b2, b3, b4⟩ := begM M g hB hL
              rw [b4]
              obtain ⟨y, g', z1, z2, z3⟩ := c4 M g2 b1' b2
              exact ⟨y, g', z1, z2, b3.trans z3⟩
          · right
            refine ⟨δ', q, c1, ⟨by omega, c2'⟩, fun X d g hC h5 h6 h7 h2 => ?_, fun M g hB hL => ?_⟩
            · rw [begC X d g hC h5 h6 h7]
              obtain ⟨g', z1, z2, z3, z4, z5⟩ := c3 X d _ (setW_c hC hw) (by rw [zsi_get (by omega)]; exact h7) (by rw [zsi_get (by omega)]; exact h2)
              exact ⟨g', z1, z2, z3, z4, (kF.sf (by omega)).trans z5⟩
            · obtain ⟨g2, b1', b2, b3, b4⟩ := begM M g hB hL
              rw [b4]
              obtain ⟨y, g', z1, z2, z3, z4⟩ := c4 M g2 b1' b2
              exact ⟨y, g', z1, z2, z3, b3.trans z4⟩
    · left
      have hno : ∀ v, v < 13 → ¬ Rw t f e v := fun v hv2 z => hex ⟨v, hv2, z⟩
      refine noWord (fun X d g hC h5 h6 h7 => (q_word hv hC.1 (by rw [h5, hk1]) h6 h7 ⟨k2, k3⟩ hkb).2 hno) (fun M g hB hL => ?_)
      obtain ⟨y32, y30, y29, y28, y31⟩ := lkOf M g hL
      unfold f_X10_readLine
      rw [y30, hk1, if_pos (show nI 1 = 1 from rfl), (m_word hv hB.1 y28 y29 ⟨k2, k3⟩).2 hno, zb_some]
  · left
    refine noWord (fun X d g hC h5 h6 h7 => ?_) (fun M g hB hL => ?_)
    · unfold f_X4_wordOfToken
      rw [zl_eq, h5, if_neg (show ¬ ckn k = 1 from fun z => hk1 ((ckn_inj _ (by omega) 1 (by omega)).mp z))]
    · obtain ⟨y32, y30, y29, y28, y31⟩ := lkOf M g hL
      unfold f_X10_readLine
      rw [y30, if_neg (show ¬ nI k = 1 from fun z => hk1 ((nI_inj (b := 1) (by omega) (by omega)).mp z))]
end LIN
