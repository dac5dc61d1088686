-- ===== all lines of a text =====
def kG (X d : Nat) (g g' : zG) : Prop := frm (SCt X d) g g' ∧ g'.1 (X + 23) 1 = g.1 (X + 23) 1
theorem kG.refl (X d : Nat) (g : zG) : kG X d g g := ⟨frm.refl _ _, rfl⟩
theorem kG.trans {X d : Nat} {g g1 g2 : zG} (h1 : kG X d g g1) (h2 : kG X d g1 g2) : kG X d g g2 := ⟨h1.1.trans h2.1, h2.2.trans h1.2⟩
theorem kG.of {X d : Nat} {g g' : zG} (h : kF X d g g') : kG X d g g' := ⟨h.1, h.2.1⟩
theorem kG.sf {X d j : Nat} {x : Int32} {g : zG} (hj : j ≠ 1) : kG X d g (zsi g (X + 23) j x) := ⟨frm.si (Or.inl rfl), zsi_get (by omega)⟩
theorem zlast {A : Option (Int32 × zG)} {B : zG → Option (Int32 × zG)} {r : Int32 × zG} (h : zb A (fun _ g14 => zb (B g14) (fun v15 g16 => zc (v15 = 0 ∨ v15 = 1) (some (v15, g16)))) = some r) : zb A (fun _ g14 => zb (B g14) (fun v15 g16 => zc (v15 = 0 ∨ v15 = 1) (some ((.inr (.inr (v15, g16))) : (Int32 × zG) ⊕ ((zG) ⊕ (Int32 × zG)))))) = some (.inr (.inr r)) := by
  cases A with
  | none => cases h
  | some a =>
    obtain ⟨a1, a2⟩ := a
    rw [zb_some] at h ⊢
    cases hB : B a2 with
    | none => rw [hB] at h; cases h
    | some b =>
      obtain ⟨b1, b2⟩ := b
      rw [hB, zb_some] at h
      rw [zb_some]
      unfold zc at *
      by_cases hc : b1 = 0 ∨ b1 = 1
      · rw [if_pos hc] at h ⊢
        rw [← Option.some.inj h]
      · rw [if_neg hc] at h
        cases h
section TXT
variable {t : aT}
theorem CB.f4 {X d : Nat} {δ : aD} {x : Int32} {g : zG} (h : CB t X d δ g) : CB t X d δ (zsi g (X + 23) 4 x) := by
  obtain ⟨c0, c00, c1, c2, c3, c4, c5, c6, ⟨c7, c8⟩, c9⟩ := h
  have e : ∀ y, y ≠ X + 23 → (zsi g (X + 23) 4 x).1 y = g.1 y := fun y hy => zsi_at hy
  refine ⟨⟨c0.1.kept rfl, by rw [zsi_get (by omega)]; exact c0.2.1, fun i hi => by rw [e (X + 24) (by omega)]; exact c0.2.2 i hi⟩, c00, ?_⟩
  unfold cD
  rw [e (d + 1) (by omega), e (d + 2) (by omega), e (d + 3) (by omega), e (d + 4) (by omega), e (d + 5) (by omega), e (d + 6) (by omega), e (d + 7) (by omega), e (d + 8) (by omega), e (d + 9) (by omega), e (d + 10) (by omega), e (X + 25) (by omega), e (X + 26) (by omega), e (X + 27) (by omega), zsi_get (j := 13) (by omega), zsi_get (j := 9) (by omega)]
  exact ⟨c1, c2, c3, c4, c5, c6, ⟨c7, c8⟩, c9⟩
theorem loop_both (hv : vTp t) : ∀ (b p n : Nat) (δ : aD), t.1 ≤ p + b → p ≤ t.1 → vD δ p → n ≤ p →
    (∃ c x, (1 ≤ c ∧ c ≤ 5) ∧ x ≤ 240 ∧ (∀ X d g N, CB t X d δ g → g.1 (X + 23) 7 = nI p → g.1 (X + 23) 2 = 0 → g.1 (X + 23) 4 = nI n → b + 1 < N → ∃ g', zk2 (zw N (fun s : Int32 × zG => l_X4_readInto_31 (X + 23) d s.1 s.2) (nI n, g)) (fun x => j_X4_readInto_45 (X + 23) x) = some (0, g') ∧ g'.1 (X + 23) 2 = nI c ∧ g'.1 (X + 23) 3 = nI x ∧ kG X d g g') ∧
      ∀ M g N, MB t M δ g → LA t p M g → b + 1 < N → ∃ y g', zw N (fun s : Int32 × zG => l_X10_text_20 M s.1 s.2) (nI n, g) = some (y, g') ∧ FS c x M g' ∧ hF M g g') ∨
    ∃ δ' m, vD δ' t.1 ∧ m ≤ 240 ∧ (∀ X d g N, CB t X d δ g → g.1 (X + 23) 7 = nI p → g.1 (X + 23) 2 = 0 → g.1 (X + 23) 4 = nI n → b + 1 < N → ∃ g', (∀ r, zb (f_X5_settle d g') (fun _ g14 => zb (f_X4_lookBehindAll (X + 23) d g14) (fun v15 g16 => zc (v15 = 0 ∨ v15 = 1) (some (v15, g16)))) = some r → zk2 (zw N (fun s : Int32 × zG => l_X4_readInto_31 (X + 23) d s.1 s.2) (nI n, g)) (fun x => j_X4_readInto_45 (X + 23) x) = some r) ∧ CB t X d δ' g' ∧ g'.1 (X + 23) 4 = nI m ∧ g'.1 (X + 23) 2 = 0 ∧ kG X d g g') ∧
      ∀ M g N, MB t M δ g → LA t p M g → b + 1 < N → ∃ g', zw N (fun s : Int32 × zG => l_X10_text_20 M s.1 s.2) (nI n, g) = some (nI m, g') ∧ MB t M δ' g' ∧ g'.1 M 32 = 0 ∧ hF M g g' := by
  have hl := hv.1
  intro b
  induction b with
  | zero =>
    intro p n δ h1 h2 hV hn
    obtain ⟨⟨k1, k2, k3⟩, k4, k5, k6, -⟩ := lx_tok hv h2
    have hk : (lx t p).1 = 0 := by
      apply Classical.byContradiction
      intro hz
      have := k6 hz
      omega
    right
    refine ⟨δ, n, hV.le h2, by omega, fun X d g N hC h7 hf h4 hN => ?_, fun M g N hB hL hN => ?_⟩
    · obtain ⟨N, rfl⟩ : ∃ K, N = K + 1 := ⟨N - 1, by omega⟩
      obtain ⟨g1, a1, a2, a3, a4, a5, a6⟩ := q_next hv h2 hC.1 h7
      obtain ⟨c1, c2, c3⟩ := a5 (by omega)
      refine ⟨g1, fun r hr => ?_, hC.kept a2, by rw [a2.2 4 (by omega)]; exact h4, by rw [c3]; exact hf, kG.of (kF.of a2)⟩
      rw [zw_end (r := .inr r) (by
        show l_X4_readInto_31 (X + 23) d (nI n) g = _
        unfold l_X4_readInto_31
        rw [if_neg (show ¬ (240 : Int32) < nI n from fun z => by have := (nlt (a := 240) (by omega) (by omega)).mp z; omega), a1, if_neg (by omega), zb_some, b1, c1, hk, if_pos (show ckn 0 = 0 by decide)]
        exact zlast hr), zk2_inr]
    · obtain ⟨N, rfl⟩ : ∃ K, N = K + 1 := ⟨N - 1, by omega⟩
      obtain ⟨y32, y30, y29, y28, y31⟩ := hL.le (by omega)
      rw [hk] at y30
      refine ⟨g, zw_end (s := (nI n, g)) ?_ N, hB, y32, hF.refl _ _⟩
      show l_X10_text_20 M (nI n) g = _
      unfold l_X10_text_20
      rw [y32, if_pos rfl, y30, if_pos (show nI 0 = 0 from rfl)]
  | succ b ih =>
    intro p n δ h1 h2 hV hn
    obtain ⟨⟨k1, k2, k3⟩, k4, k5, k6, -⟩ := lx_tok hv h2
    by_cases hk5 : (lx t p).1 = 5
    · left
      refine ⟨1, (lx t p).2.1, by omega, by omega, fun X d g N hC h7 hf h4 hN => ?_, fun M g N hB hL hN => ?_⟩
      · obtain ⟨N, rfl⟩ : ∃ K, N = K + 1 := ⟨N - 1, by omega⟩
        obtain ⟨g1, a1, a2, a3, a4, a5, a6⟩ := q_next hv h2 hC.1 h7
        refine ⟨g1, ?_, (a6 hk5).1, (a6 hk5).2, kG.of (kF.of a2)⟩
        rw [zw_end (r := .inl g1) (by
          show l_X4_readInto_31 (X + 23) d (nI n) g = _
          unfold l_X4_readInto_31
          rw [if_neg (show ¬ (240 : Int32) < nI n from fun z => by have := (nlt (a := 240) (by omega) (by omega)).mp z; omega), a1, if_pos hk5, zb_some, b0]), zk2_inl]
        rfl
      · obtain ⟨N, rfl⟩ : ∃ K, N = K + 1 := ⟨N - 1, by omega⟩
        have hFS := hL.fs hk5
        refine ⟨nI n, g, zw_end (s := (nI n, g)) ?_ N, hFS, hF.refl _ _⟩
        show l_X10_text_20 M (nI n) g = _
        unfold l_X10_text_20
        rw [hFS.1, if_neg (nz (by omega) (by omega))]
    by_cases hk : (lx t p).1 = 0
    · right
      refine ⟨δ, n, hV.le h2, by omega, fun X d g N hC h7 hf h4 hN => ?_, fun M g N hB hL hN => ?_⟩
      · obtain ⟨N, rfl⟩ : ∃ K, N = K + 1 := ⟨N - 1, by omega⟩
        obtain ⟨g1, a1, a2, a3, a4, a5, a6⟩ := q_next hv h2 hC.1 h7
        obtain ⟨c1, c2, c3⟩ := a5 (by omega)
        refine ⟨g1, fun r hr => ?_, hC.kept a2, by rw [a2.2 4 (by omega)]; exact h4, by rw [c3]; exact hf, kG.of (kF.of a2)⟩
        rw [zw_end (r := .inr r) (by
          show l_X4_readInto_31 (X + 23) d (nI n) g = _
          unfold l_X4_readInto_31
          rw [if_neg (show ¬ (240 : Int32) < nI n from fun z => by have := (nlt (a := 240) (by omega) (by omega)).mp z; omega), a1, if_neg (by omega), zb_some, b1, c1, hk, if_pos (show ckn 0 = 0 by decide)]
          exact zlast hr), zk2_inr]
      · obtain ⟨N, rfl⟩ : ∃ K, N = K + 1 := ⟨N - 1, by omega⟩
        obtain ⟨y32, y30, y29, y28, y31⟩ := hL.le (by omega)
        rw [hk] at y30
        refine ⟨g, zw_end (s := (nI n, g)) ?_ N, hB, y32, hF.refl _ _⟩
        show l_X10_text_20 M (nI n) g = _
        unfold l_X10_text_20
        rw [y32, if_pos rfl, y30, if_pos (show nI 0 = 0 from rfl)]
    -- a line
    have stC : ∀ X d g, CB t X d δ g → g.1 (X + 23) 7 = nI p → g.1 (X + 23) 2 = 0 → ∃ g1, CB t X d δ g1 ∧ g1.1 (X + 23) 5 = ckn (lx t p).1 ∧ g1.1 (X + 23) 6 = nI (lx t p).2.1 ∧ g1.1 (X + 23) 7 = nI (lx t p).2.2 ∧ g1.1 (X + 23) 2 = 0 ∧ tF X g g1 ∧ l_X4_readInto_31 (X + 23) d (nI n) g = zb (f_X4_readLine (X + 23) d g1) (fun v18 g19 => if v18 = 0 then (some (.inr (.inr (0, g19)))) else (zl (zsi g19 (X + 23) 4 ((g19.1 (X + 23) 4) + 1)) (fun g21 => zl (nI n + 1) (fun v22 => some (.inl (v22, g21)))))) := by
      intro X d g hC h7 hf
      obtain ⟨g1, a1, a2, a3, a4, a5, a6⟩ := q_next hv h2 hC.1 h7
      obtain ⟨c1, c2, c3⟩ := a5 hk5
      refine ⟨g1, hC.kept a2, c1, a3, c2, by rw [c3]; exact hf, a2, ?_⟩
      unfold l_X4_readInto_31
      rw [if_neg (show ¬ (240 : Int32) < nI n from fun z => by have := (nlt (a := 240) (by omega) (by omega)).mp z; omega), a1, if_neg hk5, zb_some, b1, c1, if_neg (show ¬ ckn (lx t p).1 = 0 from fun z => hk ((ckn_inj _ (by omega) 0 (by omega)).mp z))]
    have stM : ∀ M g, LA t p M g → l_X10_text_20 M (nI n) g = zb (f_X10_readLine M g) (fun v30 g31 => zl (nI n + 1) (fun v32 => some (.inl (v32, g31)))) := by
      intro M g hL
      obtain ⟨y32, y30, y29, y28, y31⟩ := hL.le hk5
      unfold l_X10_text_20
      rw [y32, if_pos rfl, y30, if_neg (show ¬ nI (lx t p).1 = 0 from fun z => hk ((nI_zr (by omega)).mp z))]
    rcases line_both hv h2 hV hk hk5 with ⟨c, x, c1, c2, c3, c4⟩ | ⟨δ1, q, c1, ⟨c2, c2'⟩, c3, c4⟩
    · left
      refine ⟨c, x, c1, c2, fun X d g N hC h7 hf h4 hN => ?_, fun M g N hB hL hN => ?_⟩
      · obtain ⟨N, rfl⟩ : ∃ K, N = K + 1 := ⟨N - 1, by omega⟩
        obtain ⟨g1, w1, w2, w3, w4, w5, w6, w7⟩ := stC X d g hC h7 hf
        obtain ⟨g2, u1, u2, u3, u4⟩ := c3 X d g1 w1 w2 w3 w4 w5
        refine ⟨g2, ?_, u2, u3, (kG.of (kF.of w6)).trans (kG.of u4)⟩
        rw [zw_end (r := .inr (0, g2)) (by
          show l_X4_readInto_31 (X + 23) d (nI n) g = _
          rw [w7, u1, zb_some, b0]), zk2_inr]
      · obtain ⟨N, rfl⟩ : ∃ K, N = K + 1 + 1 := ⟨N - 2, by omega⟩
        obtain ⟨y, g2, u1, u2, u3⟩ := c4 M g hB hL
        refine ⟨nI (n + 1), g2, ?_, u2, u3⟩
        rw [zw_step (s' := (nI (n + 1), g2)) (by
          show l_X10_text_20 M (nI n) g = _
          rw [stM M g hL, u1, zb_some, zl_eq, nI_1])]
        apply zw_end
        show l_X10_text_20 M (nI (n + 1)) g2 = _
        unfold l_X10_text_20
        rw [u2.1, if_neg (nz (by omega) (by omega))]
    · -- the class and the reference behind the line
      have goC : ∀ X d g, CB t X d δ g → g.1 (X + 23) 7 = nI p → g.1 (X + 23) 2 = 0 → g.1 (X + 23) 4 = nI n → ∃ g2, l_X4_readInto_31 (X + 23) d (nI n) g = some (.inl (nI (n + 1), g2)) ∧ CB t X d δ1 g2 ∧ g2.1 (X + 23) 7 = nI q ∧ g2.1 (X + 23) 2 = 0 ∧ g2.1 (X + 23) 4 = nI (n + 1) ∧ kG X d g g2 := by
        intro X d g hC h7 hf h4
        obtain ⟨g1, w1, w2, w3, w4, w5, w6, w7⟩ := stC X d g hC h7 hf
        obtain ⟨g2, u1, u2, u3, u4, u5⟩ := c3 X d g1 w1 w2 w3 w4 w5
        have e4 : g2.1 (X + 23) 4 = nI n := by rw [u5.2.2, w6.2 4 (by omega)]; exact h4
        refine ⟨zsi g2 (X + 23) 4 (nI (n + 1)), ?_, u2.f4, by rw [zsi_get (by omega)]; exact u3, by rw [zsi_get (by omega)]; exact u4, zsi_same, ((kG.of (kF.of w6)).trans (kG.of u5)).trans (kG.sf (by omega))⟩
        rw [w7, u1, zb_some, b1, e4, zl_eq, zl_eq, nI_1]
      have goM : ∀ M g, MB t M δ g → LA t p M g → ∃ g2, l_X10_text_20 M (nI n) g = some (.inl (nI (n + 1), g2)) ∧ MB t M δ1 g2 ∧ LA t q M g2 ∧ hF M g g2 := by
        intro M g hB hL
        obtain ⟨y, g2, u1, u2, u3, u4⟩ := c4 M g hB hL
        refine ⟨g2, ?_, u2, u3, u4⟩
        rw [stM M g hL, u1, zb_some, zl_eq, nI_1]
      rcases ih q (n + 1) δ1 (by omega) c2' c1 (by omega) with ⟨c, x, d1, d2, d3, d4⟩ | ⟨δ', m, d1, d2, d3, d4⟩
      · left
        refine ⟨c, x, d1, d2, fun X d g N hC h7 hf h4 hN => ?_, fun M g N hB hL hN => ?_⟩
        · obtain ⟨N, rfl⟩ : ∃ K, N = K + 1 := ⟨N - 1, by omega⟩
          obtain ⟨g2, u1, u2, u3, u4, u5, u6⟩ := goC X d g hC h7 hf h4
          obtain ⟨g', v1, v2, v3, v4⟩ := d3 X d g2 N u2 u3 u4 u5 (by omega)
          exact ⟨g', by rw [zw_step (s' := (nI (n + 1), g2)) u1]; exact v1, v2, v3, u6.trans v4⟩
        · obtain ⟨N, rfl⟩ : ∃ K, N = K + 1 := ⟨N - 1, by omega⟩
          obtain ⟨g2, u1, u2, u3, u4⟩ := goM M g hB hL
          obtain ⟨y, g', v1, v2, v3⟩ := d4 M g2 N u2 u3 (by omega)
          exact ⟨y, g', by rw [zw_step (s' := (nI (n + 1), g2)) u1]; exact v1, v2, u4.trans v3⟩
      · right
        refine ⟨δ', m, d1, d2, fun X d g N hC h7 hf h4 hN => ?_, fun M g N hB hL hN => ?_⟩
        · obtain ⟨N, rfl⟩ : ∃ K, N = K + 1 := ⟨N - 1, by omega⟩
          obtain ⟨g2, u1, u2, u3, u4, u5, u6⟩ := goC X d g hC h7 hf h4
          obtain ⟨g', v1, v2, v3, v4, v5⟩ := d3 X d g2 N u2 u3 u4 u5 (by omega)
          exact ⟨g', fun r hr => by rw [zw_step (s' := (nI (n + 1), g2)) u1]; exact v1 r hr, v2, v3, v4, u6.trans v5⟩
        · obtain ⟨N, rfl⟩ : ∃ K, N = K + 1 := ⟨N - 1, by omega⟩
          obtain ⟨g2, u1, u2, u3, u4⟩ := goM M g hB hL
          obtain ⟨g', v1, v2, v3, v4⟩ := d4 M g2 N u2 u3 (by omega)
          exact ⟨g', by rw [zw_step (s' := (nI (n + 1), g2)) u1]; exact v1, v2, v3, u4.trans v4⟩
end TXT
