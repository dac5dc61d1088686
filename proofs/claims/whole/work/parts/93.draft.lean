-- ===== a draft, as both hold it while a text is read =====
abbrev aD : Type := aR × Nat × (Nat → Bool) × Bool × Nat × (Nat → Nat × Nat × Nat)
def dR (δ : aD) : aR := δ.1
def dl (δ : aD) : Nat := δ.2.1
def dW (δ : aD) : Nat → Bool := δ.2.2.1
def dB (δ : aD) : Bool := δ.2.2.2.1
def dq (δ : aD) : Nat := δ.2.2.2.2.1
def dK (δ : aD) : Nat → Nat × Nat × Nat := δ.2.2.2.2.2
def lw (κ : Nat × Nat × Nat) : Int32 := if κ.1 = 6 then nI (κ.2.1 - 1) else -(nI κ.2.1)
def cD (δ : aD) (d X : Nat) (g : zG) : Prop := (g.1 (d + 1) 1 = nI (aN (dR δ)) ∧ ∀ i, i < aN (dR δ) → g.1 (d + 2) i = nI (aC (dR δ) i)) ∧ (g.1 (d + 3) 5 = nI (aM (dR δ)) ∧ g.1 (d + 3) 6 = nI (dl δ)) ∧
  (∀ k, k < aM (dR δ) → g.1 (d + 4) k = nI (aA (dR δ) k + 9) ∧ g.1 (d + 5) k = nI (aU (dR δ) k) ∧ g.1 (d + 6) k = nI (aF (dR δ) k) ∧ g.1 (d + 7) k = nI (aY (dR δ) k)) ∧
  (∀ i, i < dl δ → g.1 (d + 8) i = nI (aL (dR δ) i)) ∧ (∀ k, 1 ≤ k → k ≤ 7 → g.1 (d + 9) k = nI (aV (dR δ) k)) ∧ (∀ i, i < 60 → g.1 (d + 10) i = nI (aH (dR δ) i)) ∧
  (g.1 (X + 23) 13 = nI (dq δ) ∧ ∀ i, i < dq δ → g.1 (X + 25) i = nI (dK δ i).1 ∧ g.1 (X + 26) i = nI (dK δ i).2.1 ∧ g.1 (X + 27) i = nI (dK δ i).2.2) ∧
  ∃ w, w < 8192 ∧ g.1 (X + 23) 9 = nI w ∧ ∀ k, k < 13 → w.testBit k = dW δ k
def mD (δ : aD) (M : Nat) (g : zG) : Prop := (g.1 M 10 = nI (aN (dR δ)) ∧ ∀ i, i < aN (dR δ) → g.1 (M + 9) i = nI (aC (dR δ) i)) ∧ (g.1 M 15 = nI (aM (dR δ)) ∧ g.1 M 20 = nI (dl δ)) ∧
  (∀ k, k < aM (dR δ) → g.1 (M + 12) k = nI (aA (dR δ) k) ∧ g.1 (M + 13) k = nI (aU (dR δ) k) ∧ g.1 (M + 14) k = nI (aF (dR δ) k) ∧ g.1 (M + 15) k = nI (aY (dR δ) k)) ∧
  (∀ i, i < dl δ → g.1 (M + 16) i = nI (aL (dR δ) i)) ∧ (∀ k, 1 ≤ k → k ≤ 7 → g.1 (M + 10) k = nI (aV (dR δ) k)) ∧ (∀ i, i < 60 → g.1 (M + 11) i = nI (aH (dR δ) i)) ∧
  (g.1 M 23 = nI (dq δ) ∧ ∀ i, i < dq δ → g.1 (M + 18) i = lw (dK δ i) ∧ g.1 (M + 19) i = nI (dK δ i).2.2) ∧
  (∀ k, k < 13 → g.1 (M + 17) k = bI (dW δ k)) ∧ g.1 M 14 = bI (dB δ)
def CB (t : aT) (X d : Nat) (δ : aD) (g : zG) : Prop := RD t X g ∧ (d = X + 1 ∨ d = X + 12) ∧ cD δ d X g
def MB (t : aT) (M : Nat) (δ : aD) (g : zG) : Prop := MD t M g ∧ mD δ M g
section DRA
variable {t : aT} {X d M : Nat} {δ : aD}
theorem CB.kept {g g' : zG} (h : CB t X d δ g) (hf : tF X g g') : CB t X d δ g' := by
  obtain ⟨h1, h2, h3⟩ := h
  have e : ∀ x, x ≠ X + 23 → g'.1 x = g.1 x := fun x hx => (hf.1.2 x hx).1
  refine ⟨h1.kept hf, h2, ?_⟩
  unfold cD at *
  rw [e (d + 1) (by omega), e (d + 2) (by omega), e (d + 3) (by omega), e (d + 4) (by omega), e (d + 5) (by omega), e (d + 6) (by omega), e (d + 7) (by omega), e (d + 8) (by omega), e (d + 9) (by omega), e (d + 10) (by omega), e (X + 25) (by omega), e (X + 26) (by omega), e (X + 27) (by omega), hf.2 13 (by omega), hf.2 9 (by omega)]
  exact h3
theorem MB.kept {g g' : zG} (h : MB t M δ g) (hf : uF M g g') : MB t M δ g' := by
  obtain ⟨h1, h3⟩ := h
  have e : ∀ x, x ≠ M → g'.1 x = g.1 x := fun x hx => (hf.1.2 x hx).1
  refine ⟨h1.kept hf, ?_⟩
  unfold mD at *
  rw [e (M + 9) (by omega), e (M + 10) (by omega), e (M + 11) (by omega), e (M + 12) (by omega), e (M + 13) (by omega), e (M + 14) (by omega), e (M + 15) (by omega), e (M + 16) (by omega), e (M + 17) (by omega), e (M + 18) (by omega), e (M + 19) (by omega), hf.2 10 (by omega), hf.2 15 (by omega), hf.2 20 (by omega), hf.2 23 (by omega), hf.2 14 (by omega)]
  exact h3
-- ===== tokens that are due =====
def tc (due : Nat) (t : aT) (p : Nat) : Nat := if (lx t p).1 = 5 then 1 else if (lx t p).1 = due then 0 else 2
def nc (lo hi : Nat) (t : aT) (p : Nat) : Nat := if (lx t p).1 = 5 then 1 else if (lx t p).1 = 2 then (if lo ≤ vl t (lx t p).2.1 (lx t p).2.2 ∧ vl t (lx t p).2.1 (lx t p).2.2 ≤ hi then 0 else 3) else 2
theorem tc_0 {due p : Nat} (h : tc due t p = 0) : (lx t p).1 = due ∧ due ≠ 5 := by
  unfold tc at h
  by_cases e : (lx t p).1 = 5
  · rw [if_pos e] at h; omega
  · rw [if_neg e] at h
    by_cases e2 : (lx t p).1 = due
    · exact ⟨e2, fun z => e (e2.trans z)⟩
    · rw [if_neg e2] at h; omega
theorem tc_le (due p : Nat) : tc due t p ≤ 2 := by
  unfold tc
  repeat' split
  all_goals omega
theorem nc_le (lo hi p : Nat) : nc lo hi t p ≤ 3 := by
  unfold nc
  repeat' split
  all_goals omega
theorem nc_0 {lo hi p : Nat} (h : nc lo hi t p = 0) : (lx t p).1 = 2 ∧ lo ≤ vl t (lx t p).2.1 (lx t p).2.2 ∧ vl t (lx t p).2.1 (lx t p).2.2 ≤ hi := by
  unfold nc at h
  by_cases e : (lx t p).1 = 5
  · rw [if_pos e] at h; omega
  · rw [if_neg e] at h
    by_cases e2 : (lx t p).1 = 2
    · rw [if_pos e2] at h
      refine ⟨e2, ?_⟩
      apply Classical.byContradiction
      intro hn
      rw [if_neg hn] at h
      omega
    · rw [if_neg e2] at h; omega
theorem q_take (hv : vTp t) {due p : Nat} (hdue : due ≤ 4) (hp : p ≤ t.1) {g : zG} (hR : RD t X g) (h7 : g.1 (X + 23) 7 = nI p) : ∃ g', f_X4_take (X + 23) (ckn due) g = some (if tc due t p = 0 then 1 else 0, g') ∧ tF X g g' ∧ (tc due t p = 0 → g'.1 (X + 23) 6 = nI (lx t p).2.1 ∧ g'.1 (X + 23) 7 = nI (lx t p).2.2 ∧ g'.1 (X + 23) 2 = g.1 (X + 23) 2) ∧ (tc due t p ≠ 0 → g'.1 (X + 23) 2 = nI (tc due t p) ∧ g'.1 (X + 23) 3 = nI (lx t p).2.1) := by
  obtain ⟨g1, a1, a2, a3, a4, a5, a6⟩ := q_next hv hp hR h7
  have hk := (lx_tok hv hp).2.1
  unfold f_X4_take
  rw [a1, zb_some]
  by_cases e5 : (lx t p).1 = 5
  · have hc : tc due t p = 1 := if_pos e5
    rw [if_pos e5, b0, hc]
    exact ⟨g1, rfl, a2, fun z => (by omega), fun _ => a6 e5⟩
  · obtain ⟨c1, c2, c3⟩ := a5 e5
    rw [if_neg e5, b1, c1]
    by_cases ed : (lx t p).1 = due
    · have hc : tc due t p = 0 := by unfold tc; rw [if_neg e5, if_pos ed]
      rw [if_pos (by rw [ed]), hc]
      exact ⟨g1, rfl, a2, fun _ => ⟨a3, c2, c3⟩, fun z => absurd rfl z⟩
    · have hc : tc due t p = 2 := by unfold tc; rw [if_neg e5, if_neg ed]
      rw [if_neg (fun z => ed ((ckn_inj _ (by omega) due (by omega)).mp z)), hc]
      unfold f_X4_fail
      rw [zl_eq, zl_eq, zb_some, b0, a3]
      exact ⟨_, rfl, (a2.trans (tF.si (by omega))).trans (tF.si (by omega)), fun z => (by omega), fun _ => ⟨by rw [zsi_get (by omega), zsi_same]; rfl, zsi_same⟩⟩
theorem q_num (hv : vTp t) {lo hi p : Nat} (hlo : lo < 256) (hhi : hi < 256) (hp : p ≤ t.1) {g : zG} (hR : RD t X g) (h7 : g.1 (X + 23) 7 = nI p) : ∃ g', f_X4_takeNumber (X + 23) (nI lo) (nI hi) g = some (if nc lo hi t p = 0 then 1 else 0, g') ∧ tF X g g' ∧ (nc lo hi t p = 0 → g'.1 (X + 23) 6 = nI (lx t p).2.1 ∧ g'.1 (X + 23) 7 = nI (lx t p).2.2 ∧ g'.1 (X + 23) 8 = nI (vl t (lx t p).2.1 (lx t p).2.2) ∧ g'.1 (X + 23) 2 = g.1 (X + 23) 2) ∧ (nc lo hi t p ≠ 0 → g'.1 (X + 23) 2 = nI (nc lo hi t p) ∧ g'.1 (X + 23) 3 = nI (lx t p).2.1) := by
  have hl := hv.1
  obtain ⟨g1, a1, a2, a3, a4, a5, a6⟩ := q_next hv hp hR h7
  obtain ⟨⟨k1, k2, k3⟩, k4, k5, k6, k7, k8⟩ := lx_tok hv hp
  unfold f_X4_takeNumber
  rw [a1, zb_some]
  by_cases e5 : (lx t p).1 = 5
  · have hc : nc lo hi t p = 1 := if_pos e5
    rw [if_pos e5, b0, hc]
    exact ⟨g1, rfl, a2, fun z => (by omega), fun _ => a6 e5⟩
  · obtain ⟨c1, c2, c3⟩ := a5 e5
    rw [if_neg e5, b1, c1]
    have bad : ∀ (G : zG) (c : Nat), tF X g G → G.1 (X + 23) 6 = nI (lx t p).2.1 → tF X g (zsi (zsi G (X + 23) 2 (nI c)) (X + 23) 3 (nI (lx t p).2.1)) ∧ f_X4_fail (X + 23) (nI c) (G.1 (X + 23) 6) G = some (0, zsi (zsi G (X + 23) 2 (nI c)) (X + 23) 3 (nI (lx t p).2.1)) ∧ (zsi (zsi G (X + 23) 2 (nI c)) (X + 23) 3 (nI (lx t p).2.1)).1 (X + 23) 2 = nI c ∧ (zsi (zsi G (X + 23) 2 (nI c)) (X + 23) 3 (nI (lx t p).2.1)).1 (X + 23) 3 = nI (lx t p).2.1 := by
      intro G c w1 w2
      refine ⟨(w1.trans (tF.si (by omega))).trans (tF.si (by omega)), ?_, by rw [zsi_get (by omega), zsi_same], zsi_same⟩
      unfold f_X4_fail
      rw [zl_eq, zl_eq, w2]
    by_cases e2 : (lx t p).1 = 2
    · rw [e2, if_pos (show ckn 2 = 2 by decide), zl_eq, zsi_get (by omega), a3, zl_eq]
      obtain ⟨d1, d2⟩ := k8 e2
      have hRG : RD t X (zsi g1 (X + 23) 8 0) := (hR.kept a2).kept (tF.si (by omega))
      generalize hf : (lx t p).2.1 = f at *
      generalize hee : (lx t p).2.2 = e at *
      have h1 := k6 (by omega)
      -- the digits
      obtain ⟨G, z1, z2, z3⟩ : ∃ G, zw zN (fun s => l_X4_takeNumber_37 (X + 23) (nI lo) (nI hi) s.1 s.2) (nI f, zsi g1 (X + 23) 8 0) = some G ∧ G = zsi g1 (X + 23) 8 (nI (vl t f e)) ∧ True := by
        have stp : ∀ (j v : Nat) (G : zG), RD t X G → G.1 (X + 23) 7 = nI e → G.1 (X + 23) 8 = nI v → f ≤ j → j < e → l_X4_takeNumber_37 (X + 23) (nI lo) (nI hi) (nI j) G = some (.inl (nI (j + 1), zsi G (X + 23) 8 (nI (v * 10 + (byt t j - 48))))) := by
          intro j v G w1 w2 w3 w4 w5
          have hb := hv.2 j (by omega)
          have hd := d2 j w4 w5
          have hd2 := hd
          rw [byt_in (by omega)] at hd2
          unfold l_X4_takeNumber_37
          rw [w2, if_neg (fun z => by have := (nle (by omega) (by omega)).mp z; omega), zc_pos (zlit j 240 (by omega) (by omega)), nI_cl (by omega), w1.1.by, w1.2.2 j (by omega), w3, sb_digit _ hb hd2, zl_eq, zl_eq, nI_1, show (10 : Int32) = nI 10 from rfl, pk_mul, nI_add, byt_in (by omega)]
        have fin : ∀ (G : zG), G.1 (X + 23) 7 = nI e → l_X4_takeNumber_37 (X + 23) (nI lo) (nI hi) (nI e) G = some (.inr G) := by
          intro G w2
          unfold l_X4_takeNumber_37
          rw [w2, if_pos (Int32.le_refl _)]
        obtain ⟨K, hK⟩ : ∃ K, zN = K + 1 + 1 + 1 := ⟨99997, rfl⟩
        have y7 : (zsi g1 (X + 23) 8 0).1 (X + 23) 7 = nI e := by rw [zsi_get (by omega)]; exact c2
        have s0 := stp f 0 (zsi g1 (X + 23) 8 0) hRG y7 zsi_same (Nat.le_refl _) (by omega)
        rw [zsi_zsi] at s0
        by_cases one : e = f + 1
        · refine ⟨_, ?_, rfl, trivial⟩
          rw [hK, zw_step (s' := (nI (f + 1), zsi g1 (X + 23) 8 (nI (0 * 10 + (byt t f - 48))))) s0, ← one, zw_end (fin _ (by rw [zsi_get (by omega)]; exact c2))]
          have : vl t f e = 0 * 10 + (byt t f - 48) := by
            unfold vl
            rw [one, show f + 1 - f = 1 by omega, show vn t f 1 = byt t f - 48 from rfl]
            omega
          rw [this]
        · have two : e = f + 1 + 1 := by omega
          have s1 := stp (f + 1) (0 * 10 + (byt t f - 48)) (zsi g1 (X + 23) 8 (nI (0 * 10 + (byt t f - 48)))) ((hR.kept a2).kept (tF.si (by omega))) (by rw [zsi_get (by omega)]; exact c2) zsi_same (by omega) (by omega)
          rw [zsi_zsi] at s1
          refine ⟨_, ?_, rfl, trivial⟩
          rw [hK, zw_step (s' := (nI (f + 1), zsi g1 (X + 23) 8 (nI (0 * 10 + (byt t f - 48))))) s0, zw_step (s' := (nI (f + 1 + 1), _)) s1, ← two, zw_end (fin _ (by rw [zsi_get (by omega)]; exact c2))]
          have : vl t f e = (0 * 10 + (byt t f - 48)) * 10 + (byt t (f + 1) - 48) := by
            unfold vl
            rw [two, show f + 1 + 1 - f = 2 by omega, show vn t f 2 = 10 * (byt t f - 48) + (byt t (f + 1) - 48) from rfl]
            omega
          rw [this]
      rw [z1, zk_some, z2]
      have hvl : vl t f e < 200 := by
        have q1 := kb_digit (d2 f (Nat.le_refl _) (by omega))
        unfold vl vn
        repeat' split
        · omega
        · omega
        · have q2 := kb_digit (d2 (f + 1) (by omega) (by omega))
          omega
      have fr : tF X g (zsi g1 (X + 23) 8 (nI (vl t f e))) := a2.trans (tF.si (by omega))
      have y6 : (zsi g1 (X + 23) 8 (nI (vl t f e))).1 (X + 23) 6 = nI f := by rw [zsi_get (by omega)]; exact a3
      obtain ⟨w1, w2, w3, w4⟩ := bad _ 3 fr y6
      have ef : j_X4_takeNumber_88 (X + 23) (zsi g1 (X + 23) 8 (nI (vl t f e))) = some (0, zsi (zsi (zsi g1 (X + 23) 8 (nI (vl t f e))) (X + 23) 2 (nI 3)) (X + 23) 3 (nI f)) := by
        unfold j_X4_takeNumber_88
        rw [show f_X4_fail (X + 23) 3 ((zsi g1 (X + 23) 8 (nI (vl t f e))).1 (X + 23) 6) (zsi g1 (X + 23) 8 (nI (vl t f e))) = _ from w2, zb_some, b0]
      have enc : nc lo hi t p = if lo ≤ vl t f e ∧ vl t f e ≤ hi then 0 else 3 := by
        unfold nc
        rw [if_neg e5, if_pos e2, hf, hee]
      unfold j_X4_takeNumber_72
      rw [zsi_same, ef]
      by_cases hin : lo ≤ vl t f e ∧ vl t f e ≤ hi
      · rw [if_pos hin] at enc
        rw [if_neg (fun z => by have := (nlt (by omega) (by omega)).mp z; omega), if_pos ((nle (by omega) (by omega)).mpr hin.2), enc]
        exact ⟨_, rfl, fr, fun _ => ⟨y6, by rw [zsi_get (by omega)]; exact c2, zsi_same, by rw [zsi_get (by omega)]; exact c3⟩, fun z => absurd rfl z⟩
      · rw [if_neg hin] at enc
        rw [enc]
        refine ⟨_, ?_, w1, fun z => (by omega), fun _ => ⟨w3, w4⟩⟩
        by_cases hlt : vl t f e < lo
        · rw [if_pos ((nlt (by omega) (by omega)).mpr hlt)]; rfl
        · rw [if_neg (fun z => hlt ((nlt (by omega) (by omega)).mp z)), if_neg (fun z => by have := (nle (by omega) (by omega)).mp z; omega)]; rfl
    · have hc : nc lo hi t p = 2 := by unfold nc; rw [if_neg e5, if_neg e2]
      rw [if_neg (show ¬ ckn (lx t p).1 = 2 from fun z => e2 ((ckn_inj _ (by omega) 2 (by omega)).mp z)), hc]
      obtain ⟨w1, w2, w3, w4⟩ := bad g1 2 a2 a3
      rw [show f_X4_fail (X + 23) 2 (g1.1 (X + 23) 6) g1 = _ from w2, zb_some, zc_pos (Or.inl rfl)]
      exact ⟨_, rfl, w1, fun z => (by omega), fun _ => ⟨w3, w4⟩⟩
-- ===== in the reference =====
theorem m_wantT (c : Int32) (g : zG) : f_X10_wants M 1 c g = some (0, g) := by
  unfold f_X10_wants
  rw [b1]
theorem m_wantN {c f : Nat} {g : zG} (h32 : g.1 M 32 = 0) (h29 : g.1 M 29 = nI f) : ∃ g', f_X10_wants M 0 (nI c) g = some (0, g') ∧ uF M g g' ∧ FS c f M g' := by
  refine ⟨zsi (zsi g M 32 (nI c)) M 33 (nI f), ?_, (uF.si (by omega)).trans (uF.si (by omega)), ⟨by rw [zsi_get (by omega), zsi_same], zsi_same⟩⟩
  unfold f_X10_wants
  rw [b0, h32, if_pos rfl, zl_eq, zl_eq, zsi_get (by omega), h29]
theorem m_wantF {c x : Nat} {b c2 : Int32} {g : zG} (h : FS c x M g) (hc : 1 ≤ c ∧ c ≤ 7) : f_X10_wants M b c2 g = some (0, g) := by
  unfold f_X10_wants
  rw [h.1, if_neg (show ¬ nI c = 0 from nz (by omega) (by omega))]
  split <;> rfl
theorem m_numF {c x : Nat} {lo hi : Int32} {g : zG} (h : FS c x M g) (hc : 1 ≤ c ∧ c ≤ 7) : f_X10_readNumber M lo hi g = some (g.1 M 31, g) := by
  have hn : ¬ nI c = 0 := nz (by omega) (by omega)
  unfold f_X10_readNumber j_X10_readNumber_25 j_X10_readNumber_49
  rw [h.1, if_neg hn, if_neg hn, zl_eq, m_nextF h hc, zb_some]
theorem m_number (hv : vTp t) {lo hi p : Nat} (hlo : lo < 256) (hhi : hi < 256) (hp : p ≤ t.1) {g : zG} (hD : MD t M g) (hL : LA t p M g) : ∃ y g', f_X10_readNumber M (nI lo) (nI hi) g = some (y, g') ∧ uF M g g' ∧ (nc lo hi t p = 0 → y = nI (vl t (lx t p).2.1 (lx t p).2.2) ∧ LA t (lx t p).2.2 M g') ∧ (nc lo hi t p ≠ 0 → FS (nc lo hi t p) (lx t p).2.1 M g') := by
  have hl := hv.1
  obtain ⟨⟨k1, k2, k3⟩, k4, k5, k6, k7, k8⟩ := lx_tok hv hp
  rcases hL with ⟨e5, h32, h30, h29, h28, h31⟩ | ⟨e5, hF⟩
  · by_cases e2 : (lx t p).1 = 2
    · obtain ⟨d1, d2⟩ := k8 e2
      have h31 := h31 e2
      have h1 := k6 (by omega)
      have enc : nc lo hi t p = if lo ≤ vl t (lx t p).2.1 (lx t p).2.2 ∧ vl t (lx t p).2.1 (lx t p).2.2 ≤ hi then 0 else 3 := by
        unfold nc
        rw [if_neg e5, if_pos e2]
      have hvl : vl t (lx t p).2.1 (lx t p).2.2 < 200 := by
        have q1 := kb_digit (d2 (lx t p).2.1 (Nat.le_refl _) (by omega))
        unfold vl vn
        repeat' split
        · omega
        · omega
        · have q2 := kb_digit (d2 ((lx t p).2.1 + 1) (by omega) (by omega))
          omega
      unfold f_X10_readNumber j_X10_readNumber_21 j_X10_readNumber_25
      rw [h32, if_pos rfl, h30, e2, if_pos (show nI 2 = 2 from rfl), m_wantT, zb_some, h32, if_pos rfl, h31, in_spec, i64, i64, i64, i_nI (by omega), i_nI (by omega), i_nI (by omega), zb_some]
      by_cases hin : lo ≤ vl t (lx t p).2.1 (lx t p).2.2 ∧ vl t (lx t p).2.1 (lx t p).2.2 ≤ hi
      · rw [if_pos hin] at enc
        rw [if_pos (show ((lo : Int) ≤ (vl t (lx t p).2.1 (lx t p).2.2 : Int) ∧ (vl t (lx t p).2.1 (lx t p).2.2 : Int) ≤ (hi : Int)) by omega), m_wantT, zb_some, enc]
        unfold j_X10_readNumber_49
        obtain ⟨g', z1, z2, z3⟩ := m_next_t hv k3 hD h28 h32
        rw [zl_eq, z1, zb_some, h31]
        exact ⟨_, g', rfl, z2, fun _ => ⟨rfl, z3⟩, fun z => absurd rfl z⟩
      · rw [if_neg hin] at enc
        rw [if_neg (show ¬ ((lo : Int) ≤ (vl t (lx t p).2.1 (lx t p).2.2 : Int) ∧ (vl t (lx t p).2.1 (lx t p).2.2 : Int) ≤ (hi : Int)) by omega), enc]
        obtain ⟨g', z1, z2, z3⟩ := m_wantN (c := 3) h32 h29
        rw [show f_X10_wants M 0 3 g = _ from z1, zb_some]
        unfold j_X10_readNumber_49
        rw [zl_eq, m_nextF z3 (by omega), zb_some]
        exact ⟨_, g', rfl, z2, fun z => (by omega), fun _ => z3⟩
    · have hc : nc lo hi t p = 2 := by unfold nc; rw [if_neg e5, if_neg e2]
      rw [hc]
      obtain ⟨g', z1, z2, z3⟩ := m_wantN (c := 2) h32 h29
      unfold f_X10_readNumber j_X10_readNumber_21 j_X10_readNumber_25
      rw [h32, if_pos rfl, h30, if_neg (show ¬ nI (lx t p).1 = 2 from fun z => e2 ((nI_inj (b := 2) (by omega) (by omega)).mp z)), show f_X10_wants M 0 2 g = _ from z1, zb_some, z3.1, if_neg (nz (by omega) (by omega))]
      unfold j_X10_readNumber_49
      rw [zl_eq, m_nextF z3 (by omega), zb_some]
      exact ⟨_, g', rfl, z2, fun z => (by omega), fun _ => z3⟩
  · have hc : nc lo hi t p = 1 := if_pos e5
    rw [hc]
    exact ⟨_, g, m_numF hF (by omega), uF.refl _ _, fun z => (by omega), fun _ => hF⟩
theorem m_toLF {c x : Nat} {g : zG} (h : FS c x M g) (hc : 1 ≤ c ∧ c ≤ 7) : f_X10_toLetters M g = some (0, g) := by
  have hn : ¬ nI c = 0 := nz (by omega) (by omega)
  unfold f_X10_toLetters j_X10_toLetters_25
  rw [h.1, if_neg hn, m_nextF h hc, zb_some, h.1, if_neg hn]
/-- a comma and a name: the fault, or none and the name is looked at -/
theorem m_toL (hv : vTp t) {p : Nat} (hp : p ≤ t.1) {g : zG} (hD : MD t M g) (hL : LA t p M g) : ∃ g', f_X10_toLetters M g = some (0, g') ∧ uF M g g' ∧ (tc 3 t p ≠ 0 → FS (tc 3 t p) (lx t p).2.1 M g') ∧ (tc 3 t p = 0 → (tc 1 t (lx t p).2.2 ≠ 0 → FS (tc 1 t (lx t p).2.2) (lx t (lx t p).2.2).2.1 M g') ∧ (tc 1 t (lx t p).2.2 = 0 → LK t 1 (lx t (lx t p).2.2).2.1 (lx t (lx t p).2.2).2.2 M g')) := by
  have hl := hv.1
  obtain ⟨⟨k1, k2, k3⟩, k4, k5, k6, k7, k8⟩ := lx_tok hv hp
  rcases hL with ⟨e5, h32, h30, h29, h28, h31⟩ | ⟨e5, hF⟩
  · by_cases e3 : (lx t p).1 = 3
    · have hc : tc 3 t p = 0 := by unfold tc; rw [if_neg e5, if_pos e3]
      obtain ⟨g1, z1, z2, z3⟩ := m_next_t hv k3 hD h28 h32
      unfold f_X10_toLetters j_X10_toLetters_21 j_X10_toLetters_25 j_X10_toLetters_50
      rw [h32, if_pos rfl, h30, e3, if_pos (show nI 3 = 3 from rfl), m_wantT, zb_some, z1, zb_some, hc]
      obtain ⟨-, m4, -⟩ := lx_tok hv k3
      generalize lx t p = Q at *
      rcases z3 with ⟨y5, y32, y30, y29, y28, y31⟩ | ⟨y5, hF⟩
      · by_cases e1 : (lx t Q.2.2).1 = 1
        · have hc1 : tc 1 t Q.2.2 = 0 := by unfold tc; rw [if_neg y5, if_pos e1]
          rw [e1] at y30
          rw [y32, if_pos rfl, y30, if_pos (show nI 1 = 1 from rfl), m_wantT, zb_some, hc1]
          exact ⟨g1, rfl, z2, fun z => absurd rfl z, fun _ => ⟨fun z => absurd rfl z, fun _ => ⟨y32, y30, y29, y28, fun z => (by cases z)⟩⟩⟩
        · have hc1 : tc 1 t Q.2.2 = 2 := by unfold tc; rw [if_neg y5, if_neg e1]
          obtain ⟨g2, w1, w2, w3⟩ := m_wantN (c := 2) y32 y29
          rw [y32, if_pos rfl, y30, if_neg (show ¬ nI (lx t Q.2.2).1 = 1 from fun z => e1 ((nI_inj (b := 1) (by omega) (by omega)).mp z)), show f_X10_wants M 0 2 g1 = _ from w1, zb_some, hc1]
          exact ⟨g2, rfl, z2.trans w2, fun z => absurd rfl z, fun _ => ⟨fun _ => w3, fun z => (by omega)⟩⟩
      · have hc1 : tc 1 t Q.2.2 = 1 := if_pos y5
        rw [hF.1, if_neg (nz (by omega) (by omega)), hc1]
        exact ⟨g1, rfl, z2, fun z => absurd rfl z, fun _ => ⟨fun _ => hF, fun z => (by omega)⟩⟩
    · have hc : tc 3 t p = 2 := by unfold tc; rw [if_neg e5, if_neg e3]
      obtain ⟨g1, w1, w2, w3⟩ := m_wantN (c := 2) h32 h29
      unfold f_X10_toLetters j_X10_toLetters_21 j_X10_toLetters_25
      rw [h32, if_pos rfl, h30, if_neg (show ¬ nI (lx t p).1 = 3 from fun z => e3 ((nI_inj (b := 3) (by omega) (by omega)).mp z)), show f_X10_wants M 0 2 g = _ from w1, zb_some, m_nextF w3 (by omega), zb_some, w3.1, if_neg (nz (by omega) (by omega)), hc]
      exact ⟨g1, rfl, w2, fun _ => w3, fun z => (by omega)⟩
  · have hc : tc 3 t p = 1 := if_pos e5
    rw [hc]
    exact ⟨g, m_toLF hF (by omega), uF.refl _ _, fun _ => hF, fun z => (by omega)⟩
end DRA
