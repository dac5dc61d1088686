-- ===== the class strikes =====
theorem zsl_i {g : zG} {a k : Nat} {x : Int64} : (zsl g a k x).1 = g.1 := rfl
theorem zsl_r {g : zG} {a k : Nat} {x : Int64} : (zsl g a k x).2.1 = g.2.1 := rfl
theorem zsl_same {g : zG} {a k : Nat} {x : Int64} : (zsl g a k x).2.2 a k = x := by simp [zsl, zu]
theorem frm.sl {S : Nat → Prop} {g : zG} {a k : Nat} {x : Int64} (h : S a) : frm S g (zsl g a k x) := ⟨rfl, fun b hb => ⟨rfl, by
  have e : b ≠ a := fun z => hb (by rw [z]; exact h)
  funext j
  simp [zsl, zu, e]⟩⟩
theorem zlshl_1 : ∀ l, l < 63 → zlshl 1 (nI l) = lN (2 ^ l) := by decide +kernel
theorem zmin_n {a b : Nat} (ha : a < 2147483648) (hb : b < 2147483648) : zmmin (nI a) (nI b) = nI (min a b) := by
  unfold zmmin
  by_cases h : b < a
  · rw [if_pos ((nlt hb ha).mpr h), Nat.min_eq_right (by omega)]
  · rw [if_neg (fun e => h ((nlt hb ha).mp e)), Nat.min_eq_left (by omega)]
theorem zmax_n {a b : Nat} (ha : a < 2147483648) (hb : b < 2147483648) : zmmax (nI a) (nI b) = nI (max a b) := by
  unfold zmmax
  by_cases h : a < b
  · rw [if_pos ((nlt ha hb).mpr h), Nat.max_eq_right (by omega)]
  · rw [if_neg (fun e => h ((nlt ha hb).mp e)), Nat.max_eq_left (by omega)]
section CS
variable {n p q : Nat} {ch ln : Nat → Nat} {C P s la ca : Nat}
theorem c_earliest {g : zG} {L : Nat} {d : Nat → Nat} (h1 : 1 ≤ L) (h2 : L ≤ 40) (h8 : g.1 s 8 = nI L) (h7 : g.2.1 s 7 = s + 4) (hd : ∀ i, i < L → g.1 (s + 4) i = nI (d i) ∧ d i < 2147483648) : ∃ i, i < L ∧ f_X7_earliestDue s g = some (nI (d i), g) ∧ ∀ j, j < L → d i ≤ d j := by
  let sf : Int32 × Int32 → Option ((Int32 × Int32) ⊕ (Int32)) := fun x => l_X7_earliestDue_9 s g x.1 x.2
  let Inv : Nat → Int32 × Int32 → Prop := fun k x => ∃ i, i < k + 1 ∧ x = (nI (d i), nI (k + 1)) ∧ ∀ j, j < k + 1 → d i ≤ d j
  let Q : Int32 → Prop := fun x => ∃ i, i < L ∧ x = nI (d i) ∧ ∀ j, j < L → d i ≤ d j
  have hS : ∀ k x, k < L - 1 → Inv k x → (∃ x', sf x = some (.inl x') ∧ Inv (k + 1) x') ∨ ∃ y, sf x = some (.inr y) ∧ Q y := by
    intro k x hk hI
    obtain ⟨i, hi, rfl, hm⟩ := hI
    left
    have a1 := hd i (by omega)
    have a2 := hd (k + 1) (by omega)
    have e : sf (nI (d i), nI (k + 1)) = some (.inl (nI (min (d i) (d (k + 1))), nI (k + 2))) := by
      show l_X7_earliestDue_9 s g (nI (d i)) (nI (k + 1)) = _
      unfold l_X7_earliestDue_9
      rw [h8, if_neg (fun e => by have := (nle (by omega) (by omega)).mp e; omega), zc_pos (zlit _ 40 (by omega) (by omega)), zl_eq, zl_eq, nI_cl (by omega), h7, a2.1, zmin_n a1.2 a2.2, nI_1]
    rcases Nat.lt_or_ge (d (k + 1)) (d i) with h | h
    · rw [Nat.min_eq_right (by omega)] at e
      exact ⟨_, e, k + 1, by omega, rfl, fun j hj => by
        rcases Nat.lt_or_ge j (k + 1) with h5 | h5
        · have := hm j h5; omega
        · have : j = k + 1 := by omega
          rw [this]; exact Nat.le_refl _⟩
    · rw [Nat.min_eq_left (by omega)] at e
      exact ⟨_, e, i, by omega, rfl, fun j hj => by
        rcases Nat.lt_or_ge j (k + 1) with h5 | h5
        · exact hm j h5
        · have : j = k + 1 := by omega
          rw [this]; exact h⟩
  have hE : ∀ x, Inv (L - 1) x → ∃ y, sf x = some (.inr y) ∧ Q y := by
    intro x hI
    obtain ⟨i, hi, rfl, hm⟩ := hI
    refine ⟨nI (d i), ?_, i, by omega, rfl, fun j hj => hm j (by omega)⟩
    show l_X7_earliestDue_9 s g (nI (d i)) (nI (L - 1 + 1)) = _
    unfold l_X7_earliestDue_9
    rw [h8, if_pos ((nle (by omega) (by omega)).mpr (by omega))]
  have hI0 : Inv 0 (nI (d 0), nI 1) := ⟨0, by omega, rfl, fun j hj => by
    have : j = 0 := by omega
    rw [this]; exact Nat.le_refl _⟩
  obtain ⟨y, e1, i, hi, rfl, hm⟩ := zw_run Inv Q (L - 1) hS hE (L - 1) 0 zN (nI (d 0), nI 1) (by omega) (by have := zN_big; omega) hI0
  refine ⟨i, hi, ?_, hm⟩
  unfold f_X7_earliestDue
  rw [zc_pos (c := zin 0 40) (by decide), zl_eq, c0, h7, (hd 0 (by omega)).1, show zw zN (fun x => l_X7_earliestDue_9 s g x.1 x.2) (nI (d 0), 1) = _ from e1, zk_some]
  rfl
theorem c_strikeAt {g : zG} {A : Nat → Option Nat} {D : Nat → Nat} {m t : Nat} (hC : C ≤ 40) (hP : P ≤ 40) (hm : m ≤ 40) (r0 : g.2.1 s 0 = s + 1) (r6 : g.2.1 s 6 = s + 3) (r7 : g.2.1 s 7 = s + 4) (h8 : g.1 s 8 = nI (cw (opn ln A) C)) (h4 : g.1 s 4 = nI m) (hA : ∀ c, c < C → g.1 (s + 1) c = enc (A c)) (ho : ∀ c, c < C → opn ln A c = true → g.1 (s + 3) (cw (opn ln A) c) = nI c ∧ g.1 (s + 4) (cw (opn ln A) c) = nI (D c) ∧ D c < 2147483648 ∧ (D c = t ↔ fo n p q ch ln A t c = true)) (ht : t < 2147483648) : ∃ g', f_X7_strikeAt s (nI t) (nI P) g = some (0, g') ∧ frm (fun b => b = s ∨ b = s + 1 ∨ b = s + 3 ∨ b = s + 4) g g' ∧ (∀ j, j ≠ 8 → j ≠ 4 → g'.1 s j = g.1 s j) ∧ g'.2 = g.2 ∧ g'.1 s 8 = nI (cw (opn ln (tA n p q ch ln C P A t)) C) ∧ g'.1 s 4 = nI (max m (min P (cw (fo n p q ch ln A t) C))) ∧ (∀ c, c < C → g'.1 (s + 1) c = enc (tA n p q ch ln C P A t c)) ∧ ∀ c, c < C → opn ln (tA n p q ch ln C P A t) c = true → g'.1 (s + 3) (cw (opn ln (tA n p q ch ln C P A t)) c) = nI c ∧ g'.1 (s + 4) (cw (opn ln (tA n p q ch ln C P A t)) c) = nI (D c) := by
  generalize hO : opn ln A = O at *
  generalize hF : fo n p q ch ln A t = F at *
  generalize hA' : tA n p q ch ln C P A t = A' at *
  generalize hO' : opn ln A' = O' at *
  have sub1 : ∀ c, F c = true → O c = true := fun c h => by rw [← hF] at h; rw [← hO]; exact fo_opn h
  have eO' : ∀ c, c < C → O' c = (O c && !(F c && decide (cw F c < P))) := fun c hc => by rw [← hO', ← hA', opn_tA hc, hO, hF]
  have lft : ∀ k, k ≤ C → cw O' k + min P (cw F k) = cw O k := fun k hk => by rw [← hO', ← hA', ← hF, ← hO]; exact left_tA hk
  have hhit : ∀ c, c < C → F c = true → cw F c < P → A' c = some t := fun c h1 h2 h3 => by rw [← hA']; exact tA_hit h1 (by rw [hF]; exact h2) (by rw [hF]; exact h3)
  have hmiss : ∀ c, ¬ (F c = true ∧ cw F c < P) → A' c = A c := fun c h => by rw [← hA']; exact tA_miss (fun z => h (by rw [hF] at z; exact z.2))
  have hleO := cw_le O C
  let sf : Int32 × Int32 × Int32 × zG → Option ((Int32 × Int32 × Int32 × zG) ⊕ (Int32 × Int32 × zG)) := fun x => l_X7_strikeAt_8 s (nI t) (nI P) x.1 x.2.1 x.2.2.1 x.2.2.2
  let R : Nat → zG → Prop := fun c g' => frm (fun b => b = s + 1 ∨ b = s + 3 ∨ b = s + 4) g g' ∧ g'.2 = g.2 ∧ (∀ j, j < C → g'.1 (s + 1) j = enc (if j < c then A' j else A j)) ∧ (∀ j, j < c → j < C → O' j = true → g'.1 (s + 3) (cw O' j) = nI j ∧ g'.1 (s + 4) (cw O' j) = nI (D j)) ∧ ∀ j, c ≤ j → j < C → O j = true → g'.1 (s + 3) (cw O j) = nI j ∧ g'.1 (s + 4) (cw O j) = nI (D j)
  let Inv : Nat → Int32 × Int32 × Int32 × zG → Prop := fun i x => ∃ c g', c ≤ C ∧ cw O c = i ∧ x = (nI (min P (cw F c)), nI (cw O' c), nI i, g') ∧ R c g'
  let Q : Int32 × Int32 × zG → Prop := fun x => ∃ g', x = (nI (min P (cw F C)), nI (cw O' C), g') ∧ R C g'
  have skip : ∀ c c2 g', c ≤ c2 → c2 ≤ C → cw O c = cw O c2 → R c g' → R c2 g' := by
    intro c c2 g' h1 h2 h3 hR
    obtain ⟨a1, a2, a3, a4, a5⟩ := hR
    have hno : ∀ j, c ≤ j → j < c2 → O j = false := by
      intro j j1 j2
      cases h : O j with
      | false => rfl
      | true =>
        have e1 := cw_t h
        have e2 := cw_mono O j1
        have e3 := cw_mono O (show j + 1 ≤ c2 by omega)
        omega
    refine ⟨a1, a2, fun j hj => ?_, fun j j1 j2 j3 => ?_, fun j j1 j2 j3 => a5 j (by omega) j2 j3⟩
    · rw [a3 j hj]
      by_cases e1 : j < c
      · rw [if_pos e1, if_pos (by omega)]
      · rw [if_neg e1]
        by_cases e2 : j < c2
        · rw [if_pos e2]
          rw [hmiss j (fun z => by have := sub1 j z.1; rw [hno j (by omega) e2] at this; cases this)]
        · rw [if_neg e2]
    · by_cases e1 : j < c
      · exact a4 j e1 j2 j3
      · rw [eO' j j2, hno j (by omega) j1] at j3; cases j3
  have hS : ∀ i x, i < cw O C → Inv i x → (∃ x', sf x = some (.inl x') ∧ Inv (i + 1) x') ∨ ∃ y, sf x = some (.inr y) ∧ Q y := by
    intro i x hi hI
    obtain ⟨c0, g', hc0, hci, rfl, hR⟩ := hI
    obtain ⟨c, hc, hOc, hcwc⟩ := cw_find hi
    left
    have hcc : c0 ≤ c := by
      rcases Nat.lt_or_ge c c0 with h | h
      · have e1 := cw_t hOc
        have e2 := cw_mono O (show c + 1 ≤ c0 by omega)
        omega
      · exact h
    have eF : cw F c0 = cw F c := cw_sub sub1 hcc (by omega)
    have eO2 : cw O' c0 = cw O' c := by
      have l1 := lft c0 (by omega)
      have l2 := lft c (by omega)
      rw [eF] at l1
      omega
    have hR := skip c0 c g' hcc (by omega) (by omega) hR
    have l2 := lft c (by omega)
    obtain ⟨a1, a2, a3, a4, a5⟩ := hR
    obtain ⟨b1', b2'⟩ := a5 c (Nat.le_refl _) hc hOc
    rw [hcwc] at b1' b2'
    obtain ⟨-, -, d1, d2⟩ := ho c hc hOc
    have hkl : cw O' c ≤ i := by omega
    have e8 : g'.1 s 8 = nI (cw O C) := by rw [(a1.2 s (by omega)).1]; exact h8
    have g6 : g'.2.1 s 6 = s + 3 := by rw [a1.1]; exact r6
    have g7 : g'.2.1 s 7 = s + 4 := by rw [a1.1]; exact r7
    have g0 : g'.2.1 s 0 = s + 1 := by rw [a1.1]; exact r0
    rw [show (nI (min P (cw F c0)), nI (cw O' c0), nI i, g') = (nI (min P (cw F c)), nI (cw O' c), nI i, g') by rw [eF, eO2]]
    -- a column that is kept
    have keep : O' c = true → A' c = A c → ∃ x', j_X7_strikeAt_52_8 s (nI t) (nI P) (nI (min P (cw F c))) (nI (cw O' c)) (nI i) g' = some (.inl x') ∧ ∃ g2, x' = (nI (min P (cw F c)), nI (cw O' (c + 1)), nI (i + 1), g2) ∧ R (c + 1) g2 := by
      intro hk hkA
      unfold j_X7_strikeAt_52_8
      simp only [zl_eq, zc_pos (zlit i 40 (by omega) (by omega)), zc_pos (zlit (cw O' c) 40 (by omega) (by omega)), nI_cl (show i < 2147483648 by omega), nI_cl (show cw O' c < 2147483648 by omega), nI_1]
      rw [g6, b1']
      rw [show (zsi g' (s + 3) (cw O' c) (nI c)).2.1 s 7 = s + 4 from g7, zsi_at (b := s + 4) (by omega), b2']
      refine ⟨_, rfl, _, by rw [cw_t hk], (a1.trans (frm.si (Or.inr (Or.inl rfl)))).trans (frm.si (Or.inr (Or.inr rfl))), a2, fun j hj => ?_, fun j j1 j2 j3 => ?_, fun j j1 j2 j3 => ?_⟩
      · rw [zsi_at (by omega), zsi_at (by omega), a3 j hj]
        rcases Nat.lt_trichotomy j c with h | h | h
        · rw [if_pos h, if_pos (by omega)]
        · rw [if_neg (by omega), if_pos (by omega), h, hkA]
        · rw [if_neg (by omega), if_neg (by omega)]
      · rw [zsi_at (b := s + 3) (by omega)]
        by_cases e : j = c
        · subst e; rw [zsi_same, zsi_same]; exact ⟨rfl, rfl⟩
        · have := cw_mono O' (show j + 1 ≤ c by omega)
          rw [cw_t j3] at this
          rw [zsi_get (by omega), zsi_get (by omega), zsi_at (b := s + 4) (by omega)]
          exact a4 j (by omega) j2 j3
      · have e1 := cw_mono O (show c + 1 ≤ j from j1)
        rw [cw_t hOc] at e1
        rw [zsi_at (b := s + 3) (by omega), zsi_get (by omega), zsi_get (by omega), zsi_at (b := s + 4) (by omega)]
        exact a5 j (by omega) j2 j3
    show ∃ x', l_X7_strikeAt_8 s (nI t) (nI P) (nI (min P (cw F c))) (nI (cw O' c)) (nI i) g' = some (.inl x') ∧ Inv (i + 1) x'
    unfold l_X7_strikeAt_8
    rw [e8, if_neg (fun e => by have := (nle (by omega) (by omega)).mp e; omega)]
    simp only [zc_pos (zlit i 40 (by omega) (by omega)), nI_cl (show i < 2147483648 by omega)]
    rw [g7, b2', g6, b1']
    by_cases hd : D c = t
    · have hFc : F c = true := d2.mp hd
      rw [if_pos (by rw [hd])]
      by_cases hr : cw F c < P
      · rw [if_neg (fun e => by have := (nle (by omega) (by omega)).mp e; omega)]
        simp only [zl_eq, zc_pos (zlit c 40 (by omega) (by omega)), nI_cl (show c < 2147483648 by omega), nI_1]
        rw [g0]
        have hO'c : O' c = false := by rw [eO' c hc, hOc, hFc, decide_eq_true hr]; rfl
        refine ⟨_, rfl, c + 1, _, by omega, by rw [cw_t hOc]; omega, by rw [cw_t hFc, cw_f hO'c, min_s1 hr], a1.trans (frm.si (Or.inl rfl)), a2, fun j hj => ?_, fun j j1 j2 j3 => ?_, fun j j1 j2 j3 => ?_⟩
        · by_cases e : j = c
          · subst e; rw [zsi_same, if_pos (by omega), hhit j hj hFc hr]; rfl
          · rw [zsi_get e, a3 j hj]
            by_cases h : j < c
            · rw [if_pos h, if_pos (by omega)]
            · rw [if_neg h, if_neg (by omega)]
        · rw [zsi_at (b := s + 3) (by omega), zsi_at (b := s + 4) (by omega)]
          by_cases e : j = c
          · rw [e, hO'c] at j3; cases j3
          · exact a4 j (by omega) j2 j3
        · rw [zsi_at (b := s + 3) (by omega), zsi_at (b := s + 4) (by omega)]
          exact a5 j (by omega) j2 j3
      · rw [if_pos ((nle (by omega) (by omega)).mpr (by omega))]
        have hO'c : O' c = true := by rw [eO' c hc, hOc, hFc, decide_eq_false hr]; rfl
        obtain ⟨x', k1, g2, rfl, k2⟩ := keep hO'c (hmiss c (fun z => hr z.2))
        exact ⟨_, k1, c + 1, g2, by omega, by rw [cw_t hOc]; omega, by rw [cw_t hFc, min_s2 (by omega)], k2⟩
    · have hFc : F c = false := by
        cases h : F c with
        | false => rfl
        | true => exact absurd (d2.mpr h) hd
      rw [if_neg (fun e => hd ((nI_inj d1 ht).mp e))]
      have hO'c : O' c = true := by rw [eO' c hc, hOc, hFc]; rfl
      obtain ⟨x', k1, g2, rfl, k2⟩ := keep hO'c (hmiss c (fun z => by rw [hFc] at z; exact absurd z.1 (by decide)))
      exact ⟨_, k1, c + 1, g2, by omega, by rw [cw_t hOc]; omega, by rw [cw_f hFc], k2⟩
  have hE : ∀ x, Inv (cw O C) x → ∃ y, sf x = some (.inr y) ∧ Q y := by
    intro x hI
    obtain ⟨c, g', hc, hci, rfl, hR⟩ := hI
    have eF : cw F c = cw F C := cw_sub sub1 hc hci
    have eO2 : cw O' c = cw O' C := by
      have l1 := lft c (by omega)
      have l2 := lft C (by omega)
      rw [eF] at l1
      omega
    have hR2 := skip c C g' hc (Nat.le_refl _) hci hR
    refine ⟨_, ?_, g', rfl, hR2⟩
    show l_X7_strikeAt_8 s (nI t) (nI P) (nI (min P (cw F c))) (nI (cw O' c)) (nI (cw O C)) g' = _
    unfold l_X7_strikeAt_8
    rw [(hR2.1.2 s (by omega)).1, h8, if_pos ((nle (by omega) (by omega)).mpr (Nat.le_refl _)), eF, eO2]
  obtain ⟨y, e1, g', rfl, a1, a2, a3, a4, a5⟩ := zw_run Inv Q (cw O C) hS hE (cw O C) 0 zN (nI 0, nI 0, nI 0, g) (by omega) (by have := zN_big; omega) ⟨0, g, by omega, rfl, by rw [cw_0, cw_0, Nat.min_zero], frm.refl _ _, rfl, fun j hj => by rw [if_neg (by omega)]; exact hA j hj, fun j hj => absurd hj (by omega), fun j j1 j2 j3 => ⟨(ho j j2 j3).1, (ho j j2 j3).2.1⟩⟩
  refine ⟨zsi (zsi g' s 8 (nI (cw O' C))) s 4 (nI (max m (min P (cw F C)))), ?_, ?_, ?_, a2, ?_, zsi_same, ?_, ?_⟩
  · unfold f_X7_strikeAt
    rw [show zw zN (fun x => l_X7_strikeAt_8 s (nI t) (nI P) x.1 x.2.1 x.2.2.1 x.2.2.2) (0, 0, 0, g) = _ from e1, zk_some]
    unfold j_X7_strikeAt_89
    rw [zl_eq, zl_eq, zsi_get (by omega), (a1.2 s (by omega)).1, h4, zmax_n (by omega) (by omega)]
  · exact ((a1.mono (fun b hb => by omega)).trans (frm.si (Or.inl rfl))).trans (frm.si (Or.inl rfl))
  · intro j j1 j2
    rw [zsi_get j2, zsi_get j1, (a1.2 s (by omega)).1]
  · rw [zsi_get (by omega), zsi_same]
  · intro c hc
    rw [zsi_at (by omega), zsi_at (by omega), a3 c hc, if_pos hc]
  · intro c hc hoc
    rw [zsi_at (by omega), zsi_at (by omega), zsi_at (by omega), zsi_at (by omega)]
    exact a4 c hc hc hoc
end CS
