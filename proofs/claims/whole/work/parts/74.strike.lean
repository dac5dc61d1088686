-- ===== both strike a line =====
section SR
variable {n p q : Nat} {ch ln : Nat → Nat} {C P : Nat}
theorem fst_ex (hv : vCh n p q ch) {l : Nat} (hi : ∃ i, i < n ∧ ch i = l) (c t : Nat) : ∃ u, fst n p q ch c l t u ∧ u < t + 288 := by
  obtain ⟨i, h1, h2⟩ := hi
  obtain ⟨⟨n1, n2⟩, ⟨p1, p2⟩, -⟩ := hv
  have hw := wt_lt n1 p1 (c * q + t) i h1
  have hf := wt_fac n1 p1 (c * q + t) i h1
  have hnp : n * p ≤ 48 * 6 := Nat.mul_le_mul n2 p2
  have hex : ∃ u, t ≤ u ∧ fac n p q ch c u l := ⟨t + wt n p (c * q + t) i, by omega, by
    constructor
    · rw [← Nat.add_assoc]; exact hf.1
    · unfold slg; rw [← Nat.add_assoc, hf.2, h2]⟩
  obtain ⟨u, ⟨u1, u2⟩, u3⟩ := pk_least _ hex
  refine ⟨u, ⟨u1, u2, fun s s1 s2 s3 => u3 s s2 ⟨s1, s3⟩⟩, ?_⟩
  rcases Nat.lt_or_ge (t + wt n p (c * q + t) i) u with h | h
  · exact absurd ⟨by omega, by
      constructor
      · rw [← Nat.add_assoc]; exact hf.1
      · unfold slg; rw [← Nat.add_assoc, hf.2, h2]⟩ (u3 _ h)
  · omega
def cLine (n p q C s la ca : Nat) (ch ln : Nat → Nat) (g : zG) : Prop := (g.2.1 s 0 = s + 1 ∧ g.2.1 s 1 = s + 2 ∧ g.2.1 s 6 = s + 3 ∧ g.2.1 s 7 = s + 4) ∧ vCh n p q ch ∧ cCh n p q ch ca g ∧ C ≤ 40 ∧ (∀ c, c < C → g.1 la c = nI (ln c) ∧ ln c ≤ 26) ∧ (∀ c, c < C → ln c ≠ 0 → ∃ i, i < n ∧ ch i = ln c) ∧ (la < s ∨ s + 4 < la) ∧ (ca < s ∨ s + 4 < ca) ∧ (g.2.1 ca 0 < s ∨ s + 4 < g.2.1 ca 0)
theorem cLine.kept {s la ca : Nat} {g g' : zG} (h : cLine n p q C s la ca ch ln g) (hf : frm (fun x => s ≤ x ∧ x ≤ s + 4) g g') : cLine n p q C s la ca ch ln g' := by
  obtain ⟨h1, h2, h3, h4, h5, h6, h7, h8, h9⟩ := h
  have e : ∀ b, b < s ∨ s + 4 < b → g'.1 b = g.1 b := fun b hb => (hf.2 b (show ¬ (s ≤ b ∧ b ≤ s + 4) by omega)).1
  unfold cLine cCh at *
  rw [hf.1, e ca h8, e la h7, e _ h9]
  exact ⟨h1, h2, h3, h4, h5, h6, h7, h8, h9⟩
def cSt (n p q C s : Nat) (g0 : zG) (ch ln : Nat → Nat) (b : Nat) (A : Nat → Option Nat) (W : Nat → Bool) (m T : Nat) (g : zG) : Prop := frm (fun x => s ≤ x ∧ x ≤ s + 4) g0 g ∧ g.1 s 2 = 1 ∧ g.1 s 3 = nI T ∧ g.1 s 4 = nI m ∧ g.1 s 8 = nI (cw (opn ln A) C) ∧ (∃ w, g.2.2 s 5 = lN w ∧ ∀ c, w.testBit c = W c) ∧ (∀ c, c < C → g.1 (s + 1) c = enc (A c) ∧ g.1 (s + 2) c = -4) ∧ ∀ c, c < C → opn ln A c = true → g.1 (s + 3) (cw (opn ln A) c) = nI c ∧ ∃ d, g.1 (s + 4) (cw (opn ln A) c) = nI d ∧ fst n p q ch c (ln c) b d
theorem c_redue {s la ca : Nat} {g : zG} {A A' : Nat → Option Nat} {W W' : Nat → Bool} {D D' : Nat → Nat} {t : Nat} (hL : cLine n p q C s la ca ch ln g) (ht : t < 1999990000) (h8 : g.1 s 8 = nI (cw (opn ln A') C)) (hw : ∃ w, g.2.2 s 5 = lN w ∧ ∀ c, w.testBit c = W c) (ho : ∀ c, c < C → opn ln A' c = true → g.1 (s + 3) (cw (opn ln A') c) = nI c ∧ g.1 (s + 4) (cw (opn ln A') c) = nI (D c) ∧ D c < 2147483648 ∧ fst n p q ch c (ln c) (t + 1) (D' c) ∧ (D c ≠ t → D' c = D c)) (hW1 : ∀ c, c < C → opn ln A' c = true → D c = t → W' c = true) (hW2 : ∀ c, ¬ (c < C ∧ opn ln A' c = true ∧ D c = t) → W' c = W c) (P' l5 l7 : Int32) : ∃ g', zw zN (fun x => l_X7_make_53 s ca la P' l5 (nI (t + 1)) l7 (nI t) x.1 x.2) (0, g) = some g' ∧ frm (fun x => x = s ∨ x = s + 4) g g' ∧ g'.1 s = g.1 s ∧ (∃ w, g'.2.2 s 5 = lN w ∧ ∀ c, w.testBit c = W' c) ∧ ∀ c, c < C → opn ln A' c = true → g'.1 (s + 4) (cw (opn ln A') c) = nI (D' c) := by
  generalize hO : opn ln A' = O at *
  have hC := hL.2.2.2.1
  have hle := cw_le O C
  let sf : Int32 × zG → Option ((Int32 × zG) ⊕ zG) := fun x => l_X7_make_53 s ca la P' l5 (nI (t + 1)) l7 (nI t) x.1 x.2
  let R : Nat → zG → Prop := fun c g' => frm (fun x => x = s ∨ x = s + 4) g g' ∧ g'.1 s = g.1 s ∧ (∃ w, g'.2.2 s 5 = lN w ∧ ∀ k, w.testBit k = if k < c then W' k else W k) ∧ ∀ j, j < C → O j = true → g'.1 (s + 4) (cw O j) = nI (if j < c then D' j else D j)
  let Inv : Nat → Int32 × zG → Prop := fun i x => ∃ c g', c ≤ C ∧ cw O c = i ∧ x = (nI i, g') ∧ R c g'
  let Q : zG → Prop := fun g' => R C g'
  have skip : ∀ c c2 g', c ≤ c2 → c2 ≤ C → cw O c = cw O c2 → R c g' → R c2 g' := by
    intro c c2 g' h1 h2 h3 hR
    obtain ⟨a1, a2, ⟨w, a3, a4⟩, a5⟩ := hR
    have hno : ∀ j, c ≤ j → j < c2 → O j = false := by
      intro j j1 j2
      cases h : O j with
      | false => rfl
      | true =>
        have e1 := cw_t h
        have e2 := cw_mono O j1
        have e3 := cw_mono O (show j + 1 ≤ c2 by omega)
        omega
    refine ⟨a1, a2, ⟨w, a3, fun k => ?_⟩, fun j j1 j2 => ?_⟩
    · rw [a4 k]
      by_cases e1 : k < c
      · rw [if_pos e1, if_pos (by omega)]
      · rw [if_neg e1]
        by_cases e2 : k < c2
        · rw [if_pos e2, hW2 k (fun z => by rw [hno k (by omega) e2] at z; exact absurd z.2.1 (by decide))]
        · rw [if_neg e2]
    · rw [a5 j j1 j2]
      by_cases e1 : j < c
      · rw [if_pos e1, if_pos (by omega)]
      · rw [if_neg e1]
        by_cases e2 : j < c2
        · rw [hno j (by omega) e2] at j2; cases j2
        · rw [if_neg e2]
  have hS : ∀ i x, i < cw O C → Inv i x → (∃ x', sf x = some (.inl x') ∧ Inv (i + 1) x') ∨ ∃ y, sf x = some (.inr y) ∧ Q y := by
    intro i x hi hI
    obtain ⟨c0, g', hc0, hci, rfl, hR⟩ := hI
    obtain ⟨c, hc, hOc, hcwc⟩ := cw_find hi
    left
    have hcc : c0 ≤ c := by
      rcases Nat.lt_or_ge c c0 with h | h
      · have e1 := cw_t hOc
        have e2 := cw_mono O (show c + 1 ≤ c0 by omega)
        omega
      · exact h
    have hR := skip c0 c g' hcc (by omega) (by omega) hR
    obtain ⟨a1, a2, ⟨w, a3, a4⟩, a5⟩ := hR
    have b5 := a5 c hc hOc
    rw [hcwc, if_neg (by omega)] at b5
    obtain ⟨d1, d2, d3, d4, d5⟩ := ho c hc hOc
    rw [hcwc] at d1
    have e3 : g'.1 (s + 3) i = nI c := by rw [(a1.2 (s + 3) (by omega)).1]; exact d1
    have hLk := hL.kept (a1.mono (fun b hb => by omega))
    obtain ⟨⟨g0, g1, g6, g7⟩, k2, k3, k4, k5, k6, k7, k8, k9⟩ := hLk
    show ∃ x', l_X7_make_53 s ca la P' l5 (nI (t + 1)) l7 (nI t) (nI i) g' = some (.inl x') ∧ Inv (i + 1) x'
    unfold l_X7_make_53
    rw [a2, h8, if_neg (fun e => by have := (nle (by omega) (by omega)).mp e; omega)]
    simp only [zc_pos (zlit i 40 (by omega) (by omega)), nI_cl (show i < 2147483648 by omega), nI_1, zl_eq]
    rw [g6, e3, g7, b5]
    simp only [zc_pos (zlit c 40 (by omega) (by omega)), nI_cl (show c < 2147483648 by omega)]
    by_cases hd : D c = t
    · rw [if_pos (by rw [hd]), zsl_i, (k5 c hc).1]
      have hLz := hL.kept ((a1.mono (fun b hb => by omega)).trans (frm.sl (k := 5) (x := g'.2.2 s 5 ||| zlshl 1 (nI c)) (show s ≤ s ∧ s ≤ s + 4 by omega)))
      have hl26 := (k5 c hc).2
      have hnx : f_X0_nextTick ca (nI c) (nI (ln c)) (nI (t + 1)) (zsl g' s 5 (g'.2.2 s 5 ||| zlshl 1 (nI c))) = some (nI (D' c), zsl g' s 5 (g'.2.2 s 5 ||| zlshl 1 (nI c))) := by
        rcases q_nextTick (c := c) (l := ln c) (t := t + 1) hLz.2.1 hLz.2.2.1 (by omega) hl26 (by omega) with ⟨u, u1, u2, u3⟩ | ⟨u1, u2⟩
        · rw [u1, fst_uniq u2 d4]
        · exact absurd d4.2.1.2 (u2 _ (slg_lt k2.1.1 _ _))
      rw [hnx, zb_some, zsl_r, g7]
      refine ⟨_, rfl, c + 1, _, by omega, by rw [cw_t hOc]; omega, rfl, (a1.trans (frm.sl (Or.inl rfl))).trans (frm.si (Or.inr rfl)), ?_, ⟨w ||| 2 ^ c, ?_, fun k => ?_⟩, fun j j1 j2 => ?_⟩
      · rw [zsi_at (by omega), zsl_i]; exact a2
      · show (zsl g' s 5 (g'.2.2 s 5 ||| zlshl 1 (nI c))).2.2 s 5 = _
        rw [zsl_same, a3, zlshl_1 c (by omega), lN_or]
      · rw [Nat.testBit_or, a4 k, Nat.testBit_two_pow]
        rcases Nat.lt_trichotomy k c with h | h | h
        · rw [if_pos h, if_pos (by omega), decide_eq_false (by omega), Bool.or_false]
        · rw [if_neg (by omega), if_pos (by omega), decide_eq_true h.symm, Bool.or_true, h, hW1 c hc hOc hd]
        · rw [if_neg (by omega), if_neg (by omega), decide_eq_false (by omega), Bool.or_false]
      · by_cases e : j = c
        · subst e; rw [hcwc, zsi_same, if_pos (by omega)]
        · have hne : cw O j ≠ i := by
            intro h
            rcases Nat.lt_or_ge j c with h5 | h5
            · have := cw_mono O (show j + 1 ≤ c by omega)
              rw [cw_t j2] at this; omega
            · have := cw_mono O (show c + 1 ≤ j by omega)
              rw [cw_t hOc] at this; omega
          rw [zsi_get hne, zsl_i, a5 j j1 j2]
          by_cases h : j < c
          · rw [if_pos h, if_pos (by omega)]
          · rw [if_neg h, if_neg (by omega)]
    · rw [if_neg (fun e => hd ((nI_inj d3 (by omega)).mp e))]
      refine ⟨_, rfl, c + 1, g', by omega, by rw [cw_t hOc]; omega, rfl, a1, a2, ⟨w, a3, fun k => ?_⟩, fun j j1 j2 => ?_⟩
      · rw [a4 k]
        rcases Nat.lt_trichotomy k c with h | h | h
        · rw [if_pos h, if_pos (by omega)]
        · rw [if_neg (by omega), if_pos (by omega), hW2 k (fun z => hd (by rw [← h]; exact z.2.2))]
        · rw [if_neg (by omega), if_neg (by omega)]
      · rw [a5 j j1 j2]
        rcases Nat.lt_trichotomy j c with h | h | h
        · rw [if_pos h, if_pos (by omega)]
        · rw [if_neg (by omega), if_pos (by omega), h, d5 hd]
        · rw [if_neg (by omega), if_neg (by omega)]
  have hE : ∀ x, Inv (cw O C) x → ∃ y, sf x = some (.inr y) ∧ Q y := by
    intro x hI
    obtain ⟨c, g', hc, hci, rfl, hR⟩ := hI
    have hR2 := skip c C g' hc (Nat.le_refl _) hci hR
    refine ⟨g', ?_, hR2⟩
    show l_X7_make_53 s ca la P' l5 (nI (t + 1)) l7 (nI t) (nI (cw O C)) g' = _
    unfold l_X7_make_53
    rw [hR2.2.1, h8, if_pos ((nle (by omega) (by omega)).mpr (Nat.le_refl _))]
  obtain ⟨w0, hw1, hw2⟩ := hw
  obtain ⟨g', e1, a1, a2, ⟨w, a3, a4⟩, a5⟩ := zw_run Inv Q (cw O C) hS hE (cw O C) 0 zN (nI 0, g) (by omega) (by have := zN_big; omega) ⟨0, g, by omega, rfl, rfl, frm.refl _ _, rfl, ⟨w0, hw1, fun k => by rw [if_neg (by omega)]; exact hw2 k⟩, fun j j1 j2 => by rw [if_neg (by omega)]; exact (ho j j1 j2).2.1⟩
  refine ⟨g', e1, a1, a2, ⟨w, a3, fun k => ?_⟩, fun c c1 c2 => by rw [a5 c c1 c2, if_pos c1]⟩
  rw [a4 k]
  by_cases h : k < C
  · rw [if_pos h]
  · rw [if_neg h, hW2 k (fun z => h z.1)]
theorem strike_run (hv : vCh n p q ch) (hC : C ≤ 40) (hP : 1 ≤ P ∧ P ≤ 40) (hon : ∀ c, c < C → ln c ≠ 0 → ∃ i, i < n ∧ ch i = ln c) : ∀ (L b : Nat) (A : Nat → Option Nat) (W : Nat → Bool) (m : Nat), cw (opn ln A) C = L → b + 300 * L < 1900000000 → m ≤ 40 → (∀ c s, A c = some s → s < 2147483648) → ∃ b' A' W' m', (b ≤ b' ∧ b' ≤ b + 288 * L) ∧ (∀ c, c < C → ln c ≠ 0 → ∃ t, A' c = some t) ∧ (∀ c t, A' c = some t → A c = some t ∨ (t < b' ∧ ln c ≠ 0 ∧ (c * q + t) % p = 0)) ∧ m' ≤ 40 ∧ (∀ c, W' c = true → W c = true ∨ (c < C ∧ ln c ≠ 0)) ∧ (∀ s la ca g0 g T, cLine n p q C s la ca ch ln g0 → cSt n p q C s g0 ch ln b A W m T g → ∀ k N l5, k + L ≤ 40 → L < N → ∃ g', zw N (fun x => l_X7_make_16 s ca la (nI P) l5 x.1 x.2.1 x.2.2) (nI b, nI k, g) = some (nI b', g') ∧ cSt n p q C s g0 ch ln b' A' W' m' T g') ∧ (∀ M g0 g, mLine n p q C M ch ln g0 → mSt n p q C M g0 A W m g → ∀ N, 288 * L < N → ∃ g', zw N (fun x => l_X10_strikes_62 M (nI P) x.1 x.2.1 x.2.2) (nI L, nI b, g) = some (nI b', g') ∧ mSt n p q C M g0 A' W' m' g') := by
  intro L
  induction L using Nat.strongRecOn with
  | _ L ih =>
    intro b A W m hLe hb hm hA
    rcases Nat.eq_zero_or_pos L with h0 | h0
    · subst h0
      have hno := cw_none hLe
      refine ⟨b, A, W, m, ⟨Nat.le_refl _, by omega⟩, fun c hc hl => ?_, fun c t h => Or.inl h, hm, fun c h => Or.inl h, fun s la ca g0 g T hcl hcs k N l5 hk hN => ⟨g, ?_, hcs⟩, fun M g0 g hml hms N hN => ⟨g, ?_, hms⟩⟩
      · cases hA2 : A c with
        | some t => exact ⟨t, rfl⟩
        | none =>
          have : opn ln A c = true := opn_iff.mpr ⟨hl, hA2⟩
          rw [hno c hc] at this; cases this
      · obtain ⟨N, rfl⟩ : ∃ K, N = K + 1 := ⟨N - 1, by omega⟩
        apply zw_end
        show l_X7_make_16 s ca la (nI P) l5 (nI b) (nI k) g = _
        unfold l_X7_make_16
        rw [hcs.2.2.2.2.1, hLe]
        by_cases h : (40 : Int32) ≤ nI k
        · rw [if_pos h]
        · rw [if_neg h, if_pos (by decide)]
      · obtain ⟨N, rfl⟩ : ∃ K, N = K + 1 := ⟨N - 1, by omega⟩
        apply zw_end
        show l_X10_strikes_62 M (nI P) (nI 0) (nI b) g = _
        unfold l_X10_strikes_62
        rw [if_pos (by decide)]
    · -- the first ticks of all that is not struck
      have HD : ∀ c, ∃ d, c < C → opn ln A c = true → fst n p q ch c (ln c) b d ∧ d < b + 288 := by
        intro c
        by_cases h : c < C ∧ opn ln A c = true
        · obtain ⟨d, hd⟩ := fst_ex hv (hon c h.1 (opn_iff.mp h.2).1) c b
          exact ⟨d, fun _ _ => hd⟩
        · exact ⟨0, fun a1 a2 => absurd ⟨a1, a2⟩ h⟩
      obtain ⟨D, hD⟩ := Classical.skolem.mp HD
      have hex : ∃ t, ∃ c, c < C ∧ opn ln A c = true ∧ D c = t := by
        obtain ⟨c, h1, h2, h3⟩ := cw_find (f := opn ln A) (C := C) (i := 0) (by omega)
        exact ⟨D c, c, h1, h2, rfl⟩
      obtain ⟨t, ⟨c1, c1C, c1o, c1D⟩, tmin⟩ := pk_least _ hex
      have tle : ∀ c, c < C → opn ln A c = true → t ≤ D c := fun c h1 h2 => Nat.le_of_not_lt (fun h => tmin (D c) h ⟨c, h1, h2, rfl⟩)
      have tb : b ≤ t := by rw [← c1D]; exact (hD c1 c1C c1o).1.1
      have tb2 : t < b + 288 := by rw [← c1D]; exact (hD c1 c1C c1o).2
      have idle : ∀ u, b ≤ u → u < t → ∀ c, c < C → fo n p q ch ln A u c = false := by
        intro u u1 u2 c hc
        cases h : fo n p q ch ln A u c with
        | false => rfl
        | true =>
          obtain ⟨h1, h2⟩ := fo_iff.mp h
          have h3 := tle c hc h1
          exact absurd h2 ((hD c hc h1).1.2.2 u u1 (by omega))
      have hDF : ∀ c, c < C → opn ln A c = true → (D c = t ↔ fo n p q ch ln A t c = true) := by
        intro c hc ho
        constructor
        · intro h
          exact fo_iff.mpr ⟨ho, by rw [← h]; exact (hD c hc ho).1.2.1⟩
        · intro h
          have h3 := tle c hc ho
          rcases Nat.lt_or_ge t (D c) with h4 | h4
          · exact absurd (fo_iff.mp h).2 ((hD c hc ho).1.2.2 t tb h4)
          · omega
      have hF1 : 0 < cw (fo n p q ch ln A t) C := by
        have h1 := (hDF c1 c1C c1o).mp c1D
        have h2 := cw_mono (fo n p q ch ln A t) (show c1 + 1 ≤ C by omega)
        rw [cw_t h1] at h2
        omega
      have hlft := left_tA (n := n) (p := p) (q := q) (ch := ch) (ln := ln) (C := C) (P := P) (A := A) (t := t) (Nat.le_refl C)
      have hL' : cw (opn ln (tA n p q ch ln C P A t)) C < L := by omega
      have hA' : ∀ c s, tA n p q ch ln C P A t c = some s → A c = some s ∨ (s = t ∧ c < C ∧ fo n p q ch ln A t c = true) := by
        intro c s h
        by_cases hh : c < C ∧ fo n p q ch ln A t c = true ∧ cw (fo n p q ch ln A t) c < P
        · rw [tA_hit hh.1 hh.2.1 hh.2.2] at h
          cases h
          exact Or.inr ⟨rfl, hh.1, hh.2.1⟩
        · rw [tA_miss hh] at h
          exact Or.inl h
      obtain ⟨b', A', W', m', ⟨k1, k2⟩, k3, k4, k5, k6, k7, k8⟩ := ih _ hL' (t + 1) (tA n p q ch ln C P A t) (tW n p q ch ln C P A W t) (max m (min P (cw (fo n p q ch ln A t) C))) rfl (by omega) (by omega) (fun c s h => by
        rcases hA' c s h with h1 | ⟨h1, -⟩
        · exact hA c s h1
        · omega)
      refine ⟨b', A', W', m', ⟨by omega, by omega⟩, k3, fun c s h => ?_, k5, fun c h => ?_, ?_, ?_⟩
      · rcases k4 c s h with h1 | h1
        · rcases hA' c s h1 with h2 | ⟨h2, h3, h4⟩
          · exact Or.inl h2
          · obtain ⟨h5, h6⟩ := fo_iff.mp h4
            exact Or.inr ⟨by omega, (opn_iff.mp h5).1, by rw [h2]; exact h6.1⟩
        · exact Or.inr h1
      · rcases k6 c h with h1 | h1
        · by_cases hh : c < C ∧ fo n p q ch ln A t c = true ∧ P ≤ cw (fo n p q ch ln A t) c
          · exact Or.inr ⟨hh.1, (opn_iff.mp (fo_opn hh.2.1)).1⟩
          · rw [tW_miss hh] at h1; exact Or.inl h1
        · exact Or.inr h1
      · intro s la ca g0 g T hcl hcs k N l5 hk hN
        obtain ⟨N, rfl⟩ : ∃ K, N = K + 1 := ⟨N - 1, by omega⟩
        have hcl1 := hcl.kept hcs.1
        obtain ⟨f1, f2, f3, f4, f8, f5, f6, f7⟩ := hcs
        obtain ⟨⟨r0, r1, r6, r7⟩, -⟩ := hcl1
        have hdu : ∀ c, c < C → opn ln A c = true → g.1 (s + 3) (cw (opn ln A) c) = nI c ∧ g.1 (s + 4) (cw (opn ln A) c) = nI (D c) := by
          intro c hc ho
          obtain ⟨a1, d, a2, a3⟩ := f7 c hc ho
          exact ⟨a1, by rw [a2, fst_uniq a3 (hD c hc ho).1]⟩
        -- the least
        have Hd : ∀ i, ∃ d, i < L → ∃ c, c < C ∧ opn ln A c = true ∧ cw (opn ln A) c = i ∧ d = D c := by
          intro i
          by_cases h : i < L
          · obtain ⟨c, h1, h2, h3⟩ := cw_find (f := opn ln A) (C := C) (i := i) (by omega)
            exact ⟨D c, fun _ => ⟨c, h1, h2, h3, rfl⟩⟩
          · exact ⟨0, fun h1 => absurd h1 h⟩
        obtain ⟨d, hd⟩ := Classical.skolem.mp Hd
        have hle := cw_le (opn ln A) C
        obtain ⟨i, hi, e1, e2⟩ := c_earliest (s := s) (g := g) (L := L) (d := d) (by omega) (by omega) (by rw [f8, hLe]) r7 (fun i hi => by
          obtain ⟨c, h1, h2, h3, h4⟩ := hd i hi
          have := (hD c h1 h2).2
          rw [h4, ← h3]
          exact ⟨(hdu c h1 h2).2, by omega⟩)
        have hdt : d i = t := by
          obtain ⟨c, h1, h2, h3, h4⟩ := hd i hi
          have g1 := tle c h1 h2
          have hidx : cw (opn ln A) c1 < L := by
            have := cw_mono (opn ln A) (show c1 + 1 ≤ C by omega)
            rw [cw_t c1o] at this
            omega
          have g2 := e2 _ hidx
          obtain ⟨c', h5, h6, h7, h8⟩ := hd _ hidx
          have hcc : c' = c1 := by
            rcases Nat.lt_trichotomy c' c1 with h | h | h
            · have := cw_mono (opn ln A) (show c' + 1 ≤ c1 by omega)
              rw [cw_t h6] at this; omega
            · exact h
            · have := cw_mono (opn ln A) (show c1 + 1 ≤ c' by omega)
              rw [cw_t c1o] at this; omega
          rw [h8, hcc, c1D] at g2
          omega
        rw [hdt] at e1
        obtain ⟨g1, s1, s2, s3, s4, s5, s6, s7, s8⟩ := c_strikeAt (n := n) (p := p) (q := q) (ch := ch) (ln := ln) (C := C) (P := P) (s := s) (g := g) (A := A) (D := D) (m := m) (t := t) hC hP.2 hm r0 r6 r7 f8 f4 (fun c hc => (f6 c hc).1) (fun c hc ho => ⟨(hdu c hc ho).1, (hdu c hc ho).2, by have := (hD c hc ho).2; omega, hDF c hc ho⟩) (by omega)
        have HD' : ∀ c, ∃ u, c < C → opn ln (tA n p q ch ln C P A t) c = true → fst n p q ch c (ln c) (t + 1) u := by
          intro c
          by_cases h : c < C ∧ opn ln (tA n p q ch ln C P A t) c = true
          · obtain ⟨u, hu⟩ := fst_ex hv (hon c h.1 (opn_iff.mp h.2).1) c (t + 1)
            exact ⟨u, fun _ _ => hu.1⟩
          · exact ⟨0, fun a1 a2 => absurd ⟨a1, a2⟩ h⟩
        obtain ⟨D', hD'⟩ := Classical.skolem.mp HD'
        have hop : ∀ c, c < C → opn ln (tA n p q ch ln C P A t) c = true → opn ln A c = true ∧ (fo n p q ch ln A t c = true → P ≤ cw (fo n p q ch ln A t) c) := by
          intro c hc ho
          rw [opn_tA hc, Bool.and_eq_true] at ho
          refine ⟨ho.1, fun hf => ?_⟩
          have h2 := ho.2
          rw [hf] at h2
          rcases Nat.lt_or_ge (cw (fo n p q ch ln A t) c) P with h | h
          · rw [decide_eq_true h] at h2; cases h2
          · exact h
        obtain ⟨w0, w1, w2⟩ := f5
        obtain ⟨g2, t1, t2, t3, t4, t5⟩ := c_redue (n := n) (p := p) (q := q) (ch := ch) (ln := ln) (C := C) (s := s) (la := la) (ca := ca) (g := g1) (A := A) (A' := tA n p q ch ln C P A t) (W := W) (W' := tW n p q ch ln C P A W t) (D := D) (D' := D') (t := t) (hcl.kept (f1.trans (s2.mono (fun x hx => by omega)))) (by omega) s5 ⟨w0, by rw [s4]; exact w1, w2⟩ (fun c hc ho => ⟨(s8 c hc ho).1, (s8 c hc ho).2, by have := (hD c hc (hop c hc ho).1).2; omega, hD' c hc ho, fun hne => by
            have hf := (hD c hc (hop c hc ho).1).1
            have := tle c hc (hop c hc ho).1
            exact fst_uniq (hD' c hc ho) ⟨by omega, hf.2.1, fun u u1 u2 => hf.2.2 u (by omega) u2⟩⟩) (fun c hc ho hd => by
            have hf := (hDF c hc (hop c hc ho).1).mp hd
            exact tW_hit hc hf ((hop c hc ho).2 hf)) (fun c hno => tW_miss (fun z => hno ⟨z.1, by
              rw [opn_tA z.1, fo_opn z.2.1, z.2.1, decide_eq_false (show ¬ cw (fo n p q ch ln A t) c < P by omega)]; rfl, (hDF c z.1 (fo_opn z.2.1)).mpr z.2.1⟩)) (nI P) l5 (nI k)
        have est : l_X7_make_16 s ca la (nI P) l5 (nI b) (nI k) g = some (.inl (nI (t + 1), nI (k + 1), g2)) := by
          unfold l_X7_make_16
          rw [if_neg (show ¬ (40 : Int32) ≤ nI k from fun e => by have := (nle (a := 40) (by omega) (by omega)).mp e; omega), f8, hLe, if_neg (show ¬ nI L ≤ (0 : Int32) from fun e => by have := (nle (b := 0) (by omega) (by omega)).mp e; omega), e1, zb_some, s1, zb_some, nI_1, zl_eq, t1, zk_some]
          unfold j_X7_make_121_16
          rw [zl_eq, nI_1]
        have hcs2 : cSt n p q C s g0 ch ln (t + 1) (tA n p q ch ln C P A t) (tW n p q ch ln C P A W t) (max m (min P (cw (fo n p q ch ln A t) C))) T g2 := by
          refine ⟨(f1.trans (s2.mono (fun x hx => by omega))).trans (t2.mono (fun x hx => by omega)), ?_, ?_, ?_, ?_, t4, fun c hc => ⟨?_, ?_⟩, fun c hc ho => ⟨?_, D' c, t5 c hc ho, hD' c hc ho⟩⟩
          · rw [t3, s3 2 (by omega) (by omega)]; exact f2
          · rw [t3, s3 3 (by omega) (by omega)]; exact f3
          · rw [t3]; exact s6
          · rw [t3]; exact s5
          · rw [(t2.2 (s + 1) (by omega)).1]; exact s7 c hc
          · rw [(t2.2 (s + 2) (by omega)).1, (s2.2 (s + 2) (by omega)).1]; exact (f6 c hc).2
          · rw [(t2.2 (s + 3) (by omega)).1]; exact (s8 c hc ho).1
        obtain ⟨g3, e3, e4⟩ := k7 s la ca g0 g2 T hcl hcs2 (k + 1) N l5 (by omega) (by omega)
        exact ⟨g3, by rw [zw_step (s' := (nI (t + 1), nI (k + 1), g2)) est N]; exact e3, e4⟩
      · intro M g0 g hml hms N hN
        obtain ⟨gi, i1, i2⟩ := m_idle (P := P) hml hA hP.2 hm (by omega) (t - b) b g hms (by omega) (fun u u1 u2 => idle u u1 (by omega))
        obtain ⟨g1, s1, s2⟩ := m_tick (P := P) hml i1 hA hP.2 hm (show t < 2000000000 by omega) (by omega)
        obtain ⟨N2, hN2⟩ : ∃ K, N = (K + 1) + (t - b) := ⟨N - 1 - (t - b), by omega⟩
        obtain ⟨g2, e1, e2⟩ := k8 M g0 g1 hml s2 N2 (by omega)
        refine ⟨g2, ?_, e2⟩
        rw [← hLe, hN2, i2 (N2 + 1), show b + (t - b) = t by omega, zw_step (s' := (nI (cw (opn ln (tA n p q ch ln C P A t)) C), nI (t + 1), g1)) s1 N2]
        exact e1
end SR
