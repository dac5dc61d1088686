-- ===== a line struck, tick by tick =====
theorem zw_step {σ ρ : Type} {step : σ → Option (σ ⊕ ρ)} {s s' : σ} (h : step s = some (.inl s')) (N : Nat) : zw (N + 1) step s = zw N step s' := by
  rw [zw, h]
theorem zw_end {σ ρ : Type} {step : σ → Option (σ ⊕ ρ)} {s : σ} {r : ρ} (h : step s = some (.inr r)) (N : Nat) : zw (N + 1) step s = some r := by
  rw [zw, h]
def enc (o : Option Nat) : Int32 := match o with
  | none => -4
  | some t => nI t
section TK
variable (n p q : Nat) (ch ln : Nat → Nat) (C P : Nat)
def opn (A : Nat → Option Nat) (c : Nat) : Bool := decide (ln c ≠ 0) && (A c).isNone
def fo (A : Nat → Option Nat) (t c : Nat) : Bool := opn ln A c && (decide ((c * q + t) % p = 0) && decide (ch (slg n p q c t) = ln c))
def tA (A : Nat → Option Nat) (t c : Nat) : Option Nat := if c < C ∧ fo n p q ch ln A t c = true ∧ cw (fo n p q ch ln A t) c < P then some t else A c
def tW (A : Nat → Option Nat) (W : Nat → Bool) (t c : Nat) : Bool := W c || (decide (c < C) && (fo n p q ch ln A t c && decide (P ≤ cw (fo n p q ch ln A t) c)))
end TK
theorem cw_mono (f : Nat → Bool) {a b : Nat} (h : a ≤ b) : cw f a ≤ cw f b := by
  obtain ⟨d, rfl⟩ : ∃ d, b = a + d := ⟨b - a, by omega⟩
  rw [cw_add]; omega
theorem cw_sub {f h : Nat → Bool} (hf : ∀ c, f c = true → h c = true) {a b : Nat} (hab : a ≤ b) (e : cw h a = cw h b) : cw f a = cw f b := by
  obtain ⟨d, rfl⟩ : ∃ d, b = a + d := ⟨b - a, by omega⟩
  induction d with
  | zero => rfl
  | succ d ih =>
    have h1 : cw h a ≤ cw h (a + d) := cw_mono h (by omega)
    have h2 : cw h (a + d) ≤ cw h (a + (d + 1)) := cw_mono h (by omega)
    have h3 := ih (by omega) (by omega)
    rw [h3, ← Nat.add_assoc]
    cases hh : h (a + d) with
    | true => have := cw_t hh; rw [← Nat.add_assoc] at e; omega
    | false =>
      cases hq : f (a + d) with
      | true => rw [hf _ hq] at hh; cases hh
      | false => rw [cw_f hq]
theorem cw_find {f : Nat → Bool} {C i : Nat} (h : i < cw f C) : ∃ c, c < C ∧ f c = true ∧ cw f c = i := by
  induction C with
  | zero => exact absurd h (by rw [cw_0]; omega)
  | succ C ih =>
    cases hf : f C with
    | false =>
      rw [cw_f hf] at h
      obtain ⟨c, h1, h2, h3⟩ := ih h
      exact ⟨c, by omega, h2, h3⟩
    | true =>
      rw [cw_t hf] at h
      rcases Nat.lt_or_ge i (cw f C) with h4 | h4
      · obtain ⟨c, h1, h2, h3⟩ := ih h4
        exact ⟨c, by omega, h2, h3⟩
      · exact ⟨C, by omega, hf, by omega⟩
theorem cw_none {f : Nat → Bool} {C : Nat} (h : cw f C = 0) : ∀ c, c < C → f c = false := by
  intro c hc
  cases hf : f c with
  | false => rfl
  | true =>
    have h1 := cw_t hf
    have h2 := cw_mono f (show c + 1 ≤ C by omega)
    omega
theorem cw_zero {f : Nat → Bool} {C : Nat} (h : ∀ c, c < C → f c = false) : cw f C = 0 := by
  induction C with
  | zero => rfl
  | succ C ih => rw [cw_f (h C (by omega)), ih (fun c hc => h c (by omega))]
section TK2
variable {n p q : Nat} {ch ln : Nat → Nat} {C P : Nat}
theorem opn_iff {A : Nat → Option Nat} {c : Nat} : opn ln A c = true ↔ ln c ≠ 0 ∧ A c = none := by
  unfold opn
  rw [Bool.and_eq_true, decide_eq_true_iff, Option.isNone_iff_eq_none]
theorem fo_iff {A : Nat → Option Nat} {t c : Nat} : fo n p q ch ln A t c = true ↔ opn ln A c = true ∧ fac n p q ch c t (ln c) := by
  unfold fo fac
  rw [Bool.and_eq_true, Bool.and_eq_true, decide_eq_true_iff, decide_eq_true_iff]
theorem fo_opn {A : Nat → Option Nat} {t c : Nat} (h : fo n p q ch ln A t c = true) : opn ln A c = true := (fo_iff.mp h).1
theorem tA_hit {A : Nat → Option Nat} {t c : Nat} (h1 : c < C) (h2 : fo n p q ch ln A t c = true) (h3 : cw (fo n p q ch ln A t) c < P) : tA n p q ch ln C P A t c = some t := if_pos ⟨h1, h2, h3⟩
theorem tA_miss {A : Nat → Option Nat} {t c : Nat} (h : ¬ (c < C ∧ fo n p q ch ln A t c = true ∧ cw (fo n p q ch ln A t) c < P)) : tA n p q ch ln C P A t c = A c := if_neg h
theorem tW_hit {A : Nat → Option Nat} {W : Nat → Bool} {t c : Nat} (h1 : c < C) (h2 : fo n p q ch ln A t c = true) (h3 : P ≤ cw (fo n p q ch ln A t) c) : tW n p q ch ln C P A W t c = true := by
  unfold tW; rw [decide_eq_true h1, h2, decide_eq_true h3]; simp
theorem tW_miss {A : Nat → Option Nat} {W : Nat → Bool} {t c : Nat} (h : ¬ (c < C ∧ fo n p q ch ln A t c = true ∧ P ≤ cw (fo n p q ch ln A t) c)) : tW n p q ch ln C P A W t c = W c := by
  unfold tW
  by_cases h1 : c < C
  · cases h2 : fo n p q ch ln A t c with
    | false => simp
    | true =>
      have h3 : ¬ P ≤ cw (fo n p q ch ln A t) c := fun e => h ⟨h1, h2, e⟩
      rw [decide_eq_false h3]; simp
  · rw [decide_eq_false h1]; simp
theorem opn_tA {A : Nat → Option Nat} {t c : Nat} (hc : c < C) : opn ln (tA n p q ch ln C P A t) c = (opn ln A c && !(fo n p q ch ln A t c && decide (cw (fo n p q ch ln A t) c < P))) := by
  cases hf : fo n p q ch ln A t c with
  | false =>
    unfold opn
    rw [tA_miss (fun z => by rw [hf] at z; exact absurd z.2.1 (by decide))]
    simp
  | true =>
    have ho := fo_opn hf
    by_cases h : cw (fo n p q ch ln A t) c < P
    · unfold opn
      rw [tA_hit hc hf h, decide_eq_true h]
      simp
    · unfold opn
      rw [tA_miss (fun z => h z.2.2), decide_eq_false h]
      simp
/-- open columns less those that are struck -/
theorem left_tA {A : Nat → Option Nat} {t k : Nat} (hk : k ≤ C) : cw (opn ln (tA n p q ch ln C P A t)) k + min P (cw (fo n p q ch ln A t) k) = cw (opn ln A) k := by
  induction k with
  | zero => rw [cw_0, cw_0, cw_0]; omega
  | succ k ih =>
    have ih := ih (by omega)
    have e := opn_tA (n := n) (p := p) (q := q) (ch := ch) (ln := ln) (C := C) (P := P) (A := A) (t := t) (c := k) (by omega)
    cases ho : opn ln A k with
    | false =>
      have hf : fo n p q ch ln A t k = false := by
        cases hf : fo n p q ch ln A t k with
        | false => rfl
        | true => rw [fo_opn hf] at ho; cases ho
      rw [ho] at e
      rw [cw_f ho, cw_f hf, cw_f (by rw [e]; rfl)]
      exact ih
    | true =>
      cases hf : fo n p q ch ln A t k with
      | false =>
        rw [ho, hf] at e
        rw [cw_t ho, cw_f hf, cw_t (by rw [e]; rfl)]
        omega
      | true =>
        rw [ho, hf] at e
        by_cases h : cw (fo n p q ch ln A t) k < P
        · rw [cw_t ho, cw_t hf, cw_f (by rw [e, decide_eq_true h]; rfl)]
          omega
        · rw [cw_t ho, cw_t hf, cw_t (by rw [e, decide_eq_false h]; rfl)]
          omega
theorem tA_idle {A : Nat → Option Nat} {t : Nat} (h : ∀ c, c < C → fo n p q ch ln A t c = false) : tA n p q ch ln C P A t = A := by
  funext c
  unfold tA
  exact if_neg (fun z => by rw [h c z.1] at z; exact absurd z.2.1 (by decide))
theorem tW_idle {A : Nat → Option Nat} {W : Nat → Bool} {t : Nat} (h : ∀ c, c < C → fo n p q ch ln A t c = false) : tW n p q ch ln C P A W t = W := by
  funext c
  unfold tW
  by_cases hc : c < C
  · rw [h c hc]; simp
  · simp [hc]
end TK2
-- ===== the reference strikes =====
section MS
variable {n p q : Nat} {ch ln : Nat → Nat} {C P M : Nat}
theorem rM.at {g : zG} (h : rM M g) : g.2.1 M 40 = M + 24 := by unfold rM at h; simp only [h]
theorem rM.me {g : zG} (h : rM M g) : g.2.1 M 41 = M + 25 := by unfold rM at h; simp only [h]
theorem rM.hw {g : zG} (h : rM M g) : g.2.1 M 42 = M + 26 := by unfold rM at h; simp only [h]
/-- where the reference stands in a line, begun at heap g0 -/
def mSt (n p q C M : Nat) (g0 : zG) (A : Nat → Option Nat) (W : Nat → Bool) (m : Nat) (g : zG) : Prop := frm (fun b => b = M ∨ b = M + 24 ∨ b = M + 25 ∨ b = M + 26) g0 g ∧ (∀ j, j ≠ 43 → g.1 M j = g0.1 M j) ∧ g.1 M 43 = nI m ∧ ∀ c, c < C → g.1 (M + 24) c = enc (A c) ∧ g.1 (M + 26) c = bI (W c) ∧ ∀ t, A c = some t → g.1 (M + 25) c = nI (slg n p q c t)
theorem mSt.same {g0 g : zG} {A A' : Nat → Option Nat} {W W' : Nat → Bool} {m : Nat} (h : mSt n p q C M g0 A W m g) (hA : ∀ c, c < C → A c = A' c) (hW : ∀ c, c < C → W c = W' c) : mSt n p q C M g0 A' W' m g := ⟨h.1, h.2.1, h.2.2.1, fun c hc => by rw [← hA c hc, ← hW c hc]; exact h.2.2.2 c hc⟩
/-- what the reference must hold when it strikes -/
def mLine (n p q C M : Nat) (ch ln : Nat → Nat) (g : zG) : Prop := rM M g ∧ vCh n p q ch ∧ mCh n p q ch M g ∧ g.1 (M + 2) 3 = nI C ∧ C ≤ 40 ∧ ∀ c, c < C → g.1 (M + 21) c = nI (ln c) ∧ ln c ≤ 26
theorem mLine.kept {g0 g : zG} {A : Nat → Option Nat} {W : Nat → Bool} {m : Nat} (h : mLine n p q C M ch ln g0) (hs : mSt n p q C M g0 A W m g) : mLine n p q C M ch ln g := by
  obtain ⟨h1, h2, h3, h4, h5, h6⟩ := h
  have e : ∀ b, ¬ (b = M ∨ b = M + 24 ∨ b = M + 25 ∨ b = M + 26) → g.1 b = g0.1 b := fun b hb => (hs.1.2 b hb).1
  refine ⟨h1.kept hs.1.1, h2, ?_, ?_, h5, ?_⟩
  · unfold mCh at *
    rw [hs.2.1 0 (by omega), e (M + 2) (by omega), e (M + 1) (by omega)]; exact h3
  · rw [e (M + 2) (by omega)]; exact h4
  · rw [e (M + 21) (by omega)]; exact h6
theorem enc_4 {o : Option Nat} (ho : ∀ t, o = some t → t < 2147483648) : enc o = -4 ↔ o = none := by
  cases o with
  | none => exact ⟨fun _ => rfl, fun _ => rfl⟩
  | some t => exact ⟨fun h => absurd h (nm4 (ho t rfl)), fun h => by cases h⟩
def mixA (A A' : Nat → Option Nat) (c j : Nat) : Option Nat := if j < c then A' j else A j
def mixW (A A' : Nat → Bool) (c j : Nat) : Bool := if j < c then A' j else A j
theorem min_s1 {P a : Nat} (h : a < P) : min P (a + 1) = min P a + 1 := by omega
theorem min_s2 {P a : Nat} (h : P ≤ a) : min P (a + 1) = min P a := by omega
theorem m_tickloop {g0 g : zG} {A : Nat → Option Nat} {W : Nat → Bool} {m t : Nat} (hL : mLine n p q C M ch ln g0) (hs : mSt n p q C M g0 A W m g) (hA : ∀ c s, A c = some s → s < 2147483648) (hP : P ≤ 40) (ht : t < 2000000000) (l2 : Int32) : ∃ g', zw zN (fun s => l_X10_strikes_72 M (nI P) l2 (nI t) s.1 s.2.1 s.2.2) (0, 0, g) = some (nI (min P (cw (fo n p q ch ln A t) C)), g') ∧ mSt n p q C M g0 (tA n p q ch ln C P A t) (tW n p q ch ln C P A W t) m g' := by
  have hC := hL.2.2.2.2.1
  have hn := hL.2.1.1
  let sf : Int32 × Int32 × zG → Option ((Int32 × Int32 × zG) ⊕ (Int32 × zG)) := fun s => l_X10_strikes_72 M (nI P) l2 (nI t) s.1 s.2.1 s.2.2
  let Inv : Nat → Int32 × Int32 × zG → Prop := fun c s => ∃ g', s = (nI (min P (cw (fo n p q ch ln A t) c)), nI c, g') ∧ mSt n p q C M g0 (mixA A (tA n p q ch ln C P A t) c) (mixW W (tW n p q ch ln C P A W t) c) m g'
  let Q : Int32 × zG → Prop := fun x => ∃ g', x = (nI (min P (cw (fo n p q ch ln A t) C)), g') ∧ mSt n p q C M g0 (tA n p q ch ln C P A t) (tW n p q ch ln C P A W t) m g'
  have hS : ∀ c s, c < C → Inv c s → (∃ s', sf s = some (.inl s') ∧ Inv (c + 1) s') ∨ ∃ x, sf s = some (.inr x) ∧ Q x := by
    intro c s hc hI
    obtain ⟨g', rfl, hI⟩ := hI
    left
    have hL' := hL.kept hI
    obtain ⟨k1, k2, k3, k4, k5, k6⟩ := hL'
    obtain ⟨i1, i2, i3, i4⟩ := hI
    have hcell := i4 c hc
    rw [show mixA A (tA n p q ch ln C P A t) c c = A c from if_neg (by omega), show mixW W (tW n p q ch ln C P A W t) c c = W c from if_neg (by omega)] at hcell
    have hln := k6 c hc
    have hsl := slg_lt (n := n) (p := p) (q := q) hn.1 c t
    have hlt := k2.2.2.2 (slg n p q c t) hsl
    -- no change at c
    have stay : fo n p q ch ln A t c = false → mSt n p q C M g0 (mixA A (tA n p q ch ln C P A t) (c + 1)) (mixW W (tW n p q ch ln C P A W t) (c + 1)) m g' := by
      intro hf
      refine mSt.same ⟨i1, i2, i3, i4⟩ (fun j hj => ?_) (fun j hj => ?_)
      · unfold mixA
        rcases Nat.lt_trichotomy j c with h | h | h
        · rw [if_pos h, if_pos (by omega)]
        · rw [if_neg (by omega), if_pos (by omega), h]; unfold tA; rw [if_neg (fun z => by rw [hf] at z; exact absurd z.2.1 (by decide))]
        · rw [if_neg (by omega), if_neg (by omega)]
      · unfold mixW
        rcases Nat.lt_trichotomy j c with h | h | h
        · rw [if_pos h, if_pos (by omega)]
        · rw [if_neg (by omega), if_pos (by omega), h]; unfold tW; rw [hf]; simp
        · rw [if_neg (by omega), if_neg (by omega)]
    have nofo : (ln c = 0 ∨ A c ≠ none ∨ ¬ fac n p q ch c t (ln c)) → fo n p q ch ln A t c = false := by
      intro h
      cases hf : fo n p q ch ln A t c with
      | false => rfl
      | true =>
        obtain ⟨a1, a2⟩ := fo_iff.mp hf
        obtain ⟨a3, a4⟩ := opn_iff.mp a1
        rcases h with h | h | h
        · exact absurd h a3
        · exact absurd a4 h
        · exact absurd a2 h
    have none4 : g'.1 (M + 24) c = -4 ↔ A c = none := by rw [hcell.1]; exact enc_4 (hA c)
    show ∃ s', l_X10_strikes_72 M (nI P) l2 (nI t) (nI (min P (cw (fo n p q ch ln A t) c))) (nI c) g' = some (.inl s') ∧ Inv (c + 1) s'
    unfold l_X10_strikes_72
    rw [zc_pos (c := zin 3 8) (by decide), k1.set, c3, k4, if_neg (fun e => by have := (nle (by omega) (by omega)).mp e; omega)]
    simp only [zc_pos (zlit c 40 (by omega) (by omega)), nI_cl (show c < 2147483648 by omega), zl_eq, nI_1]
    rw [k1.li, hln.1, k1.at]
    by_cases h0 : ln c = 0
    · rw [if_pos (by rw [h0]; rfl)]
      have hf := nofo (Or.inl h0)
      exact ⟨_, rfl, g', by rw [cw_f hf], stay hf⟩
    · rw [if_neg (fun e => h0 ((nI_zr (by omega)).mp e))]
      by_cases h1 : A c = none
      · rw [if_pos (none4.mpr h1), m_letterAt k2 k1 k3 (by omega) ht, zb_some, k1.li, hln.1]
        by_cases hfc : fac n p q ch c t (ln c)
        · have hf : fo n p q ch ln A t c = true := fo_iff.mpr ⟨opn_iff.mpr ⟨h0, h1⟩, hfc⟩
          rw [if_pos hfc.1, if_pos (by rw [hfc.2])]
          by_cases hr : cw (fo n p q ch ln A t) c < P
          · rw [if_neg (fun e => by have := (nle (by omega) (by omega)).mp e; omega)]
            have hM2 : rM M (zsi g' (M + 24) c (nI t)) := k1.kept rfl
            have hC2 : mCh n p q ch M (zsi g' (M + 24) c (nI t)) := by
              unfold mCh at *
              rw [zsi_at (by omega), zsi_at (by omega), zsi_at (by omega)]; exact k3
            rw [k1.at, m_slugAt k2 hM2 hC2 (by omega) ht, zb_some, if_pos hfc.1]
            show ∃ s', some (Sum.inl (nI (min P (cw (fo n p q ch ln A t) c) + 1), nI (c + 1), zsi (zsi g' (M + 24) c (nI t)) (g'.2.1 M 41) c (nI (slg n p q c t)))) = some (.inl s') ∧ _
            rw [k1.me]
            refine ⟨_, rfl, _, by rw [cw_t hf, min_s1 hr], ?_⟩
            refine ⟨(i1.trans (frm.si (show M + 24 = M ∨ M + 24 = M + 24 ∨ M + 24 = M + 25 ∨ M + 24 = M + 26 by omega))).trans (frm.si (show M + 25 = M ∨ M + 25 = M + 24 ∨ M + 25 = M + 25 ∨ M + 25 = M + 26 by omega)), fun j hj => ?_, ?_, fun j hj => ?_⟩
            · rw [zsi_at (by omega), zsi_at (by omega)]; exact i2 j hj
            · rw [zsi_at (by omega), zsi_at (by omega)]; exact i3
            · have hj' := i4 j hj
              rw [zsi_at (b := M + 24) (by omega), zsi_at (b := M + 26) (by omega), zsi_at (b := M + 26) (by omega)]
              by_cases e : j = c
              · subst e
                rw [zsi_same, zsi_same]
                have e1 : mixA A (tA n p q ch ln C P A t) (j + 1) j = some t := by
                  unfold mixA; rw [if_pos (by omega)]; unfold tA; rw [if_pos ⟨hj, hf, hr⟩]
                have e2 : mixW W (tW n p q ch ln C P A W t) (j + 1) j = W j := by
                  unfold mixW; rw [if_pos (by omega)]; exact tW_miss (fun z => by omega)
                rw [e1, e2]
                exact ⟨rfl, hcell.2.1, fun s hs => by cases hs; rfl⟩
              · rw [zsi_get e, zsi_get e, zsi_at (b := M + 25) (by omega)]
                have e1 : mixA A (tA n p q ch ln C P A t) (c + 1) j = mixA A (tA n p q ch ln C P A t) c j := by
                  unfold mixA
                  by_cases h : j < c
                  · rw [if_pos h, if_pos (by omega)]
                  · rw [if_neg h, if_neg (by omega)]
                have e2 : mixW W (tW n p q ch ln C P A W t) (c + 1) j = mixW W (tW n p q ch ln C P A W t) c j := by
                  unfold mixW
                  by_cases h : j < c
                  · rw [if_pos h, if_pos (by omega)]
                  · rw [if_neg h, if_neg (by omega)]
                rw [e1, e2]; exact hj'
          · rw [if_pos ((nle (by omega) (by omega)).mpr (by omega)), k1.hw]
            refine ⟨_, rfl, _, by rw [cw_t hf, min_s2 (by omega)], ?_⟩
            refine ⟨i1.trans (frm.si (show M + 26 = M ∨ M + 26 = M + 24 ∨ M + 26 = M + 25 ∨ M + 26 = M + 26 by omega)), fun j hj => ?_, ?_, fun j hj => ?_⟩
            · rw [zsi_at (by omega)]; exact i2 j hj
            · rw [zsi_at (by omega)]; exact i3
            · have hj' := i4 j hj
              rw [zsi_at (b := M + 24) (by omega), zsi_at (b := M + 25) (by omega)]
              by_cases e : j = c
              · subst e
                rw [zsi_same]
                have e1 : mixA A (tA n p q ch ln C P A t) (j + 1) j = A j := by
                  unfold mixA; rw [if_pos (by omega)]; unfold tA; rw [if_neg (fun z => hr z.2.2)]
                have e2 : mixW W (tW n p q ch ln C P A W t) (j + 1) j = true := by
                  unfold mixW; rw [if_pos (by omega)]; exact tW_hit hj hf (by omega)
                rw [e1, e2]
                exact ⟨hcell.1, rfl, hcell.2.2⟩
              · rw [zsi_get e]
                have e1 : mixA A (tA n p q ch ln C P A t) (c + 1) j = mixA A (tA n p q ch ln C P A t) c j := by
                  unfold mixA
                  by_cases h : j < c
                  · rw [if_pos h, if_pos (by omega)]
                  · rw [if_neg h, if_neg (by omega)]
                have e2 : mixW W (tW n p q ch ln C P A W t) (c + 1) j = mixW W (tW n p q ch ln C P A W t) c j := by
                  unfold mixW
                  by_cases h : j < c
                  · rw [if_pos h, if_pos (by omega)]
                  · rw [if_neg h, if_neg (by omega)]
                rw [e1, e2]; exact hj'
        · have hf := nofo (Or.inr (Or.inr hfc))
          have hne : ¬ (if (c * q + t) % p = 0 then nI (ch (slg n p q c t)) else -4) = nI (ln c) := by
            by_cases e : (c * q + t) % p = 0
            · rw [if_pos e]
              exact fun h => hfc ⟨e, (nI_inj (by omega) (by omega)).mp h⟩
            · rw [if_neg e]
              exact fun h => nm4 (show ln c < 2147483648 by omega) h.symm
          rw [if_neg hne]
          exact ⟨_, rfl, g', by rw [cw_f hf], stay hf⟩
      · rw [if_neg (fun e => h1 (none4.mp e))]
        have hf := nofo (Or.inr (Or.inl h1))
        exact ⟨_, rfl, g', by rw [cw_f hf], stay hf⟩
  have hE : ∀ s, Inv C s → ∃ x, sf s = some (.inr x) ∧ Q x := by
    intro s hI
    obtain ⟨g', rfl, hI⟩ := hI
    obtain ⟨k1, k2, k3, k4, k5, k6⟩ := hL.kept hI
    refine ⟨_, ?_, g', rfl, hI.same (fun j hj => if_pos hj) (fun j hj => if_pos hj)⟩
    show l_X10_strikes_72 M (nI P) l2 (nI t) (nI (min P (cw (fo n p q ch ln A t) C))) (nI C) g' = _
    unfold l_X10_strikes_72
    rw [zc_pos (c := zin 3 8) (by decide), k1.set, c3, k4, if_pos ((nle (by omega) (by omega)).mpr (Nat.le_refl _))]
  obtain ⟨x, h1, g', rfl, h2⟩ := zw_run Inv Q C hS hE C 0 zN (nI 0, nI 0, g) (by omega) (by have := zN_big; omega) ⟨g, by rw [cw_0, Nat.min_zero], hs.same (fun j hj => (if_neg (by omega)).symm) (fun j hj => (if_neg (by omega)).symm)⟩
  exact ⟨g', h1, h2⟩
/-- one tick of the reference -/
theorem m_tick {g0 g : zG} {A : Nat → Option Nat} {W : Nat → Bool} {m t : Nat} (hL : mLine n p q C M ch ln g0) (hs : mSt n p q C M g0 A W m g) (hA : ∀ c s, A c = some s → s < 2147483648) (hP : P ≤ 40) (hm : m ≤ 40) (ht : t < 2000000000) (h0 : 0 < cw (opn ln A) C) : ∃ g', l_X10_strikes_62 M (nI P) (nI (cw (opn ln A) C)) (nI t) g = some (.inl (nI (cw (opn ln (tA n p q ch ln C P A t)) C), nI (t + 1), g')) ∧ mSt n p q C M g0 (tA n p q ch ln C P A t) (tW n p q ch ln C P A W t) (max m (min P (cw (fo n p q ch ln A t) C))) g' := by
  have hC := hL.2.2.2.2.1
  have hle := cw_le (opn ln A) C
  have hl := left_tA (n := n) (p := p) (q := q) (ch := ch) (ln := ln) (C := C) (P := P) (A := A) (t := t) (Nat.le_refl C)
  obtain ⟨g', e1, i1, i2, i3, i4⟩ := m_tickloop hL hs hA hP ht (nI (cw (opn ln A) C))
  unfold l_X10_strikes_62
  rw [if_neg (show ¬ nI (cw (opn ln A) C) ≤ (0 : Int32) from fun e => by have := (nle (b := 0) (by omega) (by omega)).mp e; omega), e1, zk_some]
  unfold j_X10_strikes_170_62
  simp only [zl_eq]
  rw [i3, pk_sub (by omega), nI_1, show cw (opn ln A) C - min P (cw (fo n p q ch ln A t) C) = cw (opn ln (tA n p q ch ln C P A t)) C by omega]
  have hset : ∀ v, v = max m (min P (cw (fo n p q ch ln A t) C)) → mSt n p q C M g0 (tA n p q ch ln C P A t) (tW n p q ch ln C P A W t) (max m (min P (cw (fo n p q ch ln A t) C))) (zsi g' M 43 (nI v)) := by
    intro v hv
    refine ⟨i1.trans (frm.si (Or.inl rfl)), fun j hj => ?_, by rw [zsi_same, hv], fun c hc => ?_⟩
    · rw [zsi_get hj]; exact i2 j hj
    · rw [zsi_at (by omega), zsi_at (by omega), zsi_at (by omega)]; exact i4 c hc
  by_cases h : min P (cw (fo n p q ch ln A t) C) ≤ m
  · rw [if_pos ((nle (by omega) (by omega)).mpr h)]
    exact ⟨_, rfl, hset m (by omega)⟩
  · rw [if_neg (fun e => h ((nle (by omega) (by omega)).mp e))]
    exact ⟨_, rfl, hset _ (by omega)⟩
/-- ticks at which nothing faces -/
theorem m_idle {g0 : zG} {A : Nat → Option Nat} {W : Nat → Bool} {m : Nat} (hL : mLine n p q C M ch ln g0) (hA : ∀ c s, A c = some s → s < 2147483648) (hP : P ≤ 40) (hm : m ≤ 40) (h0 : 0 < cw (opn ln A) C) : ∀ (d t : Nat) (g : zG), mSt n p q C M g0 A W m g → t + d < 2000000000 → (∀ u, t ≤ u → u < t + d → ∀ c, c < C → fo n p q ch ln A u c = false) → ∃ g', mSt n p q C M g0 A W m g' ∧ ∀ N, zw (N + d) (fun s => l_X10_strikes_62 M (nI P) s.1 s.2.1 s.2.2) (nI (cw (opn ln A) C), nI t, g) = zw N (fun s => l_X10_strikes_62 M (nI P) s.1 s.2.1 s.2.2) (nI (cw (opn ln A) C), nI (t + d), g') := by
  intro d
  induction d with
  | zero => intro t g hs ht hi; exact ⟨g, hs, fun N => rfl⟩
  | succ d ih =>
    intro t g hs ht hi
    have hno := hi t (by omega) (by omega)
    obtain ⟨g1, e1, e2⟩ := m_tick hL hs hA hP hm (show t < 2000000000 by omega) h0
    rw [tA_idle hno, tW_idle hno, cw_zero hno, Nat.min_zero, Nat.max_eq_left (by omega)] at e2
    rw [tA_idle hno] at e1
    obtain ⟨g2, e3, e4⟩ := ih (t + 1) g1 e2 (by omega) (fun u h1 h2 => hi u (by omega) (by omega))
    refine ⟨g2, e3, fun N => ?_⟩
    rw [← Nat.add_assoc, zw_step (s' := (nI (cw (opn ln A) C), nI (t + 1), g1)) e1 (N + d), e4 N, show t + 1 + d = t + (d + 1) by omega]
end MS
