-- ===== a line is struck onto the page =====
theorem zsi_if (g : zG) (a k : Nat) (x : Int32) (b j : Nat) : (zsi g a k x).1 b j = if b = a ∧ j = k then x else g.1 b j := by
  by_cases h : b = a
  · subst h
    by_cases h2 : j = k
    · subst h2; rw [zsi_same, if_pos ⟨rfl, rfl⟩]
    · rw [zsi_get h2, if_neg (fun z => h2 z.2)]
  · rw [zsi_at h, if_neg (fun z => h z.1)]
/-- the page with the first c columns of a line on it -/
def mkY (y : aG) (row : Nat) (ln : Nat → Nat) (c : Nat) : aG := (fun j => if j / 40 = row ∧ j % 40 < c ∧ ln (j % 40) ≠ 0 then ln (j % 40) else y.1 j, fun j => if j / 40 = row ∧ j % 40 < c ∧ ln (j % 40) ≠ 0 then y.2 j + 1 else y.2 j)
theorem mkY_0 (y : aG) (row : Nat) (ln : Nat → Nat) : mkY y row ln 0 = y := by
  unfold mkY
  congr 1
  · funext j; rw [if_neg (by omega)]
  · funext j; rw [if_neg (by omega)]
theorem mkY_no {y : aG} {row : Nat} {ln : Nat → Nat} {c : Nat} (h : ln c = 0) : mkY y row ln (c + 1) = mkY y row ln c := by
  unfold mkY
  congr 1
  · funext j
    by_cases e : j / 40 = row ∧ j % 40 < c ∧ ln (j % 40) ≠ 0
    · rw [if_pos e, if_pos ⟨e.1, by omega, e.2.2⟩]
    · rw [if_neg e, if_neg (fun z => e ⟨z.1, by
        rcases Nat.lt_or_ge (j % 40) c with h5 | h5
        · exact h5
        · have : j % 40 = c := by omega
          rw [this] at z; exact absurd h z.2.2, z.2.2⟩)]
  · funext j
    by_cases e : j / 40 = row ∧ j % 40 < c ∧ ln (j % 40) ≠ 0
    · rw [if_pos e, if_pos ⟨e.1, by omega, e.2.2⟩]
    · rw [if_neg e, if_neg (fun z => e ⟨z.1, by
        rcases Nat.lt_or_ge (j % 40) c with h5 | h5
        · exact h5
        · have : j % 40 = c := by omega
          rw [this] at z; exact absurd h z.2.2, z.2.2⟩)]
theorem mkY_yes {y : aG} {row : Nat} {ln : Nat → Nat} {c : Nat} (hc : c < 40) (h : ln c ≠ 0) (j : Nat) : (mkY y row ln (c + 1)).1 j = (if j = row * 40 + c then ln c else (mkY y row ln c).1 j) ∧ (mkY y row ln (c + 1)).2 j = (if j = row * 40 + c then (mkY y row ln c).2 j + 1 else (mkY y row ln c).2 j) := by
  unfold mkY
  show (if j / 40 = row ∧ j % 40 < c + 1 ∧ ln (j % 40) ≠ 0 then ln (j % 40) else y.1 j) = (if j = row * 40 + c then ln c else (if j / 40 = row ∧ j % 40 < c ∧ ln (j % 40) ≠ 0 then ln (j % 40) else y.1 j)) ∧ (if j / 40 = row ∧ j % 40 < c + 1 ∧ ln (j % 40) ≠ 0 then y.2 j + 1 else y.2 j) = (if j = row * 40 + c then (if j / 40 = row ∧ j % 40 < c ∧ ln (j % 40) ≠ 0 then y.2 j + 1 else y.2 j) + 1 else (if j / 40 = row ∧ j % 40 < c ∧ ln (j % 40) ≠ 0 then y.2 j + 1 else y.2 j))
  by_cases e : j = row * 40 + c
  · have e1 : j / 40 = row := by omega
    have e2 : j % 40 = c := by omega
    rw [if_pos e, if_pos e, e2, if_pos ⟨e1, by omega, h⟩, if_pos ⟨e1, by omega, h⟩, if_neg (fun z => by omega)]
    exact ⟨rfl, rfl⟩
  · rw [if_neg e, if_neg e]
    by_cases e3 : j / 40 = row ∧ j % 40 < c ∧ ln (j % 40) ≠ 0
    · rw [if_pos e3, if_pos e3, if_pos ⟨e3.1, by omega, e3.2.2⟩, if_pos ⟨e3.1, by omega, e3.2.2⟩]
      exact ⟨rfl, rfl⟩
    · have : ¬ (j / 40 = row ∧ j % 40 < c + 1 ∧ ln (j % 40) ≠ 0) := fun z => e3 ⟨z.1, by omega, z.2.2⟩
      rw [if_neg e3, if_neg e3, if_neg this, if_neg this]
      exact ⟨rfl, rfl⟩
theorem mkY_v {y : aG} {row : Nat} {ln : Nat → Nat} {B : Nat} (hl : ∀ c, c < 40 → ln c ≤ 26) (h : vPgb B y) : vPgb (B + 1) (mkY y row ln 40) := by
  intro j hj
  have hy := h j hj
  have hm : j % 40 < 40 := Nat.mod_lt _ (by omega)
  show ((if j / 40 = row ∧ j % 40 < 40 ∧ ln (j % 40) ≠ 0 then ln (j % 40) else y.1 j) ≤ 26 ∧ (if j / 40 = row ∧ j % 40 < 40 ∧ ln (j % 40) ≠ 0 then y.2 j + 1 else y.2 j) ≤ B + 1) ∧ ((if j / 40 = row ∧ j % 40 < 40 ∧ ln (j % 40) ≠ 0 then ln (j % 40) else y.1 j) = 0 ↔ (if j / 40 = row ∧ j % 40 < 40 ∧ ln (j % 40) ≠ 0 then y.2 j + 1 else y.2 j) = 0)
  by_cases e : j / 40 = row ∧ j % 40 < 40 ∧ ln (j % 40) ≠ 0
  · rw [if_pos e, if_pos e]
    have := hl _ hm
    refine ⟨⟨this, by omega⟩, ⟨fun z => absurd z e.2.2, fun z => by omega⟩⟩
  · rw [if_neg e, if_neg e]
    exact ⟨⟨hy.1.1, by omega⟩, hy.2⟩
def goS (ln : Nat → Nat) (A : Nat → Option Nat) (W : Nat → Bool) (m : Nat) : aS := (true, nI (cw (fun c => decide (ln c ≠ 0)) 40), nI m, nI (cw W 40), fun c => enc (A c), fun _ => -4)
def goJ (π : aJ) (e : Nat) (A : Nat → Option Nat) (W : Nat → Bool) (m : Nat) : aJ := (fun _ => 0, e, pRw π, pPs π, mkY (pYs π) (pRw π) (pLn π) 40, goS (pLn π) A W m, pLs π + 1)
section GO
variable {b : Bool} {ρ : aR} {n : Nat} {ch : Nat → Nat} {X a r ca M : Nat}
theorem q_markPage {g : zG} {y : aG} {row : Nat} {ln : Nat → Nat} (h6 : g.2.1 a 6 = X + 28) (h0 : g.2.1 a 0 = a + 1) (hX : rX X g) (hrow : row < 60) (h3 : g.1 a 3 = nI row) (hl : ∀ c, c < 40 → g.1 (a + 1) c = nI (ln c) ∧ ln c ≤ 26) (hy : cPg y (g.1 (X + 29)) (g.1 (X + 30))) (hdis : X + 30 < a) : ∃ g', f_X2_markPage a g = some (0, g') ∧ frm (fun x => x = X + 29 ∨ x = X + 30) g g' ∧ g'.2 = g.2 ∧ cPg (mkY y row ln 40) (g'.1 (X + 29)) (g'.1 (X + 30)) := by
  let sf : Int32 × zG → Option ((Int32 × zG) ⊕ zG) := fun s => l_X2_markPage_2 a s.1 s.2
  let R : Nat → zG → Prop := fun c g' => frm (fun x => x = X + 29 ∨ x = X + 30) g g' ∧ g'.2 = g.2 ∧ cPg (mkY y row ln c) (g'.1 (X + 29)) (g'.1 (X + 30))
  let Inv : Nat → Int32 × zG → Prop := fun c x => ∃ g', x = (nI c, g') ∧ R c g'
  have hS : ∀ c x, c < 40 → Inv c x → (∃ x', sf x = some (.inl x') ∧ Inv (c + 1) x') ∨ ∃ y, sf x = some (.inr y) ∧ R 40 y := by
    intro c x hc hI
    obtain ⟨g', rfl, q1, q2, q3⟩ := hI
    left
    obtain ⟨l1, l2⟩ := hl c hc
    have e1 : g'.1 (a + 1) = g.1 (a + 1) := (q1.2 (a + 1) (by omega)).1
    have e2 : g'.1 a = g.1 a := (q1.2 a (by omega)).1
    have hX' := hX.kept q1.1
    show ∃ x', l_X2_markPage_2 a (nI c) g' = some (.inl x') ∧ Inv (c + 1) x'
    unfold l_X2_markPage_2
    rw [q2, h6, if_neg (by omega), if_neg (show ¬ (40 : Int32) ≤ nI c from fun e => by have := (nle (a := 40) (by omega) (by omega)).mp e; omega)]
    simp only [zc_pos (zlit c 40 hc (by omega)), nI_cl (show c < 2147483648 by omega), nI_1, zl_eq]
    rw [h0, e1, l1, e2, h3]
    by_cases hz : ln c = 0
    · rw [if_pos (by rw [hz]; rfl)]
      exact ⟨_, rfl, g', rfl, q1, q2, by rw [mkY_no hz]; exact q3⟩
    · rw [if_neg (fun e => hz ((nI_zr (by omega)).mp e))]
      unfold f_X1_mark
      rw [show (40 : Int32) = nI 40 from rfl, pk_mul, nI_add, zl_eq]
      simp only [zc_pos (zlit (row * 40 + c) 2400 (by omega) (by omega)), nI_cl (show row * 40 + c < 2147483648 by omega), zl_eq]
      rw [zb_some, hX'.pl, zsi_r, hX'.pt, zsi_at (b := X + 30) (by omega), (q3 (row * 40 + c) (by omega)).2, nI_1]
      refine ⟨_, rfl, _, rfl, (q1.trans (frm.si (Or.inl rfl))).trans (frm.si (Or.inr rfl)), q2, fun j hj => ?_⟩
      obtain ⟨m1, m2⟩ := mkY_yes (y := y) (row := row) hc hz j
      rw [m1, m2, zsi_at (b := X + 29) (by omega)]
      by_cases e : j = row * 40 + c
      · rw [if_pos e, if_pos e, e, zsi_same, zsi_same]; exact ⟨rfl, rfl⟩
      · rw [if_neg e, if_neg e, zsi_get e, zsi_get e, zsi_at (b := X + 30) (by omega)]; exact q3 j hj
  have hE : ∀ x, Inv 40 x → ∃ y, sf x = some (.inr y) ∧ R 40 y := by
    intro x hI
    obtain ⟨g', rfl, hR⟩ := hI
    refine ⟨g', ?_, hR⟩
    show l_X2_markPage_2 a (nI 40) g' = _
    unfold l_X2_markPage_2
    rw [hR.2.1, h6, if_neg (by omega), if_pos (show (40 : Int32) ≤ nI 40 from (nle (a := 40) (by omega) (by omega)).mpr (Nat.le_refl _))]
  obtain ⟨g', e1, e2, e3, e4⟩ := zw_run Inv (R 40) 40 hS hE 40 0 zN (nI 0, g) (by omega) (by have := zN_big; omega) ⟨g, rfl, frm.refl _ _, rfl, by rw [mkY_0]; exact hy⟩
  refine ⟨g', ?_, e2, e3, e4⟩
  unfold f_X2_markPage
  rw [show zw zN (fun s => l_X2_markPage_2 a s.1 s.2) (0, g) = some g' from e1, zk_some]
  rfl
theorem lnz_cut {ρ : aR} {ln : Nat → Nat} (hv : vR ρ) (hl : vLn ρ ln) : cw (opn ln noA) (aV ρ 3) = cw (fun c => decide (ln c ≠ 0)) 40 := by
  have b3 := hv.2.2.2.2.1
  have h0 : cw (opn ln noA) (aV ρ 3) = cw (fun c => decide (c < 40 ∧ ln c ≠ 0)) (aV ρ 3) := cw_same (fun i hi => by rw [noA_opn]; simp [show i < 40 by omega])
  have h1 : cw (fun c => decide (ln c ≠ 0)) 40 = cw (fun c => decide (c < 40 ∧ ln c ≠ 0)) 40 := cw_same (fun i hi => by simp [hi])
  have := cw_cut (f := fun c => decide (c < 40 ∧ ln c ≠ 0)) (a := aV ρ 3) (40 - aV ρ 3) (fun i hi => decide_eq_false (fun z => z.2 ((hl i z.1).2 hi)))
  rw [show aV ρ 3 + (40 - aV ρ 3) = 40 by omega] at this
  rw [h0, h1, this]
/-- the class, behind its strike -/
theorem q_strikeLine (ha : adr b X a r ca) (hv : vR ρ) {Bt Bp By : Nat} {π : aJ} (hJ : vJ b ρ Bt Bp By π) {e m : Nat} {A : Nat → Option Nat} {W : Nat → Bool} (he : pTk π ≤ e) (hW : ∀ c, W c = true → c < aV ρ 3 ∧ pLn π c ≠ 0) {g : zG} (hB : PCb ρ n ch X a r ca g) (hV : PCv b ρ π X a g) (hcan : f_X2_canStrike a g = some (1, g)) {g1 : zG} (hmk : f_X7_make (a + 2) ca (a + 1) (nI (aV ρ 3)) (nI (aV ρ 4)) (nI (pTk π)) g = some (nI (e - pTk π), g1)) (hst : cSt n (aV ρ 1) (aV ρ 2) (aV ρ 3) (a + 2) g ch (pLn π) e A W m (cw (opn (pLn π) noA) (aV ρ 3)) g1) : ∃ g', f_X2_strikeLine a g = some (nI (e - pTk π), g') ∧ frm (SC b X a) g g' ∧ PCv b ρ (goJ π e A W m) X a g' := by
  have b3 := hv.2.2.2.2.1
  have b7 := hv.2.2.2.2.2.2.2.2.1
  have hr := ha.ru hB.1
  have hp := ha.p hB.1
  have hadr := ha
  unfold adr at hadr
  obtain ⟨j1, j2, j3, j4⟩ := hJ
  obtain ⟨v1, ⟨v2, v3, v4⟩, v5⟩ := hV
  obtain ⟨s1, s2, s3, s4, s5, ⟨w, s6, s7⟩, s8, s9⟩ := hst
  have ea : ∀ x, ¬ (a + 2 ≤ x ∧ x ≤ a + 2 + 4) → g1.1 x = g.1 x := fun x hx => (s1.2 x hx).1
  have hB1 := hB.kept ha (s1.mono (fun x hx => by unfold SC; omega))
  -- the page
  obtain ⟨g2, m1, m2, m3, m4⟩ : ∃ g2, f_X2_markPage a g1 = some (0, g2) ∧ frm (fun x => b = true ∧ (x = X + 29 ∨ x = X + 30)) g1 g2 ∧ g2.2 = g1.2 ∧ (b = true → cPg (mkY (pYs π) (pRw π) (pLn π) 40) (g2.1 (X + 29)) (g2.1 (X + 30))) := by
    by_cases hb : b = true
    · have ha31 : a = X + 31 := by
        rcases ha.2 with ⟨-, h, -⟩ | ⟨h, -⟩
        · exact h
        · rw [hb] at h; cases h
      obtain ⟨g2, m1, m2, m3, m4⟩ := q_markPage (X := X) (a := a) (g := g1) (y := pYs π) (row := pRw π) (ln := pLn π) (by rw [s1.1]; exact hp.2.2.2.2.2.2.1 hb) (by rw [s1.1]; exact hp.1) hB1.1 (by omega) (by rw [ea a (by omega)]; exact v3) (fun c hc => ⟨by rw [ea (a + 1) (by omega)]; exact v1 c hc, (j1 c hc).1⟩) (by rw [ea (X + 29) (by omega), ea (X + 30) (by omega)]; exact (v5 hb).2.1) (by omega)
      exact ⟨g2, m1, m2.mono (fun x hx => ⟨hb, hx⟩), m3, fun _ => m4⟩
    · have hb' : b = false := by
        cases b with
        | false => rfl
        | true => exact absurd rfl hb
      refine ⟨g1, ?_, frm.refl _ _, rfl, fun z => absurd z hb⟩
      unfold f_X2_markPage
      have : zw zN (fun s => l_X2_markPage_2 a s.1 s.2) (0, g1) = some g1 := by
        obtain ⟨N, hN⟩ : ∃ K, zN = K + 1 := ⟨99999, rfl⟩
        rw [hN]
        apply zw_end
        show l_X2_markPage_2 a 0 g1 = _
        unfold l_X2_markPage_2
        rw [s1.1, hp.2.2.2.2.2.2.2 hb', if_pos rfl]
      rw [this, zk_some]
      rfl
  have em : ∀ x, ¬ (x = X + 29 ∨ x = X + 30) → g2.1 x = g1.1 x := fun x hx => (m2.2 x (fun z => hx z.2)).1
  have fz := zfl_frm g2 (a + 1) 0 (fun _ => (0 : Int32)) 40
  have ez : ∀ x, x ≠ a + 1 → (zfl g2 (a + 1) 0 (fun _ => 0) 40).1 x = g2.1 x := fun x hx => (fz.2 x hx).1
  have cell : ∀ j, (zfl g2 (a + 1) 0 (fun _ => 0) 40).1 a j = g.1 a j := fun j => by rw [ez a (by omega), em a (by omega), ea a (by omega)]
  refine ⟨zsi (zsi (zfl g2 (a + 1) 0 (fun _ => 0) 40) a 2 (nI e)) a 5 (pLs π + 1), ?_, ?_, ?_, ⟨?_, ?_, ?_⟩, fun hb => ⟨?_, ?_, ?_⟩⟩
  · unfold f_X2_strikeLine
    rw [hcan, zb_some, b1]
    simp only [zc_pos (show zin 3 8 by decide), zc_pos (show zin 4 8 by decide)]
    rw [hp.2.1, hB.2.1.2, hp.1, hB.2.1.1, hr.2.2.1, c3, c4, hB.2.2.1.val (by omega) (by omega), hB.2.2.1.val (by omega) (by omega), v2, hmk, zb_some, m1, zb_some, m3, s1.1, hp.1, j_fill (by omega), zb_some, zl_eq, zl_eq, cell, v2, nI_add, zsi_get (by omega), cell, v4, show pTk π + (e - pTk π) = e by omega]
  · refine (((s1.mono (fun x hx => Or.inl (by omega))).trans (m2.mono (fun x hx => Or.inr hx))).trans (fz.mono (fun x hx => Or.inl (by omega)))).trans ((frm.si (Or.inl (by omega))).trans (frm.si (Or.inl (by omega))))
  · rw [zsi_at (by omega), zsi_at (by omega)]
    intro c hc
    rw [zfl_get, if_pos (by omega)]; rfl
  · rw [zsi_get (by omega), zsi_same]; rfl
  · rw [zsi_get (by omega), zsi_get (by omega), cell]; exact v3
  · rw [zsi_same]; rfl
  · rw [zsi_get (by omega), zsi_get (by omega), cell]; exact (v5 hb).1
  · rw [zsi_at (b := X + 29) (by omega), zsi_at (b := X + 29) (by omega), zsi_at (b := X + 30) (by omega), zsi_at (b := X + 30) (by omega), ez (X + 29) (by omega), ez (X + 30) (by omega)]
    exact m4 hb
  · rw [zsi_at (b := a + 2) (by omega), zsi_at (b := a + 2) (by omega), zsi_at (b := a + 3) (by omega), zsi_at (b := a + 3) (by omega), zsi_at (b := a + 4) (by omega), zsi_at (b := a + 4) (by omega), ez (a + 2) (by omega), ez (a + 3) (by omega), ez (a + 4) (by omega), em (a + 2) (by omega), em (a + 3) (by omega), em (a + 4) (by omega)]
    have el : (zsi (zsi (zfl g2 (a + 1) 0 (fun _ => 0) 40) a 2 (nI e)) a 5 (pLs π + 1)).2.2 (a + 2) 5 = lN w := by
      show (zfl g2 (a + 1) 0 (fun _ => 0) 40).2.2 (a + 2) 5 = lN w
      rw [zfl_r, m3]; exact s6
    rw [el]
    have hw : w < 18446744073709551616 := by
      have : w < 2 ^ 64 := Nat.lt_pow_two_of_testBit w (fun i hi => by
        rw [s7]
        cases h : W i with
        | false => rfl
        | true => have := (hW i h).1; omega)
      exact this
    have hcw : cw (fun k => w.testBit k) 64 = cw W 40 := by
      rw [cw_same (h := W) (fun i hi => s7 i)]
      exact cw_cut (f := W) (a := 40) 24 (fun i hi => by
        cases h : W i with
        | false => rfl
        | true => have := (hW i h).1; omega)
    refine ⟨s2, fun _ => ⟨?_, s4, ?_, fun c hc => s8 c hc⟩⟩
    · rw [s3, lnz_cut hv j1]; rfl
    · rw [j_long hw, hcw]; rfl
/-- the line of the reference blank -/
theorem m_clear {g : zG} (hM : rM M g) : zw zN (fun s => l_X10_does_60 M s.1 s.2) (0, g) = some (zfl g (M + 21) 0 (fun _ => 0) 40) := by
  have hz := zw_seq (step := fun s : Int32 × zG => l_X10_does_60 M s.1 s.2) (fun i => (nI i, zfl g (M + 21) 0 (fun _ => 0) i)) (zfl g (M + 21) 0 (fun _ => 0) 40) 40 (fun i hi => ?_) ?_ (N := zN) (by have := zN_big; omega)
  · rw [show ((0, g) : Int32 × zG) = (nI 0, zfl g (M + 21) 0 (fun _ => 0) 0) from rfl, hz]
  · show l_X10_does_60 M (nI i) _ = _
    unfold l_X10_does_60
    rw [if_neg (show ¬ (40 : Int32) ≤ nI i from fun e => by have := (nle (a := 40) (by omega) (by omega)).mp e; omega), zc_pos (zlit i 40 hi (by omega)), zl_eq, zl_eq, nI_cl (by omega), nI_1, zfl_r, hM.li]
    rw [show zfl g (M + 21) 0 (fun _ => (0 : Int32)) (i + 1) = zsi (zfl g (M + 21) 0 (fun _ => 0) i) (M + 21) (0 + i) 0 from rfl, Nat.zero_add]
  · show l_X10_does_60 M (nI 40) _ = _
    unfold l_X10_does_60
    rw [if_pos (show (40 : Int32) ≤ nI 40 from (nle (a := 40) (by omega) (by omega)).mpr (Nat.le_refl _))]
end GO
