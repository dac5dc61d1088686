-- ===== the state of both, and its printer =====
def jOf (σ : aZ) (ls : Int32) : aJ := (zLn σ, (zPs σ).1, (zPs σ).2.1, (zPs σ).2.2, zPg σ, zSk σ, ls)
def zJq (σ : aZ) (π : aJ) (q : aQ) : aZ := (σ.1, σ.2.1, σ.2.2.1, pLn π, (pTk π, pRw π, pPs π), pYs π, pSk π, q, zSh σ)
section CV
variable {σ : aZ} {X r M : Nat} {g g' : zG} {π : aJ} {q : aQ}
theorem CI.toC (h : CI σ X r g) : adr true X (X + 31) r (r + 1) ∧ PCb (zR σ) (aN (zR σ)) (aC (zR σ)) X (X + 31) r (r + 1) g ∧ PCv true (zR σ) (jOf σ (g.1 (X + 31) 5)) X (X + 31) g := by
  have hr := h.rw
  obtain ⟨h1, h2, h3, h4, h5, h6, h7, h8, h9, h10, h11⟩ := h
  have hru := h1.rules h2
  refine ⟨⟨hr, Or.inl ⟨rfl, rfl, rfl⟩⟩, ⟨h1, ⟨h2.2.2.1, h2.2.2.2⟩, h3, h3.1.1, h3.1.2.1, h3.1.2.2, fun i hi => by rw [hru.2.2.2.2.1]; exact h3.2.1 i hi⟩, h6, ⟨h7.1, h7.2.1, rfl⟩, fun _ => ⟨h7.2.2, h8, h9⟩⟩
theorem MI.toM (h : MI σ M g) (ls : Int32) : PMb (zR σ) (aN (zR σ)) (aC (zR σ)) M g ∧ PMv true (zR σ) (jOf σ ls) M g := by
  obtain ⟨h1, h2, h3, h4, h5, h6, h7, h8, h9, h10⟩ := h
  obtain ⟨m1, m2, m3, m4, m5, m6⟩ := h2
  exact ⟨⟨h1, ⟨m3, m4, m5, m6⟩, m1, m5 1 (by omega) (by omega), m5 2 (by omega) (by omega), m2⟩, h5, ⟨h6.1, h6.2.1⟩, fun _ => ⟨h6.2.2, h7, h8⟩⟩
theorem CI.ofC (h : CI σ X r g) (hf : frm (fun x => SC true X (X + 31) x ∨ x = X) g g') (hV : PCv true (zR σ) π X (X + 31) g') (hq : cRn q (g'.1 X)) : CI (zJq σ π q) X r g' := by
  have e : ∀ b, ¬ (SC true X (X + 31) b ∨ b = X) → g'.1 b = g.1 b := fun b hb => (hf.2 b hb).1
  unfold SC at e
  have hr := h.rw
  obtain ⟨h1, h2, h3, h4, h5, h6, h7, h8, h9, h10, h11⟩ := h
  obtain ⟨v1, ⟨v2, v3, v4⟩, v5⟩ := hV
  obtain ⟨v6, v7, v8⟩ := v5 rfl
  unfold CI
  rw [e (X + 23) (by omega), e (X + 24) (by omega), e (X + 50) (by omega), e (X + 51) (by omega), e (X + 52) (by omega)]
  exact ⟨h1.kept hf.1, h2.kept hf.1, h3.kept (fun b b1 b2 => e b (by omega)), h4, h5, v1, ⟨v2, v3, v6⟩, v7, v8, hq, h11⟩
theorem MI.ofM (h : MI σ M g) (hf : frm (SM true M) g g') (h0 : ∀ j, ¬ mFd true j → ¬ (51 ≤ j ∧ j ≤ 54) → g'.1 M j = g.1 M j) (hV : PMv true (zR σ) π M g') (hq : mRn q (g'.1 M 51) (g'.1 M 52) (g'.1 M 53) (g'.1 M 54)) : MI (zJq σ π q) M g' := by
  have e : ∀ b, ¬ SM true M b → g'.1 b = g.1 b := fun b hb => (hf.2 b hb).1
  unfold SM at e
  unfold mFd at h0
  obtain ⟨h1, h2, h3, h4, h5, h6, h7, h8, h9, h10⟩ := h
  obtain ⟨v1, ⟨v2, v3⟩, v5⟩ := hV
  obtain ⟨v6, v7, v8⟩ := v5 rfl
  unfold MI
  rw [e (M + 20) (by omega), e (M + 33) (by omega), e (M + 34) (by omega), e (M + 35) (by omega), h0 27 (by omega) (by omega), h0 32 (by omega) (by omega)]
  exact ⟨h1.kept hf.1, h2.kept (h0 0 (by omega) (by omega)) (h0 4 (by omega) (by omega)) (fun b b1 b2 => e b (by omega)), h3, h4, v1, ⟨v2, v3, v6⟩, v7, v8, hq, h10⟩
theorem vZ.toJ {k : Nat} (h : vZ k σ) (ls : Int32) : vJ true (zR σ) (k * 400000) (1 + k * 1000) (k * 24) (jOf σ ls) := by
  obtain ⟨h1, h2, h3, h4, h5, h6, h7⟩ := h
  exact ⟨h3, h4.2.1, h4.1, fun _ => ⟨h4.2.2, h5, h6⟩⟩
theorem vZ.ofJ {k : Nat} (h : vZ k σ) (hJ : vJ true (zR σ) ((k + 1) * 400000) (1 + (k + 1) * 1000) ((k + 1) * 24) π) : vZ (k + 1) (zJq σ π q) := by
  obtain ⟨h1, h2, h3, h4, h5, h6, h7⟩ := h
  obtain ⟨j1, j2, j3, j4⟩ := hJ
  obtain ⟨j5, j6, j7⟩ := j4 rfl
  exact ⟨h1, h2, j1, ⟨j3, j2, j5⟩, j6, j7, h7⟩
/-- cells of trials alone -/
theorem CI.tri (h : CI σ X r g) (hr : ∀ x, x ≠ X + 42 → g'.2.1 x = g.2.1 x) (hr2 : ∀ j, j ≠ 7 → j ≠ 8 → g'.2.1 (X + 42) j = g.2.1 (X + 42) j) (e : ∀ x, ¬ (X + 38 ≤ x ∧ x ≤ X + 48) → x < X + 53 → g'.1 x = g.1 x ∧ g'.2.2 x = g.2.2 x) : CI σ X r g' := by
  have e1 : ∀ x, ¬ (X + 38 ≤ x ∧ x ≤ X + 48) → x < X + 53 → g'.1 x = g.1 x := fun x a b => (e x a b).1
  have hrr := h.rw
  obtain ⟨h1, h2, h3, h4, h5, h6, h7, h8, h9, h10, h11⟩ := h
  have k1 : rX X g' := by
    unfold rX rR at *
    simp only [hr2 0 (by omega) (by omega), hr2 1 (by omega) (by omega), hr2 6 (by omega) (by omega)]
    simp (disch := omega) only [hr]
    exact h1
  have k2 : rW X r g' := by
    unfold rW at *
    simp (disch := omega) only [hr]
    exact h2
  refine ⟨k1, k2, h3.kept (fun b b1 b2 => e1 b (by omega) (by omega)), ?_⟩
  rw [e1 (X + 23) (by omega) (by omega), e1 (X + 24) (by omega) (by omega), e1 (X + 32) (by omega) (by omega), e1 (X + 31) (by omega) (by omega), e1 (X + 29) (by omega) (by omega), e1 (X + 30) (by omega) (by omega), e1 (X + 33) (by omega) (by omega), e1 (X + 34) (by omega) (by omega), e1 (X + 35) (by omega) (by omega), e1 X (by omega) (by omega), e1 (X + 50) (by omega) (by omega), e1 (X + 51) (by omega) (by omega), e1 (X + 52) (by omega) (by omega), (e (X + 33) (by omega) (by omega)).2]
  exact ⟨h4, h5, h6, h7, h8, h9.kept, h10, h11⟩
theorem MI.tri (h : MI σ M g) (hr : g'.2.1 = g.2.1) (h0 : ∀ j, j ≠ 43 → g'.1 M j = g.1 M j) (h1 : ∀ i, i < 49 → g'.1 (M + 1) i = g.1 (M + 1) i) (h21 : ∀ c, c < 40 → g'.1 (M + 21) c = g.1 (M + 21) c) (e : ∀ x, M < x → x ≠ M + 1 → x ≠ M + 21 → ¬ (M + 24 ≤ x ∧ x ≤ M + 26) → ¬ (M + 30 ≤ x ∧ x ≤ M + 32) → g'.1 x = g.1 x) (hv : vR (zR σ)) : MI σ M g' := by
  have bn := hv.1
  obtain ⟨k1, k2, k3, k4, k5, k6, k7, k8, k9, k10⟩ := h
  obtain ⟨m1, m2, m3, m4, m5, m6⟩ := k2
  have kR : mR (zR σ) M g' := by
    unfold mR
    rw [h0 0 (by omega), h0 4 (by omega), e (M + 2) (by omega) (by omega) (by omega) (by omega) (by omega), e (M + 3) (by omega) (by omega) (by omega) (by omega) (by omega), e (M + 4) (by omega) (by omega) (by omega) (by omega) (by omega), e (M + 5) (by omega) (by omega) (by omega) (by omega) (by omega), e (M + 6) (by omega) (by omega) (by omega) (by omega) (by omega), e (M + 7) (by omega) (by omega) (by omega) (by omega) (by omega), e (M + 8) (by omega) (by omega) (by omega) (by omega) (by omega)]
    exact ⟨m1, fun i hi => by rw [h1 i (by omega)]; exact m2 i hi, m3, m4, m5, m6⟩
  refine ⟨k1.kept hr, kR, ?_⟩
  rw [h0 27 (by omega), h0 32 (by omega), h0 34 (by omega), h0 35 (by omega), h0 36 (by omega), h0 44 (by omega), h0 45 (by omega), h0 46 (by omega), h0 47 (by omega), h0 51 (by omega), h0 52 (by omega), h0 53 (by omega), h0 54 (by omega), e (M + 20) (by omega) (by omega) (by omega) (by omega) (by omega), e (M + 22) (by omega) (by omega) (by omega) (by omega) (by omega), e (M + 23) (by omega) (by omega) (by omega) (by omega) (by omega), e (M + 27) (by omega) (by omega) (by omega) (by omega) (by omega), e (M + 28) (by omega) (by omega) (by omega) (by omega) (by omega), e (M + 29) (by omega) (by omega) (by omega) (by omega) (by omega), e (M + 33) (by omega) (by omega) (by omega) (by omega) (by omega), e (M + 34) (by omega) (by omega) (by omega) (by omega) (by omega), e (M + 35) (by omega) (by omega) (by omega) (by omega) (by omega)]
  exact ⟨k3, k4, fun c hc => by rw [h21 c hc]; exact k5 c hc, k6, k7, k8, k9, k10⟩
theorem SC_in {x : Nat} (h : SC true X (X + 31) x) : x < X + 53 ∧ x ≠ X + 38 ∧ x ≠ X + 39 := by
  unfold SC at h; omega
theorem SM_in {bb : Bool} {x : Nat} (h : SM bb M x) : M ≤ x := by
  unfold SM at h; omega
end CV
section CL
variable {X : Nat}
theorem o_go : OKC X (fun g => f_X9_go X g) (fun g => f_X10_go (X + 53) g) := OKC.write (fun k σ r g hk hv hc hm => by
  obtain ⟨ha, hB, hV⟩ := hc.toC
  obtain ⟨ok, t, π', w1, w2, w3, w4, w5⟩ := go_both hv.1 hv.1.ch (fun _ => rfl) (hv.toJ (g.1 (X + 31) 5)) (by omega)
  obtain ⟨g1, q1, q2, q3⟩ := w4 X (X + 31) r (r + 1) g ha hB hV
  refine ⟨if ok = true then nI t else -2, g1, zJq σ π' (zRn σ), ?_, hv.ofJ (w1.le (by omega) (by omega) (by omega)), rfl, q2.mono (fun x hx => SC_in hx), hc.ofC (q2.mono (fun x hx => Or.inl hx)) q3 (by rw [(q2.2 X (by unfold SC; omega)).1]; exact hc.2.2.2.2.2.2.2.2.2.1), fun g2 h2 => ?_⟩
  · show f_X9_go X g = _
    unfold f_X9_go
    rw [hc.1.pr, q1, zb_some]
  · obtain ⟨hB', hV'⟩ := h2.toM (g.1 (X + 31) 5)
    obtain ⟨v1, v2, v3, v4⟩ := w5 (X + 53) g2 hB' hV'
    show ∃ g3, f_X10_go (X + 53) g2 = _ ∧ _
    unfold f_X10_go
    rw [v1, zb_some]
    cases ok with
    | false =>
      rw [bI_f, b0, v2 rfl]
      exact ⟨g2, rfl, frm.refl _ _, h2⟩
    | true =>
      rw [bI_t, b1]
      obtain ⟨g3, z1, z2, z3⟩ := v3 rfl rfl
      rw [z1, zb_some]
      exact ⟨g3, rfl, z2.1.mono (fun x hx => SM_in hx), h2.ofM z2.1 (fun j j1 _ => z2.2 j j1) z3 (by rw [z2.2 51 (by unfold mFd; omega), z2.2 52 (by unfold mFd; omega), z2.2 53 (by unfold mFd; omega), z2.2 54 (by unfold mFd; omega)]; exact h2.2.2.2.2.2.2.2.2.1)⟩)
/-- the paper moved by n rows in both -/
theorem mv_both {k : Nat} {σ : aZ} {r : Nat} {g : zG} (hk : k < 512) (hv : vZ k σ) (hc : CI σ X r g) {j : Nat} (hj : j ≤ 60) (hj2 : j ≤ 9 ∨ j ≤ aV (zR σ) 7) : ∃ v g1 σ', f_X2_moveBy (X + 31) (nI j) g = some (v, g1) ∧ vZ (k + 1) σ' ∧ zR σ' = zR σ ∧ frm (fun b => b < X + 53 ∧ b ≠ X + 38 ∧ b ≠ X + 39) g g1 ∧ CI σ' X r g1 ∧ ∀ g1, MI σ (X + 53) g1 → ∃ g2, f_X10_moves (X + 53) (nI j) 0 g1 = some (v, g2) ∧ frm (fun b => X + 53 ≤ b) g1 g2 ∧ MI σ' (X + 53) g2 := by
  obtain ⟨ha, hB, hV⟩ := hc.toC
  have hJ := hv.toJ (g.1 (X + 31) 5)
  obtain ⟨g1, q1, q2, q3⟩ := q_moveBy ha hv.1 hJ (by omega) (by omega) hB hV hj
  refine ⟨_, g1, zJq σ (mvJ (zR σ) (jOf σ (g.1 (X + 31) 5)) j) (zRn σ), q1, hv.ofJ ((mvJ_v hv.1 hJ hj hj2).le (by omega) (by omega) (by omega)), rfl, q2.mono (fun x hx => SC_in hx), hc.ofC (q2.mono (fun x hx => Or.inl hx)) q3 (by rw [(q2.2 X (by unfold SC; omega)).1]; exact hc.2.2.2.2.2.2.2.2.2.1), fun g2 h2 => ?_⟩
  obtain ⟨hB', hV'⟩ := h2.toM (g.1 (X + 31) 5)
  obtain ⟨g3, z1, z2, z3⟩ := m_moves hv.1 hJ (by omega) (by omega) hB' hV' hj
  rw [bT_t rfl] at z1
  exact ⟨g3, z1, z2.1.mono (fun x hx => SM_in hx), h2.ofM z2.1 (fun j j1 _ => z2.2 j j1) z3 (by rw [z2.2 51 (by unfold mFd; omega), z2.2 52 (by unfold mFd; omega), z2.2 53 (by unfold mFd; omega), z2.2 54 (by unfold mFd; omega)]; exact h2.2.2.2.2.2.2.2.2.1)⟩
theorem o_space (x : Int32) : OKC X (fun g => f_X9_space X x g) (fun g => f_X10_space (X + 53) x g) := OKC.write (fun k σ r g hk hv hc hm => by
  have b7 := hv.1.2.2.2.2.2.2.2.2.1
  have hX := hc.1
  show ∃ v g1 σ', f_X9_space X x g = some (v, g1) ∧ _ ∧ _ ∧ _ ∧ _ ∧ ∀ g1, _ → ∃ g2, f_X10_space (X + 53) x g1 = some (v, g2) ∧ _ ∧ _
  unfold f_X9_space f_X10_space
  simp only [m_in 0 9 0 9 rfl rfl, zb_some]
  rw [hX.pr]
  by_cases h : 0 ≤ x.toInt ∧ x.toInt ≤ 9
  · obtain ⟨j, hj, rfl⟩ := i_one (x := x) (n := 10) (by omega) (by omega)
    obtain ⟨v, g1, σ', q1, q2, q3, q4, q5, q6⟩ := mv_both hk hv hc (show j ≤ 60 by omega) (Or.inl (by omega))
    refine ⟨v, g1, σ', ?_, q2, q3, q4, q5, fun g2 h2 => ?_⟩
    · rw [if_neg (fun e => by have := i_lt.mp e; rw [i_nI (by omega)] at this; have h0 : (0 : Int32).toInt = 0 := rfl; omega), if_pos (show nI j ≤ (9 : Int32) from (nle (b := 9) (by omega) (by omega)).mpr (by omega)), q1, zb_some]
    · obtain ⟨g3, z1, z2, z3⟩ := q6 g2 h2
      refine ⟨g3, ?_, z2, z3⟩
      rw [if_pos h, b1, z1, zb_some]
  · refine ⟨-1, g, σ, ?_, hv.next, rfl, frm.refl _ _, hc, fun g2 h2 => ⟨g2, by rw [if_neg h, b0], frm.refl _ _, h2⟩⟩
    simp only [i_lt, i_le]
    show (if x.toInt < 0 then _ else if x.toInt ≤ 9 then _ else _) = _
    by_cases h1 : x.toInt < 0
    · rw [if_pos h1]
    · rw [if_neg h1, if_neg (by omega)])
theorem o_skip (x : Int32) : OKC X (fun g => f_X9_skip X x g) (fun g => f_X10_skip (X + 53) x g) := OKC.write (fun k σ r g hk hv hc hm => by
  have b7 := hv.1.2.2.2.2.2.2.2.2.1
  have hX := hc.1
  show ∃ v g1 σ', f_X9_skip X x g = some (v, g1) ∧ _ ∧ _ ∧ _ ∧ _ ∧ ∀ g1, _ → ∃ g2, f_X10_skip (X + 53) x g1 = some (v, g2) ∧ _ ∧ _
  unfold f_X9_skip f_X10_skip
  simp only [m_in 0 7 0 7 rfl rfl, zb_some]
  rw [hX.pr]
  by_cases h : 0 ≤ x.toInt ∧ x.toInt ≤ 7
  · obtain ⟨c, hc8, rfl⟩ := i_one (x := x) (n := 8) (by omega) (by omega)
    have d1 : ¬ nI c < (0 : Int32) := fun e => by have := i_lt.mp e; rw [i_nI (by omega)] at this; have h0 : (0 : Int32).toInt = 0 := rfl; omega
    have d2 : nI c < (8 : Int32) := (nlt (b := 8) (by omega) (by omega)).mpr (by omega)
    obtain ⟨ha, hB, hV⟩ := hc.toC
    rcases rows_all true (n := aN (zR σ)) (ch := aC (zR σ)) hv.1 (hv.2.2.2.1.2.1) hc8 with ⟨j, ⟨j1, j2⟩, c1, c2⟩ | ⟨c1, c2⟩
    · obtain ⟨v, g1, σ', q1, q2, q3, q4, q5, q6⟩ := mv_both hk hv hc (show j ≤ 60 by omega) (Or.inr j2)
      refine ⟨v, g1, σ', ?_, q2, q3, q4, q5, fun g2 h2 => ?_⟩
      · rw [if_neg d1, if_pos d2]
        unfold f_X2_moveToHole
        rw [hc.2.1.2.2.1, hc.2.2.2.2.2.2.1.2.1, c1 X (X + 31) r (r + 1) g ha hB, zb_some, if_neg (nm4 (by omega)), q1, zb_some, zb_some]
      · obtain ⟨g3, z1, z2, z3⟩ := q6 g2 h2
        refine ⟨g3, ?_, z2, z3⟩
        rw [if_pos h, b1, c2 (X + 53) g2 (h2.toM 0).1 h2.2.2.2.2.2.1.2.1, zb_some, if_neg (nm4 (by omega)), z1, zb_some]
    · refine ⟨-4, g, σ, ?_, hv.next, rfl, frm.refl _ _, hc, fun g2 h2 => ⟨g2, ?_, frm.refl _ _, h2⟩⟩
      · rw [if_neg d1, if_pos d2]
        unfold f_X2_moveToHole
        rw [hc.2.1.2.2.1, hc.2.2.2.2.2.2.1.2.1, c1 X (X + 31) r (r + 1) g ha hB, zb_some, if_pos rfl, zb_some]
      · rw [if_pos h, b1, c2 (X + 53) g2 (h2.toM 0).1 h2.2.2.2.2.2.1.2.1, zb_some, if_pos rfl]
  · refine ⟨-1, g, σ, ?_, hv.next, rfl, frm.refl _ _, hc, fun g2 h2 => ⟨g2, by rw [if_neg h, b0], frm.refl _ _, h2⟩⟩
    simp only [i_lt, i_le]
    show (if x.toInt < 0 then _ else if x.toInt < 8 then _ else _) = _
    by_cases h1 : x.toInt < 0
    · rw [if_pos h1]
    · rw [if_neg h1, if_neg (by omega)])
theorem i_minus {a b : Nat} (h : b ≤ a) : nI a - nI b = nI (a - b) := pk_sub h
theorem o_run : OKC X (fun g => f_X9_run X g) (fun g => f_X10_run (X + 53) g) := OKC.write (fun k σ r g hk hv hc hm => by
  obtain ⟨ha, hB, hV⟩ := hc.toC
  have hM24 := hv.1.2.2.2.2.2.2.2.2.2.2.2.1
  have hJ := hv.toJ (g.1 (X + 31) 5)
  obtain ⟨m, fin, L, π', ⟨m1, m2⟩, f1, f2, hL, hJ2, hL2, C1, C2, C3⟩ := run_all hv.1 hv.1.ch (fun _ => rfl) (aM (zR σ)) 0 _ _ _ _ (by omega) hJ (by omega) (by omega)
  have hb24 : aM (zR σ) * 12740 ≤ 400000 := by omega
  have hb9 : aM (zR σ) * 9 ≤ 1000 := by omega
  have hJ3 : vJ true (zR σ) ((k + 1) * 400000) (1 + (k + 1) * 1000) ((k + 1) * 24) π' := hJ2.le (by rw [Nat.add_mul, Nat.one_mul]; exact Nat.add_le_add_left hb24 _) (by rw [Nat.add_mul, Nat.one_mul, Nat.add_assoc]; exact Nat.add_le_add_left (Nat.add_le_add_left hb9 _) _) (by rw [Nat.add_mul, Nat.one_mul]; exact Nat.add_le_add_left hM24 _)
  obtain ⟨g1, q1, q2, q3⟩ := C1 X (X + 31) r (r + 1) g zN ha hB hV (by have := zN_big; omega)
  have q1 := q_runProgram (N := zN) ha hB q1
  have hru := hc.1.rules hc.2.1
  have hB1 := hB.kept ha q2
  have hadr := hc.rw
  have hV1 := q3
  obtain ⟨p1, ⟨p2, p3, p4⟩, p5⟩ := q3
  let E : Int32 := if fin = true then -4 else nI m
  let Q : aQ := (true, nI (pTk π') - nI (zPs σ).1, nI L, E)
  have hX0 : g1.1 X = g.1 X := (q2.2 X (by unfold SC; omega)).1
  let g2 := zsi (zsi (zsi (zsi g1 X 7 1) X 8 (nI (pTk π') - nI (zPs σ).1)) X 9 (nI L)) X 10 E
  have eX : ∀ x, x ≠ X → g2.1 x = g1.1 x := fun x hx => by
    show (zsi (zsi (zsi (zsi g1 X 7 1) X 8 (nI (pTk π') - nI (zPs σ).1)) X 9 (nI L)) X 10 E).1 x = g1.1 x
    rw [zsi_at hx, zsi_at hx, zsi_at hx, zsi_at hx]
  have hfr : frm (fun x => SC true X (X + 31) x ∨ x = X) g g2 := (q2.mono (fun x hx => Or.inl hx)).trans ((((frm.si (Or.inr rfl)).trans (frm.si (Or.inr rfl))).trans (frm.si (Or.inr rfl))).trans (frm.si (Or.inr rfl)))
  have hV2 : PCv true (zR σ) π' X (X + 31) g2 := by
    unfold PCv at *
    rw [eX (X + 31 + 1) (by omega), eX (X + 31) (by omega), eX (X + 29) (by omega), eX (X + 30) (by omega), eX (X + 31 + 2) (by omega), eX (X + 31 + 3) (by omega), eX (X + 31 + 4) (by omega)]
    exact ⟨p1, ⟨p2, p3, p4⟩, fun hb => ⟨(p5 hb).1, (p5 hb).2.1, (p5 hb).2.2.kept⟩⟩
  refine ⟨nI m, g2, zJq σ π' Q, ?_, hv.ofJ hJ3, rfl, hfr.mono (fun x hx => by
    rcases hx with hx | hx
    · exact SC_in hx
    · omega), hc.ofC hfr hV2 ⟨?_, fun _ => ⟨?_, ?_, ?_⟩⟩, fun g3 h3 => ?_⟩
  · show f_X9_run X g = _
    unfold f_X9_run
    have eL : pLs (jOf σ (g.1 (X + 31) 5)) + nI L - g.1 (X + 31) 5 = nI L := by
      show g.1 (X + 31) 5 + nI L - g.1 (X + 31) 5 = nI L
      rw [Int32.add_comm, Int32.add_sub_cancel]
    have hV8 : (zsi g1 X 7 1).1 ((zsi g1 X 7 1).2.1 X 4) 2 - g.1 (X + 31) 2 = nI (pTk π') - nI (zPs σ).1 := by
      show (zsi g1 X 7 1).1 (g1.2.1 X 4) 2 - g.1 (X + 31) 2 = _
      rw [q2.1, hc.1.pr, zsi_at (by omega), p2, hc.2.2.2.2.2.2.1.1]
    have hV9 : ∀ A, (zsi (zsi g1 X 7 1) X 8 A).1 ((zsi (zsi g1 X 7 1) X 8 A).2.1 X 4) 5 - g.1 (X + 31) 5 = nI L := by
      intro A
      show (zsi (zsi g1 X 7 1) X 8 A).1 (g1.2.1 X 4) 5 - g.1 (X + 31) 5 = _
      rw [q2.1, hc.1.pr, zsi_at (by omega), zsi_at (by omega), p4, hL2, eL]
    have hcond : ∀ A B, (zsi (zsi (zsi g1 X 7 1) X 8 A) X 9 B).1 ((zsi (zsi (zsi g1 X 7 1) X 8 A) X 9 B).2.1 ((zsi (zsi (zsi g1 X 7 1) X 8 A) X 9 B).2.1 X 0) 1) 5 = nI (aM (zR σ)) := by
      intro A B
      show (zsi (zsi (zsi g1 X 7 1) X 8 A) X 9 B).1 (g1.2.1 (g1.2.1 X 0) 1) 5 = _
      rw [q2.1, hc.2.1.1, hru.2.1, zsi_at (by omega), zsi_at (by omega), zsi_at (by omega)]
      exact hB1.2.2.1.2.2.1
    rw [zl_eq, zl_eq, hc.1.pr, q1, zb_some, zl_eq, zl_eq, zl_eq, hV8, hV9, hcond]
    cases hf : fin with
    | true =>
      rw [if_pos (by rw [f1 hf]), zl_eq]
      show _ = some (nI m, zsi (zsi (zsi (zsi g1 X 7 1) X 8 (nI (pTk π') - nI (zPs σ).1)) X 9 (nI L)) X 10 (if fin = true then -4 else nI m))
      rw [if_pos hf]
    | false =>
      have hlt := f2 hf
      rw [if_neg (fun e => by have := (nI_inj (show m < 2147483648 by omega) (show aM (zR σ) < 2147483648 by omega)).mp e; omega), zl_eq]
      show _ = some (nI m, zsi (zsi (zsi (zsi g1 X 7 1) X 8 (nI (pTk π') - nI (zPs σ).1)) X 9 (nI L)) X 10 (if fin = true then -4 else nI m))
      rw [if_neg (by rw [hf]; decide)]
  · show (zsi (zsi (zsi (zsi g1 X 7 1) X 8 (nI (pTk π') - nI (zPs σ).1)) X 9 (nI L)) X 10 E).1 X 7 = _
    rw [zsi_get (by omega), zsi_get (by omega), zsi_get (by omega), zsi_same]; rfl
  · show (zsi (zsi (zsi (zsi g1 X 7 1) X 8 (nI (pTk π') - nI (zPs σ).1)) X 9 (nI L)) X 10 E).1 X 8 = _
    rw [zsi_get (by omega), zsi_get (by omega), zsi_same]
  · show (zsi (zsi (zsi (zsi g1 X 7 1) X 8 (nI (pTk π') - nI (zPs σ).1)) X 9 (nI L)) X 10 E).1 X 9 = _
    rw [zsi_get (by omega), zsi_same]
  · show (zsi (zsi (zsi (zsi g1 X 7 1) X 8 (nI (pTk π') - nI (zPs σ).1)) X 9 (nI L)) X 10 E).1 X 10 = _
    rw [zsi_same]
  · obtain ⟨hB3, hV3⟩ := h3.toM (g.1 (X + 31) 5)
    let g5 := zsi (zsi (zsi g3 (X + 53) 51 1) (X + 53) 53 0) (X + 53) 54 (-4)
    have fr5 : frm (SM true (X + 53)) g3 g5 := ((frm.si (Or.inl rfl)).trans (frm.si (Or.inl rfl))).trans (frm.si (Or.inl rfl))
    have c5 : ∀ j, j ≠ 51 → j ≠ 53 → j ≠ 54 → g5.1 (X + 53) j = g3.1 (X + 53) j := fun j a1 a2 a3 => by
      show (zsi (zsi (zsi g3 (X + 53) 51 1) (X + 53) 53 0) (X + 53) 54 (-4)).1 (X + 53) j = _
      rw [zsi_get a3, zsi_get a2, zsi_get a1]
    have hB5 : PMb (zR σ) (aN (zR σ)) (aC (zR σ)) (X + 53) g5 := hB3.kept2 fr5 (c5 0 (by omega) (by omega) (by omega)) (c5 4 (by omega) (by omega) (by omega))
    have hV5 : PMv true (zR σ) (jOf σ (g.1 (X + 31) 5)) (X + 53) g5 := ((hV3.fld (by unfold mFd; omega)).fld (by unfold mFd; omega)).fld (by unfold mFd; omega)
    obtain ⟨g6, z1, z2, z3, z4, z5, z6⟩ := C3 (X + 53) g5 zN (nI (zPs σ).1) 0 rfl hB5 hV5 zsi_same (by
      show (zsi (zsi (zsi g3 (X + 53) 51 1) (X + 53) 53 0) (X + 53) 54 (-4)).1 (X + 53) 53 = _
      rw [zsi_get (by omega), zsi_same]; rfl) (by have := zN_big; omega)
    have fr7 : frm (SM true (X + 53)) g3 (zsi g6 (X + 53) 52 (nI (pTk π') - nI (zPs σ).1)) := (fr5.trans z2).trans (frm.si (Or.inl rfl))
    refine ⟨zsi g6 (X + 53) 52 (nI (pTk π') - nI (zPs σ).1), ?_, fr7.mono (fun x hx => SM_in hx), h3.ofM fr7 (fun j j1 j2 => ?_) (z4.fld (by unfold mFd; omega)) ⟨?_, fun _ => ⟨?_, ?_, ?_⟩⟩⟩
    · show f_X10_run (X + 53) g3 = _
      unfold f_X10_run
      simp only [zl_eq]
      rw [h3.2.2.2.2.2.1.1, show zw zN (fun s : Int32 × zG => l_X10_run_23 (X + 53) (nI (zPs σ).1) s.1 s.2) (0, zsi (zsi (zsi g3 (X + 53) 51 1) (X + 53) 53 0) (X + 53) 54 (-4)) = some (nI m, g6) from z1, zk_some]
      unfold j_X10_run_87
      rw [zl_eq]
      show some (nI m, zsi g6 (X + 53) 52 (g6.1 (X + 53) 34 - nI (zPs σ).1)) = _
      rw [z4.2.1.1]
    · rw [zsi_get (by omega), z3 j j1 (by omega) (by omega), c5 j (by omega) (by omega) (by omega)]
    · rw [zsi_get (by omega), z3 51 (by unfold mFd; omega) (by omega) (by omega)]
      show (zsi (zsi (zsi g3 (X + 53) 51 1) (X + 53) 53 0) (X + 53) 54 (-4)).1 (X + 53) 51 = _
      rw [zsi_get (by omega), zsi_get (by omega), zsi_same]; rfl
    · rw [zsi_same]
    · rw [zsi_get (by omega), z5, Nat.zero_add]
    · rw [zsi_get (by omega), z6])
theorem o_ticks (x : Int32) : OKC X (fun g => f_X9_ticks X x g) (fun g => f_X10_ticks (X + 53) x g) := OKC.write (fun k σ r g hk hv hc hm => by
  have b3 := hv.1.2.2.2.2.1
  have hX := hc.1
  have hru := hc.1.rules hc.2.1
  have hr := hc.rw
  have htk := hv.2.2.2.1.1
  obtain ⟨ha, hB, hV⟩ := hc.toC
  have hJ := hv.toJ (g.1 (X + 31) 5)
  have hin : ∀ c, c < 40 → zLn σ c ≠ 0 → c < aV (zR σ) 3 := fun c c1 c2 => by
    rcases Nat.lt_or_ge c (aV (zR σ) 3) with h | h
    · exact h
    · exact absurd ((hv.2.2.1 c c1).2 h) c2
  show ∃ v g1 σ', f_X9_ticks X x g = some (v, g1) ∧ _ ∧ _ ∧ _ ∧ _ ∧ ∀ g1, _ → ∃ g2, f_X10_ticks (X + 53) x g1 = some (v, g2) ∧ _ ∧ _
  unfold f_X9_ticks f_X10_ticks
  simp only [m_in 1 40 1 40 rfl rfl, zb_some]
  rw [hX.pr]
  by_cases h : 1 ≤ x.toInt ∧ x.toInt ≤ 40
  · obtain ⟨P, hP, rfl⟩ := i_one (x := x) (n := 41) (by omega) (by omega)
    rw [i_nI (by omega)] at h
    have d1 : ¬ nI P < (1 : Int32) := fun e => by have := (nlt (b := 1) (by omega) (by omega)).mp e; omega
    have d2 : nI P ≤ (40 : Int32) := (nle (b := 40) (by omega) (by omega)).mpr (by omega)
    have d3 : 1 ≤ (nI P).toInt ∧ (nI P).toInt ≤ 40 := by rw [i_nI (by omega)]; exact h
    rw [if_neg d1, if_pos d2]
    have hcs := q_canStrike hv.1.ch hB.2.1.2 hB.2.2.2 (ln := zLn σ) (a := X + 31) (fun c hc' => ⟨by rw [hX.ln]; exact hc.2.2.2.2.2.1 c hc', (hv.2.2.1 c hc').1⟩)
    by_cases hall : ∀ c, c < aV (zR σ) 3 → zLn σ c ≠ 0 → ∃ i, i < aN (zR σ) ∧ aC (zR σ) i = zLn σ c
    · obtain ⟨e, A, W, m, ⟨e1, e2⟩, hA2, hA1, hm, hW, hC, hMM⟩ := strike_both hv.1.ch (show aV (zR σ) 3 ≤ 40 by omega) (P := P) (by omega) hall (b := (zPs σ).1) (by omega)
      have hcan : f_X2_canStrike (X + 31) g = some (1, g) := by
        rcases hcs with h | ⟨⟨c, c1, c2, c3⟩, -⟩
        · exact h.2
        · exact absurd (hall c (hin c c1 c2) c2) c3
      have r5 : g.2.1 X 5 = X + 38 := by unfold rX at hX; simp only [hX]
      have r38 : g.2.1 (X + 38) 0 = X + 42 := by unfold rX at hX; simp only [hX]
      have r42 : g.2.1 (X + 42) 1 = X + 44 := by unfold rX at hX; simp only [hX]
      obtain ⟨g1, h1, h2⟩ := hC (X + 44) (X + 32) (r + 1) g ⟨⟨by unfold rX at hX; simp only [hX], by unfold rX at hX; simp only [hX], by unfold rX at hX; simp only [hX], by unfold rX at hX; simp only [hX]⟩, hv.1.ch, hB.2.2.2, by omega, fun c hcc => ⟨hc.2.2.2.2.2.1 c (by omega), (hv.2.2.1 c (by omega)).1⟩, hall, by omega, by omega, by rw [hru.2.2.2.2.1]; omega⟩
      refine ⟨nI (e - (zPs σ).1), g1, σ, ?_, hv.next, rfl, h2.1.mono (fun x hx => by omega), hc.tri (fun x _ => by rw [h2.1.1]) (fun j _ _ => by rw [h2.1.1]) (fun x x1 _ => h2.1.2 x (by omega)), fun g3 h3 => ?_⟩
      · rw [hcan, zb_some, b1, zc_pos (c := zin 3 8) (by decide), r5, r38, r42, hc.2.1.1, hru.1, hX.pr, hX.ln, hru.2.2.1, c3, hc.2.2.1.val (by omega) (by omega), hc.2.2.2.2.2.2.1.1, h1, zb_some]
      · obtain ⟨hB3, hV3⟩ := h3.toM (g.1 (X + 31) 5)
        have hL := go_mline hv.1 hv.1.ch hJ.1 hB3 hV3
        obtain ⟨g4, z1, z2⟩ := hMM (X + 53) g3 hL hV3.2.1.1
        refine ⟨g4, ?_, z2.1.mono (fun x hx => by omega), h3.tri z2.1.1 z2.2.1 (fun i _ => by rw [(z2.1.2 (X + 53 + 1) (by omega)).1]) (fun i _ => by rw [(z2.1.2 (X + 53 + 21) (by omega)).1]) (fun x x1 x2 x3 x4 x5 => (z2.1.2 x (by omega)).1) hv.1⟩
        have hcan3 : f_X10_canGo (X + 53) g3 = some (1, g3) := by
          rcases m_canGo hL with h | ⟨⟨c, c1, c2, c3⟩, -⟩
          · exact h.2
          · exact absurd (hall c c1 c2) c3
        rw [if_pos d3, b1, hcan3, zb_some, b1, z1, zb_some]
    · have hex : ∃ c, c < aV (zR σ) 3 ∧ zLn σ c ≠ 0 ∧ ¬ ∃ i, i < aN (zR σ) ∧ aC (zR σ) i = zLn σ c := Classical.byContradiction (fun hn => hall (fun c hc h0 => Classical.byContradiction (fun ho => hn ⟨c, hc, h0, ho⟩)))
      obtain ⟨c, c1, c2, c3⟩ := hex
      refine ⟨-2, g, σ, ?_, hv.next, rfl, frm.refl _ _, hc, fun g3 h3 => ⟨g3, ?_, frm.refl _ _, h3⟩⟩
      · rcases hcs with h | h
        · exact absurd (h.1 c (by omega) c2) c3
        · rw [h.2, zb_some, b0]
      · obtain ⟨hB3, hV3⟩ := h3.toM (g.1 (X + 31) 5)
        rcases m_canGo (go_mline hv.1 hv.1.ch hJ.1 hB3 hV3) with h | h
        · exact absurd (h.1 c c1 c2) c3
        · rw [if_pos d3, b1, h.2, zb_some, b0]
  · refine ⟨-1, g, σ, ?_, hv.next, rfl, frm.refl _ _, hc, fun g2 h2 => ⟨g2, by rw [if_neg h, b0], frm.refl _ _, h2⟩⟩
    simp only [i_lt, i_le]
    show (if x.toInt < 1 then _ else if x.toInt ≤ 40 then _ else _) = _
    by_cases h1 : x.toInt < 1
    · rw [if_pos h1]
    · rw [if_neg h1, if_neg (by omega)])
end CL
