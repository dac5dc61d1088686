-- ===== a whole program, in both =====
section RUN
variable {b : Bool} {ρ : aR} {n : Nat} {ch : Nat → Nat}
theorem PMb.kept2 {M : Nat} {g g' : zG} (h : PMb ρ n ch M g) (hf : frm (SM b M) g g') (h0 : g'.1 M 0 = g.1 M 0) (h4 : g'.1 M 4 = g.1 M 4) : PMb ρ n ch M g' := by
  obtain ⟨h1, h2, h3⟩ := h
  have e : ∀ x, ¬ SM b M x → g'.1 x = g.1 x := fun x hx => (hf.2 x hx).1
  unfold SM at e
  unfold PMb mP mCh at *
  rw [e (M + 4) (by omega), e (M + 5) (by omega), e (M + 6) (by omega), e (M + 7) (by omega), e (M + 8) (by omega), e (M + 2) (by omega), e (M + 3) (by omega), e (M + 1) (by omega), h4, h0]
  exact ⟨h1.kept hf.1, h2, h3⟩
theorem PMv.fld {M j : Nat} {x : Int32} {g : zG} {π : aJ} (h : PMv b ρ π M g) (hj : ¬ mFd true j) : PMv b ρ π M (zsi g M j x) := by
  unfold mFd at hj
  simp only [true_and] at hj
  unfold PMv at *
  rw [zsi_at (b := M + 21) (by omega), zsi_at (b := M + 22) (by omega), zsi_at (b := M + 23) (by omega), zsi_at (b := M + 27) (by omega), zsi_at (b := M + 28) (by omega), zsi_at (b := M + 29) (by omega), zsi_get (j := 34) (by omega), zsi_get (j := 35) (by omega), zsi_get (j := 36) (by omega), zsi_get (j := 44) (by omega), zsi_get (j := 45) (by omega), zsi_get (j := 46) (by omega), zsi_get (j := 47) (by omega)]
  exact h
theorem run_two (hv : vR ρ) (hch : vCh n (aV ρ 1) (aV ρ 2) ch) (hn : b = true → n = aN ρ) : ∀ (d k Bt Bp By : Nat) (π : aJ), k + d = aM ρ → vJ b ρ Bt Bp By π → Bt + d * 12740 < 1800000000 → Bp + d * 9 < 1800000000 → ∃ (m : Nat) (fin : Bool) (L : Nat) (π' : aJ), (k ≤ m ∧ m ≤ aM ρ) ∧ (fin = true → m = aM ρ) ∧ (fin = false → m < aM ρ) ∧ Rs ρ (fun l => ∃ i, i < n ∧ ch i = l) d k (pLn π) (pRw π) fin ∧ L ≤ d ∧ vJ b ρ (Bt + d * 12740) (Bp + d * 9) (By + d) π' ∧ pLs π' = pLs π + nI L ∧
    (∀ X a r ca g N, adr b X a r ca → PCb ρ n ch X a r ca g → PCv b ρ π X a g → d < N → ∃ g', zw N (fun s : Int32 × zG => l_X2_runProgram_10 a (r + 3) s.1 s.2) (nI k, g) = some (if fin = true then .inr (nI m, g') else .inl (nI m, g')) ∧ frm (SC b X a) g g' ∧ PCv b ρ π' X a g') ∧
    (∀ M g N l1 l2, b = false → PMb ρ n ch M g → PMv b ρ π M g → d + 1 < N → ∃ g', zw N (fun s : Int32 × Int32 × zG => l_X10_tries_45 M l1 l2 s.1 s.2.1 s.2.2) (1, nI k, g) = some (bI fin, g') ∧ mKp b M g g' ∧ PMv b ρ π' M g') ∧
    (∀ M g N l1 l0, b = true → PMb ρ n ch M g → PMv b ρ π M g → g.1 M 54 = -4 → g.1 M 53 = nI l0 → d + 1 < N → ∃ g', zw N (fun s : Int32 × zG => l_X10_run_23 M l1 s.1 s.2) (nI k, g) = some (nI m, g') ∧ frm (SM b M) g g' ∧ (∀ j, ¬ mFd b j → j ≠ 53 → j ≠ 54 → g'.1 M j = g.1 M j) ∧ PMv b ρ π' M g' ∧ g'.1 M 53 = nI (l0 + L) ∧ g'.1 M 54 = if fin = true then -4 else nI m) := by
  have hM24 := hv.2.2.2.2.2.2.2.2.2.2.2.1
  intro d
  induction d with
  | zero =>
    intro k Bt Bp By π hk hJ _ _
    have hkM : k = aM ρ := by omega
    refine ⟨k, true, 0, π, ⟨Nat.le_refl _, by omega⟩, fun _ => hkM, fun z => (by cases z), rfl, Nat.le_refl _, hJ.le (by omega) (by omega) (by omega), (add_b0 _).symm, fun X a r ca g N ha hB hV hN => ?_, fun M g N l1 l2 hb hB hV hN => ?_, fun M g N l1 l0 hb hB hV h54 h53 hN => ?_⟩
    · obtain ⟨N, rfl⟩ : ∃ K, N = K + 1 := ⟨N - 1, by omega⟩
      refine ⟨g, ?_, frm.refl _ _, hV⟩
      rw [if_pos rfl]
      apply zw_end
      show l_X2_runProgram_10 a (r + 3) (nI k) g = _
      unfold l_X2_runProgram_10
      rw [hB.2.2.1.2.2.1, if_pos ((nle (by omega) (by omega)).mpr (by omega)), hkM]
    · obtain ⟨N, rfl⟩ : ∃ K, N = K + 1 := ⟨N - 1, by omega⟩
      refine ⟨g, ?_, mKp.refl _ _, hV⟩
      apply zw_end
      show l_X10_tries_45 M l1 l2 1 (nI k) g = _
      unfold l_X10_tries_45
      rw [hB.2.1.1, if_pos ((nle (by omega) (by omega)).mpr (by omega))]
      rfl
    · obtain ⟨N, rfl⟩ : ∃ K, N = K + 1 := ⟨N - 1, by omega⟩
      refine ⟨g, ?_, frm.refl _ _, fun _ _ _ _ => rfl, hV, h53, h54⟩
      apply zw_end
      show l_X10_run_23 M l1 (nI k) g = _
      unfold l_X10_run_23
      rw [hB.2.1.1, if_pos ((nle (by omega) (by omega)).mpr (by omega))]
  | succ d ih =>
    intro k Bt Bp By π hk hJ hBt hBp
    have hk1 : k < aM ρ := by omega
    obtain ⟨ok, π1, S1, ⟨D1, D2⟩, hJ1, hL1⟩ := do_two hv hch hn hJ (by omega) (by omega) hk1
    have hnl : ¬ nI (aM ρ) ≤ nI k := fun e => by have := (nle (by omega) (by omega)).mp e; omega
    cases ok with
    | false =>
      refine ⟨k, false, 0, π1, ⟨Nat.le_refl _, by omega⟩, fun z => (by cases z), fun _ => hk1, ⟨false, _, _, S1, fun _ => rfl, fun z => (by cases z)⟩, by omega, hJ1.le (by omega) (by omega) (by omega), ?_, fun X a r ca g N ha hB hV hN => ?_, fun M g N l1 l2 hb hB hV hN => ?_, fun M g N l1 l0 hb hB hV h54 h53 hN => ?_⟩
      · rw [hL1, if_neg (fun z => (by cases z.1))]
      · obtain ⟨N, rfl⟩ : ∃ K, N = K + 1 := ⟨N - 1, by omega⟩
        obtain ⟨g', q1, q2, q3⟩ := D1 X a r ca g ha hB hV
        refine ⟨g', ?_, q2, q3⟩
        exact zw_end (s := (nI k, g)) q1 N
      · obtain ⟨N, rfl⟩ : ∃ K, N = K + 1 + 1 := ⟨N - 2, by omega⟩
        obtain ⟨g', q1, q2, q3⟩ := D2 M g hB hV
        have hB' := hB.kept q2
        refine ⟨g', ?_, q2, q3⟩
        rw [bT_f (by rw [hb]; decide)] at q1
        rw [zw_step (s' := (0, nI (k + 1), g')) (by
          show l_X10_tries_45 M l1 l2 1 (nI k) g = _
          unfold l_X10_tries_45
          rw [hB.2.1.1, if_neg hnl, b1, q1, zb_some, zl_eq, nI_1]; rfl)]
        apply zw_end
        show l_X10_tries_45 M l1 l2 0 (nI (k + 1)) g' = _
        unfold l_X10_tries_45
        rw [b0]
        split <;> rfl
      · obtain ⟨N, rfl⟩ : ∃ K, N = K + 1 + 1 := ⟨N - 2, by omega⟩
        obtain ⟨g', q1, q2, q3⟩ := D2 M g hB hV
        have hB' := hB.kept q2
        rw [bT_t hb] at q1
        refine ⟨zsi g' M 54 (nI k), ?_, q2.1.trans (frm.si (Or.inl rfl)), fun j j1 j2 j3 => by rw [zsi_get j3, q2.2 j j1], q3.fld (by unfold mFd; omega), ?_, by rw [zsi_same]; rfl⟩
        · rw [zw_step (s' := (nI k, zsi g' M 54 (nI k))) (by
            show l_X10_run_23 M l1 (nI k) g = _
            unfold l_X10_run_23
            rw [hB.2.1.1, if_neg hnl, if_pos h54, q1, zb_some, bI_f, b0, zl_eq])]
          apply zw_end
          show l_X10_run_23 M l1 (nI k) (zsi g' M 54 (nI k)) = _
          unfold l_X10_run_23
          rw [zsi_get (by omega), hB'.2.1.1, if_neg hnl, zsi_same, if_neg (nm4 (by omega))]
        · rw [zsi_get (by omega), q2.2 53 (by unfold mFd; omega)]; exact h53
    | true =>
      obtain ⟨m, fin, L, π', ⟨m1, m2⟩, f1, f2, hS, hL, hJ2, hL2, C1, C2, C3⟩ := ih (k + 1) (Bt + 12740) (Bp + 9) (By + 1) π1 (by omega) hJ1 (by omega) (by omega)
      refine ⟨m, fin, (if aA ρ k = 1 then 1 else 0) + L, π', ⟨by omega, m2⟩, f1, f2, ⟨true, _, _, S1, fun z => (by cases z), fun _ => hS⟩, by split <;> omega, hJ2.le (by omega) (by omega) (by omega), ?_, fun X a r ca g N ha hB hV hN => ?_, fun M g N l1 l2 hb hB hV hN => ?_, fun M g N l1 l0 hb hB hV h54 h53 hN => ?_⟩
      · rw [hL2, hL1, Int32.add_assoc, nI_add]
        simp
      · obtain ⟨N, rfl⟩ : ∃ K, N = K + 1 := ⟨N - 1, by omega⟩
        obtain ⟨g1, q1, q2, q3⟩ := D1 X a r ca g ha hB hV
        obtain ⟨g', q4, q5, q6⟩ := C1 X a r ca g1 N ha (hB.kept ha q2) q3 (by omega)
        refine ⟨g', ?_, q2.trans q5, q6⟩
        rw [zw_step (s' := (nI (k + 1), g1)) q1]
        exact q4
      · obtain ⟨N, rfl⟩ : ∃ K, N = K + 1 := ⟨N - 1, by omega⟩
        obtain ⟨g1, q1, q2, q3⟩ := D2 M g hB hV
        obtain ⟨g', q4, q5, q6⟩ := C2 M g1 N l1 l2 hb (hB.kept q2) q3 (by omega)
        refine ⟨g', ?_, q2.trans q5, q6⟩
        rw [bT_f (by rw [hb]; decide)] at q1
        rw [zw_step (s' := (1, nI (k + 1), g1)) (by
          show l_X10_tries_45 M l1 l2 1 (nI k) g = _
          unfold l_X10_tries_45
          rw [hB.2.1.1, if_neg hnl, b1, q1, zb_some, zl_eq, nI_1]; rfl)]
        exact q4
      · obtain ⟨N, rfl⟩ : ∃ K, N = K + 1 := ⟨N - 1, by omega⟩
        obtain ⟨g1, q1, q2, q3⟩ := D2 M g hB hV
        have hB1 := hB.kept q2
        have hR := hB1.1
        have e5 : g1.2.1 M 5 = M + 4 := by unfold rM at hR; simp only [hR]
        have e53 : g1.1 M 53 = nI l0 := by rw [q2.2 53 (by unfold mFd; omega)]; exact h53
        have fr : frm (SM b M) g1 (zsi g1 M 53 (nI (l0 + if aA ρ k = 1 then 1 else 0))) := frm.si (Or.inl rfl)
        obtain ⟨g', q4, q5, q6, q7, q8, q9⟩ := C3 M (zsi g1 M 53 (nI (l0 + if aA ρ k = 1 then 1 else 0))) N l1 (l0 + if aA ρ k = 1 then 1 else 0) hb (hB1.kept2 fr (zsi_get (by omega)) (zsi_get (by omega))) (q3.fld (by unfold mFd; omega)) (by rw [zsi_get (by omega), q2.2 54 (by unfold mFd; omega)]; exact h54) zsi_same (by omega)
        refine ⟨g', ?_, (q2.1.trans fr).trans q5, fun j j1 j2 j3 => by rw [q6 j j1 j2 j3, zsi_get j2, q2.2 j j1], q7, by rw [q8, Nat.add_assoc], q9⟩
        rw [bT_t hb] at q1
        rw [zw_step (s' := (nI (k + 1), zsi g1 M 53 (nI (l0 + if aA ρ k = 1 then 1 else 0)))) (by
          show l_X10_run_23 M l1 (nI k) g = _
          unfold l_X10_run_23
          rw [hB.2.1.1, if_neg hnl, if_pos h54, q1, zb_some, bI_t, b1, zc_pos (zlit k 24 (by omega) (by omega)), e5, nI_cl (by omega), (hB1.2.1.2.1 k hk1).1, e53, zl_eq, zl_eq, zl_eq, zl_eq, nI_1, nI_1]
          have ho := (hv.2.2.2.2.2.2.2.2.2.2.2.2 k hk1).1
          by_cases h1 : aA ρ k = 1
          · rw [if_pos (show nI (aA ρ k) = 1 from (nI_inj (b := 1) (by omega) (by omega)).mpr h1), if_pos h1]
          · rw [if_neg (show ¬ nI (aA ρ k) = 1 from fun e => h1 ((nI_inj (b := 1) (by omega) (by omega)).mp e)), if_neg h1, add_b0]; rfl)]
        exact q4
theorem run_all (hv : vR ρ) (hch : vCh n (aV ρ 1) (aV ρ 2) ch) (hn : b = true → n = aN ρ) : ∀ (d k Bt Bp By : Nat) (π : aJ), k + d = aM ρ → vJ b ρ Bt Bp By π → Bt + d * 12740 < 1800000000 → Bp + d * 9 < 1800000000 → ∃ (m : Nat) (fin : Bool) (L : Nat) (π' : aJ), (k ≤ m ∧ m ≤ aM ρ) ∧ (fin = true → m = aM ρ) ∧ (fin = false → m < aM ρ) ∧ L ≤ d ∧ vJ b ρ (Bt + d * 12740) (Bp + d * 9) (By + d) π' ∧ pLs π' = pLs π + nI L ∧
    (∀ X a r ca g N, adr b X a r ca → PCb ρ n ch X a r ca g → PCv b ρ π X a g → d < N → ∃ g', zw N (fun s : Int32 × zG => l_X2_runProgram_10 a (r + 3) s.1 s.2) (nI k, g) = some (if fin = true then .inr (nI m, g') else .inl (nI m, g')) ∧ frm (SC b X a) g g' ∧ PCv b ρ π' X a g') ∧
    (∀ M g N l1 l2, b = false → PMb ρ n ch M g → PMv b ρ π M g → d + 1 < N → ∃ g', zw N (fun s : Int32 × Int32 × zG => l_X10_tries_45 M l1 l2 s.1 s.2.1 s.2.2) (1, nI k, g) = some (bI fin, g') ∧ mKp b M g g' ∧ PMv b ρ π' M g') ∧
    (∀ M g N l1 l0, b = true → PMb ρ n ch M g → PMv b ρ π M g → g.1 M 54 = -4 → g.1 M 53 = nI l0 → d + 1 < N → ∃ g', zw N (fun s : Int32 × zG => l_X10_run_23 M l1 s.1 s.2) (nI k, g) = some (nI m, g') ∧ frm (SM b M) g g' ∧ (∀ j, ¬ mFd b j → j ≠ 53 → j ≠ 54 → g'.1 M j = g.1 M j) ∧ PMv b ρ π' M g' ∧ g'.1 M 53 = nI (l0 + L) ∧ g'.1 M 54 = if fin = true then -4 else nI m) := by
  intro d k Bt Bp By π h1 h2 h3 h4
  obtain ⟨m, fin, L, π', q1, q2, q3, -, q4⟩ := run_two hv hch hn d k Bt Bp By π h1 h2 h3 h4
  exact ⟨m, fin, L, π', q1, q2, q3, q4⟩
theorem q_runProgram {X a r ca m N : Nat} {fin : Bool} {g g' : zG} (ha : adr b X a r ca) (hB : PCb ρ n ch X a r ca g) (h : zw zN (fun s : Int32 × zG => l_X2_runProgram_10 a (r + 3) s.1 s.2) (nI 0, g) = some (if fin = true then .inr (nI m, g') else .inl (nI m, g'))) : f_X2_runProgram a g = some (nI m, g') := by
  have hr := ha.ru hB.1
  unfold f_X2_runProgram
  rw [zl_eq, hB.2.1.1, hr.2.1, show ((0, g) : Int32 × zG) = (nI 0, g) from rfl, h]
  cases fin <;> rfl
end RUN
