-- ===== the reference as it is made =====
def mks : List Nat := [1, 2, 3, 5, 6, 7, 8, 9, 11, 12, 13, 16, 17, 18, 19, 21, 22, 24, 25, 26, 37, 38, 39, 40, 41, 42, 48, 49, 50, 55, 56, 57, 58, 59, 60]
def mk (i : Nat) : Nat := mks.getD i 0
theorem mk_ne : ∀ i, i < 35 → ∀ j, j < i → mk j ≠ mk i := by decide +kernel
def bld (M : Nat) (g : zG) : Nat → zG
  | 0 => g
  | i + 1 => zsr (zz (bld M g i) (M + 1 + i)) M (mk i) (M + 1 + i)
theorem bld_p (M : Nat) (g : zG) : ∀ n, n ≤ 35 → cF (fun x => M ≤ x ∧ x ≤ M + n) g (bld M g n) ∧ (bld M g n).1 M = g.1 M ∧ (∀ i, i < n → (bld M g n).2.1 M (mk i) = M + 1 + i) ∧ ∀ i, i < n → ∀ j, (bld M g n).1 (M + 1 + i) j = 0 := by
  intro n
  induction n with
  | zero => intro _; exact ⟨cF.refl _ _, rfl, fun i hi => absurd hi (Nat.not_lt_zero _), fun i hi => absurd hi (Nat.not_lt_zero _)⟩
  | succ n ih =>
    intro hn
    obtain ⟨h1, h2, h3, h4⟩ := ih (by omega)
    obtain ⟨G, g1, g2, g3, g4, g5, g6, g7⟩ := alx (g := bld M g n) (o := M) (k := mk n) (a := M + 1 + n) (by omega)
    have e : bld M g (n + 1) = G := g1
    rw [e]
    refine ⟨(h1.mono (fun x hx => by omega)).trans (g2.mono (fun x hx => by omega)), by rw [g3]; exact h2, fun i hi => ?_, fun i hi j => ?_⟩
    · by_cases ei : i = n
      · rw [ei]; exact g5
      · rw [g4 (mk i) (mk_ne n (by omega) i (by omega))]; exact h3 i (by omega)
    · by_cases ei : i = n
      · rw [ei]; exact g6 j
      · rw [(g2 (M + 1 + i) (by omega)).1]; exact h4 i (by omega) j
section REF
variable {M : Nat} {g : zG}
theorem bld_rM : rM M (bld M g 35) := by
  obtain ⟨-, -, h, -⟩ := bld_p M g 35 (Nat.le_refl _)
  exact ⟨h 0 (by decide), h 1 (by decide), h 2 (by decide), h 3 (by decide), h 4 (by decide), h 5 (by decide), h 6 (by decide), h 7 (by decide), h 8 (by decide), h 9 (by decide), h 10 (by decide), h 11 (by decide), h 12 (by decide), h 13 (by decide), h 14 (by decide), h 15 (by decide), h 16 (by decide), h 17 (by decide), h 18 (by decide), h 19 (by decide), h 20 (by decide), h 21 (by decide), h 22 (by decide), h 23 (by decide), h 24 (by decide), h 25 (by decide), h 26 (by decide), h 27 (by decide), h 28 (by decide), h 29 (by decide), h 30 (by decide), h 31 (by decide), h 32 (by decide), h 33 (by decide), h 34 (by decide)⟩
theorem i_ref0 : f_X10_init (M + 1) M g = zk (zw zN (fun s => l_X10_init_290 M s.1 s.2) (0, bld M g 35)) (fun x => j_X10_init_309 M x) := by
  obtain ⟨-, -, h, -⟩ := bld_p M g 35 (Nat.le_refl _)
  unfold f_X10_init
  rw [zl_eq, zl_eq, show zsr (zz g (M + 1)) M 1 (M + 1) = bld M g 1 from rfl]
  rw [zl_eq, zl_eq, show zsr (zz (bld M g 1) (M + 1 + 1)) M 2 (M + 1 + 1) = bld M g 2 from rfl]
  rw [zl_eq, zl_eq, show zsr (zz (bld M g 2) (M + 1 + 2)) M 3 (M + 1 + 2) = bld M g 3 from rfl]
  rw [zl_eq, zl_eq, show zsr (zz (bld M g 3) (M + 1 + 3)) M 5 (M + 1 + 3) = bld M g 4 from rfl]
  rw [zl_eq, zl_eq, show zsr (zz (bld M g 4) (M + 1 + 4)) M 6 (M + 1 + 4) = bld M g 5 from rfl]
  rw [zl_eq, zl_eq, show zsr (zz (bld M g 5) (M + 1 + 5)) M 7 (M + 1 + 5) = bld M g 6 from rfl]
  rw [zl_eq, zl_eq, show zsr (zz (bld M g 6) (M + 1 + 6)) M 8 (M + 1 + 6) = bld M g 7 from rfl]
  rw [zl_eq, zl_eq, show zsr (zz (bld M g 7) (M + 1 + 7)) M 9 (M + 1 + 7) = bld M g 8 from rfl]
  rw [zl_eq, zl_eq, show zsr (zz (bld M g 8) (M + 1 + 8)) M 11 (M + 1 + 8) = bld M g 9 from rfl]
  rw [zl_eq, zl_eq, show zsr (zz (bld M g 9) (M + 1 + 9)) M 12 (M + 1 + 9) = bld M g 10 from rfl]
  rw [zl_eq, zl_eq, show zsr (zz (bld M g 10) (M + 1 + 10)) M 13 (M + 1 + 10) = bld M g 11 from rfl]
  rw [zl_eq, zl_eq, show zsr (zz (bld M g 11) (M + 1 + 11)) M 16 (M + 1 + 11) = bld M g 12 from rfl]
  rw [zl_eq, zl_eq, show zsr (zz (bld M g 12) (M + 1 + 12)) M 17 (M + 1 + 12) = bld M g 13 from rfl]
  rw [zl_eq, zl_eq, show zsr (zz (bld M g 13) (M + 1 + 13)) M 18 (M + 1 + 13) = bld M g 14 from rfl]
  rw [zl_eq, zl_eq, show zsr (zz (bld M g 14) (M + 1 + 14)) M 19 (M + 1 + 14) = bld M g 15 from rfl]
  rw [zl_eq, zl_eq, show zsr (zz (bld M g 15) (M + 1 + 15)) M 21 (M + 1 + 15) = bld M g 16 from rfl]
  rw [zl_eq, zl_eq, show zsr (zz (bld M g 16) (M + 1 + 16)) M 22 (M + 1 + 16) = bld M g 17 from rfl]
  rw [zl_eq, zl_eq, show zsr (zz (bld M g 17) (M + 1 + 17)) M 24 (M + 1 + 17) = bld M g 18 from rfl]
  rw [zl_eq, zl_eq, show zsr (zz (bld M g 18) (M + 1 + 18)) M 25 (M + 1 + 18) = bld M g 19 from rfl]
  rw [zl_eq, zl_eq, show zsr (zz (bld M g 19) (M + 1 + 19)) M 26 (M + 1 + 19) = bld M g 20 from rfl]
  rw [zl_eq, zl_eq, show zsr (zz (bld M g 20) (M + 1 + 20)) M 37 (M + 1 + 20) = bld M g 21 from rfl]
  rw [zl_eq, zl_eq, show zsr (zz (bld M g 21) (M + 1 + 21)) M 38 (M + 1 + 21) = bld M g 22 from rfl]
  rw [zl_eq, zl_eq, show zsr (zz (bld M g 22) (M + 1 + 22)) M 39 (M + 1 + 22) = bld M g 23 from rfl]
  rw [zl_eq, zl_eq, show zsr (zz (bld M g 23) (M + 1 + 23)) M 40 (M + 1 + 23) = bld M g 24 from rfl]
  rw [zl_eq, zl_eq, show zsr (zz (bld M g 24) (M + 1 + 24)) M 41 (M + 1 + 24) = bld M g 25 from rfl]
  rw [zl_eq, zl_eq, show zsr (zz (bld M g 25) (M + 1 + 25)) M 42 (M + 1 + 25) = bld M g 26 from rfl]
  rw [zl_eq, zl_eq, show zsr (zz (bld M g 26) (M + 1 + 26)) M 48 (M + 1 + 26) = bld M g 27 from rfl]
  rw [zl_eq, zl_eq, show zsr (zz (bld M g 27) (M + 1 + 27)) M 49 (M + 1 + 27) = bld M g 28 from rfl]
  rw [zl_eq, zl_eq, show zsr (zz (bld M g 28) (M + 1 + 28)) M 50 (M + 1 + 28) = bld M g 29 from rfl]
  rw [zl_eq, zl_eq, show zsr (zz (bld M g 29) (M + 1 + 29)) M 55 (M + 1 + 29) = bld M g 30 from rfl]
  rw [zl_eq, zl_eq, show zsr (zz (bld M g 30) (M + 1 + 30)) M 56 (M + 1 + 30) = bld M g 31 from rfl]
  rw [zl_eq, zl_eq, show zsr (zz (bld M g 31) (M + 1 + 31)) M 57 (M + 1 + 31) = bld M g 32 from rfl]
  rw [zl_eq, zl_eq, show zsr (zz (bld M g 32) (M + 1 + 32)) M 58 (M + 1 + 32) = bld M g 33 from rfl]
  rw [zl_eq, zl_eq, show zsr (zz (bld M g 33) (M + 1 + 33)) M 59 (M + 1 + 33) = bld M g 34 from rfl]
  rw [zl_eq, zl_eq, show zsr (zz (bld M g 34) (M + 1 + 34)) M 60 (M + 1 + 34) = bld M g 35 from rfl]
  rw [zc_pos ⟨h 0 (by decide), h 1 (by decide), h 2 (by decide), h 3 (by decide), h 4 (by decide), h 5 (by decide), h 6 (by decide), h 7 (by decide), h 8 (by decide), h 9 (by decide), h 10 (by decide), h 11 (by decide), h 12 (by decide), h 13 (by decide), h 14 (by decide), h 15 (by decide), h 16 (by decide), h 17 (by decide), h 18 (by decide), h 19 (by decide), h 20 (by decide), h 21 (by decide), h 22 (by decide), h 23 (by decide), h 24 (by decide), h 25 (by decide), h 26 (by decide), h 27 (by decide), h 28 (by decide), h 29 (by decide), h 30 (by decide), h 31 (by decide), h 32 (by decide), h 33 (by decide), h 34 (by decide)⟩]
theorem i_ref (h0 : ∀ j, g.1 M j = 0) : ∃ g', f_X10_init (M + 1) M g = some (0, g') ∧ cF (fun x => M ≤ x) g g' ∧ MI σ0 M g' := by
  have hrM := bld_rM (M := M) (g := g)
  obtain ⟨b1, b2, -, b4⟩ := bld_p M g 35 (Nat.le_refl _)
  rw [i_ref0]
  generalize bld M g 35 = B at *
  obtain ⟨G, l1, l2, l3, l4⟩ := zflx (w := fun G => G) (fil (g := B) (A := M + 33) (N := 4) (f := fun _ => -4) (step := fun s : Int32 × zG => l_X10_init_290 M s.1 s.2) (by omega) (fun i G hi hG hx => by
    show l_X10_init_290 M (nI i) G = _
    unfold l_X10_init_290
    rw [hG, hrM.la, if_neg (show ¬ (4 : Int32) ≤ nI i from fun z => by have := (nle (a := 4) (by omega) (by omega)).mp z; omega), zc_pos (zlit i 4 hi (by omega)), nI_cl (by omega), zl_eq, zl_eq, nI_1]) (fun G hG hx => by
    show l_X10_init_290 M (nI 4) G = _
    unfold l_X10_init_290
    rw [if_pos (show (4 : Int32) ≤ nI 4 from Int32.le_refl _)]))
  have hrG : rM M G := hrM.kept (by rw [l2])
  obtain ⟨C, c1, c2, c3, c4⟩ := m_first hrG
  have hrC : rM M C := hrG.kept c2.1.1
  obtain ⟨D, d1, d2, d3, d4, d5, d6, d7, d8, d9, d10⟩ := m_keep (δ := δ0) hrC c4 (by decide) (by decide) (fun k hk => absurd hk (Nat.not_lt_zero _)) (by decide)
  have rowD : ∀ x, M + 30 ≤ x → D.1 x = G.1 x := fun x hx => by rw [d4 x (by omega) (by omega) (by omega), (c2.1.2 x (by unfold SMt; omega)).1]
  have fldG : ∀ j, G.1 M j = 0 := fun j => by rw [l3 M (by omega), b2]; exact h0 j
  refine ⟨D, ?_, ?_, ⟨hrC.kept (by rw [d2]), d5, ⟨?_, fun i hi => absurd hi (Nat.not_lt_zero _)⟩, ?_, fun c hc => by rw [d6 c hc]; rfl, ⟨d7.1, d7.2.1, d7.2.2⟩, d8, ⟨d9, fun z => (by cases z)⟩, ⟨d10, fun z => (by cases z)⟩, ⟨fun k hk => ⟨fun _ => ?_, fun l n h => (by cases h)⟩, fun i hi => ?_⟩⟩⟩
  · rw [show zw zN (fun s : Int32 × zG => l_X10_init_290 M s.1 s.2) (0, B) = some G from l1, zk_some]
    unfold j_X10_init_309
    rw [c1, zb_some, d1, zb_some]
  · refine ((b1.mono (fun x hx => hx.1)).trans (fun x hx => ⟨l3 x (by omega), by rw [l2], by rw [l2]⟩)).trans ((cF.of c2.1).mono (fun x hx => SMt_ge hx) |>.trans (fun x hx => ⟨d4 x (by omega) (by omega) (by omega), by rw [d2], by rw [d2]⟩))
  · rw [d3 27 (by decide) (by decide) (by decide) (by decide) (by decide) (by decide) (by decide), c2.2 27 (by unfold tFd; omega), fldG]; rfl
  · rw [d3 32 (by decide) (by decide) (by decide) (by decide) (by decide) (by decide) (by decide), c3 32 (by omega), fldG]; rfl
  · rw [rowD (M + 33) (by omega)]; exact l4 k hk
  · rw [rowD (M + 35) (by omega), l3 (M + 35) (by omega)]; exact b4 34 (by omega) i
end REF
theorem CI.up {σ : aZ} {X r : Nat} {g g' : zG} (h : CI σ X r g) (hf : cF (fun x => X + 53 ≤ x) g g') : CI σ X r g' := by
  have e : ∀ x, x < X + 53 → g'.1 x = g.1 x := fun x hx => (hf x (by omega)).1
  have er : ∀ x, x < X + 53 → g'.2.1 x = g.2.1 x := fun x hx => (hf x (by omega)).2.1
  have hrr := h.rw
  obtain ⟨h1, h2, h3, h4, h5, h6, h7, h8, h9, h10, h11⟩ := h
  have k1 : rX X g' := by
    unfold rX rR at *
    simp (disch := omega) only [er]
    exact h1
  have k2 : rW X r g' := by
    unfold rW at *
    rw [er X (by omega), er (X + 31) (by omega)]
    exact h2
  refine ⟨k1, k2, h3.kept (fun b b1 b2 => e b (by omega)), ?_⟩
  rw [e (X + 23) (by omega), e (X + 24) (by omega), e (X + 32) (by omega), e (X + 31) (by omega), e (X + 29) (by omega), e (X + 30) (by omega), e (X + 33) (by omega), e (X + 34) (by omega), e (X + 35) (by omega), e X (by omega), e (X + 50) (by omega), e (X + 51) (by omega), e (X + 52) (by omega), (hf (X + 33) (by omega)).2.2]
  exact ⟨h4, h5, h6, h7, h8, h9.kept, h10, h11⟩
