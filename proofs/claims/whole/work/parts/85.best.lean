-- ===== the order of letters by which a program takes the fewest ticks =====
section BEST
variable {ρ : aR} {n : Nat} {f : Nat → Nat}
theorem zcp_at {g : zG} {a b : Nat} {h : Nat → Int32} {s d m : Int32} (hb : b ≠ a) : (zcp g a h s d m).1 b = g.1 b := by
  funext j
  show (if b = a then _ else _) = _
  rw [if_neg hb]
theorem zcp_get {g : zG} {a N j : Nat} {h : Nat → Int32} (hN : N < 2147483648) (hj : j < N) : (zcp g a h 0 0 (nI N)).1 a j = h j := by
  show (if a = a then va_cpy h (g.1 a) (0 : Int32).toNatClampNeg (0 : Int32).toNatClampNeg (nI N).toNatClampNeg j else _) = _
  rw [if_pos rfl, nI_cl hN]
  show (if 0 ≤ j ∧ j < 0 + N then h (0 + (j - 0)) else _) = _
  rw [if_pos (by omega), Nat.zero_add, Nat.sub_zero]
theorem zcp_frm {g : zG} {a : Nat} {h : Nat → Int32} {s d m : Int32} : frm (fun x => x = a) g (zcp g a h s d m) := ⟨rfl, fun b hb => ⟨zcp_at hb, rfl⟩⟩
theorem q_copy {X r : Nat} {g : zG} (hv : vR ρ) (hX : rX X g) (hr : r = X + 1 ∨ r = X + 12) (hc : cR ρ r g) : ∃ g', f_X0_copyFrom (X + 40) (r + 1) g = some (0, g') ∧ frm (fun x => x = X + 40 ∨ x = X + 41) g g' ∧ cCh (aN ρ) (aV ρ 1) (aV ρ 2) (aC ρ) (X + 40) g' := by
  have hq := hX.tp
  have bn := hv.1
  have hrr : rR r g := by
    rcases hr with e | e
    · rw [e]; exact hX.1
    · rw [e]; exact hX.2.1
  let G0 : zG := zcp g (X + 41) (g.1 (r + 2)) 0 0 48
  refine ⟨zsi (zsi (zsi G0 (X + 40) 1 (nI (aN ρ))) (X + 40) 2 (nI (aV ρ 1))) (X + 40) 3 (nI (aV ρ 2)), ?_, ?_, ?_, ?_, ?_, ?_⟩
  · unfold f_X0_copyFrom
    rw [zc_pos (by decide), hq.2.2.2.1, hrr.2.2.2.2.1]
    simp only [zl_eq]
    have e1 : G0.1 (r + 1) = g.1 (r + 1) := zcp_at (by omega)
    show some ((0 : Int32), zsi (zsi (zsi G0 (X + 40) 1 (G0.1 (r + 1) 1)) (X + 40) 2 ((zsi G0 (X + 40) 1 (G0.1 (r + 1) 1)).1 (r + 1) 2)) (X + 40) 3 ((zsi (zsi G0 (X + 40) 1 (G0.1 (r + 1) 1)) (X + 40) 2 ((zsi G0 (X + 40) 1 (G0.1 (r + 1) 1)).1 (r + 1) 2)).1 (r + 1) 3)) = _
    rw [zsi_at (b := r + 1) (by omega), zsi_at (b := r + 1) (by omega), zsi_at (b := r + 1) (by omega), e1, hc.1.1, hc.1.2.1, hc.1.2.2]
  · have f0 : frm (fun x => x = X + 40 ∨ x = X + 41) g G0 := (zcp_frm (g := g) (a := X + 41) (h := g.1 (r + 2)) (s := 0) (d := 0) (m := 48)).mono (fun x hx => Or.inr hx)
    exact ((f0.trans (frm.si (S := fun x => x = X + 40 ∨ x = X + 41) (Or.inl rfl))).trans (frm.si (S := fun x => x = X + 40 ∨ x = X + 41) (Or.inl rfl))).trans (frm.si (S := fun x => x = X + 40 ∨ x = X + 41) (Or.inl rfl))
  · rw [zsi_get (by omega), zsi_get (by omega), zsi_same]
  · rw [zsi_get (by omega), zsi_same]
  · rw [zsi_same]
  · intro i hi
    show (zsi (zsi (zsi G0 (X + 40) 1 (nI (aN ρ))) (X + 40) 2 (nI (aV ρ 1))) (X + 40) 3 (nI (aV ρ 2))).1 (g.2.1 (X + 40) 0) i = _
    rw [hq.2.2.2.1, zsi_at (by omega), zsi_at (by omega), zsi_at (by omega)]
    show (zcp g (X + 41) (g.1 (r + 2)) 0 0 (nI 48)).1 (X + 41) i = _
    rw [zcp_get (by omega) (by omega)]
    exact hc.2.1 i hi
theorem TC.oC {X r : Nat} {g : zG} (h : TC ρ n f X r g) : hC n f (X + 40) g := by
  have hq := h.1.tp
  obtain ⟨-, -, -, c1, c2, c3, c4⟩ := h
  rw [hq.2.2.2.1] at c4
  exact ⟨hq.2.2.2.1, c1, c4⟩
/-- other letters on the chain of trials -/
theorem TC.chg {X r : Nat} {f' : Nat → Nat} {g g' : zG} (h : TC ρ n f X r g) (hf : frm (fun x => x = X + 40 + 1) g g') (hC' : hC n f' (X + 40) g') : TC ρ n f' X r g' := by
  obtain ⟨h1, h2, h3, c1, c2, c3, c4⟩ := h
  have e : ∀ x, x ≠ X + 41 → g'.1 x = g.1 x := fun x hx => (hf.2 x hx).1
  refine ⟨h1.kept hf.1, h2, h3.kept (fun b b1 b2 => e b (by omega)), hC'.2.1, by rw [e (X + 40) (by omega)]; exact c2, by rw [e (X + 40) (by omega)]; exact c3, fun i hi => ?_⟩
  rw [hC'.1]; exact hC'.2.2 i hi
theorem PMb.oM {M : Nat} {g : zG} (h : PMb ρ n f M g) : hM n f M g := ⟨h.1.1, h.2.2.1, h.2.2.2.2.2⟩
theorem PMb.chg {M : Nat} {f' : Nat → Nat} {g g' : zG} (h : PMb ρ n f M g) (hf : frm (fun x => x = M + 1) g g') (hM' : hM n f' M g') : PMb ρ n f' M g' := by
  obtain ⟨h1, h2, c1, c2, c3, c4⟩ := h
  have e : ∀ x, x ≠ M + 1 → g'.1 x = g.1 x := fun x hx => (hf.2 x hx).1
  unfold PMb mP mCh at *
  rw [e (M + 4) (by omega), e (M + 5) (by omega), e (M + 6) (by omega), e (M + 7) (by omega), e (M + 8) (by omega), e (M + 2) (by omega), e (M + 3) (by omega), e M (by omega)]
  exact ⟨h1.kept hf.1, h2, c1, c2, c3, hM'.2.2⟩
theorem q_keep {X : Nat} {v : Int32} {g : zG} (hX : rX X g) : ∃ g', f_X8_keepOrder (X + 38) v g = some (0, g') ∧ frm (fun x => x = X + 38 ∨ x = X + 39) g g' ∧ g'.1 (X + 38) 2 = v ∧ (∀ j, j ≠ 2 → g'.1 (X + 38) j = g.1 (X + 38) j) ∧ ∀ i, i < 6 → g'.1 (X + 39) i = g.1 (X + 41) i := by
  have hq := hX.tp
  refine ⟨zcp (zsi g (X + 38) 2 v) (X + 39) ((zsi g (X + 38) 2 v).1 (X + 41)) 0 0 6, ?_, (frm.si (S := fun x => x = X + 38 ∨ x = X + 39) (Or.inl rfl)).trans (zcp_frm.mono (S2 := fun x => x = X + 38 ∨ x = X + 39) (fun x hx => Or.inr hx)), ?_, ?_, ?_⟩
  · unfold f_X8_keepOrder
    rw [zl_eq, zc_pos (by decide), zl_eq, zsi_r, hq.2.1, hq.2.2.1, hq.2.2.2.1]
  · rw [zcp_at (by omega), zsi_same]
  · intro j hj
    rw [zcp_at (by omega), zsi_get hj]
  · intro i hi
    show (zcp (zsi g (X + 38) 2 v) (X + 39) ((zsi g (X + 38) 2 v).1 (X + 41)) 0 0 (nI 6)).1 (X + 39) i = _
    rw [zcp_get (by omega) (by omega), zsi_at (by omega)]
theorem m_keepCh {M : Nat} {g : zG} (hM : rM M g) : f_X10_keepChain M g = some (0, zfl g (M + 31) 0 (fun j => g.1 (M + 1) j) 49) := by
  unfold f_X10_keepChain
  have h : zw zN (fun s : Int32 × zG => l_X10_keepChain_2 M s.1 s.2) (0, g) = some (zfl g (M + 31) 0 (fun j => g.1 (M + 1) j) 49) := by
    refine cpl (A := M + 31) (B := M + 1) (N := 49) (by omega) (by omega) (fun i G hi hG _ => ?_) (fun G hG _ => ?_)
    · show l_X10_keepChain_2 M (nI i) G = _
      unfold l_X10_keepChain_2
      rw [if_neg (show ¬ (49 : Int32) ≤ nI i from fun e => by have := (nle (a := 49) (by omega) (by omega)).mp e; omega), zc_pos (zlit i 49 hi (by omega)), zc_pos (zlit i 49 hi (by omega)), zl_eq, zl_eq, nI_cl (by omega), nI_1, hG, hM.kl.2.1, hM.1]
    · show l_X10_keepChain_2 M (nI 49) G = _
      unfold l_X10_keepChain_2
      rw [if_pos (show (49 : Int32) ≤ nI 49 from (nle (a := 49) (by omega) (by omega)).mpr (Nat.le_refl _))]
  rw [h, zk_some]
  rfl
theorem m_again {M : Nat} {g : zG} (hM : rM M g) : f_X10_chainAgain M g = some (0, zfl g (M + 1) 0 (fun j => g.1 (M + 31) j) 49) := by
  unfold f_X10_chainAgain
  have h : zw zN (fun s : Int32 × zG => l_X10_chainAgain_2 M s.1 s.2) (0, g) = some (zfl g (M + 1) 0 (fun j => g.1 (M + 31) j) 49) := by
    refine cpl (A := M + 1) (B := M + 31) (N := 49) (by omega) (by omega) (fun i G hi hG _ => ?_) (fun G hG _ => ?_)
    · show l_X10_chainAgain_2 M (nI i) G = _
      unfold l_X10_chainAgain_2
      rw [if_neg (show ¬ (49 : Int32) ≤ nI i from fun e => by have := (nle (a := 49) (by omega) (by omega)).mp e; omega), zc_pos (zlit i 49 hi (by omega)), zc_pos (zlit i 49 hi (by omega)), zl_eq, zl_eq, nI_cl (by omega), nI_1, hG, hM.kl.2.1, hM.1]
    · show l_X10_chainAgain_2 M (nI 49) G = _
      unfold l_X10_chainAgain_2
      rw [if_pos (show (49 : Int32) ≤ nI 49 from (nle (a := 49) (by omega) (by omega)).mpr (Nat.le_refl _))]
  rw [h, zk_some]
  rfl
theorem m_cpBest {M : Nat} {g : zG} (hM : rM M g) (h0 : g.1 M 0 = nI n) (hn : n ≤ 6) (x1 v : Int32) : zw zN (fun s : Int32 × zG => l_X10_best_126 M x1 v s.1 s.2) (0, g) = some (zfl g (M + 32) 0 (fun j => g.1 (M + 1) j) n) := by
  refine cpl (A := M + 32) (B := M + 1) (N := n) (by omega) (by omega) (fun i G hi hG hG2 => ?_) (fun G hG hG2 => ?_)
  · show l_X10_best_126 M x1 v (nI i) G = _
    unfold l_X10_best_126
    rw [hG2 M (by omega), h0, if_neg (fun e => by have := (nle (by omega) (by omega)).mp e; omega), zc_pos (zlit i 49 (by omega) (by omega)), zc_pos (zlit i 6 (by omega) (by omega)), zl_eq, zl_eq, nI_cl (by omega), nI_1, hG, hM.kl.2.2, hM.1]
  · show l_X10_best_126 M x1 v (nI n) G = _
    unfold l_X10_best_126
    rw [hG2 M (by omega), h0, if_pos ((nle (by omega) (by omega)).mpr (Nat.le_refl _))]
/-- the reference: what its search leaves, but for the chain -/
def frO (M : Nat) (g g' : zG) : Prop := g'.2.1 = g.2.1 ∧ (∀ j, j ≠ 43 → g'.1 M j = g.1 M j) ∧ (∀ c, c < 40 → g'.1 (M + 21) c = g.1 (M + 21) c) ∧ ∀ x, x ≠ M → x ≠ M + 1 → x ≠ M + 21 → ¬ (M + 24 ≤ x ∧ x ≤ M + 26) → x ≠ M + 30 → x ≠ M + 32 → g'.1 x = g.1 x ∧ g'.2.2 x = g.2.2 x
theorem frO.refl (M : Nat) (g : zG) : frO M g g := ⟨rfl, fun _ _ => rfl, fun _ _ => rfl, fun _ _ _ _ _ _ _ => ⟨rfl, rfl⟩⟩
theorem frO.trans {M : Nat} {g g1 g2 : zG} (h1 : frO M g g1) (h2 : frO M g1 g2) : frO M g g2 := ⟨h2.1.trans h1.1, fun j hj => (h2.2.1 j hj).trans (h1.2.1 j hj), fun c hc => (h2.2.2.1 c hc).trans (h1.2.2.1 c hc), fun x a b c d e f => ⟨(h2.2.2.2 x a b c d e f).1.trans (h1.2.2.2 x a b c d e f).1, (h2.2.2.2 x a b c d e f).2.trans (h1.2.2.2 x a b c d e f).2⟩⟩
theorem frO.ofR {M : Nat} {g g' : zG} (h : frR M g g') : frO M g g' := ⟨h.1, h.2.1, h.2.2.1, fun x a b c d e f => h.2.2.2 x a c d e⟩
theorem frO.of {M : Nat} {S : Nat → Prop} {g g' : zG} (h : frm S g g') (hS : ∀ x, S x → x = M + 1 ∨ x = M + 32) : frO M g g' := ⟨h.1, fun j _ => by rw [(h.2 M (fun z => by have := hS _ z; omega)).1], fun c _ => by rw [(h.2 (M + 21) (fun z => by have := hS _ z; omega)).1], fun x a b c d e f => h.2 x (fun z => by have := hS _ z; omega)⟩
theorem m_on {M : Nat} {g : zG} (hn : 2 ≤ n ∧ n ≤ 6) (hf : ∀ i, i < n → f i ≤ 26) (h : hM n f M g) : ∃ v g8, f_X10_goesOn M g = some (v, g8) := by
  rcases piv_ex (f := f) hn.1 with hd | ⟨p, q, hp⟩
  · exact ⟨_, _, m_none h (by omega) hf hd⟩
  · obtain ⟨g', q1, -, -⟩ := m_next h (by omega) hf hp
    exact ⟨_, _, q1⟩
/-- orders from one on: both search alike -/
theorem ord_all (hv : vR ρ) (hn : n = aN ρ) (hn6 : n ≤ 6) (hfin : Rs ρ (fun l => ∃ i, i < n ∧ aC ρ i = l) (aM ρ) 0 (fun _ => 0) 0 true) : ∀ (d : Nat) (f : Nat → Nat) (T : Nat) (L : Nat → Nat), Pm 0 n (aC ρ) f → fct n ≤ rkd n f n + d → T ≤ 400000 → ∃ (T' : Nat) (L' : Nat → Nat), T' ≤ 400000 ∧
    (∀ X r g N cnt, TC ρ n f X r g → g.1 (X + 38) 2 = nI T → (∀ i, i < n → g.1 (X + 39) i = nI (L i)) → cnt ≤ rkd n f n + 1 → d < N → ∃ g', zw N (fun s : Int32 × zG => l_X8_findOrder_42 (X + 38) r s.1 s.2) (nI cnt, g) = some g' ∧ frX (fun x => X + 38 ≤ x ∧ x ≤ X + 48) X g g' ∧ (∀ j, j ≠ 2 → g'.1 (X + 38) j = g.1 (X + 38) j) ∧ g'.1 (X + 38) 2 = nI T' ∧ ∀ i, i < n → g'.1 (X + 39) i = nI (L' i)) ∧
    ∀ M g N x1, PMb ρ n f M g → (∀ i, i < n → g.1 (M + 32) i = nI (L i)) → d < N → ∃ g', zb (f_X10_goesOn M g) (fun v g8 => zw N (fun s : Int32 × Int32 × zG => l_X10_best_104 M x1 s.1 s.2.1 s.2.2) (nI T, v, g8)) = some (nI T', g') ∧ frO M g g' ∧ ∀ i, i < n → g'.1 (M + 32) i = nI (L' i) := by
  have bn := hv.1
  have bC := hv.2.1
  have hfc := fct_mono n hn6
  intro d
  induction d with
  | zero =>
    intro f T L hP hd _
    have := rkd_lt n f n (Nat.le_refl _)
    omega
  | succ d ih =>
    intro f T L hP hd hT
    have hf : ∀ i, i < n → 1 ≤ f i ∧ f i ≤ 26 := hP.all (Q := fun v => 1 ≤ v ∧ v ≤ 26) (fun i hi => bC i (by omega))
    have hrk := rkd_lt n f n (Nat.le_refl _)
    rcases piv_ex (f := f) (show 2 ≤ n by omega) with hno | ⟨p, q, hp⟩
    · refine ⟨T, L, hT, fun X r g N cnt hTC h2 hL hc hN => ⟨g, ?_, frX.refl _ _ _, fun _ _ => rfl, h2, hL⟩, fun M g N x1 hB hL hN => ⟨g, ?_, frO.refl _ _, hL⟩⟩
      · obtain ⟨N, rfl⟩ : ∃ K, N = K + 1 := ⟨N - 1, by omega⟩
        apply zw_end
        show l_X8_findOrder_42 (X + 38) r (nI cnt) g = _
        unfold l_X8_findOrder_42
        rw [hTC.1.tp.2.2.1, h2, if_neg (nm4 (by omega)), c_none hTC.oC (by omega) (fun i hi => (hf i hi).2) hno, zb_some, b0]
        split <;> rfl
      · obtain ⟨N, rfl⟩ : ∃ K, N = K + 1 := ⟨N - 1, by omega⟩
        rw [m_none hB.oM (by omega) (fun i hi => (hf i hi).2) hno, zb_some]
        apply zw_end
        show l_X10_best_104 M x1 (nI T) 0 g = _
        unfold l_X10_best_104
        rw [b0]
    · obtain ⟨n1, n2, n3⟩ := nxt_pm hp
      have hP' : Pm 0 n (aC ρ) (nxt n f p q) := by
        have hpn := hp.1
        exact hP.trans (Pm.downs p 0 (by rw [Nat.zero_add]; exact n1) (by omega) (fun j hj => n2 j (by omega)))
      have hf' : ∀ i, i < n → 1 ≤ nxt n f p q i ∧ nxt n f p q i ≤ 26 := hP'.all (Q := fun v => 1 ≤ v ∧ v ≤ 26) (fun i hi => bC i (by omega))
      have hrk1 := rk_step (show p < n by have := hp.1; omega) n2 n3 n1
      have hrk2 := rkd_lt n (nxt n f p q) n (Nat.le_refl _)
      have hch' : vCh n (aV ρ 1) (aV ρ 2) (nxt n f p q) := ⟨by omega, by have := hv.2.2.1; omega, hv.2.2.2.1, hf'⟩
      obtain ⟨fin, V, hV, hRs, cT, mT⟩ := try_two hv hch'
      have hft : fin = true := Rs.uniq (on := fun l => ∃ i, i < n ∧ nxt n f p q i = l) (on' := fun l => ∃ i, i < n ∧ aC ρ i = l) (fun l => ⟨fun h => hP'.symm.has h, fun h => hP'.has h⟩) (fun k hk => (hv.2.2.2.2.2.2.2.2.2.2.2.2 k hk).1) (aM ρ) 0 0 (fun _ => 0) fin true (by omega) hRs hfin
      subst hft
      -- one turn of the class, but what it keeps
      have stepC : ∀ X r g cnt, TC ρ n f X r g → g.1 (X + 38) 2 = nI T → cnt ≤ rkd n f n + 1 → ∃ g2, TC ρ n (nxt n f p q) X r g2 ∧ frX (fun x => X + 41 ≤ x ∧ x ≤ X + 48) X g g2 ∧ l_X8_findOrder_42 (X + 38) r (nI cnt) g = (if T ≤ V then some (.inl (nI (cnt + 1), g2)) else zb (f_X8_keepOrder (X + 38) (nI V) g2) (fun v24 g25 => some (.inl (nI (cnt + 1), g25)))) := by
        intro X r g cnt hTC h2 hc
        obtain ⟨g1, a1, a2, a3⟩ := c_next hTC.oC (by omega) (fun i hi => (hf i hi).2) hp
        have hT1 := hTC.chg a2 a3
        obtain ⟨g2, a4, a5⟩ := cT X r g1 hT1
        have hT2 := hT1.kept a5 (fun x hx => hx)
        have a2' : frX (fun x => X + 41 ≤ x ∧ x ≤ X + 48) X g g1 := frX.of (a2.mono (fun x hx => by omega))
        have fr := a2'.trans (a5.mono (S2 := fun x => X + 41 ≤ x ∧ x ≤ X + 48) (fun x hx => by omega))
        refine ⟨g2, hT2, fr, ?_⟩
        unfold l_X8_findOrder_42
        rw [if_neg (show ¬ (720 : Int32) ≤ nI cnt from fun e => by have := (nle (a := 720) (by omega) (by omega)).mp e; omega), hTC.1.tp.2.2.1, h2, if_neg (nm4 (by omega)), a1, zb_some, b1, a4, if_pos rfl, zb_some, (fr.2.2 (X + 38) (by omega)).1, h2]
        simp only [zl_eq, nI_1]
        by_cases e : T ≤ V
        · rw [if_pos e, if_pos ((nle (by omega) (by omega)).mpr e)]
        · rw [if_neg e, if_neg (fun z => e ((nle (by omega) (by omega)).mp z))]
      have stepM : ∀ M g x1, PMb ρ n f M g → ∃ g1 g2, f_X10_goesOn M g = some (1, g1) ∧ PMb ρ n (nxt n f p q) M g2 ∧ frO M g g2 ∧ g2.1 (M + 32) = g.1 (M + 32) ∧ l_X10_best_104 M x1 (nI T) 1 g1 = (if T ≤ V then j_X10_best_155_104 M x1 (nI T) g2 else zk (zw zN (fun s => l_X10_best_126 M x1 (nI V) s.1 s.2) (0, g2)) (fun x => j_X10_best_155_104 M x1 (nI V) x)) := by
        intro M g x1 hB
        obtain ⟨g1, a1, a2, a3⟩ := m_next hB.oM (by omega) (fun i hi => (hf i hi).2) hp
        have hB1 := hB.chg a2 a3
        obtain ⟨g2, a4, a5⟩ := mT M g1 hB1
        refine ⟨g1, g2, a1, a5.pmb hB1, (frO.of a2 (fun x hx => Or.inl hx)).trans (frO.ofR a5), ?_, ?_⟩
        · rw [(a5.2.2.2 (M + 32) (by omega) (by omega) (by omega) (by omega)).1, (a2.2 (M + 32) (by omega)).1]
        · unfold l_X10_best_104
          rw [b1, a4, if_pos rfl, zb_some]
          by_cases e : T ≤ V
          · rw [if_pos e, if_pos ((nle (by omega) (by omega)).mpr e)]
          · rw [if_neg e, if_neg (fun z => e ((nle (by omega) (by omega)).mp z))]
      by_cases hTV : T ≤ V
      · obtain ⟨T', L', k1, k2, k3⟩ := ih (nxt n f p q) T L hP' (by omega) hT
        refine ⟨T', L', k1, fun X r g N cnt hTC h2 hL hc hN => ?_, fun M g N x1 hB hL hN => ?_⟩
        · obtain ⟨N, rfl⟩ : ∃ K, N = K + 1 := ⟨N - 1, by omega⟩
          obtain ⟨g2, s1, s2, s3⟩ := stepC X r g cnt hTC h2 hc
          rw [if_pos hTV] at s3
          have e8 : g2.1 (X + 38) = g.1 (X + 38) := (s2.2.2 (X + 38) (by omega)).1
          have e9 : g2.1 (X + 39) = g.1 (X + 39) := (s2.2.2 (X + 39) (by omega)).1
          obtain ⟨g', t1, t2, t3, t4, t5⟩ := k2 X r g2 N (cnt + 1) s1 (by rw [e8]; exact h2) (fun i hi => by rw [e9]; exact hL i hi) (by omega) (by omega)
          exact ⟨g', by rw [zw_step (s' := (nI (cnt + 1), g2)) s3]; exact t1, (s2.mono (fun x hx => by omega)).trans t2, fun j hj => by rw [t3 j hj, e8], t4, t5⟩
        · obtain ⟨N, rfl⟩ : ∃ K, N = K + 1 := ⟨N - 1, by omega⟩
          obtain ⟨g1, g2, s0, s1, s2, s3, s4⟩ := stepM M g x1 hB
          rw [if_pos hTV] at s4
          obtain ⟨v, g8, o1⟩ := m_on (by omega) (fun i hi => (hf' i hi).2) s1.oM
          obtain ⟨g', t1, t2, t3⟩ := k3 M g2 N x1 s1 (fun i hi => by rw [s3]; exact hL i hi) (by omega)
          rw [o1, zb_some] at t1
          refine ⟨g', ?_, s2.trans t2, t3⟩
          rw [s0, zb_some, zw_step (s' := (nI T, v, g8)) (by
            show l_X10_best_104 M x1 (nI T) 1 g1 = _
            rw [s4]
            unfold j_X10_best_155_104
            rw [o1, zb_some])]
          exact t1
      · obtain ⟨T', L', k1, k2, k3⟩ := ih (nxt n f p q) V (nxt n f p q) hP' (by omega) hV
        refine ⟨T', L', k1, fun X r g N cnt hTC h2 hL hc hN => ?_, fun M g N x1 hB hL hN => ?_⟩
        · obtain ⟨N, rfl⟩ : ∃ K, N = K + 1 := ⟨N - 1, by omega⟩
          obtain ⟨g2, s1, s2, s3⟩ := stepC X r g cnt hTC h2 hc
          rw [if_neg hTV] at s3
          have e8 : g2.1 (X + 38) = g.1 (X + 38) := (s2.2.2 (X + 38) (by omega)).1
          obtain ⟨g3, u1, u2, u3, u4, u5⟩ := q_keep (v := nI V) s1.1
          rw [u1, zb_some] at s3
          have hT3 : TC ρ n (nxt n f p q) X r g3 := by
            obtain ⟨w1, w2, w3, w4⟩ := s1
            have e : ∀ x, ¬ (x = X + 38 ∨ x = X + 39) → g3.1 x = g2.1 x := fun x hx => (u2.2 x hx).1
            refine ⟨w1.kept u2.1, w2, w3.kept (fun b b1 b2 => e b (by omega)), ?_⟩
            unfold cCh at *
            rw [u2.1, w1.tp.2.2.2.1, e (X + 40) (by omega), e (X + 41) (by omega), ← w1.tp.2.2.2.1]
            exact w4
          obtain ⟨g', t1, t2, t3, t4, t5⟩ := k2 X r g3 N (cnt + 1) hT3 u3 (fun i hi => by rw [u5 i (by omega)]; exact s1.oC.2.2 i hi) (by omega) (by omega)
          exact ⟨g', by rw [zw_step (s' := (nI (cnt + 1), g3)) s3]; exact t1, ((s2.mono (fun x hx => by omega)).trans (frX.of (u2.mono (fun x hx => by omega)))).trans t2, fun j hj => by rw [t3 j hj, u4 j hj, e8], t4, t5⟩
        · obtain ⟨N, rfl⟩ : ∃ K, N = K + 1 := ⟨N - 1, by omega⟩
          obtain ⟨g1, g2, s0, s1, s2, s3, s4⟩ := stepM M g x1 hB
          rw [if_neg hTV, m_cpBest s1.1 s1.2.2.1 hn6, zk_some] at s4
          have fz := zfl_frm g2 (M + 32) 0 (fun j => g2.1 (M + 1) j) n
          have hB3 : PMb ρ n (nxt n f p q) M (zfl g2 (M + 32) 0 (fun j => g2.1 (M + 1) j) n) := by
            have e : ∀ x, x ≠ M + 32 → (zfl g2 (M + 32) 0 (fun j => g2.1 (M + 1) j) n).1 x = g2.1 x := fun x hx => (fz.2 x hx).1
            obtain ⟨h1, h2⟩ := s1
            unfold PMb mP mCh at *
            rw [e (M + 4) (by omega), e (M + 5) (by omega), e (M + 6) (by omega), e (M + 7) (by omega), e (M + 8) (by omega), e (M + 2) (by omega), e (M + 3) (by omega), e M (by omega), e (M + 1) (by omega)]
            exact ⟨h1.kept fz.1, h2⟩
          obtain ⟨v, g8, o1⟩ := m_on (by omega) (fun i hi => (hf' i hi).2) hB3.oM
          obtain ⟨g', t1, t2, t3⟩ := k3 M _ N x1 hB3 (fun i hi => by rw [zfl_get, if_pos (by omega), Nat.sub_zero]; exact s1.oM.2.2 i hi) (by omega)
          rw [o1, zb_some] at t1
          refine ⟨g', ?_, (s2.trans (frO.of fz (fun x hx => Or.inr hx))).trans t2, t3⟩
          rw [s0, zb_some, zw_step (s' := (nI V, v, g8)) (by
            show l_X10_best_104 M x1 (nI T) 1 g1 = _
            rw [s4]
            unfold j_X10_best_155_104
            rw [o1, zb_some])]
          exact t1
/-- where no order can be run: the reference goes through all of them -/
theorem ord_none (hv : vR ρ) (hn : n = aN ρ) (hn6 : n ≤ 6) (hfin : Rs ρ (fun l => ∃ i, i < n ∧ aC ρ i = l) (aM ρ) 0 (fun _ => 0) 0 false) : ∀ (d : Nat) (f : Nat → Nat), Pm 0 n (aC ρ) f → fct n ≤ rkd n f n + d → ∀ M g N x1, PMb ρ n f M g → d < N → ∃ g', zb (f_X10_goesOn M g) (fun v g8 => zw N (fun s : Int32 × Int32 × zG => l_X10_best_104 M x1 s.1 s.2.1 s.2.2) (1000000000, v, g8)) = some (1000000000, g') ∧ frO M g g' := by
  have bn := hv.1
  have bC := hv.2.1
  intro d
  induction d with
  | zero =>
    intro f hP hd
    have := rkd_lt n f n (Nat.le_refl _)
    omega
  | succ d ih =>
    intro f hP hd M g N x1 hB hN
    have hf : ∀ i, i < n → 1 ≤ f i ∧ f i ≤ 26 := hP.all (Q := fun v => 1 ≤ v ∧ v ≤ 26) (fun i hi => bC i (by omega))
    obtain ⟨N, rfl⟩ : ∃ K, N = K + 1 := ⟨N - 1, by omega⟩
    rcases piv_ex (f := f) (show 2 ≤ n by omega) with hno | ⟨p, q, hp⟩
    · refine ⟨g, ?_, frO.refl _ _⟩
      rw [m_none hB.oM (by omega) (fun i hi => (hf i hi).2) hno, zb_some]
      apply zw_end
      show l_X10_best_104 M x1 1000000000 0 g = _
      unfold l_X10_best_104
      rw [b0]
    · obtain ⟨n1, n2, n3⟩ := nxt_pm hp
      have hP' : Pm 0 n (aC ρ) (nxt n f p q) := by
        have hpn := hp.1
        exact hP.trans (Pm.downs p 0 (by rw [Nat.zero_add]; exact n1) (by omega) (fun j hj => n2 j (by omega)))
      have hf' : ∀ i, i < n → 1 ≤ nxt n f p q i ∧ nxt n f p q i ≤ 26 := hP'.all (Q := fun v => 1 ≤ v ∧ v ≤ 26) (fun i hi => bC i (by omega))
      have hrk1 := rk_step (show p < n by have := hp.1; omega) n2 n3 n1
      have hch' : vCh n (aV ρ 1) (aV ρ 2) (nxt n f p q) := ⟨by omega, by have := hv.2.2.1; omega, hv.2.2.2.1, hf'⟩
      obtain ⟨fin, V, hV, hRs, cT, mT⟩ := try_two hv hch'
      have hft : fin = false := Rs.uniq (on := fun l => ∃ i, i < n ∧ nxt n f p q i = l) (on' := fun l => ∃ i, i < n ∧ aC ρ i = l) (fun l => ⟨fun h => hP'.symm.has h, fun h => hP'.has h⟩) (fun k hk => (hv.2.2.2.2.2.2.2.2.2.2.2.2 k hk).1) (aM ρ) 0 0 (fun _ => 0) fin false (by omega) hRs hfin
      subst hft
      obtain ⟨g1, a1, a2, a3⟩ := m_next hB.oM (by omega) (fun i hi => (hf i hi).2) hp
      have hB1 := hB.chg a2 a3
      obtain ⟨g2, a4, a5⟩ := mT M g1 hB1
      have hB2 := a5.pmb hB1
      obtain ⟨v, g8, o1⟩ := m_on (by omega) (fun i hi => (hf' i hi).2) hB2.oM
      obtain ⟨g', t1, t2⟩ := ih (nxt n f p q) hP' (by omega) M g2 N x1 hB2 (by omega)
      rw [o1, zb_some] at t1
      refine ⟨g', ?_, ((frO.of a2 (fun x hx => Or.inl hx)).trans (frO.ofR a5)).trans t2⟩
      rw [a1, zb_some, zw_step (s' := (1000000000, v, g8)) (by
        show l_X10_best_104 M x1 1000000000 1 g1 = _
        unfold l_X10_best_104
        rw [b1, a4, if_neg (by decide), zb_some, if_pos (Int32.le_refl _)]
        unfold j_X10_best_155_104
        rw [o1, zb_some])]
      exact t1
end BEST
