-- ===== the objects are made =====
def cF (S : Nat → Prop) (g g' : zG) : Prop := ∀ x, ¬ S x → g'.1 x = g.1 x ∧ g'.2.1 x = g.2.1 x ∧ g'.2.2 x = g.2.2 x
theorem cF.refl (S : Nat → Prop) (g : zG) : cF S g g := fun _ _ => ⟨rfl, rfl, rfl⟩
theorem cF.trans {S : Nat → Prop} {g g1 g2 : zG} (h1 : cF S g g1) (h2 : cF S g1 g2) : cF S g g2 := fun x hx => ⟨(h2 x hx).1.trans (h1 x hx).1, (h2 x hx).2.1.trans (h1 x hx).2.1, (h2 x hx).2.2.trans (h1 x hx).2.2⟩
theorem cF.mono {S S2 : Nat → Prop} {g g' : zG} (h : cF S g g') (hs : ∀ x, S x → S2 x) : cF S2 g g' := fun x hx => h x (fun z => hx (hs x z))
theorem cF.of {S : Nat → Prop} {g g' : zG} (h : frm S g g') : cF S g g' := fun x hx => ⟨(h.2 x hx).1, by rw [h.1], (h.2 x hx).2⟩
/-- two heaps are one -/
def zEq (a b : zG) : Prop := a = b
theorem zEq.e {a b : zG} (h : zEq a b) : a = b := h
/-- a reference told -/
def rIs (g : zG) (o k a : Nat) : Prop := g.2.1 o k = a
theorem rIs.e {g : zG} {o k a : Nat} (h : rIs g o k a) : g.2.1 o k = a := h
theorem zzx {g : zG} {a : Nat} : ∃ G, zEq (zz g a) G ∧ cF (fun x => x = a) g G ∧ (∀ j, G.1 a j = 0) ∧ ∀ j, G.2.1 a j = 0 := by
  refine ⟨_, rfl, fun x hx => ⟨?_, ?_, ?_⟩, fun j => ?_, fun j => ?_⟩
  · funext j
    show (if x = a then _ else _) = _
    rw [if_neg hx]
  · funext j
    show (if x = a then _ else _) = _
    rw [if_neg hx]
  · funext j
    show (if x = a then _ else _) = _
    rw [if_neg hx]
  · show (if a = a then _ else _) = _
    rw [if_pos rfl]
  · show (if a = a then _ else _) = _
    rw [if_pos rfl]
theorem zsrx {g : zG} {a k y : Nat} : ∃ G, zEq (zsr g a k y) G ∧ G.1 = g.1 ∧ cF (fun x => x = a) g G ∧ (∀ j, j ≠ k → G.2.1 a j = g.2.1 a j) ∧ rIs G a k y := ⟨_, rfl, rfl, fun x hx => ⟨rfl, zsr_at hx, rfl⟩, fun j hj => zsr_get hj, zsr_same⟩
/-- a row is made and told to its owner -/
theorem alx {g : zG} {o k a : Nat} (ho : o ≠ a) : ∃ G, zEq (zsr (zz g a) o k a) G ∧ cF (fun x => x = o ∨ x = a) g G ∧ G.1 o = g.1 o ∧ (∀ j, j ≠ k → G.2.1 o j = g.2.1 o j) ∧ rIs G o k a ∧ (∀ j, G.1 a j = 0) ∧ ∀ j, G.2.1 a j = 0 := by
  obtain ⟨A, a1, a2, a3, a4⟩ := zzx (g := g) (a := a)
  obtain ⟨B, b1, b2, b3, b4, b5⟩ := zsrx (g := A) (a := o) (k := k) (y := a)
  refine ⟨B, by show zsr (zz g a) o k a = B; rw [a1.e]; exact b1, (a2.mono (fun x hx => Or.inr hx)).trans (b3.mono (fun x hx => Or.inl hx)), ?_, fun j hj => ?_, b5, fun j => ?_, fun j => ?_⟩
  · rw [b2, (a2 o ho).1]
  · rw [b4 j hj, (a2 o ho).2.1]
  · rw [b2]; exact a3 j
  · rw [(b3 a (fun z => ho z.symm)).2.1]; exact a4 j
section MAK
variable {g : zG}
/-- a chain -/
theorem i_chain {a : Nat} (h : ∀ j, g.1 a j = 0) : ∃ g', f_X0_init (a + 1) a g = some (0, g') ∧ cF (fun x => x = a ∨ x = a + 1) g g' ∧ (∀ j, g'.1 a j = 0) ∧ rIs g' a 0 (a + 1) := by
  obtain ⟨B, b1, b2, b3, b4, b5, b6, b7⟩ := alx (g := g) (o := a) (k := 0) (a := a + 1) (by omega)
  refine ⟨B, ?_, b2, fun j => by rw [b3]; exact h j, b5⟩
  unfold f_X0_init
  rw [zl_eq, zl_eq, b1.e, zc_pos b5.e]
theorem i_prog {a : Nat} : ∃ g', f_X3_init (a + 1) a g = some (0, g') ∧ cF (fun x => a ≤ x ∧ x ≤ a + 5) g g' ∧ rIs g' a 0 (a + 1) ∧ rIs g' a 1 (a + 2) ∧ rIs g' a 2 (a + 3) ∧ rIs g' a 3 (a + 4) ∧ rIs g' a 4 (a + 5) := by
  obtain ⟨B1, b1, b2, b3, b4, b5, b6, b7⟩ := alx (g := g) (o := a) (k := 0) (a := a + 1) (by omega)
  obtain ⟨B2, c1, c2, c3, c4, c5, c6, c7⟩ := alx (g := B1) (o := a) (k := 1) (a := a + 1 + 1) (by omega)
  obtain ⟨B3, d1, d2, d3, d4, d5, d6, d7⟩ := alx (g := B2) (o := a) (k := 2) (a := a + 1 + 2) (by omega)
  obtain ⟨B4, e1, e2, e3, e4, e5, e6, e7⟩ := alx (g := B3) (o := a) (k := 3) (a := a + 1 + 3) (by omega)
  obtain ⟨B5, f1, f2, f3, f4, f5, f6, f7⟩ := alx (g := B4) (o := a) (k := 4) (a := a + 1 + 4) (by omega)
  have r0 : rIs B5 a 0 (a + 1) := by show B5.2.1 a 0 = a + 1; rw [f4 0 (by omega), e4 0 (by omega), d4 0 (by omega), c4 0 (by omega)]; exact b5
  have r1 : rIs B5 a 1 (a + 1 + 1) := by show B5.2.1 a 1 = a + 1 + 1; rw [f4 1 (by omega), e4 1 (by omega), d4 1 (by omega)]; exact c5
  have r2 : rIs B5 a 2 (a + 1 + 2) := by show B5.2.1 a 2 = a + 1 + 2; rw [f4 2 (by omega), e4 2 (by omega)]; exact d5
  have r3 : rIs B5 a 3 (a + 1 + 3) := by show B5.2.1 a 3 = a + 1 + 3; rw [f4 3 (by omega)]; exact e5
  refine ⟨B5, ?_, ((((b2.mono (fun x hx => by omega)).trans (c2.mono (fun x hx => by omega))).trans (d2.mono (fun x hx => by omega))).trans (e2.mono (fun x hx => by omega))).trans (f2.mono (fun x hx => by omega)), r0, r1, r2, r3, f5⟩
  unfold f_X3_init
  simp only [zl_eq]
  rw [b1.e, c1.e, d1.e, e1.e, f1.e, zc_pos ⟨r0, r1, r2, r3, f5⟩]
theorem i_strike {a : Nat} (h : ∀ j, g.1 a j = 0) : ∃ g', f_X7_init (a + 1) a g = some (0, g') ∧ cF (fun x => a ≤ x ∧ x ≤ a + 4) g g' ∧ rIs g' a 0 (a + 1) ∧ rIs g' a 1 (a + 2) ∧ rIs g' a 6 (a + 3) ∧ rIs g' a 7 (a + 4) := by
  obtain ⟨B1, b1, b2, b3, b4, b5, b6, b7⟩ := alx (g := g) (o := a) (k := 0) (a := a + 1) (by omega)
  obtain ⟨B2, c1, c2, c3, c4, c5, c6, c7⟩ := alx (g := B1) (o := a) (k := 1) (a := a + 1 + 1) (by omega)
  obtain ⟨B3, d1, d2, d3, d4, d5, d6, d7⟩ := alx (g := B2) (o := a) (k := 6) (a := a + 1 + 2) (by omega)
  obtain ⟨B4, e1, e2, e3, e4, e5, e6, e7⟩ := alx (g := B3) (o := a) (k := 7) (a := a + 1 + 3) (by omega)
  have r0 : rIs B4 a 0 (a + 1) := by show B4.2.1 a 0 = a + 1; rw [e4 0 (by omega), d4 0 (by omega), c4 0 (by omega)]; exact b5
  have r1 : rIs B4 a 1 (a + 1 + 1) := by show B4.2.1 a 1 = a + 1 + 1; rw [e4 1 (by omega), d4 1 (by omega)]; exact c5
  have r2 : rIs B4 a 6 (a + 1 + 2) := by show B4.2.1 a 6 = a + 1 + 2; rw [e4 6 (by omega)]; exact d5
  refine ⟨B4, ?_, (((b2.mono (fun x hx => by omega)).trans (c2.mono (fun x hx => by omega))).trans (d2.mono (fun x hx => by omega))).trans (e2.mono (fun x hx => by omega)), r0, r1, r2, e5⟩
  unfold f_X7_init
  simp only [zl_eq]
  rw [b1.e, c1.e, d1.e, e1.e, zc_pos ⟨r0, r1, r2, e5⟩]
theorem i_page {a : Nat} : ∃ g', f_X1_init (a + 1) a g = some (0, g') ∧ cF (fun x => a ≤ x ∧ x ≤ a + 2) g g' ∧ rIs g' a 0 (a + 1) ∧ rIs g' a 1 (a + 2) := by
  obtain ⟨B1, b1, b2, b3, b4, b5, b6, b7⟩ := alx (g := g) (o := a) (k := 0) (a := a + 1) (by omega)
  obtain ⟨B2, c1, c2, c3, c4, c5, c6, c7⟩ := alx (g := B1) (o := a) (k := 1) (a := a + 1 + 1) (by omega)
  have r0 : rIs B2 a 0 (a + 1) := by show B2.2.1 a 0 = a + 1; rw [c4 0 (by omega)]; exact b5
  refine ⟨B2, ?_, (b2.mono (fun x hx => by omega)).trans (c2.mono (fun x hx => by omega)), r0, c5⟩
  unfold f_X1_init
  simp only [zl_eq]
  rw [b1.e, c1.e, zc_pos ⟨r0, c5⟩]
theorem i_reader {a : Nat} (h : ∀ j, g.1 a j = 0) : ∃ g', f_X4_init (a + 1) a g = some (0, g') ∧ cF (fun x => a ≤ x ∧ x ≤ a + 4) g g' ∧ (∀ j, g'.1 a j = 0) ∧ rIs g' a 0 (a + 1) ∧ rIs g' a 10 (a + 2) ∧ rIs g' a 11 (a + 3) ∧ rIs g' a 12 (a + 4) := by
  obtain ⟨B1, b1, b2, b3, b4, b5, b6, b7⟩ := alx (g := g) (o := a) (k := 0) (a := a + 1) (by omega)
  obtain ⟨B2, c1, c2, c3, c4, c5, c6, c7⟩ := alx (g := B1) (o := a) (k := 10) (a := a + 1 + 1) (by omega)
  obtain ⟨B3, d1, d2, d3, d4, d5, d6, d7⟩ := alx (g := B2) (o := a) (k := 11) (a := a + 1 + 2) (by omega)
  obtain ⟨B4, e1, e2, e3, e4, e5, e6, e7⟩ := alx (g := B3) (o := a) (k := 12) (a := a + 1 + 3) (by omega)
  have r0 : rIs B4 a 0 (a + 1) := by show B4.2.1 a 0 = a + 1; rw [e4 0 (by omega), d4 0 (by omega), c4 0 (by omega)]; exact b5
  have r1 : rIs B4 a 10 (a + 1 + 1) := by show B4.2.1 a 10 = a + 1 + 1; rw [e4 10 (by omega), d4 10 (by omega)]; exact c5
  have r2 : rIs B4 a 11 (a + 1 + 2) := by show B4.2.1 a 11 = a + 1 + 2; rw [e4 11 (by omega)]; exact d5
  refine ⟨B4, ?_, (((b2.mono (fun x hx => by omega)).trans (c2.mono (fun x hx => by omega))).trans (d2.mono (fun x hx => by omega))).trans (e2.mono (fun x hx => by omega)), fun j => by rw [e3, d3, c3, b3]; exact h j, r0, r1, r2, e5⟩
  unfold f_X4_init
  simp only [zl_eq]
  rw [b1.e, c1.e, d1.e, e1.e, zc_pos ⟨r0, r1, r2, e5⟩]
theorem i_sheets {a : Nat} : ∃ g', f_X6_init (a + 1) a g = some (0, g') ∧ cF (fun x => a ≤ x ∧ x ≤ a + 3) g g' ∧ (rIs g' a 0 (a + 1) ∧ rIs g' a 1 (a + 2) ∧ rIs g' a 2 (a + 3)) ∧ (∀ j, j < 4 → g'.1 (a + 2) j = -1) ∧ ∀ j, g'.1 (a + 3) j = 0 := by
  obtain ⟨B1, b1, b2, b3, b4, b5, b6, b7⟩ := alx (g := g) (o := a) (k := 0) (a := a + 1) (by omega)
  obtain ⟨B2, c1, c2, c3, c4, c5, c6, c7⟩ := alx (g := B1) (o := a) (k := 1) (a := a + 1 + 1) (by omega)
  obtain ⟨B3, d1, d2, d3, d4, d5, d6, d7⟩ := alx (g := B2) (o := a) (k := 2) (a := a + 1 + 2) (by omega)
  have r0 : rIs B3 a 0 (a + 1) := by show B3.2.1 a 0 = a + 1; rw [d4 0 (by omega), c4 0 (by omega)]; exact b5
  have r1 : rIs B3 a 1 (a + 1 + 1) := by show B3.2.1 a 1 = a + 1 + 1; rw [d4 1 (by omega)]; exact c5
  obtain ⟨C, l1, l2, l3, l4⟩ := zflx (w := fun G => ((0 : Int32), G)) (j_fill (g := B3) (N := 4) (b1 := a + 1 + 1) (v := -1) (by omega))
  refine ⟨C, ?_, ?_, ⟨by show C.2.1 a 0 = a + 1; rw [l2]; exact r0, by show C.2.1 a 1 = a + 2; rw [l2]; exact r1, by show C.2.1 a 2 = a + 3; rw [l2]; exact d5⟩, fun j hj => l4 j hj, fun j => by rw [l3 (a + 3) (by omega)]; exact d6 j⟩
  · unfold f_X6_init
    simp only [zl_eq]
    rw [b1.e, c1.e, d1.e, zc_pos ⟨r0, r1, d5⟩, r1.e, l1, zb_some]
  · refine (((b2.mono (fun x hx => by omega)).trans (c2.mono (fun x hx => by omega))).trans (d2.mono (fun x hx => by omega))).trans (fun x hx => ⟨l3 x (by omega), by rw [l2], by rw [l2]⟩)
set_option maxHeartbeats 4000000 in
theorem i_rules {r : Nat} (h : ∀ j, g.1 r j = 0) : ∃ g', f_X5_init (r + 1) r g = some (0, g') ∧ cF (fun x => r ≤ x ∧ x ≤ r + 10) g g' ∧ rR r g' ∧ cR (finR δ0) r g' := by
  obtain ⟨A1, a1, a2, a3, a4⟩ := zzx (g := g) (a := r + 1)
  obtain ⟨A2, b1, b2, b3, b4⟩ := i_chain (g := A1) (a := r + 1) a3
  obtain ⟨A3, c1, c2, c3, c4, c5⟩ := zsrx (g := A2) (a := r) (k := 0) (y := r + 1)
  obtain ⟨A4, d1, d2, d3, d4⟩ := zzx (g := A3) (a := r + 1 + 2)
  obtain ⟨A5, e1, e2, e3, e4, e5, e6, e7⟩ := i_prog (g := A4) (a := r + 1 + 2)
  obtain ⟨A6, f1, f2, f3, f4, f5⟩ := zsrx (g := A5) (a := r) (k := 1) (y := r + 1 + 2)
  obtain ⟨A7, g1, g2, g3, g4, g5, g6, g7⟩ := alx (g := A6) (o := r) (k := 2) (a := r + 1 + 8) (by omega)
  obtain ⟨A8, h1, h2, h3, h4, h5, h6, h7⟩ := alx (g := A7) (o := r) (k := 3) (a := r + 1 + 9) (by omega)
  have q0 : rIs A8 r 0 (r + 1) := by show A8.2.1 r 0 = r + 1; rw [h4 0 (by omega), g4 0 (by omega), f4 0 (by omega), (e2 r (by omega)).2.1, (d2 r (by omega)).2.1]; exact c5
  have q1 : rIs A8 r 1 (r + 1 + 2) := by show A8.2.1 r 1 = r + 1 + 2; rw [h4 1 (by omega), g4 1 (by omega)]; exact f5
  have q2 : rIs A8 r 2 (r + 1 + 8) := by show A8.2.1 r 2 = r + 1 + 8; rw [h4 2 (by omega)]; exact g5
  have p38 : ∀ x, r + 3 ≤ x → x ≤ r + 8 → A8.2.1 x = A5.2.1 x := fun x x1 x2 => by rw [(h2 x (by omega)).2.1, (g2 x (by omega)).2.1, (f3 x (by omega)).2.1]
  have p12 : ∀ x, r + 1 ≤ x → x ≤ r + 2 → A8.2.1 x = A2.2.1 x ∧ A8.1 x = A2.1 x := fun x x1 x2 => ⟨by rw [(h2 x (by omega)).2.1, (g2 x (by omega)).2.1, (f3 x (by omega)).2.1, (e2 x (by omega)).2.1, (d2 x (by omega)).2.1, (c3 x (by omega)).2.1], by rw [(h2 x (by omega)).1, (g2 x (by omega)).1, (f3 x (by omega)).1, (e2 x (by omega)).1, (d2 x (by omega)).1, (c3 x (by omega)).1]⟩
  have hr : rR r A8 := ⟨q0, q1, q2, h5, by rw [(p12 (r + 1) (by omega) (by omega)).1]; exact b4, by rw [p38 (r + 3) (by omega) (by omega)]; exact e3, by rw [p38 (r + 3) (by omega) (by omega)]; exact e4, by rw [p38 (r + 3) (by omega) (by omega)]; exact e5, by rw [p38 (r + 3) (by omega) (by omega)]; exact e6, by rw [p38 (r + 3) (by omega) (by omega)]; exact e7⟩
  have fA : cF (fun x => r ≤ x ∧ x ≤ r + 10) g A8 := (((((((a2.mono (fun x hx => by omega)).trans (b2.mono (fun x hx => by omega))).trans (c3.mono (fun x hx => by omega))).trans (d2.mono (fun x hx => by omega))).trans (e2.mono (fun x hx => by omega))).trans (f3.mono (fun x hx => by omega))).trans (g2.mono (fun x hx => by omega))).trans (h2.mono (fun x hx => by omega))
  obtain ⟨B, k1, k2, k3, k4, k5, k6, k7, k8, k9⟩ := q_first hr
  have hrB : rR r B := by unfold rR at *; rw [k3]; exact hr
  obtain ⟨C, m1, m2, m3, m4, m5, m6, m7⟩ := q_settle (δ := δ0) hrB (fun i hi => ⟨k9 i hi, by show 0 < 256; omega⟩) ⟨fun z => (by cases z), fun ⟨r', _, hr'⟩ => absurd rfl hr'⟩
  have eC : ∀ x, ¬ (x = r + 1 ∨ x = r + 10) → C.1 x = B.1 x := fun x hx => (m2.2 x hx).1
  refine ⟨C, ?_, (fA.trans ((cF.of k2).mono (fun x hx => by omega))).trans ((cF.of m2).mono (fun x hx => by omega)), by unfold rR at *; rw [m3]; exact hrB, ⟨⟨?_, ?_, ?_⟩, fun i hi => ?_, ?_, fun k hk => absurd hk (Nat.not_lt_zero _), fun k x1 x2 => ?_, m7⟩⟩
  · unfold f_X5_init
    simp only [zl_eq]
    rw [a1.e, b1, zb_some, c1.e, d1.e, show f_X3_init (r + 1 + 3) (r + 1 + 2) A4 = _ from e1, zb_some, f1.e, g1.e, h1.e, zc_pos ⟨q0, q1, q2, h5⟩, k1, zb_some, m1, zb_some]
  · rw [m4]; exact k4
  · rw [m5]; exact k8 1 (by omega) (by omega)
  · rw [m6]; exact k8 2 (by omega) (by omega)
  · rw [eC _ (by omega)]; exact k5 i hi
  · rw [eC _ (by omega)]; exact k6
  · rw [eC _ (by omega)]; exact k8 k x1 x2
/-- a printer -/
theorem i_printer {a P b2 b3 p1 p2 : Nat} (h : ∀ j, g.1 a j = 0) (hP : P = 0 ∨ (P < a ∧ p1 < a ∧ p2 < a ∧ p1 ≠ p2 ∧ g.2.1 P 0 = p1 ∧ g.2.1 P 1 = p2)) : ∃ g', f_X2_init (a + 1) a P b2 b3 g = some (0, g') ∧ cF (fun x => (a ≤ x ∧ x ≤ a + 6) ∨ (P ≠ 0 ∧ (x = p1 ∨ x = p2))) g g' ∧ (rIs g' a 0 (a + 1) ∧ rIs g' a 1 (a + 2) ∧ rIs g' a 6 (P) ∧ rIs g' a 7 (b2) ∧ rIs g' a 8 (b3)) ∧ (rIs g' (a + 2) 0 (a + 3) ∧ rIs g' (a + 2) 1 (a + 4) ∧ rIs g' (a + 2) 6 (a + 5) ∧ rIs g' (a + 2) 7 (a + 6)) ∧ (g'.1 a 2 = 0 ∧ g'.1 a 3 = 0 ∧ g'.1 a 4 = 1) ∧ (∀ c, c < 40 → g'.1 (a + 1) c = 0) ∧ g'.1 (a + 2) 2 = 0 ∧ (P ≠ 0 → ∀ j, j < 2400 → g'.1 p1 j = 0 ∧ g'.1 p2 j = 0) := by
  obtain ⟨A1, a1, a2, a3, a4, a5, a6, a7⟩ := alx (g := g) (o := a) (k := 0) (a := a + 1) (by omega)
  obtain ⟨A2, b1, b2', b3', b4⟩ := zzx (g := A1) (a := a + 1 + 1)
  obtain ⟨A3, c1, c2, c3, c4, c5, c6⟩ := i_strike (g := A2) (a := a + 1 + 1) b3'
  obtain ⟨A4, d1, d2, d3, d4, d5⟩ := zsrx (g := A3) (a := a) (k := 1) (y := a + 1 + 1)
  obtain ⟨A5, e1, e2, e3, e4, e5⟩ := zsrx (g := A4) (a := a) (k := 6) (y := P)
  have q0 : rIs A5 a 0 (a + 1) := by show A5.2.1 a 0 = a + 1; rw [e4 0 (by omega), d4 0 (by omega), (c2 a (by omega)).2.1, (b2' a (by omega)).2.1]; exact a5
  have q1 : rIs A5 a 1 (a + 1 + 1) := by show A5.2.1 a 1 = a + 1 + 1; rw [e4 1 (by omega)]; exact d5
  have q2 : A5.2.1 (a + 2) = A3.2.1 (a + 2) := by rw [(e3 _ (by omega)).2.1, (d3 _ (by omega)).2.1]
  have fA : cF (fun x => a ≤ x ∧ x ≤ a + 6) g A5 := ((((a2.mono (fun x hx => by omega)).trans (b2'.mono (fun x hx => by omega))).trans (c2.mono (fun x hx => by omega))).trans (d3.mono (fun x hx => by omega))).trans (e3.mono (fun x hx => by omega))
  obtain ⟨k1, k2, k3, k4, k5, k6, k7, k8, k9⟩ := bg_p (g := A5) (a := a) (b1 := b2) (b2 := b3)
  have hb := q_begin (g := A5) (a := a) (b1 := b2) (b2 := b3) q0 q1
  generalize bg a b2 b3 A5 = B at *
  have fB : cF (fun x => a ≤ x ∧ x ≤ a + 6) A5 B := fun x hx => ⟨k1 x (by omega), k3 x (by omega), by rw [k2]⟩
  have st : ∀ C, f_X2_begin a b2 b3 A5 = some (0, C) → C.2 = B.2 → f_X2_init (a + 1) a P b2 b3 g = some (0, C) := by
    intro C hC hC2
    unfold f_X2_init
    simp only [zl_eq]
    rw [a1.e, b1.e, c1, zb_some, d1.e, e1.e, zc_pos ⟨q0, q1, e5⟩, hC, zb_some, zc_pos ⟨by rw [hC2]; exact k5, by rw [hC2]; exact k6⟩]
  rw [e5.e] at hb
  by_cases hz : P = 0
  · rw [if_pos hz] at hb
    refine ⟨B, st B hb rfl, (fA.trans fB).mono (fun x hx => Or.inl hx), ⟨(k4 0 (by omega) (by omega)).trans q0, (k4 1 (by omega) (by omega)).trans q1, (k4 6 (by omega) (by omega)).trans e5, k5, k6⟩, ?_, k7, k8, k9, fun z => absurd hz z⟩
    have e2r : B.2.1 (a + 2) = A3.2.1 (a + 2) := by rw [k3 (a + 2) (by omega), q2]
    exact ⟨(congrFun e2r 0).trans c3, (congrFun e2r 1).trans c4, (congrFun e2r 6).trans c5, (congrFun e2r 7).trans c6⟩
  · rw [if_neg hz] at hb
    rcases hP with hP | ⟨y1, y2, y3, y4, y5, y6⟩
    · exact absurd hP hz
    · have rP : B.2.1 P = g.2.1 P := by rw [k3 P (by omega), (fA P (by omega)).2.1]
      obtain ⟨C, l1, l2, l3, l4⟩ := q_clear2 (g := B) (y := P) (p1 := p1) (p2 := p2) y4 (by rw [rP]; exact y5) (by rw [rP]; exact y6)
      rw [l1, zb_some] at hb
      refine ⟨C, st C hb l2, ((fA.trans fB).mono (fun x hx => Or.inl hx)).trans (fun x hx => ⟨l3 x (fun z => hx (Or.inr ⟨hz, Or.inl z⟩)) (fun z => hx (Or.inr ⟨hz, Or.inr z⟩)), by rw [l2], by rw [l2]⟩), ?_, ?_, ?_, fun c hc => by rw [l3 _ (by omega) (by omega)]; exact k8 c hc, by rw [l3 _ (by omega) (by omega)]; exact k9, fun _ => l4⟩
      · have rC : ∀ k, C.2.1 a k = B.2.1 a k := fun k => by rw [l2]
        exact ⟨(rC 0).trans ((k4 0 (by omega) (by omega)).trans q0), (rC 1).trans ((k4 1 (by omega) (by omega)).trans q1), (rC 6).trans ((k4 6 (by omega) (by omega)).trans e5), (rC 7).trans k5, (rC 8).trans k6⟩
      · have e2r : C.2.1 (a + 2) = A3.2.1 (a + 2) := by rw [l2, k3 (a + 2) (by omega), q2]
        exact ⟨(congrFun e2r 0).trans c3, (congrFun e2r 1).trans c4, (congrFun e2r 6).trans c5, (congrFun e2r 7).trans c6⟩
      · rw [l3 a (by omega) (by omega)]
        exact k7
set_option maxHeartbeats 4000000 in
theorem i_trials {a b1 : Nat} (h : ∀ j, g.1 a j = 0) : ∃ g', f_X8_init (a + 1) a b1 g = some (0, g') ∧ cF (fun x => a ≤ x ∧ x ≤ a + 10) g g' ∧ (∀ j, g'.1 a j = 0) ∧ (rIs g' a 0 (a + 4) ∧ rIs g' a 1 (a + 1) ∧ rIs g' a 6 (a + 2) ∧ rIs g' (a + 2) 0 (a + 3)) ∧ (rIs g' (a + 4) 0 (a + 5) ∧ rIs g' (a + 4) 1 (a + 6) ∧ rIs g' (a + 4) 6 (0)) ∧ (rIs g' (a + 6) 0 (a + 7) ∧ rIs g' (a + 6) 1 (a + 8) ∧ rIs g' (a + 6) 6 (a + 9) ∧ rIs g' (a + 6) 7 (a + 10)) := by
  obtain ⟨A1, a1, a2, a3, a4, a5, a6, a7⟩ := alx (g := g) (o := a) (k := 1) (a := a + 1) (by omega)
  obtain ⟨A2, b1', b2, b3, b4⟩ := zzx (g := A1) (a := a + 1 + 1)
  obtain ⟨A3, c1, c2, c3, c4⟩ := i_chain (g := A2) (a := a + 1 + 1) b3
  obtain ⟨A4, d1, d2, d3, d4, d5⟩ := zsrx (g := A3) (a := a) (k := 6) (y := a + 1 + 1)
  obtain ⟨A5, e1, e2, e3, e4⟩ := zzx (g := A4) (a := a + 1 + 3)
  have q6 : rIs A5 a 6 (a + 1 + 1) := by show A5.2.1 a 6 = a + 1 + 1; rw [(e2 a (by omega)).2.1]; exact d5
  obtain ⟨A6, f1, f2, ⟨f3, f4, f5, f6, f7⟩, ⟨f8, f9, f10, f11⟩, f12, f13, f14, f15⟩ := i_printer (g := A5) (a := a + 1 + 3) (P := 0) (b2 := b1) (b3 := a + 1 + 1) (p1 := 0) (p2 := 0) e3 (Or.inl rfl)
  have f2' : cF (fun x => a + 4 ≤ x ∧ x ≤ a + 10) A5 A6 := f2.mono (fun x hx => by
    rcases hx with hx | hx
    · omega
    · exact absurd rfl hx.1)
  obtain ⟨A7, g1, g2, g3, g4, g5⟩ := zsrx (g := A6) (a := a) (k := 0) (y := a + 1 + 3)
  have r1 : rIs A7 a 1 (a + 1) := by show A7.2.1 a 1 = a + 1; rw [g4 1 (by omega), (f2' a (by omega)).2.1, (e2 a (by omega)).2.1, d4 1 (by omega), (c2 a (by omega)).2.1, (b2 a (by omega)).2.1]; exact a5
  have r6 : rIs A7 a 6 (a + 1 + 1) := by show A7.2.1 a 6 = a + 1 + 1; rw [g4 6 (by omega), (f2' a (by omega)).2.1]; exact q6
  have row : ∀ x, x ≠ a → A7.2.1 x = A6.2.1 x := fun x hx => (g3 x hx).2.1
  refine ⟨A7, ?_, ((((((a2.mono (fun x hx => by omega)).trans (b2.mono (fun x hx => by omega))).trans (c2.mono (fun x hx => by omega))).trans (d3.mono (fun x hx => by omega))).trans (e2.mono (fun x hx => by omega))).trans (f2'.mono (fun x hx => by omega))).trans (g3.mono (fun x hx => by omega)), fun j => ?_, ⟨g5, r1, r6, ?_⟩, ?_, ?_⟩
  · unfold f_X8_init
    simp only [zl_eq]
    rw [a1.e, b1'.e, c1, zb_some, d1.e, e1.e, zc_pos q6.e, show f_X2_init (a + 1 + 4) (a + 1 + 3) 0 b1 (a + 1 + 1) A5 = _ from f1, zb_some, g1.e, zc_pos ⟨g5, r1, r6⟩]
  · rw [g2, (f2' a (by omega)).1, (e2 a (by omega)).1, d2, (c2 a (by omega)).1, (b2 a (by omega)).1, a3]
    exact h j
  · show A7.2.1 (a + 2) 0 = a + 3
    rw [row (a + 2) (by omega), (f2' (a + 2) (by omega)).2.1, (e2 (a + 2) (by omega)).2.1, (d3 (a + 2) (by omega)).2.1]
    exact c4
  · have e4r := row (a + 4) (by omega)
    exact ⟨(congrFun e4r 0).trans f3, (congrFun e4r 1).trans f4, (congrFun e4r 6).trans f5⟩
  · have e6r := row (a + 6) (by omega)
    exact ⟨(congrFun e6r 0).trans f8, (congrFun e6r 1).trans f9, (congrFun e6r 6).trans f10, (congrFun e6r 7).trans f11⟩
end MAK
