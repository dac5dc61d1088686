-- ===== both as they are made =====
def σ0 : aZ := (finR δ0, (0, fun _ => 0), 0, fun _ => 0, (0, 0, 1), noY, (false, 0, 0, 0, fun _ => 0, fun _ => 0), (false, 0, 0, 0), (fun _ => none, fun _ => 0))
theorem σ0_v : vZ 0 σ0 := by
  have hR : vR (finR δ0) := finR_v (s := 0) (δ0_v 0) (by omega) (fun i hi => absurd hi (Nat.not_lt_zero _))
  refine ⟨hR, ⟨Nat.zero_le _, fun i hi => absurd hi (Nat.not_lt_zero _)⟩, fun c hc => ⟨Nat.zero_le _, fun _ => rfl⟩, ⟨Nat.zero_le _, ?_, by show 1 ≤ 1 + 0 * 1000; omega⟩, fun j hj => ?_, fun z => (by cases z), fun k hk l n h => (by cases h)⟩
  · have := hR.2.2.2.2.2.2.2.2.1
    show 0 < aV (finR δ0) 7
    omega
  · exact ⟨⟨by show 0 ≤ 26; omega, by show 0 ≤ _; omega⟩, by show (0 = 0 ↔ 0 = 0); omega⟩
section STA
variable {X : Nat}
theorem rR.rows {r : Nat} {g g' : zG} (h : rR r g) (e : ∀ b, r ≤ b → b ≤ r + 10 → g'.2.1 b = g.2.1 b) : rR r g' := by
  unfold rR at *
  rw [e r (by omega) (by omega), e (r + 1) (by omega) (by omega), e (r + 3) (by omega) (by omega)]
  exact h
theorem i_class (hX : 0 < X) (g : zG) : ∃ g1, f_X9_init (X + 1) X (zz g X) = some (0, g1) ∧ CI σ0 X (X + 1) g1 ∧ g1.1 (X + 38) 7 = 0 ∧ g1.1 (X + 38) 8 = 0 := by
  obtain ⟨A0, a1, a2, a3, a4⟩ := zzx (g := g) (a := X)
  obtain ⟨A1, b1, b2, b3, b4⟩ := zzx (g := A0) (a := X + 1)
  obtain ⟨A2, c1, c2, c3, c4⟩ := i_rules (g := A1) (r := X + 1) b3
  obtain ⟨A3, d1, d2, d3, d4, d5⟩ := zsrx (g := A2) (a := X) (k := 0) (y := X + 1)
  obtain ⟨A4, e1, e2, e3, e4⟩ := zzx (g := A3) (a := X + 1 + 11)
  obtain ⟨A5, f1, f2, f3, f4⟩ := i_rules (g := A4) (r := X + 1 + 11) e3
  obtain ⟨A6, g1, g2, g3, g4, g5⟩ := zsrx (g := A5) (a := X) (k := 1) (y := X + 1 + 11)
  obtain ⟨A7, h1, h2, h3, h4⟩ := zzx (g := A6) (a := X + 1 + 22)
  obtain ⟨A8, i1, i2, i3, i4, i5, i6, i7⟩ := i_reader (g := A7) (a := X + 1 + 22) h3
  obtain ⟨A9, j1, j2, j3, j4, j5⟩ := zsrx (g := A8) (a := X) (k := 2) (y := X + 1 + 22)
  obtain ⟨A10, k1, k2, k3, k4⟩ := zzx (g := A9) (a := X + 1 + 27)
  obtain ⟨A11, l1, l2, l3, l4⟩ := i_page (g := A10) (a := X + 1 + 27)
  obtain ⟨A12, m1, m2, m3, m4, m5⟩ := zsrx (g := A11) (a := X) (k := 3) (y := X + 1 + 27)
  obtain ⟨A13, n1, n2, n3, n4⟩ := zzx (g := A12) (a := X + 1 + 30)
  -- what the printer is told
  have x2 : A3.2.1 X 0 = X + 1 → A13.2.1 X 0 = X + 1 := fun h => by
    rw [(n2 X (by omega)).2.1, m4 0 (by omega), (l2 X (by omega)).2.1, (k2 X (by omega)).2.1, j4 0 (by omega), (i2 X (by omega)).2.1, (h2 X (by omega)).2.1, g4 0 (by omega), (f2 X (by omega)).2.1, (e2 X (by omega)).2.1]
    exact h
  have y0 : rIs A13 X 0 (X + 1) := x2 d5
  have y1 : rIs A13 X 1 (X + 1 + 11) := by
    show A13.2.1 X 1 = X + 1 + 11
    rw [(n2 X (by omega)).2.1, m4 1 (by omega), (l2 X (by omega)).2.1, (k2 X (by omega)).2.1, j4 1 (by omega), (i2 X (by omega)).2.1, (h2 X (by omega)).2.1]
    exact g5
  have y2 : rIs A13 X 2 (X + 1 + 22) := by
    show A13.2.1 X 2 = X + 1 + 22
    rw [(n2 X (by omega)).2.1, m4 2 (by omega), (l2 X (by omega)).2.1, (k2 X (by omega)).2.1]
    exact j5
  have y3 : rIs A13 X 3 (X + 1 + 27) := by
    show A13.2.1 X 3 = X + 1 + 27
    rw [(n2 X (by omega)).2.1]
    exact m5
  have pg : A13.2.1 (X + 1 + 27) = A11.2.1 (X + 1 + 27) := by rw [(n2 _ (by omega)).2.1, (m3 _ (by omega)).2.1]
  have F213 : cF (fun x => x = X ∨ X + 12 ≤ x) A2 A13 := ((((((((((d3.mono (fun x hx => by omega)).trans (e2.mono (fun x hx => by omega))).trans (f2.mono (fun x hx => by omega))).trans (g3.mono (fun x hx => by omega))).trans (h2.mono (fun x hx => by omega))).trans (i2.mono (fun x hx => by omega))).trans (j3.mono (fun x hx => by omega))).trans (k2.mono (fun x hx => by omega))).trans (l2.mono (fun x hx => by omega))).trans (m3.mono (fun x hx => by omega))).trans (n2.mono (fun x hx => by omega))
  have F513 : cF (fun x => x = X ∨ X + 23 ≤ x) A5 A13 := ((((((g3.mono (fun x hx => by omega)).trans (h2.mono (fun x hx => by omega))).trans (i2.mono (fun x hx => by omega))).trans (j3.mono (fun x hx => by omega))).trans (k2.mono (fun x hx => by omega))).trans (l2.mono (fun x hx => by omega))).trans ((m3.mono (fun x hx => by omega)).trans (n2.mono (fun x hx => by omega)))
  have F813 : cF (fun x => x = X ∨ X + 28 ≤ x) A8 A13 := (((j3.mono (fun x hx => by omega)).trans (k2.mono (fun x hx => by omega))).trans (l2.mono (fun x hx => by omega))).trans ((m3.mono (fun x hx => by omega)).trans (n2.mono (fun x hx => by omega)))
  have rr : rIs A13 (X + 1) 0 (X + 1 + 1) := ((congrFun (F213 (X + 1) (by omega)).2.1 0)).trans c3.1
  obtain ⟨A14, o1, o2, ⟨o3, o4, o5, o6, o7⟩, ⟨o8, o9, o10, o11⟩, o12, o13, o14, o15⟩ := i_printer (g := A13) (a := X + 1 + 30) (P := X + 1 + 27) (b2 := X + 1) (b3 := X + 1 + 1) (p1 := X + 1 + 27 + 1) (p2 := X + 1 + 27 + 2) n3 (Or.inr ⟨by omega, by omega, by omega, by omega, (congrFun pg 0).trans l3, (congrFun pg 1).trans l4⟩)
  have o2' : cF (fun x => X + 29 ≤ x ∧ x ≤ X + 37) A13 A14 := o2.mono (fun x hx => by
    rcases hx with hx | hx
    · omega
    · have := hx.2; omega)
  obtain ⟨A15, p1, p2, p3, p4, p5⟩ := zsrx (g := A14) (a := X) (k := 4) (y := X + 1 + 30)
  obtain ⟨A16, q1, q2, q3, q4⟩ := zzx (g := A15) (a := X + 1 + 37)
  have y0' : rIs A16 X 0 (X + 1) := by
    show A16.2.1 X 0 = X + 1
    rw [(q2 X (by omega)).2.1, p4 0 (by omega), (o2' X (by omega)).2.1]
    exact y0
  obtain ⟨A17, r1, r2, r3, ⟨r4, r5, r6, r7⟩, ⟨r8, r9, r10⟩, ⟨r11, r12, r13, r14⟩⟩ := i_trials (g := A16) (a := X + 1 + 37) (b1 := X + 1) q3
  obtain ⟨A18, s1, s2, s3, s4, s5⟩ := zsrx (g := A17) (a := X) (k := 5) (y := X + 1 + 37)
  obtain ⟨A19, t1, t2, t3, t4⟩ := zzx (g := A18) (a := X + 1 + 48)
  obtain ⟨A20, u1, u2, ⟨u3, u4, u5⟩, u6, u7⟩ := i_sheets (g := A19) (a := X + 1 + 48)
  obtain ⟨A21, v1, v2, v3, v4, v5⟩ := zsrx (g := A20) (a := X) (k := 6) (y := X + 1 + 48)
  have rowX : ∀ j, j ≠ 4 → j ≠ 5 → j ≠ 6 → A21.2.1 X j = A13.2.1 X j := fun j w1 w2 w3 => by
    rw [v4 j w3, (u2 X (by omega)).2.1, (t2 X (by omega)).2.1, s4 j w2, (r2 X (by omega)).2.1, (q2 X (by omega)).2.1, p4 j w1, (o2' X (by omega)).2.1]
  have z0 : rIs A21 X 0 (X + 1) := (rowX 0 (by omega) (by omega) (by omega)).trans y0
  have z1 : rIs A21 X 1 (X + 1 + 11) := (rowX 1 (by omega) (by omega) (by omega)).trans y1
  have z2 : rIs A21 X 2 (X + 1 + 22) := (rowX 2 (by omega) (by omega) (by omega)).trans y2
  have z3 : rIs A21 X 3 (X + 1 + 27) := (rowX 3 (by omega) (by omega) (by omega)).trans y3
  have z4 : rIs A21 X 4 (X + 1 + 30) := by
    show A21.2.1 X 4 = X + 1 + 30
    rw [v4 4 (by omega), (u2 X (by omega)).2.1, (t2 X (by omega)).2.1, s4 4 (by omega), (r2 X (by omega)).2.1, (q2 X (by omega)).2.1]
    exact p5
  have z5 : rIs A21 X 5 (X + 1 + 37) := by
    show A21.2.1 X 5 = X + 1 + 37
    rw [v4 5 (by omega), (u2 X (by omega)).2.1, (t2 X (by omega)).2.1]
    exact s5
  have F17 : cF (fun x => x = X ∨ X + 49 ≤ x) A17 A21 := (((s3.mono (fun x hx => by omega)).trans (t2.mono (fun x hx => by omega))).trans (u2.mono (fun x hx => by omega))).trans (v3.mono (fun x hx => by omega))
  have F14 : cF (fun x => x = X ∨ X + 38 ≤ x) A14 A21 := (((p3.mono (fun x hx => by omega)).trans (q2.mono (fun x hx => by omega))).trans (r2.mono (fun x hx => by omega))).trans (F17.mono (fun x hx => by omega))
  have F13 : cF (fun x => x = X ∨ X + 29 ≤ x) A13 A21 := (o2'.mono (fun x hx => by omega)).trans (F14.mono (fun x hx => by omega))
  have F2 : cF (fun x => x = X ∨ X + 12 ≤ x) A2 A21 := F213.trans (F13.mono (fun x hx => by omega))
  have F5 : cF (fun x => x = X ∨ X + 23 ≤ x) A5 A21 := F513.trans (F13.mono (fun x hx => by omega))
  have F8 : cF (fun x => x = X ∨ X + 28 ≤ x) A8 A21 := F813.trans (F13.mono (fun x hx => by omega))
  have F11 : A21.2.1 (X + 28) = A11.2.1 (X + 28) := by rw [(F13 (X + 28) (by omega)).2.1]; exact pg
  have intX : ∀ j, A21.1 X j = 0 := fun j => by
    rw [v2, (u2 X (by omega)).1, (t2 X (by omega)).1, s2, (r2 X (by omega)).1, (q2 X (by omega)).1, p2, (o2' X (by omega)).1, (n2 X (by omega)).1, m2, (l2 X (by omega)).1, (k2 X (by omega)).1, j2, (i2 X (by omega)).1, (h2 X (by omega)).1, g2, (f2 X (by omega)).1, (e2 X (by omega)).1, d2, (c2 X (by omega)).1, (b2 X (by omega)).1]
    exact a3 j
  have W23 := (F8 (X + 23) (by omega)).2.1
  have W31 := (F14 (X + 31) (by omega)).2.1
  have W33 := (F14 (X + 33) (by omega)).2.1
  have W38 := (F17 (X + 38) (by omega)).2.1
  have W40 := (F17 (X + 40) (by omega)).2.1
  have W42 := (F17 (X + 42) (by omega)).2.1
  have W44 := (F17 (X + 44) (by omega)).2.1
  have W49 : A21.2.1 (X + 49) = A20.2.1 (X + 49) := (v3 (X + 49) (by omega)).2.1
  have hrX : rX X A21 := ⟨c3.rows (fun b w1 w2 => (F2 b (by omega)).2.1), f3.rows (fun b w1 w2 => (F5 b (by omega)).2.1), z2, z3, z4, z5, v5, (congrFun W23 0).trans i4, (congrFun W23 10).trans i5, (congrFun W23 11).trans i6, (congrFun W23 12).trans i7, (congrFun F11 0).trans l3, (congrFun F11 1).trans l4, (congrFun W31 0).trans o3, (congrFun W31 1).trans o4, (congrFun W31 6).trans o5, (congrFun W33 0).trans o8, (congrFun W33 1).trans o9, (congrFun W33 6).trans o10, (congrFun W33 7).trans o11, (congrFun W38 0).trans r4, (congrFun W38 1).trans r5, (congrFun W38 6).trans r6, (congrFun W40 0).trans r7, (congrFun W42 0).trans r8, (congrFun W42 1).trans r9, (congrFun W42 6).trans r10, (congrFun W44 0).trans r11, (congrFun W44 1).trans r12, (congrFun W44 6).trans r13, (congrFun W44 7).trans r14, (congrFun W49 0).trans u3, (congrFun W49 1).trans u4, (congrFun W49 2).trans u5⟩
  have I23 : ∀ j, A21.1 (X + 23) j = 0 := fun j => by rw [(F8 (X + 23) (by omega)).1]; exact i3 j
  refine ⟨A21, ?_, ⟨hrX, ⟨z0, Or.inl ⟨rfl, z1⟩, (congrFun W31 7).trans o6, (congrFun W31 8).trans o7⟩, c4.kept (fun b w1 w2 => (F2 b (by omega)).1), ⟨I23 1, fun i hi => absurd hi (Nat.not_lt_zero _)⟩, I23 2, fun c hc => ?_, ⟨?_, ?_, ?_⟩, fun j hj => ?_, ⟨?_, fun z => (by cases z)⟩, ⟨intX 7, fun z => (by cases z)⟩, ⟨fun k hk => ⟨fun _ => ?_, fun l n h => (by cases h)⟩, fun i hi => ?_⟩⟩, ?_, ?_⟩
  · unfold f_X9_init
    rw [a1.e, zl_eq, b1.e, c1, zb_some, zl_eq, d1.e, zl_eq, e1.e, show f_X5_init (X + 1 + 12) (X + 1 + 11) A4 = _ from f1, zb_some, zl_eq, g1.e, zl_eq, h1.e, show f_X4_init (X + 1 + 23) (X + 1 + 22) A7 = _ from i1, zb_some, zl_eq, j1.e, zl_eq, k1.e, show f_X1_init (X + 1 + 28) (X + 1 + 27) A10 = _ from l1, zb_some, zl_eq, m1.e, zl_eq, n1.e, zc_pos y3.e, zc_pos y0.e, zc_pos y0.e, zl_eq, rr.e, show f_X2_init (X + 1 + 31) (X + 1 + 30) (X + 1 + 27) (X + 1) (X + 1 + 1) A13 = _ from o1, zb_some, zl_eq, p1.e, zl_eq, q1.e, zc_pos y0'.e, show f_X8_init (X + 1 + 38) (X + 1 + 37) (X + 1) A16 = _ from r1, zb_some, zl_eq, s1.e, zl_eq, t1.e, show f_X6_init (X + 1 + 49) (X + 1 + 48) A19 = _ from u1, zb_some, zl_eq, v1.e, zc_pos ⟨z0, z1, z2, z3, z4, z5, v5⟩]
  · rw [(F14 (X + 32) (by omega)).1]; exact o13 c hc
  · rw [(F14 (X + 31) (by omega)).1]; exact o12.1
  · rw [(F14 (X + 31) (by omega)).1]; exact o12.2.1
  · rw [(F14 (X + 31) (by omega)).1]; exact o12.2.2
  · rw [(F14 (X + 29) (by omega)).1, (F14 (X + 30) (by omega)).1]
    exact o15 (by omega) j hj
  · rw [(F14 (X + 33) (by omega)).1]; exact o14
  · rw [v2]; exact u6 k hk
  · rw [v2]; exact u7 i
  · rw [(F17 (X + 38) (by omega)).1]; exact r3 7
  · rw [(F17 (X + 38) (by omega)).1]; exact r3 8
end STA
