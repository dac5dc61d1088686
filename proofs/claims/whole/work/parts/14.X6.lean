theorem dX6_isNothing_0 : decode cX6_isNothing 0 = .ok (.aload_n 0, 1) := by decide +kernel
theorem dX6_isNothing_1 : decode cX6_isNothing 1 = .ok (.getfield 15, 3) := by decide +kernel
theorem dX6_isNothing_4 : decode cX6_isNothing 4 = .ok (.iload_n 1, 1) := by decide +kernel
theorem dX6_isNothing_5 : decode cX6_isNothing 5 = .ok (.iaload, 1) := by decide +kernel
theorem dX6_isNothing_6 : decode cX6_isNothing 6 = .ok (.iconst (-1), 1) := by decide +kernel
theorem dX6_isNothing_7 : decode cX6_isNothing 7 = .ok (.if_icmp .ne 7, 3) := by decide +kernel
theorem dX6_isNothing_10 : decode cX6_isNothing 10 = .ok (.iconst 1, 1) := by decide +kernel
theorem dX6_isNothing_11 : decode cX6_isNothing 11 = .ok (.goto 4, 3) := by decide +kernel
theorem dX6_isNothing_14 : decode cX6_isNothing 14 = .ok (.iconst 0, 1) := by decide +kernel
theorem dX6_isNothing_15 : decode cX6_isNothing 15 = .ok (.ireturn, 1) := by decide +kernel
def f_X6_isNothing (a : Nat) (x1 : Int32) (g : zG) : Option (Int32 × zG) :=
  zc (zin x1 4) (if (g.1 (g.2.1 a 1) x1.toNatClampNeg) = (-1) then (some ((1, g))) else (some ((0, g))))
abbrev rm_X6_isNothing : Room := { frames := 0, cells := 0, slots := 0, locals := 0 }
set_option maxRecDepth 100000 in
set_option maxHeartbeats 4000000 in
theorem c_X6_isNothing (l : Launch) (D : zD) (sz : Nat) (τ : zT) (g : zG) (a : Nat) (x1 : Int32) (hta : τ a = some (.inr 6)) : zCon l D yX6_isNothing cX6_isNothing 2 (some .boolean) rm_X6_isNothing 0 0 zrI [.ref a, .int x1] sz τ g τ (f_X6_isNothing a x1 g) := by
  refine zCon.of (by decide) (Nat.le_of_ble_eq_true rfl) (fun E r g' hl hR hsz hnm F => ?_)
  have F : zF E D (zA τ sz) cX6_isNothing "TypeChain$Sheets" 2 (some .boolean) := F
  show zSim (fun q : Int32 × zG => q = (r, g')) (f_X6_isNothing a x1 g) (zAt E D (zA τ sz) (zQ E D zrI 0 0 sz τ τ r g') 2 (sz, τ, 0, 0) g 0 [(0, .ref a), (1, .int x1)] [])
  unfold f_X6_isNothing
  refine z_aload_n F 0 rfl rfl dX6_isNothing_0 ?_
  refine gf_X6_15 F hta dX6_isNothing_1 (fun ht1 => ?_)
  refine z_iload_n F 1 rfl rfl dX6_isNothing_4 ?_
  refine z_iald F ht1 dX6_isNothing_5 ?_
  refine z_iconst (v := (-1)) F (by decide) dX6_isNothing_6 ?_
  refine z_icmp_ne (tgt := 14) F dX6_isNothing_7 (by decide) (fun c2 => ?_) (fun c2 => ?_)
  · refine z_iconst (v := 1) F (by decide) dX6_isNothing_10 ?_
    refine z_goto (tgt := 15) F dX6_isNothing_11 (by decide) ?_
    exact z_zreturn F rfl rfl rfl rfl rfl (fun h => h) dX6_isNothing_15
  · refine z_iconst (v := 0) F (by decide) dX6_isNothing_14 ?_
    exact z_zreturn F rfl rfl rfl rfl rfl (fun h => h) dX6_isNothing_15
theorem k_X6_isNothing {ρ : Type} {K : ρ → Prop} {E : zE} {D : zD} {A : Nat → Prop} {Q : State → Prop} {nL : Nat} {κ : zC} {g : zG} {pc : Nat} {lv : List (Nat × Value)} {st : List Value} {cc : ByteArray} {own : String} {ret : Option FieldType} (F : zF E D A cc own nL ret) {index : Nat} {h : Int32 → zG → Option ρ} {a : Nat} {x1 : Int32}  (hR : 0 + 1 ≤ E.2.2.2.1.frames ∧ 8 + (2 + 11) + 0 ≤ E.2.2.2.1.locals) (hl : zTbl (.methodLink own index yX6_isNothing)) (hta : κ.2.1 a = some (.inr 6)) (hc : κ.2.2.1 ≤ E.2.2.2.1.cells ∧ κ.2.2.2 ≤ E.2.2.2.1.slots) (hW : (st.map fun v => v.category).sum ≤ 8) (hd : decode cc pc = .ok (.invokevirtual index, 3)) (kk : ∀ r g', zSim K (h r g') (zAt E D A Q nL κ g' (pc + 3) lv (.int r :: st))) : zSim K (zb (f_X6_isNothing a x1 g) h) (zAt E D A Q nL κ g pc lv (.int x1 :: .ref a :: st)) :=
  z_callV F (n := 1) (As := [.int x1]) (C := (RX6, TX6, 3)) ⟨q_838, q_13, by decide +kernel, rfl, rfl, hR.1, hR.2⟩ (c_X6_isNothing E.2.1 D κ.1 κ.2.1 g a x1 hta) hl q_836 q_837 hta rfl rfl rfl hc hW hd kk _ rfl
theorem dX6_hasCell_0 : decode cX6_hasCell 0 = .ok (.iload_n 2, 1) := by decide +kernel
theorem dX6_hasCell_1 : decode cX6_hasCell 1 = .ok (.ifCond .lt 17, 3) := by decide +kernel
theorem dX6_hasCell_4 : decode cX6_hasCell 4 = .ok (.iload_n 2, 1) := by decide +kernel
theorem dX6_hasCell_5 : decode cX6_hasCell 5 = .ok (.aload_n 0, 1) := by decide +kernel
theorem dX6_hasCell_6 : decode cX6_hasCell 6 = .ok (.getfield 15, 3) := by decide +kernel
theorem dX6_hasCell_9 : decode cX6_hasCell 9 = .ok (.iload_n 1, 1) := by decide +kernel
theorem dX6_hasCell_10 : decode cX6_hasCell 10 = .ok (.iaload, 1) := by decide +kernel
theorem dX6_hasCell_11 : decode cX6_hasCell 11 = .ok (.if_icmp .ge 7, 3) := by decide +kernel
theorem dX6_hasCell_14 : decode cX6_hasCell 14 = .ok (.iconst 1, 1) := by decide +kernel
theorem dX6_hasCell_15 : decode cX6_hasCell 15 = .ok (.goto 4, 3) := by decide +kernel
theorem dX6_hasCell_18 : decode cX6_hasCell 18 = .ok (.iconst 0, 1) := by decide +kernel
theorem dX6_hasCell_19 : decode cX6_hasCell 19 = .ok (.ireturn, 1) := by decide +kernel
def f_X6_hasCell (a : Nat) (x1 : Int32) (x2 : Int32) (g : zG) : Option (Int32 × zG) :=
  if x2 < 0 then (some ((0, g))) else (zc (zin x1 4) (if (g.1 (g.2.1 a 1) x1.toNatClampNeg) ≤ x2 then (some ((0, g))) else (some ((1, g)))))
abbrev rm_X6_hasCell : Room := { frames := 0, cells := 0, slots := 0, locals := 0 }
set_option maxRecDepth 100000 in
set_option maxHeartbeats 4000000 in
theorem c_X6_hasCell (l : Launch) (D : zD) (sz : Nat) (τ : zT) (g : zG) (a : Nat) (x1 : Int32) (x2 : Int32) (hta : τ a = some (.inr 6)) : zCon l D yX6_hasCell cX6_hasCell 3 (some .boolean) rm_X6_hasCell 0 0 zrI [.ref a, .int x1, .int x2] sz τ g τ (f_X6_hasCell a x1 x2 g) := by
  refine zCon.of (by decide) (Nat.le_of_ble_eq_true rfl) (fun E r g' hl hR hsz hnm F => ?_)
  have F : zF E D (zA τ sz) cX6_hasCell "TypeChain$Sheets" 3 (some .boolean) := F
  show zSim (fun q : Int32 × zG => q = (r, g')) (f_X6_hasCell a x1 x2 g) (zAt E D (zA τ sz) (zQ E D zrI 0 0 sz τ τ r g') 3 (sz, τ, 0, 0) g 0 [(0, .ref a), (1, .int x1), (2, .int x2)] [])
  unfold f_X6_hasCell
  refine z_iload_n F 2 rfl rfl dX6_hasCell_0 ?_
  refine z_if_lt (tgt := 18) F dX6_hasCell_1 (by decide) (fun c1 => ?_) (fun c1 => ?_)
  · refine z_iconst (v := 0) F (by decide) dX6_hasCell_18 ?_
    exact z_zreturn F rfl rfl rfl rfl rfl (fun h => h) dX6_hasCell_19
  · refine z_iload_n F 2 rfl rfl dX6_hasCell_4 ?_
    refine z_aload_n F 0 rfl rfl dX6_hasCell_5 ?_
    refine gf_X6_15 F hta dX6_hasCell_6 (fun ht2 => ?_)
    refine z_iload_n F 1 rfl rfl dX6_hasCell_9 ?_
    refine z_iald F ht2 dX6_hasCell_10 ?_
    refine z_icmp_ge (tgt := 18) F dX6_hasCell_11 (by decide) (fun c3 => ?_) (fun c3 => ?_)
    · refine z_iconst (v := 0) F (by decide) dX6_hasCell_18 ?_
      exact z_zreturn F rfl rfl rfl rfl rfl (fun h => h) dX6_hasCell_19
    · refine z_iconst (v := 1) F (by decide) dX6_hasCell_14 ?_
      refine z_goto (tgt := 19) F dX6_hasCell_15 (by decide) ?_
      exact z_zreturn F rfl rfl rfl rfl rfl (fun h => h) dX6_hasCell_19
theorem k_X6_hasCell {ρ : Type} {K : ρ → Prop} {E : zE} {D : zD} {A : Nat → Prop} {Q : State → Prop} {nL : Nat} {κ : zC} {g : zG} {pc : Nat} {lv : List (Nat × Value)} {st : List Value} {cc : ByteArray} {own : String} {ret : Option FieldType} (F : zF E D A cc own nL ret) {index : Nat} {h : Int32 → zG → Option ρ} {a : Nat} {x1 : Int32} {x2 : Int32}  (hR : 0 + 1 ≤ E.2.2.2.1.frames ∧ 8 + (3 + 11) + 0 ≤ E.2.2.2.1.locals) (hl : zTbl (.methodLink own index yX6_hasCell)) (hta : κ.2.1 a = some (.inr 6)) (hc : κ.2.2.1 ≤ E.2.2.2.1.cells ∧ κ.2.2.2 ≤ E.2.2.2.1.slots) (hW : (st.map fun v => v.category).sum ≤ 8) (hd : decode cc pc = .ok (.invokevirtual index, 3)) (kk : ∀ r g', zSim K (h r g') (zAt E D A Q nL κ g' (pc + 3) lv (.int r :: st))) : zSim K (zb (f_X6_hasCell a x1 x2 g) h) (zAt E D A Q nL κ g pc lv (.int x2 :: .int x1 :: .ref a :: st)) :=
  z_callV F (n := 2) (As := [.int x1, .int x2]) (C := (RX6, TX6, 3)) ⟨q_842, q_13, by decide +kernel, rfl, rfl, hR.1, hR.2⟩ (c_X6_hasCell E.2.1 D κ.1 κ.2.1 g a x1 x2 hta) hl q_840 q_841 hta rfl rfl rfl hc hW hd kk _ rfl
theorem dX6_renew_0 : decode cX6_renew 0 = .ok (.aload_n 0, 1) := by decide +kernel
theorem dX6_renew_1 : decode cX6_renew 1 = .ok (.getfield 9, 3) := by decide +kernel
theorem dX6_renew_4 : decode cX6_renew 4 = .ok (.iload_n 1, 1) := by decide +kernel
theorem dX6_renew_5 : decode cX6_renew 5 = .ok (.iload_n 2, 1) := by decide +kernel
theorem dX6_renew_6 : decode cX6_renew 6 = .ok (.iastore, 1) := by decide +kernel
theorem dX6_renew_7 : decode cX6_renew 7 = .ok (.aload_n 0, 1) := by decide +kernel
theorem dX6_renew_8 : decode cX6_renew 8 = .ok (.getfield 15, 3) := by decide +kernel
theorem dX6_renew_11 : decode cX6_renew 11 = .ok (.iload_n 1, 1) := by decide +kernel
theorem dX6_renew_12 : decode cX6_renew 12 = .ok (.iload_n 3, 1) := by decide +kernel
theorem dX6_renew_13 : decode cX6_renew 13 = .ok (.iastore, 1) := by decide +kernel
theorem dX6_renew_14 : decode cX6_renew 14 = .ok (.iconst 0, 1) := by decide +kernel
theorem dX6_renew_15 : decode cX6_renew 15 = .ok (.istore 4, 2) := by decide +kernel
theorem dX6_renew_17 : decode cX6_renew 17 = .ok (.iload 4, 2) := by decide +kernel
theorem dX6_renew_19 : decode cX6_renew 19 = .ok (.bipush 40, 2) := by decide +kernel
theorem dX6_renew_21 : decode cX6_renew 21 = .ok (.if_icmp .ge 22, 3) := by decide +kernel
theorem dX6_renew_24 : decode cX6_renew 24 = .ok (.aload_n 0, 1) := by decide +kernel
theorem dX6_renew_25 : decode cX6_renew 25 = .ok (.getfield 18, 3) := by decide +kernel
theorem dX6_renew_28 : decode cX6_renew 28 = .ok (.iload_n 1, 1) := by decide +kernel
theorem dX6_renew_29 : decode cX6_renew 29 = .ok (.bipush 40, 2) := by decide +kernel
theorem dX6_renew_31 : decode cX6_renew 31 = .ok (.imul, 1) := by decide +kernel
theorem dX6_renew_32 : decode cX6_renew 32 = .ok (.iload 4, 2) := by decide +kernel
theorem dX6_renew_34 : decode cX6_renew 34 = .ok (.iadd, 1) := by decide +kernel
theorem dX6_renew_35 : decode cX6_renew 35 = .ok (.iconst 0, 1) := by decide +kernel
theorem dX6_renew_36 : decode cX6_renew 36 = .ok (.iastore, 1) := by decide +kernel
theorem dX6_renew_37 : decode cX6_renew 37 = .ok (.iinc 4 1, 3) := by decide +kernel
theorem dX6_renew_40 : decode cX6_renew 40 = .ok (.goto (-23), 3) := by decide +kernel
theorem dX6_renew_43 : decode cX6_renew 43 = .ok (.return_, 1) := by decide +kernel
def j_X6_renew_43 (a : Nat)  (g : zG) : Option (Int32 × zG) :=
  some ((0, g))
def l_X6_renew_17 (a : Nat) (l1 : Int32) (l4 : Int32) (g : zG) : Option ((Int32 × zG) ⊕ (zG)) :=
  if 40 ≤ l4 then (some (.inr g)) else (zc (zin ((l1 * 40) + l4) 160) (zl (zsi g (g.2.1 a 2) ((l1 * 40) + l4).toNatClampNeg 0) (fun g7 => zl (l4 + 1) (fun v8 => some (.inl (v8, g7))))))
def f_X6_renew (a : Nat) (x1 : Int32) (x2 : Int32) (x3 : Int32) (g : zG) : Option (Int32 × zG) :=
  zc (zin x1 4) (zl (zsi g (g.2.1 a 0) x1.toNatClampNeg x2) (fun g2 => zc (zin x1 4) (zl (zsi g2 (g2.2.1 a 1) x1.toNatClampNeg x3) (fun g4 => zk (zw zN (fun s => l_X6_renew_17 a x1 s.1 s.2) (0, g4)) (fun x => j_X6_renew_43 a x)))))
abbrev rm_X6_renew : Room := { frames := 0, cells := 0, slots := 0, locals := 0 }
set_option maxRecDepth 100000 in
set_option maxHeartbeats 4000000 in
theorem c_X6_renew (l : Launch) (D : zD) (sz : Nat) (τ : zT) (g : zG) (a : Nat) (x1 : Int32) (x2 : Int32) (x3 : Int32) (hta : τ a = some (.inr 6)) : zCon l D yX6_renew cX6_renew 5 none rm_X6_renew 0 0 zrV [.ref a, .int x1, .int x2, .int x3] sz τ g τ (f_X6_renew a x1 x2 x3 g) := by
  refine zCon.of (by decide) (Nat.le_of_ble_eq_true rfl) (fun E r g' hl hR hsz hnm F => ?_)
  have F : zF E D (zA τ sz) cX6_renew "TypeChain$Sheets" 5 none := F
  show zSim (fun q : Int32 × zG => q = (r, g')) (f_X6_renew a x1 x2 x3 g) (zAt E D (zA τ sz) (zQ E D zrV 0 0 sz τ τ r g') 5 (sz, τ, 0, 0) g 0 [(0, .ref a), (1, .int x1), (2, .int x2), (3, .int x3)] [])
  have hj_X6_renew_43 : ∀  (g_43 : zG), zSim (fun q : Int32 × zG => q = (r, g')) (j_X6_renew_43 a g_43) (zAt E D (zA τ sz) (zQ E D zrV 0 0 sz τ τ r g') 5 (sz, τ, 0, 0) g_43 43 [] []) := by
    intro g_43
    unfold j_X6_renew_43
    exact z_vreturn F rfl rfl rfl rfl (fun h => h) dX6_renew_43
  unfold f_X6_renew
  refine z_aload_n F 0 rfl rfl dX6_renew_0 ?_
  refine gf_X6_9 F hta dX6_renew_1 (fun ht1 => ?_)
  refine z_iload_n F 1 rfl rfl dX6_renew_4 ?_
  refine z_iload_n F 2 rfl rfl dX6_renew_5 ?_
  refine z_iast F ht1 dX6_renew_6 ?_
  refine z_letg (fun g2 => ?_)
  refine z_aload_n F 0 rfl rfl dX6_renew_7 ?_
  refine gf_X6_15 F hta dX6_renew_8 (fun ht3 => ?_)
  refine z_iload_n F 1 rfl rfl dX6_renew_11 ?_
  refine z_iload_n F 3 rfl rfl dX6_renew_12 ?_
  refine z_iast F ht3 dX6_renew_13 ?_
  refine z_letg (fun g4 => ?_)
  refine z_iconst (v := 0) F (by decide) dX6_renew_14 ?_
  refine z_istore (lv' := [(4, .int 0), (0, .ref a), (1, .int x1), (2, .int x2), (3, .int x3)]) F (by decide) dX6_renew_15 rfl ?_
  refine z_sub (lv' := [(0, .ref a), (1, .int x1), (4, .int 0)]) [1, 2, 0] rfl ?_
  refine z_loop (P := fun s : Int32 × zG => zAt E D (zA τ sz) (zQ E D zrV 0 0 sz τ τ r g') 5 (sz, τ, 0, 0) s.2 17 [(0, .ref a), (1, .int x1), (4, .int s.1)] []) (Px := fun x : zG => zAt E D (zA τ sz) (zQ E D zrV 0 0 sz τ τ r g') 5 (sz, τ, 0, 0) x 43 [] []) (0, g4) (fun s => ?_) (fun x => ?_)
  · obtain ⟨l4_17, g_17⟩ := s
    show zSim (zKl (fun s : Int32 × zG => zAt E D (zA τ sz) (zQ E D zrV 0 0 sz τ τ r g') 5 (sz, τ, 0, 0) s.2 17 [(0, .ref a), (1, .int x1), (4, .int s.1)] []) (fun x : zG => zAt E D (zA τ sz) (zQ E D zrV 0 0 sz τ τ r g') 5 (sz, τ, 0, 0) x 43 [] [])) (l_X6_renew_17 a x1 l4_17 g_17) (zAt E D (zA τ sz) (zQ E D zrV 0 0 sz τ τ r g') 5 (sz, τ, 0, 0) g_17 17 [(0, .ref a), (1, .int x1), (4, .int l4_17)] [])
    unfold l_X6_renew_17
    refine z_iload F 2 rfl dX6_renew_17 ?_
    refine z_bipush (v := 40) F (by decide) dX6_renew_19 ?_
    refine z_icmp_ge (tgt := 43) F dX6_renew_21 (by decide) (fun c5 => ?_) (fun c5 => ?_)
    · refine z_sub (lv' := []) [] rfl ?_
      exact z_back (fun h => h)
    · refine z_aload_n F 0 rfl rfl dX6_renew_24 ?_
      refine gf_X6_18 F hta dX6_renew_25 (fun ht6 => ?_)
      refine z_iload_n F 1 rfl rfl dX6_renew_28 ?_
      refine z_bipush (v := 40) F (by decide) dX6_renew_29 ?_
      refine z_imul F dX6_renew_31 ?_
      refine z_iload F 2 rfl dX6_renew_32 ?_
      refine z_iadd F dX6_renew_34 ?_
      refine z_iconst (v := 0) F (by decide) dX6_renew_35 ?_
      refine z_iast F ht6 dX6_renew_36 ?_
      refine z_letg (fun g7 => ?_)
      refine z_iincl (lv' := fun v8 => [(4, .int v8), (0, .ref a), (1, .int x1)]) F 2 rfl (by decide) (by decide) dX6_renew_37 (fun _ => rfl) (fun v8 => ?_)
      refine z_goto (tgt := 17) F dX6_renew_40 (by decide) ?_
      refine z_sub (lv' := [(0, .ref a), (1, .int x1), (4, .int v8)]) [1, 2, 0] rfl ?_
      exact z_back (fun h => h)
  · show zSim (fun q : Int32 × zG => q = (r, g')) (j_X6_renew_43 a x) (zAt E D (zA τ sz) (zQ E D zrV 0 0 sz τ τ r g') 5 (sz, τ, 0, 0) x 43 [] [])
    exact hj_X6_renew_43 x
theorem k_X6_renew {ρ : Type} {K : ρ → Prop} {E : zE} {D : zD} {A : Nat → Prop} {Q : State → Prop} {nL : Nat} {κ : zC} {g : zG} {pc : Nat} {lv : List (Nat × Value)} {st : List Value} {cc : ByteArray} {own : String} {ret : Option FieldType} (F : zF E D A cc own nL ret) {index : Nat} {h : Int32 → zG → Option ρ} {a : Nat} {x1 : Int32} {x2 : Int32} {x3 : Int32}  (hR : 0 + 1 ≤ E.2.2.2.1.frames ∧ 8 + (5 + 11) + 0 ≤ E.2.2.2.1.locals) (hl : zTbl (.methodLink own index yX6_renew)) (hta : κ.2.1 a = some (.inr 6)) (hc : κ.2.2.1 ≤ E.2.2.2.1.cells ∧ κ.2.2.2 ≤ E.2.2.2.1.slots) (hW : (st.map fun v => v.category).sum ≤ 8) (hd : decode cc pc = .ok (.invokevirtual index, 3)) (kk : ∀ r g', zSim K (h r g') (zAt E D A Q nL κ g' (pc + 3) lv (st))) : zSim K (zb (f_X6_renew a x1 x2 x3 g) h) (zAt E D A Q nL κ g pc lv (.int x3 :: .int x2 :: .int x1 :: .ref a :: st)) :=
  z_callV F (n := 3) (As := [.int x1, .int x2, .int x3]) (C := (RX6, TX6, 3)) ⟨q_830, q_13, by decide +kernel, rfl, rfl, hR.1, hR.2⟩ (c_X6_renew E.2.1 D κ.1 κ.2.1 g a x1 x2 x3 hta) hl q_828 q_829 hta rfl rfl rfl hc hW hd kk _ rfl
theorem dX6_valueOf_0 : decode cX6_valueOf 0 = .ok (.aload_n 0, 1) := by decide +kernel
theorem dX6_valueOf_1 : decode cX6_valueOf 1 = .ok (.getfield 18, 3) := by decide +kernel
theorem dX6_valueOf_4 : decode cX6_valueOf 4 = .ok (.iload_n 1, 1) := by decide +kernel
theorem dX6_valueOf_5 : decode cX6_valueOf 5 = .ok (.bipush 40, 2) := by decide +kernel
theorem dX6_valueOf_7 : decode cX6_valueOf 7 = .ok (.imul, 1) := by decide +kernel
theorem dX6_valueOf_8 : decode cX6_valueOf 8 = .ok (.iload_n 2, 1) := by decide +kernel
theorem dX6_valueOf_9 : decode cX6_valueOf 9 = .ok (.iadd, 1) := by decide +kernel
theorem dX6_valueOf_10 : decode cX6_valueOf 10 = .ok (.iaload, 1) := by decide +kernel
theorem dX6_valueOf_11 : decode cX6_valueOf 11 = .ok (.ireturn, 1) := by decide +kernel
def f_X6_valueOf (a : Nat) (x1 : Int32) (x2 : Int32) (g : zG) : Option (Int32 × zG) :=
  zc (zin ((x1 * 40) + x2) 160) (some ((g.1 (g.2.1 a 2) ((x1 * 40) + x2).toNatClampNeg, g)))
abbrev rm_X6_valueOf : Room := { frames := 0, cells := 0, slots := 0, locals := 0 }
set_option maxRecDepth 100000 in
set_option maxHeartbeats 4000000 in
theorem c_X6_valueOf (l : Launch) (D : zD) (sz : Nat) (τ : zT) (g : zG) (a : Nat) (x1 : Int32) (x2 : Int32) (hta : τ a = some (.inr 6)) : zCon l D yX6_valueOf cX6_valueOf 3 (some .int) rm_X6_valueOf 0 0 zrI [.ref a, .int x1, .int x2] sz τ g τ (f_X6_valueOf a x1 x2 g) := by
  refine zCon.of (by decide) (Nat.le_of_ble_eq_true rfl) (fun E r g' hl hR hsz hnm F => ?_)
  have F : zF E D (zA τ sz) cX6_valueOf "TypeChain$Sheets" 3 (some .int) := F
  show zSim (fun q : Int32 × zG => q = (r, g')) (f_X6_valueOf a x1 x2 g) (zAt E D (zA τ sz) (zQ E D zrI 0 0 sz τ τ r g') 3 (sz, τ, 0, 0) g 0 [(0, .ref a), (1, .int x1), (2, .int x2)] [])
  unfold f_X6_valueOf
  refine z_aload_n F 0 rfl rfl dX6_valueOf_0 ?_
  refine gf_X6_18 F hta dX6_valueOf_1 (fun ht1 => ?_)
  refine z_iload_n F 1 rfl rfl dX6_valueOf_4 ?_
  refine z_bipush (v := 40) F (by decide) dX6_valueOf_5 ?_
  refine z_imul F dX6_valueOf_7 ?_
  refine z_iload_n F 2 rfl rfl dX6_valueOf_8 ?_
  refine z_iadd F dX6_valueOf_9 ?_
  refine z_iald F ht1 dX6_valueOf_10 ?_
  exact z_ireturn F rfl rfl rfl rfl (fun h => h) dX6_valueOf_11
theorem k_X6_valueOf {ρ : Type} {K : ρ → Prop} {E : zE} {D : zD} {A : Nat → Prop} {Q : State → Prop} {nL : Nat} {κ : zC} {g : zG} {pc : Nat} {lv : List (Nat × Value)} {st : List Value} {cc : ByteArray} {own : String} {ret : Option FieldType} (F : zF E D A cc own nL ret) {index : Nat} {h : Int32 → zG → Option ρ} {a : Nat} {x1 : Int32} {x2 : Int32}  (hR : 0 + 1 ≤ E.2.2.2.1.frames ∧ 8 + (3 + 11) + 0 ≤ E.2.2.2.1.locals) (hl : zTbl (.methodLink own index yX6_valueOf)) (hta : κ.2.1 a = some (.inr 6)) (hc : κ.2.2.1 ≤ E.2.2.2.1.cells ∧ κ.2.2.2 ≤ E.2.2.2.1.slots) (hW : (st.map fun v => v.category).sum ≤ 8) (hd : decode cc pc = .ok (.invokevirtual index, 3)) (kk : ∀ r g', zSim K (h r g') (zAt E D A Q nL κ g' (pc + 3) lv (.int r :: st))) : zSim K (zb (f_X6_valueOf a x1 x2 g) h) (zAt E D A Q nL κ g pc lv (.int x2 :: .int x1 :: .ref a :: st)) :=
  z_callV F (n := 2) (As := [.int x1, .int x2]) (C := (RX6, TX6, 3)) ⟨q_854, q_13, by decide +kernel, rfl, rfl, hR.1, hR.2⟩ (c_X6_valueOf E.2.1 D κ.1 κ.2.1 g a x1 x2 hta) hl q_852 q_853 hta rfl rfl rfl hc hW hd kk _ rfl
theorem dX6_write_0 : decode cX6_write 0 = .ok (.iload_n 3, 1) := by decide +kernel
theorem dX6_write_1 : decode cX6_write 1 = .ok (.istore 4, 2) := by decide +kernel
theorem dX6_write_3 : decode cX6_write 3 = .ok (.aload_n 0, 1) := by decide +kernel
theorem dX6_write_4 : decode cX6_write 4 = .ok (.getfield 9, 3) := by decide +kernel
theorem dX6_write_7 : decode cX6_write 7 = .ok (.iload_n 1, 1) := by decide +kernel
theorem dX6_write_8 : decode cX6_write 8 = .ok (.iaload, 1) := by decide +kernel
theorem dX6_write_9 : decode cX6_write 9 = .ok (.ifCond .ne 10, 3) := by decide +kernel
theorem dX6_write_12 : decode cX6_write 12 = .ok (.iload_n 3, 1) := by decide +kernel
theorem dX6_write_13 : decode cX6_write 13 = .ok (.i2b, 1) := by decide +kernel
theorem dX6_write_14 : decode cX6_write 14 = .ok (.istore 4, 2) := by decide +kernel
theorem dX6_write_16 : decode cX6_write 16 = .ok (.goto 17, 3) := by decide +kernel
theorem dX6_write_19 : decode cX6_write 19 = .ok (.aload_n 0, 1) := by decide +kernel
theorem dX6_write_20 : decode cX6_write 20 = .ok (.getfield 9, 3) := by decide +kernel
theorem dX6_write_23 : decode cX6_write 23 = .ok (.iload_n 1, 1) := by decide +kernel
theorem dX6_write_24 : decode cX6_write 24 = .ok (.iaload, 1) := by decide +kernel
theorem dX6_write_25 : decode cX6_write 25 = .ok (.iconst 1, 1) := by decide +kernel
theorem dX6_write_26 : decode cX6_write 26 = .ok (.if_icmp .ne 7, 3) := by decide +kernel
theorem dX6_write_29 : decode cX6_write 29 = .ok (.iload_n 3, 1) := by decide +kernel
theorem dX6_write_30 : decode cX6_write 30 = .ok (.i2s, 1) := by decide +kernel
theorem dX6_write_31 : decode cX6_write 31 = .ok (.istore 4, 2) := by decide +kernel
theorem dX6_write_33 : decode cX6_write 33 = .ok (.aload_n 0, 1) := by decide +kernel
theorem dX6_write_34 : decode cX6_write 34 = .ok (.getfield 18, 3) := by decide +kernel
theorem dX6_write_37 : decode cX6_write 37 = .ok (.iload_n 1, 1) := by decide +kernel
theorem dX6_write_38 : decode cX6_write 38 = .ok (.bipush 40, 2) := by decide +kernel
theorem dX6_write_40 : decode cX6_write 40 = .ok (.imul, 1) := by decide +kernel
theorem dX6_write_41 : decode cX6_write 41 = .ok (.iload_n 2, 1) := by decide +kernel
theorem dX6_write_42 : decode cX6_write 42 = .ok (.iadd, 1) := by decide +kernel
theorem dX6_write_43 : decode cX6_write 43 = .ok (.iload 4, 2) := by decide +kernel
theorem dX6_write_45 : decode cX6_write 45 = .ok (.iastore, 1) := by decide +kernel
theorem dX6_write_46 : decode cX6_write 46 = .ok (.return_, 1) := by decide +kernel
def j_X6_write_33 (a : Nat) (l1 : Int32) (l2 : Int32) (l4 : Int32) (g : zG) : Option (Int32 × zG) :=
  zc (zin ((l1 * 40) + l2) 160) (zl (zsi g (g.2.1 a 2) ((l1 * 40) + l2).toNatClampNeg l4) (fun g2 => some ((0, g2))))
def f_X6_write (a : Nat) (x1 : Int32) (x2 : Int32) (x3 : Int32) (g : zG) : Option (Int32 × zG) :=
  zc (zin x1 4) (if (g.1 (g.2.1 a 0) x1.toNatClampNeg) = 0 then (j_X6_write_33 a x1 x2 x3.toInt8.toInt32 g) else (zc (zin x1 4) (if (g.1 (g.2.1 a 0) x1.toNatClampNeg) = 1 then (j_X6_write_33 a x1 x2 x3.toInt16.toInt32 g) else (j_X6_write_33 a x1 x2 x3 g))))
abbrev rm_X6_write : Room := { frames := 0, cells := 0, slots := 0, locals := 0 }
set_option maxRecDepth 100000 in
set_option maxHeartbeats 4000000 in
theorem c_X6_write (l : Launch) (D : zD) (sz : Nat) (τ : zT) (g : zG) (a : Nat) (x1 : Int32) (x2 : Int32) (x3 : Int32) (hta : τ a = some (.inr 6)) : zCon l D yX6_write cX6_write 5 none rm_X6_write 0 0 zrV [.ref a, .int x1, .int x2, .int x3] sz τ g τ (f_X6_write a x1 x2 x3 g) := by
  refine zCon.of (by decide) (Nat.le_of_ble_eq_true rfl) (fun E r g' hl hR hsz hnm F => ?_)
  have F : zF E D (zA τ sz) cX6_write "TypeChain$Sheets" 5 none := F
  show zSim (fun q : Int32 × zG => q = (r, g')) (f_X6_write a x1 x2 x3 g) (zAt E D (zA τ sz) (zQ E D zrV 0 0 sz τ τ r g') 5 (sz, τ, 0, 0) g 0 [(0, .ref a), (1, .int x1), (2, .int x2), (3, .int x3)] [])
  have hj_X6_write_33 : ∀ (l1_33 : Int32) (l2_33 : Int32) (l4_33 : Int32) (g_33 : zG), zSim (fun q : Int32 × zG => q = (r, g')) (j_X6_write_33 a l1_33 l2_33 l4_33 g_33) (zAt E D (zA τ sz) (zQ E D zrV 0 0 sz τ τ r g') 5 (sz, τ, 0, 0) g_33 33 [(0, .ref a), (1, .int l1_33), (2, .int l2_33), (4, .int l4_33)] []) := by
    intro l1_33 l2_33 l4_33 g_33
    unfold j_X6_write_33
    refine z_aload_n F 0 rfl rfl dX6_write_33 ?_
    refine gf_X6_18 F hta dX6_write_34 (fun ht1 => ?_)
    refine z_iload_n F 1 rfl rfl dX6_write_37 ?_
    refine z_bipush (v := 40) F (by decide) dX6_write_38 ?_
    refine z_imul F dX6_write_40 ?_
    refine z_iload_n F 2 rfl rfl dX6_write_41 ?_
    refine z_iadd F dX6_write_42 ?_
    refine z_iload F 3 rfl dX6_write_43 ?_
    refine z_iast F ht1 dX6_write_45 ?_
    refine z_letg (fun g2 => ?_)
    exact z_vreturn F rfl rfl rfl rfl (fun h => h) dX6_write_46
  unfold f_X6_write
  refine z_iload_n F 3 rfl rfl dX6_write_0 ?_
  refine z_istore (lv' := [(4, .int x3), (0, .ref a), (1, .int x1), (2, .int x2), (3, .int x3)]) F (by decide) dX6_write_1 rfl ?_
  refine z_aload_n F 1 rfl rfl dX6_write_3 ?_
  refine gf_X6_9 F hta dX6_write_4 (fun ht3 => ?_)
  refine z_iload_n F 2 rfl rfl dX6_write_7 ?_
  refine z_iald F ht3 dX6_write_8 ?_
  refine z_if_ne (tgt := 19) F dX6_write_9 (by decide) (fun c4 => ?_) (fun c4 => ?_)
  · refine z_iload_n F 4 rfl rfl dX6_write_12 ?_
    refine z_i2b F dX6_write_13 ?_
    refine z_istore (lv' := [(4, .int x3.toInt8.toInt32), (0, .ref a), (1, .int x1), (2, .int x2), (3, .int x3)]) F (by decide) dX6_write_14 rfl ?_
    refine z_goto (tgt := 33) F dX6_write_16 (by decide) ?_
    refine z_sub (lv' := [(0, .ref a), (1, .int x1), (2, .int x2), (4, .int x3.toInt8.toInt32)]) [1, 2, 3, 0] rfl ?_
    exact hj_X6_write_33 x1 x2 x3.toInt8.toInt32 g
  · refine z_aload_n F 1 rfl rfl dX6_write_19 ?_
    refine gf_X6_9 F hta dX6_write_20 (fun ht5 => ?_)
    refine z_iload_n F 2 rfl rfl dX6_write_23 ?_
    refine z_iald F ht5 dX6_write_24 ?_
    refine z_iconst (v := 1) F (by decide) dX6_write_25 ?_
    refine z_icmp_ne (tgt := 33) F dX6_write_26 (by decide) (fun c6 => ?_) (fun c6 => ?_)
    · refine z_iload_n F 4 rfl rfl dX6_write_29 ?_
      refine z_i2s F dX6_write_30 ?_
      refine z_istore (lv' := [(4, .int x3.toInt16.toInt32), (0, .ref a), (1, .int x1), (2, .int x2), (3, .int x3)]) F (by decide) dX6_write_31 rfl ?_
      refine z_sub (lv' := [(0, .ref a), (1, .int x1), (2, .int x2), (4, .int x3.toInt16.toInt32)]) [1, 2, 3, 0] rfl ?_
      exact hj_X6_write_33 x1 x2 x3.toInt16.toInt32 g
    · refine z_sub (lv' := [(0, .ref a), (1, .int x1), (2, .int x2), (4, .int x3)]) [1, 2, 3, 0] rfl ?_
      exact hj_X6_write_33 x1 x2 x3 g
theorem k_X6_write {ρ : Type} {K : ρ → Prop} {E : zE} {D : zD} {A : Nat → Prop} {Q : State → Prop} {nL : Nat} {κ : zC} {g : zG} {pc : Nat} {lv : List (Nat × Value)} {st : List Value} {cc : ByteArray} {own : String} {ret : Option FieldType} (F : zF E D A cc own nL ret) {index : Nat} {h : Int32 → zG → Option ρ} {a : Nat} {x1 : Int32} {x2 : Int32} {x3 : Int32}  (hR : 0 + 1 ≤ E.2.2.2.1.frames ∧ 8 + (5 + 11) + 0 ≤ E.2.2.2.1.locals) (hl : zTbl (.methodLink own index yX6_write)) (hta : κ.2.1 a = some (.inr 6)) (hc : κ.2.2.1 ≤ E.2.2.2.1.cells ∧ κ.2.2.2 ≤ E.2.2.2.1.slots) (hW : (st.map fun v => v.category).sum ≤ 8) (hd : decode cc pc = .ok (.invokevirtual index, 3)) (kk : ∀ r g', zSim K (h r g') (zAt E D A Q nL κ g' (pc + 3) lv (st))) : zSim K (zb (f_X6_write a x1 x2 x3 g) h) (zAt E D A Q nL κ g pc lv (.int x3 :: .int x2 :: .int x1 :: .ref a :: st)) :=
  z_callV F (n := 3) (As := [.int x1, .int x2, .int x3]) (C := (RX6, TX6, 3)) ⟨q_846, q_13, by decide +kernel, rfl, rfl, hR.1, hR.2⟩ (c_X6_write E.2.1 D κ.1 κ.2.1 g a x1 x2 x3 hta) hl q_844 q_845 hta rfl rfl rfl hc hW hd kk _ rfl
