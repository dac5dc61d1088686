theorem dX3_clear_0 : decode cX3_clear 0 = .ok (.aload_n 0, 1) := by decide +kernel
theorem dX3_clear_1 : decode cX3_clear 1 = .ok (.iconst 0, 1) := by decide +kernel
theorem dX3_clear_2 : decode cX3_clear 2 = .ok (.putfield 27, 3) := by decide +kernel
theorem dX3_clear_5 : decode cX3_clear 5 = .ok (.aload_n 0, 1) := by decide +kernel
theorem dX3_clear_6 : decode cX3_clear 6 = .ok (.iconst 0, 1) := by decide +kernel
theorem dX3_clear_7 : decode cX3_clear 7 = .ok (.putfield 31, 3) := by decide +kernel
theorem dX3_clear_10 : decode cX3_clear 10 = .ok (.return_, 1) := by decide +kernel
def f_X3_clear (a : Nat) (g : zG) : Option (Int32 × zG) :=
  zl (zsi g a 5 0) (fun g1 => zl (zsi g1 a 6 0) (fun g2 => some ((0, g2))))
abbrev rm_X3_clear : Room := { frames := 0, cells := 0, slots := 0, locals := 0 }
set_option maxRecDepth 100000 in
set_option maxHeartbeats 4000000 in
theorem c_X3_clear (l : Launch) (D : zD) (sz : Nat) (τ : zT) (g : zG) (a : Nat) (hta : τ a = some (.inr 3)) : zCon l D yX3_clear cX3_clear 1 none rm_X3_clear 0 0 zrV [.ref a] sz τ g τ (f_X3_clear a g) := by
  refine zCon.of (by decide) (Nat.le_of_ble_eq_true rfl) (fun E r g' hl hR hsz hnm F => ?_)
  have F : zF E D (zA τ sz) cX3_clear "TypeChain$Program" 1 none := F
  show zSim (fun q : Int32 × zG => q = (r, g')) (f_X3_clear a g) (zAt E D (zA τ sz) (zQ E D zrV 0 0 sz τ τ r g') 1 (sz, τ, 0, 0) g 0 [(0, .ref a)] [])
  unfold f_X3_clear
  refine z_aload_n F 0 rfl rfl dX3_clear_0 ?_
  refine z_iconst (v := 0) F (by decide) dX3_clear_1 ?_
  refine pf_X3_27 F hta dX3_clear_2 ?_
  refine z_letg (fun g1 => ?_)
  refine z_aload_n F 0 rfl rfl dX3_clear_5 ?_
  refine z_iconst (v := 0) F (by decide) dX3_clear_6 ?_
  refine pf_X3_31 F hta dX3_clear_7 ?_
  refine z_letg (fun g2 => ?_)
  exact z_vreturn F rfl rfl rfl rfl (fun h => h) dX3_clear_10
theorem k_X3_clear {ρ : Type} {K : ρ → Prop} {E : zE} {D : zD} {A : Nat → Prop} {Q : State → Prop} {nL : Nat} {κ : zC} {g : zG} {pc : Nat} {lv : List (Nat × Value)} {st : List Value} {cc : ByteArray} {own : String} {ret : Option FieldType} (F : zF E D A cc own nL ret) {index : Nat} {h : Int32 → zG → Option ρ} {a : Nat}  (hR : 0 + 1 ≤ E.2.2.2.1.frames ∧ 8 + (1 + 11) + 0 ≤ E.2.2.2.1.locals) (hl : zTbl (.methodLink own index yX3_clear)) (hta : κ.2.1 a = some (.inr 3)) (hc : κ.2.2.1 ≤ E.2.2.2.1.cells ∧ κ.2.2.2 ≤ E.2.2.2.1.slots) (hW : (st.map fun v => v.category).sum ≤ 8) (hd : decode cc pc = .ok (.invokevirtual index, 3)) (kk : ∀ r g', zSim K (h r g') (zAt E D A Q nL κ g' (pc + 3) lv (st))) : zSim K (zb (f_X3_clear a g) h) (zAt E D A Q nL κ g pc lv (.ref a :: st)) :=
  z_callV F (n := 0) (As := []) (C := (RX3, TX3, 7)) ⟨q_120, q_4, by decide +kernel, rfl, rfl, hR.1, hR.2⟩ (c_X3_clear E.2.1 D κ.1 κ.2.1 g a hta) hl q_118 q_119 hta rfl rfl rfl hc hW hd kk _ rfl
theorem dX3_addOrder_0 : decode cX3_addOrder 0 = .ok (.aload_n 0, 1) := by decide +kernel
theorem dX3_addOrder_1 : decode cX3_addOrder 1 = .ok (.getfield 27, 3) := by decide +kernel
theorem dX3_addOrder_4 : decode cX3_addOrder 4 = .ok (.bipush 24, 2) := by decide +kernel
theorem dX3_addOrder_6 : decode cX3_addOrder 6 = .ok (.if_icmp .ge 58, 3) := by decide +kernel
theorem dX3_addOrder_9 : decode cX3_addOrder 9 = .ok (.aload_n 0, 1) := by decide +kernel
theorem dX3_addOrder_10 : decode cX3_addOrder 10 = .ok (.getfield 9, 3) := by decide +kernel
theorem dX3_addOrder_13 : decode cX3_addOrder 13 = .ok (.aload_n 0, 1) := by decide +kernel
theorem dX3_addOrder_14 : decode cX3_addOrder 14 = .ok (.getfield 27, 3) := by decide +kernel
theorem dX3_addOrder_17 : decode cX3_addOrder 17 = .ok (.iload_n 1, 1) := by decide +kernel
theorem dX3_addOrder_18 : decode cX3_addOrder 18 = .ok (.iastore, 1) := by decide +kernel
theorem dX3_addOrder_19 : decode cX3_addOrder 19 = .ok (.aload_n 0, 1) := by decide +kernel
theorem dX3_addOrder_20 : decode cX3_addOrder 20 = .ok (.getfield 15, 3) := by decide +kernel
theorem dX3_addOrder_23 : decode cX3_addOrder 23 = .ok (.aload_n 0, 1) := by decide +kernel
theorem dX3_addOrder_24 : decode cX3_addOrder 24 = .ok (.getfield 27, 3) := by decide +kernel
theorem dX3_addOrder_27 : decode cX3_addOrder 27 = .ok (.iload_n 2, 1) := by decide +kernel
theorem dX3_addOrder_28 : decode cX3_addOrder 28 = .ok (.iastore, 1) := by decide +kernel
theorem dX3_addOrder_29 : decode cX3_addOrder 29 = .ok (.aload_n 0, 1) := by decide +kernel
theorem dX3_addOrder_30 : decode cX3_addOrder 30 = .ok (.getfield 18, 3) := by decide +kernel
theorem dX3_addOrder_33 : decode cX3_addOrder 33 = .ok (.aload_n 0, 1) := by decide +kernel
theorem dX3_addOrder_34 : decode cX3_addOrder 34 = .ok (.getfield 27, 3) := by decide +kernel
theorem dX3_addOrder_37 : decode cX3_addOrder 37 = .ok (.aload_n 0, 1) := by decide +kernel
theorem dX3_addOrder_38 : decode cX3_addOrder 38 = .ok (.getfield 31, 3) := by decide +kernel
theorem dX3_addOrder_41 : decode cX3_addOrder 41 = .ok (.iload_n 3, 1) := by decide +kernel
theorem dX3_addOrder_42 : decode cX3_addOrder 42 = .ok (.isub, 1) := by decide +kernel
theorem dX3_addOrder_43 : decode cX3_addOrder 43 = .ok (.iastore, 1) := by decide +kernel
theorem dX3_addOrder_44 : decode cX3_addOrder 44 = .ok (.aload_n 0, 1) := by decide +kernel
theorem dX3_addOrder_45 : decode cX3_addOrder 45 = .ok (.getfield 21, 3) := by decide +kernel
theorem dX3_addOrder_48 : decode cX3_addOrder 48 = .ok (.aload_n 0, 1) := by decide +kernel
theorem dX3_addOrder_49 : decode cX3_addOrder 49 = .ok (.getfield 27, 3) := by decide +kernel
theorem dX3_addOrder_52 : decode cX3_addOrder 52 = .ok (.iload_n 3, 1) := by decide +kernel
theorem dX3_addOrder_53 : decode cX3_addOrder 53 = .ok (.iastore, 1) := by decide +kernel
theorem dX3_addOrder_54 : decode cX3_addOrder 54 = .ok (.aload_n 0, 1) := by decide +kernel
theorem dX3_addOrder_55 : decode cX3_addOrder 55 = .ok (.dup, 1) := by decide +kernel
theorem dX3_addOrder_56 : decode cX3_addOrder 56 = .ok (.getfield 27, 3) := by decide +kernel
theorem dX3_addOrder_59 : decode cX3_addOrder 59 = .ok (.iconst 1, 1) := by decide +kernel
theorem dX3_addOrder_60 : decode cX3_addOrder 60 = .ok (.iadd, 1) := by decide +kernel
theorem dX3_addOrder_61 : decode cX3_addOrder 61 = .ok (.putfield 27, 3) := by decide +kernel
theorem dX3_addOrder_64 : decode cX3_addOrder 64 = .ok (.return_, 1) := by decide +kernel
def f_X3_addOrder (a : Nat) (x1 : Int32) (x2 : Int32) (x3 : Int32) (g : zG) : Option (Int32 × zG) :=
  if 24 ≤ (g.1 a 5) then (some ((0, g))) else (zc (zin (g.1 a 5) 24) (zl (zsi g (g.2.1 a 0) (g.1 a 5).toNatClampNeg x1) (fun g3 => zc (zin (g3.1 a 5) 24) (zl (zsi g3 (g3.2.1 a 1) (g3.1 a 5).toNatClampNeg x2) (fun g5 => zc (zin (g5.1 a 5) 24) (zl (zsi g5 (g5.2.1 a 2) (g5.1 a 5).toNatClampNeg ((g5.1 a 6) - x3)) (fun g7 => zc (zin (g7.1 a 5) 24) (zl (zsi g7 (g7.2.1 a 3) (g7.1 a 5).toNatClampNeg x3) (fun g9 => zl (zsi g9 a 5 ((g9.1 a 5) + 1)) (fun g10 => some ((0, g10))))))))))))
abbrev rm_X3_addOrder : Room := { frames := 0, cells := 0, slots := 0, locals := 0 }
set_option maxRecDepth 100000 in
set_option maxHeartbeats 4000000 in
theorem c_X3_addOrder (l : Launch) (D : zD) (sz : Nat) (τ : zT) (g : zG) (a : Nat) (x1 : Int32) (x2 : Int32) (x3 : Int32) (hta : τ a = some (.inr 3)) : zCon l D yX3_addOrder cX3_addOrder 4 none rm_X3_addOrder 0 0 zrV [.ref a, .int x1, .int x2, .int x3] sz τ g τ (f_X3_addOrder a x1 x2 x3 g) := by
  refine zCon.of (by decide) (Nat.le_of_ble_eq_true rfl) (fun E r g' hl hR hsz hnm F => ?_)
  have F : zF E D (zA τ sz) cX3_addOrder "TypeChain$Program" 4 none := F
  show zSim (fun q : Int32 × zG => q = (r, g')) (f_X3_addOrder a x1 x2 x3 g) (zAt E D (zA τ sz) (zQ E D zrV 0 0 sz τ τ r g') 4 (sz, τ, 0, 0) g 0 [(0, .ref a), (1, .int x1), (2, .int x2), (3, .int x3)] [])
  unfold f_X3_addOrder
  refine z_aload_n F 0 rfl rfl dX3_addOrder_0 ?_
  refine gf_X3_27 F hta dX3_addOrder_1 ?_
  refine z_bipush (v := 24) F (by decide) dX3_addOrder_4 ?_
  refine z_icmp_ge (tgt := 64) F dX3_addOrder_6 (by decide) (fun c1 => ?_) (fun c1 => ?_)
  · exact z_vreturn F rfl rfl rfl rfl (fun h => h) dX3_addOrder_64
  · refine z_aload_n F 0 rfl rfl dX3_addOrder_9 ?_
    refine gf_X3_9 F hta dX3_addOrder_10 (fun ht2 => ?_)
    refine z_aload_n F 0 rfl rfl dX3_addOrder_13 ?_
    refine gf_X3_27 F hta dX3_addOrder_14 ?_
    refine z_iload_n F 1 rfl rfl dX3_addOrder_17 ?_
    refine z_iast F ht2 dX3_addOrder_18 ?_
    refine z_letg (fun g3 => ?_)
    refine z_aload_n F 0 rfl rfl dX3_addOrder_19 ?_
    refine gf_X3_15 F hta dX3_addOrder_20 (fun ht4 => ?_)
    refine z_aload_n F 0 rfl rfl dX3_addOrder_23 ?_
    refine gf_X3_27 F hta dX3_addOrder_24 ?_
    refine z_iload_n F 2 rfl rfl dX3_addOrder_27 ?_
    refine z_iast F ht4 dX3_addOrder_28 ?_
    refine z_letg (fun g5 => ?_)
    refine z_aload_n F 0 rfl rfl dX3_addOrder_29 ?_
    refine gf_X3_18 F hta dX3_addOrder_30 (fun ht6 => ?_)
    refine z_aload_n F 0 rfl rfl dX3_addOrder_33 ?_
    refine gf_X3_27 F hta dX3_addOrder_34 ?_
    refine z_aload_n F 0 rfl rfl dX3_addOrder_37 ?_
    refine gf_X3_31 F hta dX3_addOrder_38 ?_
    refine z_iload_n F 3 rfl rfl dX3_addOrder_41 ?_
    refine z_isub F dX3_addOrder_42 ?_
    refine z_iast F ht6 dX3_addOrder_43 ?_
    refine z_letg (fun g7 => ?_)
    refine z_aload_n F 0 rfl rfl dX3_addOrder_44 ?_
    refine gf_X3_21 F hta dX3_addOrder_45 (fun ht8 => ?_)
    refine z_aload_n F 0 rfl rfl dX3_addOrder_48 ?_
    refine gf_X3_27 F hta dX3_addOrder_49 ?_
    refine z_iload_n F 3 rfl rfl dX3_addOrder_52 ?_
    refine z_iast F ht8 dX3_addOrder_53 ?_
    refine z_letg (fun g9 => ?_)
    refine z_aload_n F 0 rfl rfl dX3_addOrder_54 ?_
    refine z_dup F rfl dX3_addOrder_55 ?_
    refine gf_X3_27 F hta dX3_addOrder_56 ?_
    refine z_iconst (v := 1) F (by decide) dX3_addOrder_59 ?_
    refine z_iadd F dX3_addOrder_60 ?_
    refine pf_X3_27 F hta dX3_addOrder_61 ?_
    refine z_letg (fun g10 => ?_)
    exact z_vreturn F rfl rfl rfl rfl (fun h => h) dX3_addOrder_64
theorem k_X3_addOrder {ρ : Type} {K : ρ → Prop} {E : zE} {D : zD} {A : Nat → Prop} {Q : State → Prop} {nL : Nat} {κ : zC} {g : zG} {pc : Nat} {lv : List (Nat × Value)} {st : List Value} {cc : ByteArray} {own : String} {ret : Option FieldType} (F : zF E D A cc own nL ret) {index : Nat} {h : Int32 → zG → Option ρ} {a : Nat} {x1 : Int32} {x2 : Int32} {x3 : Int32}  (hR : 0 + 1 ≤ E.2.2.2.1.frames ∧ 8 + (4 + 11) + 0 ≤ E.2.2.2.1.locals) (hl : zTbl (.methodLink own index yX3_addOrder)) (hta : κ.2.1 a = some (.inr 3)) (hc : κ.2.2.1 ≤ E.2.2.2.1.cells ∧ κ.2.2.2 ≤ E.2.2.2.1.slots) (hW : (st.map fun v => v.category).sum ≤ 8) (hd : decode cc pc = .ok (.invokevirtual index, 3)) (kk : ∀ r g', zSim K (h r g') (zAt E D A Q nL κ g' (pc + 3) lv (st))) : zSim K (zb (f_X3_addOrder a x1 x2 x3 g) h) (zAt E D A Q nL κ g pc lv (.int x3 :: .int x2 :: .int x1 :: .ref a :: st)) :=
  z_callV F (n := 3) (As := [.int x1, .int x2, .int x3]) (C := (RX3, TX3, 7)) ⟨q_547, q_4, by decide +kernel, rfl, rfl, hR.1, hR.2⟩ (c_X3_addOrder E.2.1 D κ.1 κ.2.1 g a x1 x2 x3 hta) hl q_545 q_546 hta rfl rfl rfl hc hW hd kk _ rfl
theorem dX3_addLetter_0 : decode cX3_addLetter 0 = .ok (.aload_n 0, 1) := by decide +kernel
theorem dX3_addLetter_1 : decode cX3_addLetter 1 = .ok (.getfield 31, 3) := by decide +kernel
theorem dX3_addLetter_4 : decode cX3_addLetter 4 = .ok (.sipush 240, 3) := by decide +kernel
theorem dX3_addLetter_7 : decode cX3_addLetter 7 = .ok (.if_icmp .ge 23, 3) := by decide +kernel
theorem dX3_addLetter_10 : decode cX3_addLetter 10 = .ok (.aload_n 0, 1) := by decide +kernel
theorem dX3_addLetter_11 : decode cX3_addLetter 11 = .ok (.getfield 24, 3) := by decide +kernel
theorem dX3_addLetter_14 : decode cX3_addLetter 14 = .ok (.aload_n 0, 1) := by decide +kernel
theorem dX3_addLetter_15 : decode cX3_addLetter 15 = .ok (.getfield 31, 3) := by decide +kernel
theorem dX3_addLetter_18 : decode cX3_addLetter 18 = .ok (.iload_n 1, 1) := by decide +kernel
theorem dX3_addLetter_19 : decode cX3_addLetter 19 = .ok (.iastore, 1) := by decide +kernel
theorem dX3_addLetter_20 : decode cX3_addLetter 20 = .ok (.aload_n 0, 1) := by decide +kernel
theorem dX3_addLetter_21 : decode cX3_addLetter 21 = .ok (.dup, 1) := by decide +kernel
theorem dX3_addLetter_22 : decode cX3_addLetter 22 = .ok (.getfield 31, 3) := by decide +kernel
theorem dX3_addLetter_25 : decode cX3_addLetter 25 = .ok (.iconst 1, 1) := by decide +kernel
theorem dX3_addLetter_26 : decode cX3_addLetter 26 = .ok (.iadd, 1) := by decide +kernel
theorem dX3_addLetter_27 : decode cX3_addLetter 27 = .ok (.putfield 31, 3) := by decide +kernel
theorem dX3_addLetter_30 : decode cX3_addLetter 30 = .ok (.return_, 1) := by decide +kernel
def f_X3_addLetter (a : Nat) (x1 : Int32) (g : zG) : Option (Int32 × zG) :=
  if 240 ≤ (g.1 a 6) then (some ((0, g))) else (zc (zin (g.1 a 6) 240) (zl (zsi g (g.2.1 a 4) (g.1 a 6).toNatClampNeg x1) (fun g3 => zl (zsi g3 a 6 ((g3.1 a 6) + 1)) (fun g4 => some ((0, g4))))))
abbrev rm_X3_addLetter : Room := { frames := 0, cells := 0, slots := 0, locals := 0 }
set_option maxRecDepth 100000 in
set_option maxHeartbeats 4000000 in
theorem c_X3_addLetter (l : Launch) (D : zD) (sz : Nat) (τ : zT) (g : zG) (a : Nat) (x1 : Int32) (hta : τ a = some (.inr 3)) : zCon l D yX3_addLetter cX3_addLetter 2 none rm_X3_addLetter 0 0 zrV [.ref a, .int x1] sz τ g τ (f_X3_addLetter a x1 g) := by
  refine zCon.of (by decide) (Nat.le_of_ble_eq_true rfl) (fun E r g' hl hR hsz hnm F => ?_)
  have F : zF E D (zA τ sz) cX3_addLetter "TypeChain$Program" 2 none := F
  show zSim (fun q : Int32 × zG => q = (r, g')) (f_X3_addLetter a x1 g) (zAt E D (zA τ sz) (zQ E D zrV 0 0 sz τ τ r g') 2 (sz, τ, 0, 0) g 0 [(0, .ref a), (1, .int x1)] [])
  unfold f_X3_addLetter
  refine z_aload_n F 0 rfl rfl dX3_addLetter_0 ?_
  refine gf_X3_31 F hta dX3_addLetter_1 ?_
  refine z_sipush (v := 240) F (by decide) dX3_addLetter_4 ?_
  refine z_icmp_ge (tgt := 30) F dX3_addLetter_7 (by decide) (fun c1 => ?_) (fun c1 => ?_)
  · exact z_vreturn F rfl rfl rfl rfl (fun h => h) dX3_addLetter_30
  · refine z_aload_n F 0 rfl rfl dX3_addLetter_10 ?_
    refine gf_X3_24 F hta dX3_addLetter_11 (fun ht2 => ?_)
    refine z_aload_n F 0 rfl rfl dX3_addLetter_14 ?_
    refine gf_X3_31 F hta dX3_addLetter_15 ?_
    refine z_iload_n F 1 rfl rfl dX3_addLetter_18 ?_
    refine z_iast F ht2 dX3_addLetter_19 ?_
    refine z_letg (fun g3 => ?_)
    refine z_aload_n F 0 rfl rfl dX3_addLetter_20 ?_
    refine z_dup F rfl dX3_addLetter_21 ?_
    refine gf_X3_31 F hta dX3_addLetter_22 ?_
    refine z_iconst (v := 1) F (by decide) dX3_addLetter_25 ?_
    refine z_iadd F dX3_addLetter_26 ?_
    refine pf_X3_31 F hta dX3_addLetter_27 ?_
    refine z_letg (fun g4 => ?_)
    exact z_vreturn F rfl rfl rfl rfl (fun h => h) dX3_addLetter_30
theorem k_X3_addLetter {ρ : Type} {K : ρ → Prop} {E : zE} {D : zD} {A : Nat → Prop} {Q : State → Prop} {nL : Nat} {κ : zC} {g : zG} {pc : Nat} {lv : List (Nat × Value)} {st : List Value} {cc : ByteArray} {own : String} {ret : Option FieldType} (F : zF E D A cc own nL ret) {index : Nat} {h : Int32 → zG → Option ρ} {a : Nat} {x1 : Int32}  (hR : 0 + 1 ≤ E.2.2.2.1.frames ∧ 8 + (2 + 11) + 0 ≤ E.2.2.2.1.locals) (hl : zTbl (.methodLink own index yX3_addLetter)) (hta : κ.2.1 a = some (.inr 3)) (hc : κ.2.2.1 ≤ E.2.2.2.1.cells ∧ κ.2.2.2 ≤ E.2.2.2.1.slots) (hW : (st.map fun v => v.category).sum ≤ 8) (hd : decode cc pc = .ok (.invokevirtual index, 3)) (kk : ∀ r g', zSim K (h r g') (zAt E D A Q nL κ g' (pc + 3) lv (st))) : zSim K (zb (f_X3_addLetter a x1 g) h) (zAt E D A Q nL κ g pc lv (.int x1 :: .ref a :: st)) :=
  z_callV F (n := 1) (As := [.int x1]) (C := (RX3, TX3, 7)) ⟨q_543, q_4, by decide +kernel, rfl, rfl, hR.1, hR.2⟩ (c_X3_addLetter E.2.1 D κ.1 κ.2.1 g a x1 hta) hl q_541 q_542 hta rfl rfl rfl hc hW hd kk _ rfl
theorem dX3_letterOf_0 : decode cX3_letterOf 0 = .ok (.aload_n 0, 1) := by decide +kernel
theorem dX3_letterOf_1 : decode cX3_letterOf 1 = .ok (.getfield 24, 3) := by decide +kernel
theorem dX3_letterOf_4 : decode cX3_letterOf 4 = .ok (.aload_n 0, 1) := by decide +kernel
theorem dX3_letterOf_5 : decode cX3_letterOf 5 = .ok (.getfield 18, 3) := by decide +kernel
theorem dX3_letterOf_8 : decode cX3_letterOf 8 = .ok (.iload_n 1, 1) := by decide +kernel
theorem dX3_letterOf_9 : decode cX3_letterOf 9 = .ok (.iaload, 1) := by decide +kernel
theorem dX3_letterOf_10 : decode cX3_letterOf 10 = .ok (.iload_n 2, 1) := by decide +kernel
theorem dX3_letterOf_11 : decode cX3_letterOf 11 = .ok (.iadd, 1) := by decide +kernel
theorem dX3_letterOf_12 : decode cX3_letterOf 12 = .ok (.iaload, 1) := by decide +kernel
theorem dX3_letterOf_13 : decode cX3_letterOf 13 = .ok (.ireturn, 1) := by decide +kernel
def f_X3_letterOf (a : Nat) (x1 : Int32) (x2 : Int32) (g : zG) : Option (Int32 × zG) :=
  zc (zin x1 24) (zc (zin ((g.1 (g.2.1 a 2) x1.toNatClampNeg) + x2) 240) (some ((g.1 (g.2.1 a 4) ((g.1 (g.2.1 a 2) x1.toNatClampNeg) + x2).toNatClampNeg, g))))
abbrev rm_X3_letterOf : Room := { frames := 0, cells := 0, slots := 0, locals := 0 }
set_option maxRecDepth 100000 in
set_option maxHeartbeats 4000000 in
theorem c_X3_letterOf (l : Launch) (D : zD) (sz : Nat) (τ : zT) (g : zG) (a : Nat) (x1 : Int32) (x2 : Int32) (hta : τ a = some (.inr 3)) : zCon l D yX3_letterOf cX3_letterOf 3 (some .int) rm_X3_letterOf 0 0 zrI [.ref a, .int x1, .int x2] sz τ g τ (f_X3_letterOf a x1 x2 g) := by
  refine zCon.of (by decide) (Nat.le_of_ble_eq_true rfl) (fun E r g' hl hR hsz hnm F => ?_)
  have F : zF E D (zA τ sz) cX3_letterOf "TypeChain$Program" 3 (some .int) := F
  show zSim (fun q : Int32 × zG => q = (r, g')) (f_X3_letterOf a x1 x2 g) (zAt E D (zA τ sz) (zQ E D zrI 0 0 sz τ τ r g') 3 (sz, τ, 0, 0) g 0 [(0, .ref a), (1, .int x1), (2, .int x2)] [])
  unfold f_X3_letterOf
  refine z_aload_n F 0 rfl rfl dX3_letterOf_0 ?_
  refine gf_X3_24 F hta dX3_letterOf_1 (fun ht1 => ?_)
  refine z_aload_n F 0 rfl rfl dX3_letterOf_4 ?_
  refine gf_X3_18 F hta dX3_letterOf_5 (fun ht2 => ?_)
  refine z_iload_n F 1 rfl rfl dX3_letterOf_8 ?_
  refine z_iald F ht2 dX3_letterOf_9 ?_
  refine z_iload_n F 2 rfl rfl dX3_letterOf_10 ?_
  refine z_iadd F dX3_letterOf_11 ?_
  refine z_iald F ht1 dX3_letterOf_12 ?_
  exact z_ireturn F rfl rfl rfl rfl (fun h => h) dX3_letterOf_13
theorem k_X3_letterOf {ρ : Type} {K : ρ → Prop} {E : zE} {D : zD} {A : Nat → Prop} {Q : State → Prop} {nL : Nat} {κ : zC} {g : zG} {pc : Nat} {lv : List (Nat × Value)} {st : List Value} {cc : ByteArray} {own : String} {ret : Option FieldType} (F : zF E D A cc own nL ret) {index : Nat} {h : Int32 → zG → Option ρ} {a : Nat} {x1 : Int32} {x2 : Int32}  (hR : 0 + 1 ≤ E.2.2.2.1.frames ∧ 8 + (3 + 11) + 0 ≤ E.2.2.2.1.locals) (hl : zTbl (.methodLink own index yX3_letterOf)) (hta : κ.2.1 a = some (.inr 3)) (hc : κ.2.2.1 ≤ E.2.2.2.1.cells ∧ κ.2.2.2 ≤ E.2.2.2.1.slots) (hW : (st.map fun v => v.category).sum ≤ 8) (hd : decode cc pc = .ok (.invokevirtual index, 3)) (kk : ∀ r g', zSim K (h r g') (zAt E D A Q nL κ g' (pc + 3) lv (.int r :: st))) : zSim K (zb (f_X3_letterOf a x1 x2 g) h) (zAt E D A Q nL κ g pc lv (.int x2 :: .int x1 :: .ref a :: st)) :=
  z_callV F (n := 2) (As := [.int x1, .int x2]) (C := (RX3, TX3, 7)) ⟨q_588, q_4, by decide +kernel, rfl, rfl, hR.1, hR.2⟩ (c_X3_letterOf E.2.1 D κ.1 κ.2.1 g a x1 x2 hta) hl q_586 q_587 hta rfl rfl rfl hc hW hd kk _ rfl
