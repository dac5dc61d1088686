theorem dJ6_bitCount_0f7a4_0 : decode cJ6_bitCount_0f7a4 0 = .ok (.iload_n 0, 1) := by decide +kernel
theorem dJ6_bitCount_0f7a4_1 : decode cJ6_bitCount_0f7a4 1 = .ok (.iload_n 0, 1) := by decide +kernel
theorem dJ6_bitCount_0f7a4_2 : decode cJ6_bitCount_0f7a4 2 = .ok (.iconst 1, 1) := by decide +kernel
theorem dJ6_bitCount_0f7a4_3 : decode cJ6_bitCount_0f7a4 3 = .ok (.iushr, 1) := by decide +kernel
theorem dJ6_bitCount_0f7a4_4 : decode cJ6_bitCount_0f7a4 4 = .ok (.ldc_w 265, 3) := by decide +kernel
theorem dJ6_bitCount_0f7a4_7 : decode cJ6_bitCount_0f7a4 7 = .ok (.iand, 1) := by decide +kernel
theorem dJ6_bitCount_0f7a4_8 : decode cJ6_bitCount_0f7a4 8 = .ok (.isub, 1) := by decide +kernel
theorem dJ6_bitCount_0f7a4_9 : decode cJ6_bitCount_0f7a4 9 = .ok (.istore_n 0, 1) := by decide +kernel
theorem dJ6_bitCount_0f7a4_10 : decode cJ6_bitCount_0f7a4 10 = .ok (.iload_n 0, 1) := by decide +kernel
theorem dJ6_bitCount_0f7a4_11 : decode cJ6_bitCount_0f7a4 11 = .ok (.ldc_w 266, 3) := by decide +kernel
theorem dJ6_bitCount_0f7a4_14 : decode cJ6_bitCount_0f7a4 14 = .ok (.iand, 1) := by decide +kernel
theorem dJ6_bitCount_0f7a4_15 : decode cJ6_bitCount_0f7a4 15 = .ok (.iload_n 0, 1) := by decide +kernel
theorem dJ6_bitCount_0f7a4_16 : decode cJ6_bitCount_0f7a4 16 = .ok (.iconst 2, 1) := by decide +kernel
theorem dJ6_bitCount_0f7a4_17 : decode cJ6_bitCount_0f7a4 17 = .ok (.iushr, 1) := by decide +kernel
theorem dJ6_bitCount_0f7a4_18 : decode cJ6_bitCount_0f7a4 18 = .ok (.ldc_w 266, 3) := by decide +kernel
theorem dJ6_bitCount_0f7a4_21 : decode cJ6_bitCount_0f7a4 21 = .ok (.iand, 1) := by decide +kernel
theorem dJ6_bitCount_0f7a4_22 : decode cJ6_bitCount_0f7a4 22 = .ok (.iadd, 1) := by decide +kernel
theorem dJ6_bitCount_0f7a4_23 : decode cJ6_bitCount_0f7a4 23 = .ok (.istore_n 0, 1) := by decide +kernel
theorem dJ6_bitCount_0f7a4_24 : decode cJ6_bitCount_0f7a4 24 = .ok (.iload_n 0, 1) := by decide +kernel
theorem dJ6_bitCount_0f7a4_25 : decode cJ6_bitCount_0f7a4 25 = .ok (.iload_n 0, 1) := by decide +kernel
theorem dJ6_bitCount_0f7a4_26 : decode cJ6_bitCount_0f7a4 26 = .ok (.iconst 4, 1) := by decide +kernel
theorem dJ6_bitCount_0f7a4_27 : decode cJ6_bitCount_0f7a4 27 = .ok (.iushr, 1) := by decide +kernel
theorem dJ6_bitCount_0f7a4_28 : decode cJ6_bitCount_0f7a4 28 = .ok (.iadd, 1) := by decide +kernel
theorem dJ6_bitCount_0f7a4_29 : decode cJ6_bitCount_0f7a4 29 = .ok (.ldc_w 267, 3) := by decide +kernel
theorem dJ6_bitCount_0f7a4_32 : decode cJ6_bitCount_0f7a4 32 = .ok (.iand, 1) := by decide +kernel
theorem dJ6_bitCount_0f7a4_33 : decode cJ6_bitCount_0f7a4 33 = .ok (.istore_n 0, 1) := by decide +kernel
theorem dJ6_bitCount_0f7a4_34 : decode cJ6_bitCount_0f7a4 34 = .ok (.iload_n 0, 1) := by decide +kernel
theorem dJ6_bitCount_0f7a4_35 : decode cJ6_bitCount_0f7a4 35 = .ok (.iload_n 0, 1) := by decide +kernel
theorem dJ6_bitCount_0f7a4_36 : decode cJ6_bitCount_0f7a4 36 = .ok (.bipush 8, 2) := by decide +kernel
theorem dJ6_bitCount_0f7a4_38 : decode cJ6_bitCount_0f7a4 38 = .ok (.iushr, 1) := by decide +kernel
theorem dJ6_bitCount_0f7a4_39 : decode cJ6_bitCount_0f7a4 39 = .ok (.iadd, 1) := by decide +kernel
theorem dJ6_bitCount_0f7a4_40 : decode cJ6_bitCount_0f7a4 40 = .ok (.istore_n 0, 1) := by decide +kernel
theorem dJ6_bitCount_0f7a4_41 : decode cJ6_bitCount_0f7a4 41 = .ok (.iload_n 0, 1) := by decide +kernel
theorem dJ6_bitCount_0f7a4_42 : decode cJ6_bitCount_0f7a4 42 = .ok (.iload_n 0, 1) := by decide +kernel
theorem dJ6_bitCount_0f7a4_43 : decode cJ6_bitCount_0f7a4 43 = .ok (.bipush 16, 2) := by decide +kernel
theorem dJ6_bitCount_0f7a4_45 : decode cJ6_bitCount_0f7a4 45 = .ok (.iushr, 1) := by decide +kernel
theorem dJ6_bitCount_0f7a4_46 : decode cJ6_bitCount_0f7a4 46 = .ok (.iadd, 1) := by decide +kernel
theorem dJ6_bitCount_0f7a4_47 : decode cJ6_bitCount_0f7a4 47 = .ok (.istore_n 0, 1) := by decide +kernel
theorem dJ6_bitCount_0f7a4_48 : decode cJ6_bitCount_0f7a4 48 = .ok (.iload_n 0, 1) := by decide +kernel
theorem dJ6_bitCount_0f7a4_49 : decode cJ6_bitCount_0f7a4 49 = .ok (.bipush 63, 2) := by decide +kernel
theorem dJ6_bitCount_0f7a4_51 : decode cJ6_bitCount_0f7a4 51 = .ok (.iand, 1) := by decide +kernel
theorem dJ6_bitCount_0f7a4_52 : decode cJ6_bitCount_0f7a4 52 = .ok (.ireturn, 1) := by decide +kernel
def f_J6_bitCount_0f7a4 (x1 : Int32) (g : zG) : Option (Int32 × zG) :=
  zl (x1 - ((zushr x1 1) &&& 1431655765)) (fun v1 => zl ((v1 &&& 858993459) + ((zushr v1 2) &&& 858993459)) (fun v2 => zl ((v2 + (zushr v2 4)) &&& 252645135) (fun v3 => zl (v3 + (zushr v3 8)) (fun v4 => zl (v4 + (zushr v4 16)) (fun v5 => some ((v5 &&& 63, g)))))))
abbrev rm_J6_bitCount_0f7a4 : Room := { frames := 0, cells := 0, slots := 0, locals := 0 }
set_option maxRecDepth 100000 in
set_option maxHeartbeats 4000000 in
theorem c_J6_bitCount_0f7a4 (l : Launch) (D : zD) (sz : Nat) (τ : zT) (g : zG) (x1 : Int32) : zCon l D yJ6_bitCount_0f7a4 cJ6_bitCount_0f7a4 1 (some .int) rm_J6_bitCount_0f7a4 0 0 zrI [.int x1] sz τ g τ (f_J6_bitCount_0f7a4 x1 g) := by
  refine zCon.of (by decide) (Nat.le_of_ble_eq_true rfl) (fun E r g' hl hR hsz hnm F => ?_)
  have F : zF E D (zA τ sz) cJ6_bitCount_0f7a4 "java/lang/Integer" 1 (some .int) := F
  show zSim (fun q : Int32 × zG => q = (r, g')) (f_J6_bitCount_0f7a4 x1 g) (zAt E D (zA τ sz) (zQ E D zrI 0 0 sz τ τ r g') 1 (sz, τ, 0, 0) g 0 [(0, .int x1)] [])
  unfold f_J6_bitCount_0f7a4
  refine z_iload_n F 0 rfl rfl dJ6_bitCount_0f7a4_0 ?_
  refine z_iload_n F 0 rfl rfl dJ6_bitCount_0f7a4_1 ?_
  refine z_iconst (v := 1) F (by decide) dJ6_bitCount_0f7a4_2 ?_
  refine z_iushr F dJ6_bitCount_0f7a4_3 ?_
  refine z_ldcw F q_132 dJ6_bitCount_0f7a4_4 ?_
  refine z_iand F dJ6_bitCount_0f7a4_7 ?_
  refine z_isub F dJ6_bitCount_0f7a4_8 ?_
  refine z_leti (fun v1 => ?_)
  refine z_istore_n (lv' := [(0, .int v1)]) F rfl (by decide) dJ6_bitCount_0f7a4_9 rfl ?_
  refine z_iload_n F 0 rfl rfl dJ6_bitCount_0f7a4_10 ?_
  refine z_ldcw F q_133 dJ6_bitCount_0f7a4_11 ?_
  refine z_iand F dJ6_bitCount_0f7a4_14 ?_
  refine z_iload_n F 0 rfl rfl dJ6_bitCount_0f7a4_15 ?_
  refine z_iconst (v := 2) F (by decide) dJ6_bitCount_0f7a4_16 ?_
  refine z_iushr F dJ6_bitCount_0f7a4_17 ?_
  refine z_ldcw F q_133 dJ6_bitCount_0f7a4_18 ?_
  refine z_iand F dJ6_bitCount_0f7a4_21 ?_
  refine z_iadd F dJ6_bitCount_0f7a4_22 ?_
  refine z_leti (fun v2 => ?_)
  refine z_istore_n (lv' := [(0, .int v2)]) F rfl (by decide) dJ6_bitCount_0f7a4_23 rfl ?_
  refine z_iload_n F 0 rfl rfl dJ6_bitCount_0f7a4_24 ?_
  refine z_iload_n F 0 rfl rfl dJ6_bitCount_0f7a4_25 ?_
  refine z_iconst (v := 4) F (by decide) dJ6_bitCount_0f7a4_26 ?_
  refine z_iushr F dJ6_bitCount_0f7a4_27 ?_
  refine z_iadd F dJ6_bitCount_0f7a4_28 ?_
  refine z_ldcw F q_134 dJ6_bitCount_0f7a4_29 ?_
  refine z_iand F dJ6_bitCount_0f7a4_32 ?_
  refine z_leti (fun v3 => ?_)
  refine z_istore_n (lv' := [(0, .int v3)]) F rfl (by decide) dJ6_bitCount_0f7a4_33 rfl ?_
  refine z_iload_n F 0 rfl rfl dJ6_bitCount_0f7a4_34 ?_
  refine z_iload_n F 0 rfl rfl dJ6_bitCount_0f7a4_35 ?_
  refine z_bipush (v := 8) F (by decide) dJ6_bitCount_0f7a4_36 ?_
  refine z_iushr F dJ6_bitCount_0f7a4_38 ?_
  refine z_iadd F dJ6_bitCount_0f7a4_39 ?_
  refine z_leti (fun v4 => ?_)
  refine z_istore_n (lv' := [(0, .int v4)]) F rfl (by decide) dJ6_bitCount_0f7a4_40 rfl ?_
  refine z_iload_n F 0 rfl rfl dJ6_bitCount_0f7a4_41 ?_
  refine z_iload_n F 0 rfl rfl dJ6_bitCount_0f7a4_42 ?_
  refine z_bipush (v := 16) F (by decide) dJ6_bitCount_0f7a4_43 ?_
  refine z_iushr F dJ6_bitCount_0f7a4_45 ?_
  refine z_iadd F dJ6_bitCount_0f7a4_46 ?_
  refine z_leti (fun v5 => ?_)
  refine z_istore_n (lv' := [(0, .int v5)]) F rfl (by decide) dJ6_bitCount_0f7a4_47 rfl ?_
  refine z_iload_n F 0 rfl rfl dJ6_bitCount_0f7a4_48 ?_
  refine z_bipush (v := 63) F (by decide) dJ6_bitCount_0f7a4_49 ?_
  refine z_iand F dJ6_bitCount_0f7a4_51 ?_
  exact z_ireturn F rfl rfl rfl rfl (fun h => h) dJ6_bitCount_0f7a4_52
theorem k_J6_bitCount_0f7a4 {ρ : Type} {K : ρ → Prop} {E : zE} {D : zD} {A : Nat → Prop} {Q : State → Prop} {nL : Nat} {κ : zC} {g : zG} {pc : Nat} {lv : List (Nat × Value)} {st : List Value} {cc : ByteArray} {own : String} {ret : Option FieldType} (F : zF E D A cc own nL ret) {index : Nat} {h : Int32 → zG → Option ρ} {x1 : Int32}  (hR : 0 + 1 ≤ E.2.2.2.1.frames ∧ 8 + (1 + 11) + 0 ≤ E.2.2.2.1.locals) (hl : zTbl (.methodLink own index yJ6_bitCount_0f7a4)) (hc : κ.2.2.1 ≤ E.2.2.2.1.cells ∧ κ.2.2.2 ≤ E.2.2.2.1.slots) (hW : (st.map fun v => v.category).sum ≤ 8) (hd : decode cc pc = .ok (.invokestatic index, 3)) (kk : ∀ r g', zSim K (h r g') (zAt E D A Q nL κ g' (pc + 3) lv (.int r :: st))) : zSim K (zb (f_J6_bitCount_0f7a4 x1 g) h) (zAt E D A Q nL κ g pc lv (.int x1 :: st)) :=
  z_callS F (n := 1) (As := [.int x1]) ⟨q_131, q_7, by decide +kernel, rfl, rfl, hR.1, hR.2⟩ (c_J6_bitCount_0f7a4 E.2.1 D κ.1 κ.2.1 g x1 ) hl q_130 rfl hc hW hd kk _ rfl
theorem dJ13_bitCount_95d88_0 : decode cJ13_bitCount_95d88 0 = .ok (.lload_n 0, 1) := by decide +kernel
theorem dJ13_bitCount_95d88_1 : decode cJ13_bitCount_95d88 1 = .ok (.lload_n 0, 1) := by decide +kernel
theorem dJ13_bitCount_95d88_2 : decode cJ13_bitCount_95d88 2 = .ok (.iconst 1, 1) := by decide +kernel
theorem dJ13_bitCount_95d88_3 : decode cJ13_bitCount_95d88 3 = .ok (.lushr, 1) := by decide +kernel
theorem dJ13_bitCount_95d88_4 : decode cJ13_bitCount_95d88 4 = .ok (.ldc2_w 314, 3) := by decide +kernel
theorem dJ13_bitCount_95d88_7 : decode cJ13_bitCount_95d88 7 = .ok (.land, 1) := by decide +kernel
theorem dJ13_bitCount_95d88_8 : decode cJ13_bitCount_95d88 8 = .ok (.lsub, 1) := by decide +kernel
theorem dJ13_bitCount_95d88_9 : decode cJ13_bitCount_95d88 9 = .ok (.lstore_n 0, 1) := by decide +kernel
theorem dJ13_bitCount_95d88_10 : decode cJ13_bitCount_95d88 10 = .ok (.lload_n 0, 1) := by decide +kernel
theorem dJ13_bitCount_95d88_11 : decode cJ13_bitCount_95d88 11 = .ok (.ldc2_w 316, 3) := by decide +kernel
theorem dJ13_bitCount_95d88_14 : decode cJ13_bitCount_95d88 14 = .ok (.land, 1) := by decide +kernel
theorem dJ13_bitCount_95d88_15 : decode cJ13_bitCount_95d88 15 = .ok (.lload_n 0, 1) := by decide +kernel
theorem dJ13_bitCount_95d88_16 : decode cJ13_bitCount_95d88 16 = .ok (.iconst 2, 1) := by decide +kernel
theorem dJ13_bitCount_95d88_17 : decode cJ13_bitCount_95d88 17 = .ok (.lushr, 1) := by decide +kernel
theorem dJ13_bitCount_95d88_18 : decode cJ13_bitCount_95d88 18 = .ok (.ldc2_w 316, 3) := by decide +kernel
theorem dJ13_bitCount_95d88_21 : decode cJ13_bitCount_95d88 21 = .ok (.land, 1) := by decide +kernel
theorem dJ13_bitCount_95d88_22 : decode cJ13_bitCount_95d88 22 = .ok (.ladd, 1) := by decide +kernel
theorem dJ13_bitCount_95d88_23 : decode cJ13_bitCount_95d88 23 = .ok (.lstore_n 0, 1) := by decide +kernel
theorem dJ13_bitCount_95d88_24 : decode cJ13_bitCount_95d88 24 = .ok (.lload_n 0, 1) := by decide +kernel
theorem dJ13_bitCount_95d88_25 : decode cJ13_bitCount_95d88 25 = .ok (.lload_n 0, 1) := by decide +kernel
theorem dJ13_bitCount_95d88_26 : decode cJ13_bitCount_95d88 26 = .ok (.iconst 4, 1) := by decide +kernel
theorem dJ13_bitCount_95d88_27 : decode cJ13_bitCount_95d88 27 = .ok (.lushr, 1) := by decide +kernel
theorem dJ13_bitCount_95d88_28 : decode cJ13_bitCount_95d88 28 = .ok (.ladd, 1) := by decide +kernel
theorem dJ13_bitCount_95d88_29 : decode cJ13_bitCount_95d88 29 = .ok (.ldc2_w 318, 3) := by decide +kernel
theorem dJ13_bitCount_95d88_32 : decode cJ13_bitCount_95d88 32 = .ok (.land, 1) := by decide +kernel
theorem dJ13_bitCount_95d88_33 : decode cJ13_bitCount_95d88 33 = .ok (.lstore_n 0, 1) := by decide +kernel
theorem dJ13_bitCount_95d88_34 : decode cJ13_bitCount_95d88 34 = .ok (.lload_n 0, 1) := by decide +kernel
theorem dJ13_bitCount_95d88_35 : decode cJ13_bitCount_95d88 35 = .ok (.lload_n 0, 1) := by decide +kernel
theorem dJ13_bitCount_95d88_36 : decode cJ13_bitCount_95d88 36 = .ok (.bipush 8, 2) := by decide +kernel
theorem dJ13_bitCount_95d88_38 : decode cJ13_bitCount_95d88 38 = .ok (.lushr, 1) := by decide +kernel
theorem dJ13_bitCount_95d88_39 : decode cJ13_bitCount_95d88 39 = .ok (.ladd, 1) := by decide +kernel
theorem dJ13_bitCount_95d88_40 : decode cJ13_bitCount_95d88 40 = .ok (.lstore_n 0, 1) := by decide +kernel
theorem dJ13_bitCount_95d88_41 : decode cJ13_bitCount_95d88 41 = .ok (.lload_n 0, 1) := by decide +kernel
theorem dJ13_bitCount_95d88_42 : decode cJ13_bitCount_95d88 42 = .ok (.lload_n 0, 1) := by decide +kernel
theorem dJ13_bitCount_95d88_43 : decode cJ13_bitCount_95d88 43 = .ok (.bipush 16, 2) := by decide +kernel
theorem dJ13_bitCount_95d88_45 : decode cJ13_bitCount_95d88 45 = .ok (.lushr, 1) := by decide +kernel
theorem dJ13_bitCount_95d88_46 : decode cJ13_bitCount_95d88 46 = .ok (.ladd, 1) := by decide +kernel
theorem dJ13_bitCount_95d88_47 : decode cJ13_bitCount_95d88 47 = .ok (.lstore_n 0, 1) := by decide +kernel
theorem dJ13_bitCount_95d88_48 : decode cJ13_bitCount_95d88 48 = .ok (.lload_n 0, 1) := by decide +kernel
theorem dJ13_bitCount_95d88_49 : decode cJ13_bitCount_95d88 49 = .ok (.lload_n 0, 1) := by decide +kernel
theorem dJ13_bitCount_95d88_50 : decode cJ13_bitCount_95d88 50 = .ok (.bipush 32, 2) := by decide +kernel
theorem dJ13_bitCount_95d88_52 : decode cJ13_bitCount_95d88 52 = .ok (.lushr, 1) := by decide +kernel
theorem dJ13_bitCount_95d88_53 : decode cJ13_bitCount_95d88 53 = .ok (.ladd, 1) := by decide +kernel
theorem dJ13_bitCount_95d88_54 : decode cJ13_bitCount_95d88 54 = .ok (.lstore_n 0, 1) := by decide +kernel
theorem dJ13_bitCount_95d88_55 : decode cJ13_bitCount_95d88 55 = .ok (.lload_n 0, 1) := by decide +kernel
theorem dJ13_bitCount_95d88_56 : decode cJ13_bitCount_95d88 56 = .ok (.l2i, 1) := by decide +kernel
theorem dJ13_bitCount_95d88_57 : decode cJ13_bitCount_95d88 57 = .ok (.bipush 127, 2) := by decide +kernel
theorem dJ13_bitCount_95d88_59 : decode cJ13_bitCount_95d88 59 = .ok (.iand, 1) := by decide +kernel
theorem dJ13_bitCount_95d88_60 : decode cJ13_bitCount_95d88 60 = .ok (.ireturn, 1) := by decide +kernel
def f_J13_bitCount_95d88 (x1 : Int64) (g : zG) : Option (Int32 × zG) :=
  zl (x1 - ((zlushr x1 1) &&& 6148914691236517205)) (fun v1 => zl ((v1 &&& 3689348814741910323) + ((zlushr v1 2) &&& 3689348814741910323)) (fun v2 => zl ((v2 + (zlushr v2 4)) &&& 1085102592571150095) (fun v3 => zl (v3 + (zlushr v3 8)) (fun v4 => zl (v4 + (zlushr v4 16)) (fun v5 => zl (v5 + (zlushr v5 32)) (fun v6 => some ((v6.toInt32 &&& 127, g))))))))
abbrev rm_J13_bitCount_95d88 : Room := { frames := 0, cells := 0, slots := 0, locals := 0 }
set_option maxRecDepth 100000 in
set_option maxHeartbeats 4000000 in
theorem c_J13_bitCount_95d88 (l : Launch) (D : zD) (sz : Nat) (τ : zT) (g : zG) (x1 : Int64) : zCon l D yJ13_bitCount_95d88 cJ13_bitCount_95d88 2 (some .int) rm_J13_bitCount_95d88 0 0 zrI [.long x1] sz τ g τ (f_J13_bitCount_95d88 x1 g) := by
  refine zCon.of (by decide) (Nat.le_of_ble_eq_true rfl) (fun E r g' hl hR hsz hnm F => ?_)
  have F : zF E D (zA τ sz) cJ13_bitCount_95d88 "java/lang/Long" 2 (some .int) := F
  show zSim (fun q : Int32 × zG => q = (r, g')) (f_J13_bitCount_95d88 x1 g) (zAt E D (zA τ sz) (zQ E D zrI 0 0 sz τ τ r g') 2 (sz, τ, 0, 0) g 0 [(0, .long x1)] [])
  unfold f_J13_bitCount_95d88
  refine z_lload_n F 0 rfl rfl dJ13_bitCount_95d88_0 ?_
  refine z_lload_n F 0 rfl rfl dJ13_bitCount_95d88_1 ?_
  refine z_iconst (v := 1) F (by decide) dJ13_bitCount_95d88_2 ?_
  refine z_lushr F dJ13_bitCount_95d88_3 ?_
  refine z_ldc2 F q_692 dJ13_bitCount_95d88_4 ?_
  refine z_land F dJ13_bitCount_95d88_7 ?_
  refine z_lsub F dJ13_bitCount_95d88_8 ?_
  refine z_letl (fun v1 => ?_)
  refine z_lstore_n (lv' := [(0, .long v1)]) F rfl (by decide) dJ13_bitCount_95d88_9 rfl ?_
  refine z_lload_n F 0 rfl rfl dJ13_bitCount_95d88_10 ?_
  refine z_ldc2 F q_693 dJ13_bitCount_95d88_11 ?_
  refine z_land F dJ13_bitCount_95d88_14 ?_
  refine z_lload_n F 0 rfl rfl dJ13_bitCount_95d88_15 ?_
  refine z_iconst (v := 2) F (by decide) dJ13_bitCount_95d88_16 ?_
  refine z_lushr F dJ13_bitCount_95d88_17 ?_
  refine z_ldc2 F q_693 dJ13_bitCount_95d88_18 ?_
  refine z_land F dJ13_bitCount_95d88_21 ?_
  refine z_ladd F dJ13_bitCount_95d88_22 ?_
  refine z_letl (fun v2 => ?_)
  refine z_lstore_n (lv' := [(0, .long v2)]) F rfl (by decide) dJ13_bitCount_95d88_23 rfl ?_
  refine z_lload_n F 0 rfl rfl dJ13_bitCount_95d88_24 ?_
  refine z_lload_n F 0 rfl rfl dJ13_bitCount_95d88_25 ?_
  refine z_iconst (v := 4) F (by decide) dJ13_bitCount_95d88_26 ?_
  refine z_lushr F dJ13_bitCount_95d88_27 ?_
  refine z_ladd F dJ13_bitCount_95d88_28 ?_
  refine z_ldc2 F q_694 dJ13_bitCount_95d88_29 ?_
  refine z_land F dJ13_bitCount_95d88_32 ?_
  refine z_letl (fun v3 => ?_)
  refine z_lstore_n (lv' := [(0, .long v3)]) F rfl (by decide) dJ13_bitCount_95d88_33 rfl ?_
  refine z_lload_n F 0 rfl rfl dJ13_bitCount_95d88_34 ?_
  refine z_lload_n F 0 rfl rfl dJ13_bitCount_95d88_35 ?_
  refine z_bipush (v := 8) F (by decide) dJ13_bitCount_95d88_36 ?_
  refine z_lushr F dJ13_bitCount_95d88_38 ?_
  refine z_ladd F dJ13_bitCount_95d88_39 ?_
  refine z_letl (fun v4 => ?_)
  refine z_lstore_n (lv' := [(0, .long v4)]) F rfl (by decide) dJ13_bitCount_95d88_40 rfl ?_
  refine z_lload_n F 0 rfl rfl dJ13_bitCount_95d88_41 ?_
  refine z_lload_n F 0 rfl rfl dJ13_bitCount_95d88_42 ?_
  refine z_bipush (v := 16) F (by decide) dJ13_bitCount_95d88_43 ?_
  refine z_lushr F dJ13_bitCount_95d88_45 ?_
  refine z_ladd F dJ13_bitCount_95d88_46 ?_
  refine z_letl (fun v5 => ?_)
  refine z_lstore_n (lv' := [(0, .long v5)]) F rfl (by decide) dJ13_bitCount_95d88_47 rfl ?_
  refine z_lload_n F 0 rfl rfl dJ13_bitCount_95d88_48 ?_
  refine z_lload_n F 0 rfl rfl dJ13_bitCount_95d88_49 ?_
  refine z_bipush (v := 32) F (by decide) dJ13_bitCount_95d88_50 ?_
  refine z_lushr F dJ13_bitCount_95d88_52 ?_
  refine z_ladd F dJ13_bitCount_95d88_53 ?_
  refine z_letl (fun v6 => ?_)
  refine z_lstore_n (lv' := [(0, .long v6)]) F rfl (by decide) dJ13_bitCount_95d88_54 rfl ?_
  refine z_lload_n F 0 rfl rfl dJ13_bitCount_95d88_55 ?_
  refine z_l2i F dJ13_bitCount_95d88_56 ?_
  refine z_bipush (v := 127) F (by decide) dJ13_bitCount_95d88_57 ?_
  refine z_iand F dJ13_bitCount_95d88_59 ?_
  exact z_ireturn F rfl rfl rfl rfl (fun h => h) dJ13_bitCount_95d88_60
theorem k_J13_bitCount_95d88 {ρ : Type} {K : ρ → Prop} {E : zE} {D : zD} {A : Nat → Prop} {Q : State → Prop} {nL : Nat} {κ : zC} {g : zG} {pc : Nat} {lv : List (Nat × Value)} {st : List Value} {cc : ByteArray} {own : String} {ret : Option FieldType} (F : zF E D A cc own nL ret) {index : Nat} {h : Int32 → zG → Option ρ} {x1 : Int64}  (hR : 0 + 1 ≤ E.2.2.2.1.frames ∧ 8 + (2 + 11) + 0 ≤ E.2.2.2.1.locals) (hl : zTbl (.methodLink own index yJ13_bitCount_95d88)) (hc : κ.2.2.1 ≤ E.2.2.2.1.cells ∧ κ.2.2.2 ≤ E.2.2.2.1.slots) (hW : (st.map fun v => v.category).sum ≤ 8) (hd : decode cc pc = .ok (.invokestatic index, 3)) (kk : ∀ r g', zSim K (h r g') (zAt E D A Q nL κ g' (pc + 3) lv (.int r :: st))) : zSim K (zb (f_J13_bitCount_95d88 x1 g) h) (zAt E D A Q nL κ g pc lv (.long x1 :: st)) :=
  z_callS F (n := 1) (As := [.long x1]) ⟨q_691, q_20, by decide +kernel, rfl, rfl, hR.1, hR.2⟩ (c_J13_bitCount_95d88 E.2.1 D κ.1 κ.2.1 g x1 ) hl q_690 rfl hc hW hd kk _ rfl
theorem dJ7_fill_53178_0 : decode cJ7_fill_53178 0 = .ok (.iconst 0, 1) := by decide +kernel
theorem dJ7_fill_53178_1 : decode cJ7_fill_53178 1 = .ok (.istore_n 2, 1) := by decide +kernel
theorem dJ7_fill_53178_2 : decode cJ7_fill_53178 2 = .ok (.aload_n 0, 1) := by decide +kernel
theorem dJ7_fill_53178_3 : decode cJ7_fill_53178 3 = .ok (.arraylength, 1) := by decide +kernel
theorem dJ7_fill_53178_4 : decode cJ7_fill_53178 4 = .ok (.istore_n 3, 1) := by decide +kernel
theorem dJ7_fill_53178_5 : decode cJ7_fill_53178 5 = .ok (.iload_n 2, 1) := by decide +kernel
theorem dJ7_fill_53178_6 : decode cJ7_fill_53178 6 = .ok (.iload_n 3, 1) := by decide +kernel
theorem dJ7_fill_53178_7 : decode cJ7_fill_53178 7 = .ok (.if_icmp .ge 13, 3) := by decide +kernel
theorem dJ7_fill_53178_10 : decode cJ7_fill_53178 10 = .ok (.aload_n 0, 1) := by decide +kernel
theorem dJ7_fill_53178_11 : decode cJ7_fill_53178 11 = .ok (.iload_n 2, 1) := by decide +kernel
theorem dJ7_fill_53178_12 : decode cJ7_fill_53178 12 = .ok (.iload_n 1, 1) := by decide +kernel
theorem dJ7_fill_53178_13 : decode cJ7_fill_53178 13 = .ok (.iastore, 1) := by decide +kernel
theorem dJ7_fill_53178_14 : decode cJ7_fill_53178 14 = .ok (.iinc 2 1, 3) := by decide +kernel
theorem dJ7_fill_53178_17 : decode cJ7_fill_53178 17 = .ok (.goto (-12), 3) := by decide +kernel
theorem dJ7_fill_53178_20 : decode cJ7_fill_53178 20 = .ok (.return_, 1) := by decide +kernel
def j_J7_fill_53178_20 (n : Nat)  (g : zG) : Option (Int32 × zG) :=
  some ((0, g))
def l_J7_fill_53178_5 (n : Nat) (l0 : Nat) (l1 : Int32) (l3 : Int32) (l2 : Int32) (g : zG) : Option ((Int32 × zG) ⊕ (zG)) :=
  if l3 ≤ l2 then (some (.inr g)) else (zc (zin l2 n) (zl (zsi g l0 l2.toNatClampNeg l1) (fun g3 => zl (l2 + 1) (fun v4 => some (.inl (v4, g3))))))
def f_J7_fill_53178 (n : Nat) (b1 : Nat) (x2 : Int32) (g : zG) : Option (Int32 × zG) :=
  zl (Int32.ofNat n) (fun v1 => zk (zw zN (fun s => l_J7_fill_53178_5 n b1 x2 v1 s.1 s.2) (0, g)) (fun x => j_J7_fill_53178_20 n x))
abbrev rm_J7_fill_53178 : Room := { frames := 0, cells := 0, slots := 0, locals := 0 }
set_option maxRecDepth 100000 in
set_option maxHeartbeats 4000000 in
theorem c_J7_fill_53178 (l : Launch) (D : zD) (sz : Nat) (τ : zT) (g : zG) (n : Nat) (b1 : Nat) (x2 : Int32) (htb1 : τ b1 = some (.inl (.int, n))) : zCon l D yJ7_fill_53178 cJ7_fill_53178 4 none rm_J7_fill_53178 0 0 zrV [.ref b1, .int x2] sz τ g τ (f_J7_fill_53178 n b1 x2 g) := by
  refine zCon.of (by decide) (Nat.le_of_ble_eq_true rfl) (fun E r g' hl hR hsz hnm F => ?_)
  have F : zF E D (zA τ sz) cJ7_fill_53178 "java/util/Arrays" 4 none := F
  show zSim (fun q : Int32 × zG => q = (r, g')) (f_J7_fill_53178 n b1 x2 g) (zAt E D (zA τ sz) (zQ E D zrV 0 0 sz τ τ r g') 4 (sz, τ, 0, 0) g 0 [(0, .ref b1), (1, .int x2)] [])
  have hj_J7_fill_53178_20 : ∀  (g_20 : zG), zSim (fun q : Int32 × zG => q = (r, g')) (j_J7_fill_53178_20 n g_20) (zAt E D (zA τ sz) (zQ E D zrV 0 0 sz τ τ r g') 4 (sz, τ, 0, 0) g_20 20 [] []) := by
    intro g_20
    unfold j_J7_fill_53178_20
    exact z_vreturn F rfl rfl rfl rfl (fun h => h) dJ7_fill_53178_20
  unfold f_J7_fill_53178
  refine z_iconst (v := 0) F (by decide) dJ7_fill_53178_0 ?_
  refine z_istore_n (lv' := [(2, .int 0), (0, .ref b1), (1, .int x2)]) F rfl (by decide) dJ7_fill_53178_1 rfl ?_
  refine z_aload_n F 1 rfl rfl dJ7_fill_53178_2 ?_
  refine z_alen (v := Int32.ofNat n) F (by decide) htb1 rfl dJ7_fill_53178_3 ?_
  refine z_leti (fun v1 => ?_)
  refine z_istore_n (lv' := [(3, .int v1), (2, .int 0), (0, .ref b1), (1, .int x2)]) F rfl (by decide) dJ7_fill_53178_4 rfl ?_
  refine z_sub (lv' := [(0, .ref b1), (1, .int x2), (2, .int 0), (3, .int v1)]) [2, 3, 1, 0] rfl ?_
  refine z_loop (P := fun s : Int32 × zG => zAt E D (zA τ sz) (zQ E D zrV 0 0 sz τ τ r g') 4 (sz, τ, 0, 0) s.2 5 [(0, .ref b1), (1, .int x2), (2, .int s.1), (3, .int v1)] []) (Px := fun x : zG => zAt E D (zA τ sz) (zQ E D zrV 0 0 sz τ τ r g') 4 (sz, τ, 0, 0) x 20 [] []) (0, g) (fun s => ?_) (fun x => ?_)
  · obtain ⟨l2_5, g_5⟩ := s
    show zSim (zKl (fun s : Int32 × zG => zAt E D (zA τ sz) (zQ E D zrV 0 0 sz τ τ r g') 4 (sz, τ, 0, 0) s.2 5 [(0, .ref b1), (1, .int x2), (2, .int s.1), (3, .int v1)] []) (fun x : zG => zAt E D (zA τ sz) (zQ E D zrV 0 0 sz τ τ r g') 4 (sz, τ, 0, 0) x 20 [] [])) (l_J7_fill_53178_5 n b1 x2 v1 l2_5 g_5) (zAt E D (zA τ sz) (zQ E D zrV 0 0 sz τ τ r g') 4 (sz, τ, 0, 0) g_5 5 [(0, .ref b1), (1, .int x2), (2, .int l2_5), (3, .int v1)] [])
    unfold l_J7_fill_53178_5
    refine z_iload_n F 2 rfl rfl dJ7_fill_53178_5 ?_
    refine z_iload_n F 3 rfl rfl dJ7_fill_53178_6 ?_
    refine z_icmp_ge (tgt := 20) F dJ7_fill_53178_7 (by decide) (fun c2 => ?_) (fun c2 => ?_)
    · refine z_sub (lv' := []) [] rfl ?_
      exact z_back (fun h => h)
    · refine z_aload_n F 0 rfl rfl dJ7_fill_53178_10 ?_
      refine z_iload_n F 2 rfl rfl dJ7_fill_53178_11 ?_
      refine z_iload_n F 1 rfl rfl dJ7_fill_53178_12 ?_
      refine z_iast F htb1 dJ7_fill_53178_13 ?_
      refine z_letg (fun g3 => ?_)
      refine z_iincl (lv' := fun v4 => [(2, .int v4), (0, .ref b1), (1, .int x2), (3, .int v1)]) F 2 rfl (by decide) (by decide) dJ7_fill_53178_14 (fun _ => rfl) (fun v4 => ?_)
      refine z_goto (tgt := 5) F dJ7_fill_53178_17 (by decide) ?_
      refine z_sub (lv' := [(0, .ref b1), (1, .int x2), (2, .int v4), (3, .int v1)]) [1, 2, 0, 3] rfl ?_
      exact z_back (fun h => h)
  · show zSim (fun q : Int32 × zG => q = (r, g')) (j_J7_fill_53178_20 n x) (zAt E D (zA τ sz) (zQ E D zrV 0 0 sz τ τ r g') 4 (sz, τ, 0, 0) x 20 [] [])
    exact hj_J7_fill_53178_20 x
theorem k_J7_fill_53178 {ρ : Type} {K : ρ → Prop} {E : zE} {D : zD} {A : Nat → Prop} {Q : State → Prop} {nL : Nat} {κ : zC} {g : zG} {pc : Nat} {lv : List (Nat × Value)} {st : List Value} {cc : ByteArray} {own : String} {ret : Option FieldType} (F : zF E D A cc own nL ret) {index : Nat} {h : Int32 → zG → Option ρ} {b1 : Nat} {x2 : Int32} {n : Nat}  (hR : 0 + 1 ≤ E.2.2.2.1.frames ∧ 8 + (4 + 11) + 0 ≤ E.2.2.2.1.locals) (hl : zTbl (.methodLink own index yJ7_fill_53178)) (htb1 : κ.2.1 b1 = some (.inl (.int, n))) (hc : κ.2.2.1 ≤ E.2.2.2.1.cells ∧ κ.2.2.2 ≤ E.2.2.2.1.slots) (hW : (st.map fun v => v.category).sum ≤ 8) (hd : decode cc pc = .ok (.invokestatic index, 3)) (kk : ∀ r g', zSim K (h r g') (zAt E D A Q nL κ g' (pc + 3) lv (st))) : zSim K (zb (f_J7_fill_53178 n b1 x2 g) h) (zAt E D A Q nL κ g pc lv (.int x2 :: .ref b1 :: st)) :=
  z_callS F (n := 2) (As := [.ref b1, .int x2]) ⟨q_116, q_6, by decide +kernel, rfl, rfl, hR.1, hR.2⟩ (c_J7_fill_53178 E.2.1 D κ.1 κ.2.1 g n b1 x2 htb1) hl q_115 rfl hc hW hd kk _ rfl
