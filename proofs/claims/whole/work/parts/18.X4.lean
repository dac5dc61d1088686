theorem dX4_append_0 : decode cX4_append 0 = .ok (.aload_n 0, 1) := by decide +kernel
theorem dX4_append_1 : decode cX4_append 1 = .ok (.getfield 25, 3) := by decide +kernel
theorem dX4_append_4 : decode cX4_append 4 = .ok (.bipush 8, 2) := by decide +kernel
theorem dX4_append_6 : decode cX4_append 6 = .ok (.iadd, 1) := by decide +kernel
theorem dX4_append_7 : decode cX4_append 7 = .ok (.sipush 240, 3) := by decide +kernel
theorem dX4_append_10 : decode cX4_append 10 = .ok (.if_icmp .le 5, 3) := by decide +kernel
theorem dX4_append_13 : decode cX4_append 13 = .ok (.iconst 0, 1) := by decide +kernel
theorem dX4_append_14 : decode cX4_append 14 = .ok (.ireturn, 1) := by decide +kernel
theorem dX4_append_15 : decode cX4_append 15 = .ok (.bipush 56, 2) := by decide +kernel
theorem dX4_append_17 : decode cX4_append 17 = .ok (.istore_n 3, 1) := by decide +kernel
theorem dX4_append_18 : decode cX4_append 18 = .ok (.iload_n 3, 1) := by decide +kernel
theorem dX4_append_19 : decode cX4_append 19 = .ok (.ifCond .lt 33, 3) := by decide +kernel
theorem dX4_append_22 : decode cX4_append 22 = .ok (.aload_n 0, 1) := by decide +kernel
theorem dX4_append_23 : decode cX4_append 23 = .ok (.getfield 9, 3) := by decide +kernel
theorem dX4_append_26 : decode cX4_append 26 = .ok (.aload_n 0, 1) := by decide +kernel
theorem dX4_append_27 : decode cX4_append 27 = .ok (.getfield 25, 3) := by decide +kernel
theorem dX4_append_30 : decode cX4_append 30 = .ok (.lload_n 1, 1) := by decide +kernel
theorem dX4_append_31 : decode cX4_append 31 = .ok (.iload_n 3, 1) := by decide +kernel
theorem dX4_append_32 : decode cX4_append 32 = .ok (.lshr, 1) := by decide +kernel
theorem dX4_append_33 : decode cX4_append 33 = .ok (.l2i, 1) := by decide +kernel
theorem dX4_append_34 : decode cX4_append 34 = .ok (.i2b, 1) := by decide +kernel
theorem dX4_append_35 : decode cX4_append 35 = .ok (.bastore, 1) := by decide +kernel
theorem dX4_append_36 : decode cX4_append 36 = .ok (.aload_n 0, 1) := by decide +kernel
theorem dX4_append_37 : decode cX4_append 37 = .ok (.dup, 1) := by decide +kernel
theorem dX4_append_38 : decode cX4_append 38 = .ok (.getfield 25, 3) := by decide +kernel
theorem dX4_append_41 : decode cX4_append 41 = .ok (.iconst 1, 1) := by decide +kernel
theorem dX4_append_42 : decode cX4_append 42 = .ok (.iadd, 1) := by decide +kernel
theorem dX4_append_43 : decode cX4_append 43 = .ok (.putfield 25, 3) := by decide +kernel
theorem dX4_append_46 : decode cX4_append 46 = .ok (.iinc 3 (-8), 3) := by decide +kernel
theorem dX4_append_49 : decode cX4_append 49 = .ok (.goto (-31), 3) := by decide +kernel
theorem dX4_append_52 : decode cX4_append 52 = .ok (.iconst 1, 1) := by decide +kernel
theorem dX4_append_53 : decode cX4_append 53 = .ok (.ireturn, 1) := by decide +kernel
def j_X4_append_52 (a : Nat)  (g : zG) : Option (Int32 × zG) :=
  some ((1, g))
def l_X4_append_18 (a : Nat) (l1 : Int64) (l3 : Int32) (g : zG) : Option ((Int32 × zG) ⊕ (zG)) :=
  if l3 < 0 then (some (.inr g)) else (zc (zin (g.1 a 1) 240) (zl (zsi g (g.2.1 a 0) (g.1 a 1).toNatClampNeg (((zlshr l1 l3).toInt32).toInt8.toInt32).toInt8.toInt32) (fun g4 => zl (zsi g4 a 1 ((g4.1 a 1) + 1)) (fun g5 => zl (l3 + (-8)) (fun v6 => some (.inl (v6, g5)))))))
def f_X4_append (a : Nat) (x1 : Int64) (g : zG) : Option (Int32 × zG) :=
  if ((g.1 a 1) + 8) ≤ 240 then (zk (zw zN (fun s => l_X4_append_18 a x1 s.1 s.2) (56, g)) (fun x => j_X4_append_52 a x)) else (some ((0, g)))
abbrev rm_X4_append : Room := { frames := 0, cells := 0, slots := 0, locals := 0 }
set_option maxRecDepth 100000 in
set_option maxHeartbeats 4000000 in
theorem c_X4_append (l : Launch) (D : zD) (sz : Nat) (τ : zT) (g : zG) (a : Nat) (x1 : Int64) (hta : τ a = some (.inr 4)) : zCon l D yX4_append cX4_append 4 (some .boolean) rm_X4_append 0 0 zrI [.ref a, .long x1] sz τ g τ (f_X4_append a x1 g) := by
  refine zCon.of (by decide) (Nat.le_of_ble_eq_true rfl) (fun E r g' hl hR hsz hnm F => ?_)
  have F : zF E D (zA τ sz) cX4_append "TypeChain$Reader" 4 (some .boolean) := F
  show zSim (fun q : Int32 × zG => q = (r, g')) (f_X4_append a x1 g) (zAt E D (zA τ sz) (zQ E D zrI 0 0 sz τ τ r g') 4 (sz, τ, 0, 0) g 0 [(0, .ref a), (1, .long x1)] [])
  have hj_X4_append_52 : ∀  (g_52 : zG), zSim (fun q : Int32 × zG => q = (r, g')) (j_X4_append_52 a g_52) (zAt E D (zA τ sz) (zQ E D zrI 0 0 sz τ τ r g') 4 (sz, τ, 0, 0) g_52 52 [] []) := by
    intro g_52
    unfold j_X4_append_52
    refine z_iconst (v := 1) F (by decide) dX4_append_52 ?_
    exact z_zreturn F rfl rfl rfl rfl rfl (fun h => h) dX4_append_53
  unfold f_X4_append
  refine z_aload_n F 0 rfl rfl dX4_append_0 ?_
  refine gf_X4_25 F hta dX4_append_1 ?_
  refine z_bipush (v := 8) F (by decide) dX4_append_4 ?_
  refine z_iadd F dX4_append_6 ?_
  refine z_sipush (v := 240) F (by decide) dX4_append_7 ?_
  refine z_icmp_le (tgt := 15) F dX4_append_10 (by decide) (fun c1 => ?_) (fun c1 => ?_)
  · refine z_bipush (v := 56) F (by decide) dX4_append_15 ?_
    refine z_istore_n (lv' := [(3, .int 56), (0, .ref a), (1, .long x1)]) F rfl (by decide) dX4_append_17 rfl ?_
    refine z_sub (lv' := [(0, .ref a), (1, .long x1), (3, .int 56)]) [1, 2, 0] rfl ?_
    refine z_loop (P := fun s : Int32 × zG => zAt E D (zA τ sz) (zQ E D zrI 0 0 sz τ τ r g') 4 (sz, τ, 0, 0) s.2 18 [(0, .ref a), (1, .long x1), (3, .int s.1)] []) (Px := fun x : zG => zAt E D (zA τ sz) (zQ E D zrI 0 0 sz τ τ r g') 4 (sz, τ, 0, 0) x 52 [] []) (56, g) (fun s => ?_) (fun x => ?_)
    · obtain ⟨l3_18, g_18⟩ := s
      show zSim (zKl (fun s : Int32 × zG => zAt E D (zA τ sz) (zQ E D zrI 0 0 sz τ τ r g') 4 (sz, τ, 0, 0) s.2 18 [(0, .ref a), (1, .long x1), (3, .int s.1)] []) (fun x : zG => zAt E D (zA τ sz) (zQ E D zrI 0 0 sz τ τ r g') 4 (sz, τ, 0, 0) x 52 [] [])) (l_X4_append_18 a x1 l3_18 g_18) (zAt E D (zA τ sz) (zQ E D zrI 0 0 sz τ τ r g') 4 (sz, τ, 0, 0) g_18 18 [(0, .ref a), (1, .long x1), (3, .int l3_18)] [])
      unfold l_X4_append_18
      refine z_iload_n F 2 rfl rfl dX4_append_18 ?_
      refine z_if_lt (tgt := 52) F dX4_append_19 (by decide) (fun c2 => ?_) (fun c2 => ?_)
      · refine z_sub (lv' := []) [] rfl ?_
        exact z_back (fun h => h)
      · refine z_aload_n F 0 rfl rfl dX4_append_22 ?_
        refine gf_X4_9 F hta dX4_append_23 (fun ht3 => ?_)
        refine z_aload_n F 0 rfl rfl dX4_append_26 ?_
        refine gf_X4_25 F hta dX4_append_27 ?_
        refine z_lload_n F 1 rfl rfl dX4_append_30 ?_
        refine z_iload_n F 2 rfl rfl dX4_append_31 ?_
        refine z_lshr F dX4_append_32 ?_
        refine z_l2i F dX4_append_33 ?_
        refine z_i2b F dX4_append_34 ?_
        refine z_bast F ht3 dX4_append_35 ?_
        refine z_letg (fun g4 => ?_)
        refine z_aload_n F 0 rfl rfl dX4_append_36 ?_
        refine z_dup F rfl dX4_append_37 ?_
        refine gf_X4_25 F hta dX4_append_38 ?_
        refine z_iconst (v := 1) F (by decide) dX4_append_41 ?_
        refine z_iadd F dX4_append_42 ?_
        refine pf_X4_25 F hta dX4_append_43 ?_
        refine z_letg (fun g5 => ?_)
        refine z_iincl (lv' := fun v6 => [(3, .int v6), (0, .ref a), (1, .long x1)]) F 2 rfl (by decide) (by decide) dX4_append_46 (fun _ => rfl) (fun v6 => ?_)
        refine z_goto (tgt := 18) F dX4_append_49 (by decide) ?_
        refine z_sub (lv' := [(0, .ref a), (1, .long x1), (3, .int v6)]) [1, 2, 0] rfl ?_
        exact z_back (fun h => h)
    · show zSim (fun q : Int32 × zG => q = (r, g')) (j_X4_append_52 a x) (zAt E D (zA τ sz) (zQ E D zrI 0 0 sz τ τ r g') 4 (sz, τ, 0, 0) x 52 [] [])
      exact hj_X4_append_52 x
  · refine z_iconst (v := 0) F (by decide) dX4_append_13 ?_
    exact z_zreturn F rfl rfl rfl rfl rfl (fun h => h) dX4_append_14
theorem k_X4_append {ρ : Type} {K : ρ → Prop} {E : zE} {D : zD} {A : Nat → Prop} {Q : State → Prop} {nL : Nat} {κ : zC} {g : zG} {pc : Nat} {lv : List (Nat × Value)} {st : List Value} {cc : ByteArray} {own : String} {ret : Option FieldType} (F : zF E D A cc own nL ret) {index : Nat} {h : Int32 → zG → Option ρ} {a : Nat} {x1 : Int64}  (hR : 0 + 1 ≤ E.2.2.2.1.frames ∧ 8 + (4 + 11) + 0 ≤ E.2.2.2.1.locals) (hl : zTbl (.methodLink own index yX4_append)) (hta : κ.2.1 a = some (.inr 4)) (hc : κ.2.2.1 ≤ E.2.2.2.1.cells ∧ κ.2.2.2 ≤ E.2.2.2.1.slots) (hW : (st.map fun v => v.category).sum ≤ 8) (hd : decode cc pc = .ok (.invokevirtual index, 3)) (kk : ∀ r g', zSim K (h r g') (zAt E D A Q nL κ g' (pc + 3) lv (.int r :: st))) : zSim K (zb (f_X4_append a x1 g) h) (zAt E D A Q nL κ g pc lv (.long x1 :: .ref a :: st)) :=
  z_callV F (n := 1) (As := [.long x1]) (C := (RX4, TX4, 14)) ⟨q_425, q_8, by decide +kernel, rfl, rfl, hR.1, hR.2⟩ (c_X4_append E.2.1 D κ.1 κ.2.1 g a x1 hta) hl q_423 q_424 hta rfl rfl rfl hc hW hd kk _ rfl
theorem dX4_lookLater_0 : decode cX4_lookLater 0 = .ok (.aload_n 0, 1) := by decide +kernel
theorem dX4_lookLater_1 : decode cX4_lookLater 1 = .ok (.getfield 46, 3) := by decide +kernel
theorem dX4_lookLater_4 : decode cX4_lookLater 4 = .ok (.bipush 34, 2) := by decide +kernel
theorem dX4_lookLater_6 : decode cX4_lookLater 6 = .ok (.if_icmp .ge 46, 3) := by decide +kernel
theorem dX4_lookLater_9 : decode cX4_lookLater 9 = .ok (.aload_n 0, 1) := by decide +kernel
theorem dX4_lookLater_10 : decode cX4_lookLater 10 = .ok (.getfield 15, 3) := by decide +kernel
theorem dX4_lookLater_13 : decode cX4_lookLater 13 = .ok (.aload_n 0, 1) := by decide +kernel
theorem dX4_lookLater_14 : decode cX4_lookLater 14 = .ok (.getfield 46, 3) := by decide +kernel
theorem dX4_lookLater_17 : decode cX4_lookLater 17 = .ok (.iload_n 1, 1) := by decide +kernel
theorem dX4_lookLater_18 : decode cX4_lookLater 18 = .ok (.iastore, 1) := by decide +kernel
theorem dX4_lookLater_19 : decode cX4_lookLater 19 = .ok (.aload_n 0, 1) := by decide +kernel
theorem dX4_lookLater_20 : decode cX4_lookLater 20 = .ok (.getfield 19, 3) := by decide +kernel
theorem dX4_lookLater_23 : decode cX4_lookLater 23 = .ok (.aload_n 0, 1) := by decide +kernel
theorem dX4_lookLater_24 : decode cX4_lookLater 24 = .ok (.getfield 46, 3) := by decide +kernel
theorem dX4_lookLater_27 : decode cX4_lookLater 27 = .ok (.iload_n 2, 1) := by decide +kernel
theorem dX4_lookLater_28 : decode cX4_lookLater 28 = .ok (.iastore, 1) := by decide +kernel
theorem dX4_lookLater_29 : decode cX4_lookLater 29 = .ok (.aload_n 0, 1) := by decide +kernel
theorem dX4_lookLater_30 : decode cX4_lookLater 30 = .ok (.getfield 22, 3) := by decide +kernel
theorem dX4_lookLater_33 : decode cX4_lookLater 33 = .ok (.aload_n 0, 1) := by decide +kernel
theorem dX4_lookLater_34 : decode cX4_lookLater 34 = .ok (.getfield 46, 3) := by decide +kernel
theorem dX4_lookLater_37 : decode cX4_lookLater 37 = .ok (.aload_n 0, 1) := by decide +kernel
theorem dX4_lookLater_38 : decode cX4_lookLater 38 = .ok (.getfield 70, 3) := by decide +kernel
theorem dX4_lookLater_41 : decode cX4_lookLater 41 = .ok (.iastore, 1) := by decide +kernel
theorem dX4_lookLater_42 : decode cX4_lookLater 42 = .ok (.aload_n 0, 1) := by decide +kernel
theorem dX4_lookLater_43 : decode cX4_lookLater 43 = .ok (.dup, 1) := by decide +kernel
theorem dX4_lookLater_44 : decode cX4_lookLater 44 = .ok (.getfield 46, 3) := by decide +kernel
theorem dX4_lookLater_47 : decode cX4_lookLater 47 = .ok (.iconst 1, 1) := by decide +kernel
theorem dX4_lookLater_48 : decode cX4_lookLater 48 = .ok (.iadd, 1) := by decide +kernel
theorem dX4_lookLater_49 : decode cX4_lookLater 49 = .ok (.putfield 46, 3) := by decide +kernel
theorem dX4_lookLater_52 : decode cX4_lookLater 52 = .ok (.return_, 1) := by decide +kernel
def f_X4_lookLater (a : Nat) (x1 : Int32) (x2 : Int32) (g : zG) : Option (Int32 × zG) :=
  if 34 ≤ (g.1 a 13) then (some ((0, g))) else (zc (zin (g.1 a 13) 34) (zl (zsi g (g.2.1 a 10) (g.1 a 13).toNatClampNeg x1) (fun g3 => zc (zin (g3.1 a 13) 34) (zl (zsi g3 (g3.2.1 a 11) (g3.1 a 13).toNatClampNeg x2) (fun g5 => zc (zin (g5.1 a 13) 34) (zl (zsi g5 (g5.2.1 a 12) (g5.1 a 13).toNatClampNeg (g5.1 a 6)) (fun g7 => zl (zsi g7 a 13 ((g7.1 a 13) + 1)) (fun g8 => some ((0, g8))))))))))
abbrev rm_X4_lookLater : Room := { frames := 0, cells := 0, slots := 0, locals := 0 }
set_option maxRecDepth 100000 in
set_option maxHeartbeats 4000000 in
theorem c_X4_lookLater (l : Launch) (D : zD) (sz : Nat) (τ : zT) (g : zG) (a : Nat) (x1 : Int32) (x2 : Int32) (hta : τ a = some (.inr 4)) : zCon l D yX4_lookLater cX4_lookLater 3 none rm_X4_lookLater 0 0 zrV [.ref a, .int x1, .int x2] sz τ g τ (f_X4_lookLater a x1 x2 g) := by
  refine zCon.of (by decide) (Nat.le_of_ble_eq_true rfl) (fun E r g' hl hR hsz hnm F => ?_)
  have F : zF E D (zA τ sz) cX4_lookLater "TypeChain$Reader" 3 none := F
  show zSim (fun q : Int32 × zG => q = (r, g')) (f_X4_lookLater a x1 x2 g) (zAt E D (zA τ sz) (zQ E D zrV 0 0 sz τ τ r g') 3 (sz, τ, 0, 0) g 0 [(0, .ref a), (1, .int x1), (2, .int x2)] [])
  unfold f_X4_lookLater
  refine z_aload_n F 0 rfl rfl dX4_lookLater_0 ?_
  refine gf_X4_46 F hta dX4_lookLater_1 ?_
  refine z_bipush (v := 34) F (by decide) dX4_lookLater_4 ?_
  refine z_icmp_ge (tgt := 52) F dX4_lookLater_6 (by decide) (fun c1 => ?_) (fun c1 => ?_)
  · exact z_vreturn F rfl rfl rfl rfl (fun h => h) dX4_lookLater_52
  · refine z_aload_n F 0 rfl rfl dX4_lookLater_9 ?_
    refine gf_X4_15 F hta dX4_lookLater_10 (fun ht2 => ?_)
    refine z_aload_n F 0 rfl rfl dX4_lookLater_13 ?_
    refine gf_X4_46 F hta dX4_lookLater_14 ?_
    refine z_iload_n F 1 rfl rfl dX4_lookLater_17 ?_
    refine z_iast F ht2 dX4_lookLater_18 ?_
    refine z_letg (fun g3 => ?_)
    refine z_aload_n F 0 rfl rfl dX4_lookLater_19 ?_
    refine gf_X4_19 F hta dX4_lookLater_20 (fun ht4 => ?_)
    refine z_aload_n F 0 rfl rfl dX4_lookLater_23 ?_
    refine gf_X4_46 F hta dX4_lookLater_24 ?_
    refine z_iload_n F 2 rfl rfl dX4_lookLater_27 ?_
    refine z_iast F ht4 dX4_lookLater_28 ?_
    refine z_letg (fun g5 => ?_)
    refine z_aload_n F 0 rfl rfl dX4_lookLater_29 ?_
    refine gf_X4_22 F hta dX4_lookLater_30 (fun ht6 => ?_)
    refine z_aload_n F 0 rfl rfl dX4_lookLater_33 ?_
    refine gf_X4_46 F hta dX4_lookLater_34 ?_
    refine z_aload_n F 0 rfl rfl dX4_lookLater_37 ?_
    refine gf_X4_70 F hta dX4_lookLater_38 ?_
    refine z_iast F ht6 dX4_lookLater_41 ?_
    refine z_letg (fun g7 => ?_)
    refine z_aload_n F 0 rfl rfl dX4_lookLater_42 ?_
    refine z_dup F rfl dX4_lookLater_43 ?_
    refine gf_X4_46 F hta dX4_lookLater_44 ?_
    refine z_iconst (v := 1) F (by decide) dX4_lookLater_47 ?_
    refine z_iadd F dX4_lookLater_48 ?_
    refine pf_X4_46 F hta dX4_lookLater_49 ?_
    refine z_letg (fun g8 => ?_)
    exact z_vreturn F rfl rfl rfl rfl (fun h => h) dX4_lookLater_52
theorem k_X4_lookLater {ρ : Type} {K : ρ → Prop} {E : zE} {D : zD} {A : Nat → Prop} {Q : State → Prop} {nL : Nat} {κ : zC} {g : zG} {pc : Nat} {lv : List (Nat × Value)} {st : List Value} {cc : ByteArray} {own : String} {ret : Option FieldType} (F : zF E D A cc own nL ret) {index : Nat} {h : Int32 → zG → Option ρ} {a : Nat} {x1 : Int32} {x2 : Int32}  (hR : 0 + 1 ≤ E.2.2.2.1.frames ∧ 8 + (3 + 11) + 0 ≤ E.2.2.2.1.locals) (hl : zTbl (.methodLink own index yX4_lookLater)) (hta : κ.2.1 a = some (.inr 4)) (hc : κ.2.2.1 ≤ E.2.2.2.1.cells ∧ κ.2.2.2 ≤ E.2.2.2.1.slots) (hW : (st.map fun v => v.category).sum ≤ 8) (hd : decode cc pc = .ok (.invokevirtual index, 3)) (kk : ∀ r g', zSim K (h r g') (zAt E D A Q nL κ g' (pc + 3) lv (st))) : zSim K (zb (f_X4_lookLater a x1 x2 g) h) (zAt E D A Q nL κ g pc lv (.int x2 :: .int x1 :: .ref a :: st)) :=
  z_callV F (n := 2) (As := [.int x1, .int x2]) (C := (RX4, TX4, 14)) ⟨q_535, q_8, by decide +kernel, rfl, rfl, hR.1, hR.2⟩ (c_X4_lookLater E.2.1 D κ.1 κ.2.1 g a x1 x2 hta) hl q_534 q_1375 hta rfl rfl rfl hc hW hd kk _ rfl
theorem dX4_kindOf_0 : decode cX4_kindOf 0 = .ok (.iload_n 0, 1) := by decide +kernel
theorem dX4_kindOf_1 : decode cX4_kindOf 1 = .ok (.bipush 97, 2) := by decide +kernel
theorem dX4_kindOf_3 : decode cX4_kindOf 3 = .ok (.if_icmp .lt 11, 3) := by decide +kernel
theorem dX4_kindOf_6 : decode cX4_kindOf 6 = .ok (.iload_n 0, 1) := by decide +kernel
theorem dX4_kindOf_7 : decode cX4_kindOf 7 = .ok (.bipush 122, 2) := by decide +kernel
theorem dX4_kindOf_9 : decode cX4_kindOf 9 = .ok (.if_icmp .gt 5, 3) := by decide +kernel
theorem dX4_kindOf_12 : decode cX4_kindOf 12 = .ok (.iconst 1, 1) := by decide +kernel
theorem dX4_kindOf_13 : decode cX4_kindOf 13 = .ok (.ireturn, 1) := by decide +kernel
theorem dX4_kindOf_14 : decode cX4_kindOf 14 = .ok (.iload_n 0, 1) := by decide +kernel
theorem dX4_kindOf_15 : decode cX4_kindOf 15 = .ok (.bipush 48, 2) := by decide +kernel
theorem dX4_kindOf_17 : decode cX4_kindOf 17 = .ok (.if_icmp .lt 11, 3) := by decide +kernel
theorem dX4_kindOf_20 : decode cX4_kindOf 20 = .ok (.iload_n 0, 1) := by decide +kernel
theorem dX4_kindOf_21 : decode cX4_kindOf 21 = .ok (.bipush 57, 2) := by decide +kernel
theorem dX4_kindOf_23 : decode cX4_kindOf 23 = .ok (.if_icmp .gt 5, 3) := by decide +kernel
theorem dX4_kindOf_26 : decode cX4_kindOf 26 = .ok (.iconst 2, 1) := by decide +kernel
theorem dX4_kindOf_27 : decode cX4_kindOf 27 = .ok (.ireturn, 1) := by decide +kernel
theorem dX4_kindOf_28 : decode cX4_kindOf 28 = .ok (.iload_n 0, 1) := by decide +kernel
theorem dX4_kindOf_29 : decode cX4_kindOf 29 = .ok (.bipush 59, 2) := by decide +kernel
theorem dX4_kindOf_31 : decode cX4_kindOf 31 = .ok (.if_icmp .eq 9, 3) := by decide +kernel
theorem dX4_kindOf_34 : decode cX4_kindOf 34 = .ok (.iload_n 0, 1) := by decide +kernel
theorem dX4_kindOf_35 : decode cX4_kindOf 35 = .ok (.bipush 44, 2) := by decide +kernel
theorem dX4_kindOf_37 : decode cX4_kindOf 37 = .ok (.if_icmp .ne 7, 3) := by decide +kernel
theorem dX4_kindOf_40 : decode cX4_kindOf 40 = .ok (.iload_n 0, 1) := by decide +kernel
theorem dX4_kindOf_41 : decode cX4_kindOf 41 = .ok (.goto 4, 3) := by decide +kernel
theorem dX4_kindOf_44 : decode cX4_kindOf 44 = .ok (.iconst 3, 1) := by decide +kernel
theorem dX4_kindOf_45 : decode cX4_kindOf 45 = .ok (.ireturn, 1) := by decide +kernel
def j_X4_kindOf_28 (l0 : Int32) (g : zG) : Option (Int32 × zG) :=
  if l0 = 59 then (some ((l0, g))) else (if l0 = 44 then (some ((l0, g))) else (some ((3, g))))
def j_X4_kindOf_14 (l0 : Int32) (g : zG) : Option (Int32 × zG) :=
  if l0 < 48 then (j_X4_kindOf_28 l0 g) else (if 57 < l0 then (j_X4_kindOf_28 l0 g) else (some ((2, g))))
def f_X4_kindOf (x1 : Int32) (g : zG) : Option (Int32 × zG) :=
  if x1 < 97 then (j_X4_kindOf_14 x1 g) else (if 122 < x1 then (j_X4_kindOf_14 x1 g) else (some ((1, g))))
abbrev rm_X4_kindOf : Room := { frames := 0, cells := 0, slots := 0, locals := 0 }
set_option maxRecDepth 100000 in
set_option maxHeartbeats 4000000 in
theorem c_X4_kindOf (l : Launch) (D : zD) (sz : Nat) (τ : zT) (g : zG) (x1 : Int32) : zCon l D yX4_kindOf cX4_kindOf 1 (some .int) rm_X4_kindOf 0 0 zrI [.int x1] sz τ g τ (f_X4_kindOf x1 g) := by
  refine zCon.of (by decide) (Nat.le_of_ble_eq_true rfl) (fun E r g' hl hR hsz hnm F => ?_)
  have F : zF E D (zA τ sz) cX4_kindOf "TypeChain$Reader" 1 (some .int) := F
  show zSim (fun q : Int32 × zG => q = (r, g')) (f_X4_kindOf x1 g) (zAt E D (zA τ sz) (zQ E D zrI 0 0 sz τ τ r g') 1 (sz, τ, 0, 0) g 0 [(0, .int x1)] [])
  have hj_X4_kindOf_28 : ∀ (l0_28 : Int32) (g_28 : zG), zSim (fun q : Int32 × zG => q = (r, g')) (j_X4_kindOf_28 l0_28 g_28) (zAt E D (zA τ sz) (zQ E D zrI 0 0 sz τ τ r g') 1 (sz, τ, 0, 0) g_28 28 [(0, .int l0_28)] []) := by
    intro l0_28 g_28
    unfold j_X4_kindOf_28
    refine z_iload_n F 0 rfl rfl dX4_kindOf_28 ?_
    refine z_bipush (v := 59) F (by decide) dX4_kindOf_29 ?_
    refine z_icmp_eq (tgt := 40) F dX4_kindOf_31 (by decide) (fun c1 => ?_) (fun c1 => ?_)
    · refine z_iload_n F 0 rfl rfl dX4_kindOf_40 ?_
      refine z_goto (tgt := 45) F dX4_kindOf_41 (by decide) ?_
      exact z_ireturn F rfl rfl rfl rfl (fun h => h) dX4_kindOf_45
    · refine z_iload_n F 0 rfl rfl dX4_kindOf_34 ?_
      refine z_bipush (v := 44) F (by decide) dX4_kindOf_35 ?_
      refine z_icmp_ne (tgt := 44) F dX4_kindOf_37 (by decide) (fun c2 => ?_) (fun c2 => ?_)
      · refine z_iload_n F 0 rfl rfl dX4_kindOf_40 ?_
        refine z_goto (tgt := 45) F dX4_kindOf_41 (by decide) ?_
        exact z_ireturn F rfl rfl rfl rfl (fun h => h) dX4_kindOf_45
      · refine z_iconst (v := 3) F (by decide) dX4_kindOf_44 ?_
        exact z_ireturn F rfl rfl rfl rfl (fun h => h) dX4_kindOf_45
  have hj_X4_kindOf_14 : ∀ (l0_14 : Int32) (g_14 : zG), zSim (fun q : Int32 × zG => q = (r, g')) (j_X4_kindOf_14 l0_14 g_14) (zAt E D (zA τ sz) (zQ E D zrI 0 0 sz τ τ r g') 1 (sz, τ, 0, 0) g_14 14 [(0, .int l0_14)] []) := by
    intro l0_14 g_14
    unfold j_X4_kindOf_14
    refine z_iload_n F 0 rfl rfl dX4_kindOf_14 ?_
    refine z_bipush (v := 48) F (by decide) dX4_kindOf_15 ?_
    refine z_icmp_lt (tgt := 28) F dX4_kindOf_17 (by decide) (fun c3 => ?_) (fun c3 => ?_)
    · exact hj_X4_kindOf_28 l0_14 g_14
    · refine z_iload_n F 0 rfl rfl dX4_kindOf_20 ?_
      refine z_bipush (v := 57) F (by decide) dX4_kindOf_21 ?_
      refine z_icmp_gt (tgt := 28) F dX4_kindOf_23 (by decide) (fun c4 => ?_) (fun c4 => ?_)
      · exact hj_X4_kindOf_28 l0_14 g_14
      · refine z_iconst (v := 2) F (by decide) dX4_kindOf_26 ?_
        exact z_ireturn F rfl rfl rfl rfl (fun h => h) dX4_kindOf_27
  unfold f_X4_kindOf
  refine z_iload_n F 0 rfl rfl dX4_kindOf_0 ?_
  refine z_bipush (v := 97) F (by decide) dX4_kindOf_1 ?_
  refine z_icmp_lt (tgt := 14) F dX4_kindOf_3 (by decide) (fun c5 => ?_) (fun c5 => ?_)
  · exact hj_X4_kindOf_14 x1 g
  · refine z_iload_n F 0 rfl rfl dX4_kindOf_6 ?_
    refine z_bipush (v := 122) F (by decide) dX4_kindOf_7 ?_
    refine z_icmp_gt (tgt := 14) F dX4_kindOf_9 (by decide) (fun c6 => ?_) (fun c6 => ?_)
    · exact hj_X4_kindOf_14 x1 g
    · refine z_iconst (v := 1) F (by decide) dX4_kindOf_12 ?_
      exact z_ireturn F rfl rfl rfl rfl (fun h => h) dX4_kindOf_13
theorem k_X4_kindOf {ρ : Type} {K : ρ → Prop} {E : zE} {D : zD} {A : Nat → Prop} {Q : State → Prop} {nL : Nat} {κ : zC} {g : zG} {pc : Nat} {lv : List (Nat × Value)} {st : List Value} {cc : ByteArray} {own : String} {ret : Option FieldType} (F : zF E D A cc own nL ret) {index : Nat} {h : Int32 → zG → Option ρ} {x1 : Int32}  (hR : 0 + 1 ≤ E.2.2.2.1.frames ∧ 8 + (1 + 11) + 0 ≤ E.2.2.2.1.locals) (hl : zTbl (.methodLink own index yX4_kindOf)) (hc : κ.2.2.1 ≤ E.2.2.2.1.cells ∧ κ.2.2.2 ≤ E.2.2.2.1.slots) (hW : (st.map fun v => v.category).sum ≤ 8) (hd : decode cc pc = .ok (.invokestatic index, 3)) (kk : ∀ r g', zSim K (h r g') (zAt E D A Q nL κ g' (pc + 3) lv (.int r :: st))) : zSim K (zb (f_X4_kindOf x1 g) h) (zAt E D A Q nL κ g pc lv (.int x1 :: st)) :=
  z_callS F (n := 1) (As := [.int x1]) ⟨q_445, q_8, by decide +kernel, rfl, rfl, hR.1, hR.2⟩ (c_X4_kindOf E.2.1 D κ.1 κ.2.1 g x1 ) hl q_444 rfl hc hW hd kk _ rfl
theorem dX4_isWord_0 : decode cX4_isWord 0 = .ok (.iconst 0, 1) := by decide +kernel
theorem dX4_isWord_1 : decode cX4_isWord 1 = .ok (.istore_n 3, 1) := by decide +kernel
theorem dX4_isWord_2 : decode cX4_isWord 2 = .ok (.iload_n 3, 1) := by decide +kernel
theorem dX4_isWord_3 : decode cX4_isWord 3 = .ok (.bipush 7, 2) := by decide +kernel
theorem dX4_isWord_5 : decode cX4_isWord 5 = .ok (.if_icmp .ge 50, 3) := by decide +kernel
theorem dX4_isWord_8 : decode cX4_isWord 8 = .ok (.iload_n 3, 1) := by decide +kernel
theorem dX4_isWord_9 : decode cX4_isWord 9 = .ok (.iload_n 2, 1) := by decide +kernel
theorem dX4_isWord_10 : decode cX4_isWord 10 = .ok (.if_icmp .ge 17, 3) := by decide +kernel
theorem dX4_isWord_13 : decode cX4_isWord 13 = .ok (.aload_n 0, 1) := by decide +kernel
theorem dX4_isWord_14 : decode cX4_isWord 14 = .ok (.getfield 9, 3) := by decide +kernel
theorem dX4_isWord_17 : decode cX4_isWord 17 = .ok (.aload_n 0, 1) := by decide +kernel
theorem dX4_isWord_18 : decode cX4_isWord 18 = .ok (.getfield 70, 3) := by decide +kernel
theorem dX4_isWord_21 : decode cX4_isWord 21 = .ok (.iload_n 3, 1) := by decide +kernel
theorem dX4_isWord_22 : decode cX4_isWord 22 = .ok (.iadd, 1) := by decide +kernel
theorem dX4_isWord_23 : decode cX4_isWord 23 = .ok (.baload, 1) := by decide +kernel
theorem dX4_isWord_24 : decode cX4_isWord 24 = .ok (.goto 5, 3) := by decide +kernel
theorem dX4_isWord_27 : decode cX4_isWord 27 = .ok (.bipush 32, 2) := by decide +kernel
theorem dX4_isWord_29 : decode cX4_isWord 29 = .ok (.istore 4, 2) := by decide +kernel
theorem dX4_isWord_31 : decode cX4_isWord 31 = .ok (.ldc 156, 2) := by decide +kernel
theorem dX4_isWord_33 : decode cX4_isWord 33 = .ok (.iload_n 1, 1) := by decide +kernel
theorem dX4_isWord_34 : decode cX4_isWord 34 = .ok (.bipush 7, 2) := by decide +kernel
theorem dX4_isWord_36 : decode cX4_isWord 36 = .ok (.imul, 1) := by decide +kernel
theorem dX4_isWord_37 : decode cX4_isWord 37 = .ok (.iload_n 3, 1) := by decide +kernel
theorem dX4_isWord_38 : decode cX4_isWord 38 = .ok (.iadd, 1) := by decide +kernel
theorem dX4_isWord_39 : decode cX4_isWord 39 = .ok (.invokevirtual 158, 3) := by decide +kernel
theorem dX4_isWord_42 : decode cX4_isWord 42 = .ok (.iload 4, 2) := by decide +kernel
theorem dX4_isWord_44 : decode cX4_isWord 44 = .ok (.if_icmp .eq 5, 3) := by decide +kernel
theorem dX4_isWord_47 : decode cX4_isWord 47 = .ok (.iconst 0, 1) := by decide +kernel
theorem dX4_isWord_48 : decode cX4_isWord 48 = .ok (.ireturn, 1) := by decide +kernel
theorem dX4_isWord_49 : decode cX4_isWord 49 = .ok (.iinc 3 1, 3) := by decide +kernel
theorem dX4_isWord_52 : decode cX4_isWord 52 = .ok (.goto (-50), 3) := by decide +kernel
theorem dX4_isWord_55 : decode cX4_isWord 55 = .ok (.iconst 1, 1) := by decide +kernel
theorem dX4_isWord_56 : decode cX4_isWord 56 = .ok (.ireturn, 1) := by decide +kernel
def j_X4_isWord_47 (a : Nat)  (g : zG) : Option (Int32 × zG) :=
  some ((0, g))
def j_X4_isWord_29_2 (a : Nat) (l1 : Int32) (l2 : Int32) (l3 : Int32) (s0 : Int32) (g : zG) : Option ((Int32 × zG) ⊕ ((zG) ⊕ (Int32 × zG))) :=
  zb (f_charAt ((l1 * 7) + l3) g) (fun v1 g2 => if v1 = s0 then (zl (l3 + 1) (fun v4 => some (.inl (v4, g2)))) else (some (.inr (.inl g2))))
def l_X4_isWord_2 (a : Nat) (l1 : Int32) (l2 : Int32) (l3 : Int32) (g : zG) : Option ((Int32 × zG) ⊕ ((zG) ⊕ (Int32 × zG))) :=
  if 7 ≤ l3 then (some (.inr (.inr (1, g)))) else (if l2 ≤ l3 then (j_X4_isWord_29_2 a l1 l2 l3 32 g) else (zc (zin ((g.1 a 6) + l3) 240) (j_X4_isWord_29_2 a l1 l2 l3 (g.1 (g.2.1 a 0) ((g.1 a 6) + l3).toNatClampNeg) g)))
def f_X4_isWord (a : Nat) (x1 : Int32) (x2 : Int32) (g : zG) : Option (Int32 × zG) :=
  zk2 (zw zN (fun s => l_X4_isWord_2 a x1 x2 s.1 s.2) (0, g)) (fun x => j_X4_isWord_47 a x)
abbrev rm_X4_isWord : Room := { frames := 4, cells := 0, slots := 0, locals := 85 }
set_option maxRecDepth 100000 in
set_option maxHeartbeats 4000000 in
theorem c_X4_isWord (l : Launch) (D : zD) (sz : Nat) (τ : zT) (g : zG) (a : Nat) (x1 : Int32) (x2 : Int32) (hta : τ a = some (.inr 4)) : zCon l D yX4_isWord cX4_isWord 5 (some .boolean) rm_X4_isWord 0 0 zrI [.ref a, .int x1, .int x2] sz τ g τ (f_X4_isWord a x1 x2 g) := by
  refine zCon.of (by decide) (Nat.le_of_ble_eq_true rfl) (fun E r g' hl hR hsz hnm F => ?_)
  have F : zF E D (zA τ sz) cX4_isWord "TypeChain$Reader" 5 (some .boolean) := F
  show zSim (fun q : Int32 × zG => q = (r, g')) (f_X4_isWord a x1 x2 g) (zAt E D (zA τ sz) (zQ E D zrI 0 0 sz τ τ r g') 5 (sz, τ, 0, 0) g 0 [(0, .ref a), (1, .int x1), (2, .int x2)] [])
  have hj_X4_isWord_47 : ∀  (g_47 : zG), zSim (fun q : Int32 × zG => q = (r, g')) (j_X4_isWord_47 a g_47) (zAt E D (zA τ sz) (zQ E D zrI 0 0 sz τ τ r g') 5 (sz, τ, 0, 0) g_47 47 [] []) := by
    intro g_47
    unfold j_X4_isWord_47
    refine z_iconst (v := 0) F (by decide) dX4_isWord_47 ?_
    exact z_zreturn F rfl rfl rfl rfl rfl (fun h => h) dX4_isWord_48
  unfold f_X4_isWord
  refine z_iconst (v := 0) F (by decide) dX4_isWord_0 ?_
  refine z_istore_n (lv' := [(3, .int 0), (0, .ref a), (1, .int x1), (2, .int x2)]) F rfl (by decide) dX4_isWord_1 rfl ?_
  refine z_sub (lv' := [(0, .ref a), (1, .int x1), (2, .int x2), (3, .int 0)]) [1, 2, 3, 0] rfl ?_
  refine z_loop2 (P := fun s : Int32 × zG => zAt E D (zA τ sz) (zQ E D zrI 0 0 sz τ τ r g') 5 (sz, τ, 0, 0) s.2 2 [(0, .ref a), (1, .int x1), (2, .int x2), (3, .int s.1)] []) (Px := fun x : zG => zAt E D (zA τ sz) (zQ E D zrI 0 0 sz τ τ r g') 5 (sz, τ, 0, 0) x 47 [] []) (0, g) (fun s => ?_) (fun x => ?_)
  · obtain ⟨l3_2, g_2⟩ := s
    show zSim (zKl (fun s : Int32 × zG => zAt E D (zA τ sz) (zQ E D zrI 0 0 sz τ τ r g') 5 (sz, τ, 0, 0) s.2 2 [(0, .ref a), (1, .int x1), (2, .int x2), (3, .int s.1)] []) (zKl (fun x : zG => zAt E D (zA τ sz) (zQ E D zrI 0 0 sz τ τ r g') 5 (sz, τ, 0, 0) x 47 [] []) (fun q : Int32 × zG => q = (r, g')))) (l_X4_isWord_2 a x1 x2 l3_2 g_2) (zAt E D (zA τ sz) (zQ E D zrI 0 0 sz τ τ r g') 5 (sz, τ, 0, 0) g_2 2 [(0, .ref a), (1, .int x1), (2, .int x2), (3, .int l3_2)] [])
    have hj_X4_isWord_29_2 : ∀ (l3_29 : Int32) (s0_29 : Int32) (g_29 : zG), zSim (zKl (fun s : Int32 × zG => zAt E D (zA τ sz) (zQ E D zrI 0 0 sz τ τ r g') 5 (sz, τ, 0, 0) s.2 2 [(0, .ref a), (1, .int x1), (2, .int x2), (3, .int s.1)] []) (zKl (fun x : zG => zAt E D (zA τ sz) (zQ E D zrI 0 0 sz τ τ r g') 5 (sz, τ, 0, 0) x 47 [] []) (fun q : Int32 × zG => q = (r, g')))) (j_X4_isWord_29_2 a x1 x2 l3_29 s0_29 g_29) (zAt E D (zA τ sz) (zQ E D zrI 0 0 sz τ τ r g') 5 (sz, τ, 0, 0) g_29 29 [(0, .ref a), (1, .int x1), (2, .int x2), (3, .int l3_29)] [.int s0_29]) := by
      intro l3_29 s0_29 g_29
      unfold j_X4_isWord_29_2
      refine z_istore (lv' := [(4, .int s0_29), (0, .ref a), (1, .int x1), (2, .int x2), (3, .int l3_29)]) F (by decide) dX4_isWord_29 rfl ?_
      refine z_ldcS F dX4_isWord_31 ?_
      refine z_iload_n F 2 rfl rfl dX4_isWord_33 ?_
      refine z_bipush (v := 7) F (by decide) dX4_isWord_34 ?_
      refine z_imul F dX4_isWord_36 ?_
      refine z_iload_n F 4 rfl rfl dX4_isWord_37 ?_
      refine z_iadd F dX4_isWord_38 ?_
      refine k_charAt F (by rw [hR]; exact ⟨by decide, by decide⟩) q_468 ⟨Nat.zero_le _, Nat.zero_le _⟩ (Nat.le_of_ble_eq_true rfl) dX4_isWord_39 (fun v1 g2 => ?_)
      refine z_iload F 0 rfl dX4_isWord_42 ?_
      refine z_icmp_eq (tgt := 49) F dX4_isWord_44 (by decide) (fun c3 => ?_) (fun c3 => ?_)
      · refine z_iincl (lv' := fun v4 => [(3, .int v4), (4, .int s0_29), (0, .ref a), (1, .int x1), (2, .int x2)]) F 4 rfl (by decide) (by decide) dX4_isWord_49 (fun _ => rfl) (fun v4 => ?_)
        refine z_goto (tgt := 2) F dX4_isWord_52 (by decide) ?_
        refine z_sub (lv' := [(0, .ref a), (1, .int x1), (2, .int x2), (3, .int v4)]) [2, 3, 4, 0] rfl ?_
        exact z_back (fun h => h)
      · refine z_sub (lv' := []) [] rfl ?_
        exact z_back (fun h => h)
    unfold l_X4_isWord_2
    refine z_iload_n F 3 rfl rfl dX4_isWord_2 ?_
    refine z_bipush (v := 7) F (by decide) dX4_isWord_3 ?_
    refine z_icmp_ge (tgt := 55) F dX4_isWord_5 (by decide) (fun c5 => ?_) (fun c5 => ?_)
    · refine z_iconst (v := 1) F (by decide) dX4_isWord_55 ?_
      exact z_zreturn F rfl rfl rfl rfl rfl (fun h => h) dX4_isWord_56
    · refine z_iload_n F 3 rfl rfl dX4_isWord_8 ?_
      refine z_iload_n F 2 rfl rfl dX4_isWord_9 ?_
      refine z_icmp_ge (tgt := 27) F dX4_isWord_10 (by decide) (fun c6 => ?_) (fun c6 => ?_)
      · refine z_bipush (v := 32) F (by decide) dX4_isWord_27 ?_
        exact hj_X4_isWord_29_2 l3_2 32 g_2
      · refine z_aload_n F 0 rfl rfl dX4_isWord_13 ?_
        refine gf_X4_9 F hta dX4_isWord_14 (fun ht7 => ?_)
        refine z_aload_n F 0 rfl rfl dX4_isWord_17 ?_
        refine gf_X4_70 F hta dX4_isWord_18 ?_
        refine z_iload_n F 3 rfl rfl dX4_isWord_21 ?_
        refine z_iadd F dX4_isWord_22 ?_
        refine z_bald F ht7 dX4_isWord_23 ?_
        refine z_goto (tgt := 29) F dX4_isWord_24 (by decide) ?_
        exact hj_X4_isWord_29_2 l3_2 (g_2.1 (g_2.2.1 a 0) ((g_2.1 a 6) + l3_2).toNatClampNeg) g_2
  · show zSim (fun q : Int32 × zG => q = (r, g')) (j_X4_isWord_47 a x) (zAt E D (zA τ sz) (zQ E D zrI 0 0 sz τ τ r g') 5 (sz, τ, 0, 0) x 47 [] [])
    exact hj_X4_isWord_47 x
theorem k_X4_isWord {ρ : Type} {K : ρ → Prop} {E : zE} {D : zD} {A : Nat → Prop} {Q : State → Prop} {nL : Nat} {κ : zC} {g : zG} {pc : Nat} {lv : List (Nat × Value)} {st : List Value} {cc : ByteArray} {own : String} {ret : Option FieldType} (F : zF E D A cc own nL ret) {index : Nat} {h : Int32 → zG → Option ρ} {a : Nat} {x1 : Int32} {x2 : Int32}  (hR : 4 + 1 ≤ E.2.2.2.1.frames ∧ 8 + (5 + 11) + 85 ≤ E.2.2.2.1.locals) (hl : zTbl (.methodLink own index yX4_isWord)) (hta : κ.2.1 a = some (.inr 4)) (hc : κ.2.2.1 ≤ E.2.2.2.1.cells ∧ κ.2.2.2 ≤ E.2.2.2.1.slots) (hW : (st.map fun v => v.category).sum ≤ 8) (hd : decode cc pc = .ok (.invokevirtual index, 3)) (kk : ∀ r g', zSim K (h r g') (zAt E D A Q nL κ g' (pc + 3) lv (.int r :: st))) : zSim K (zb (f_X4_isWord a x1 x2 g) h) (zAt E D A Q nL κ g pc lv (.int x2 :: .int x1 :: .ref a :: st)) :=
  z_callV F (n := 2) (As := [.int x1, .int x2]) (C := (RX4, TX4, 14)) ⟨q_466, q_8, by decide +kernel, rfl, rfl, hR.1, hR.2⟩ (c_X4_isWord E.2.1 D κ.1 κ.2.1 g a x1 x2 hta) hl q_465 q_1369 hta rfl rfl rfl hc hW hd kk _ rfl
theorem dX4_letterAt_0 : decode cX4_letterAt 0 = .ok (.aload_n 0, 1) := by decide +kernel
theorem dX4_letterAt_1 : decode cX4_letterAt 1 = .ok (.getfield 9, 3) := by decide +kernel
theorem dX4_letterAt_4 : decode cX4_letterAt 4 = .ok (.iload_n 1, 1) := by decide +kernel
theorem dX4_letterAt_5 : decode cX4_letterAt 5 = .ok (.baload, 1) := by decide +kernel
theorem dX4_letterAt_6 : decode cX4_letterAt 6 = .ok (.bipush 97, 2) := by decide +kernel
theorem dX4_letterAt_8 : decode cX4_letterAt 8 = .ok (.isub, 1) := by decide +kernel
theorem dX4_letterAt_9 : decode cX4_letterAt 9 = .ok (.iconst 1, 1) := by decide +kernel
theorem dX4_letterAt_10 : decode cX4_letterAt 10 = .ok (.iadd, 1) := by decide +kernel
theorem dX4_letterAt_11 : decode cX4_letterAt 11 = .ok (.ireturn, 1) := by decide +kernel
def f_X4_letterAt (a : Nat) (x1 : Int32) (g : zG) : Option (Int32 × zG) :=
  zc (zin x1 240) (some ((((g.1 (g.2.1 a 0) x1.toNatClampNeg) - 97) + 1, g)))
abbrev rm_X4_letterAt : Room := { frames := 0, cells := 0, slots := 0, locals := 0 }
set_option maxRecDepth 100000 in
set_option maxHeartbeats 4000000 in
theorem c_X4_letterAt (l : Launch) (D : zD) (sz : Nat) (τ : zT) (g : zG) (a : Nat) (x1 : Int32) (hta : τ a = some (.inr 4)) : zCon l D yX4_letterAt cX4_letterAt 2 (some .int) rm_X4_letterAt 0 0 zrI [.ref a, .int x1] sz τ g τ (f_X4_letterAt a x1 g) := by
  refine zCon.of (by decide) (Nat.le_of_ble_eq_true rfl) (fun E r g' hl hR hsz hnm F => ?_)
  have F : zF E D (zA τ sz) cX4_letterAt "TypeChain$Reader" 2 (some .int) := F
  show zSim (fun q : Int32 × zG => q = (r, g')) (f_X4_letterAt a x1 g) (zAt E D (zA τ sz) (zQ E D zrI 0 0 sz τ τ r g') 2 (sz, τ, 0, 0) g 0 [(0, .ref a), (1, .int x1)] [])
  unfold f_X4_letterAt
  refine z_aload_n F 0 rfl rfl dX4_letterAt_0 ?_
  refine gf_X4_9 F hta dX4_letterAt_1 (fun ht1 => ?_)
  refine z_iload_n F 1 rfl rfl dX4_letterAt_4 ?_
  refine z_bald F ht1 dX4_letterAt_5 ?_
  refine z_bipush (v := 97) F (by decide) dX4_letterAt_6 ?_
  refine z_isub F dX4_letterAt_8 ?_
  refine z_iconst (v := 1) F (by decide) dX4_letterAt_9 ?_
  refine z_iadd F dX4_letterAt_10 ?_
  exact z_ireturn F rfl rfl rfl rfl (fun h => h) dX4_letterAt_11
theorem k_X4_letterAt {ρ : Type} {K : ρ → Prop} {E : zE} {D : zD} {A : Nat → Prop} {Q : State → Prop} {nL : Nat} {κ : zC} {g : zG} {pc : Nat} {lv : List (Nat × Value)} {st : List Value} {cc : ByteArray} {own : String} {ret : Option FieldType} (F : zF E D A cc own nL ret) {index : Nat} {h : Int32 → zG → Option ρ} {a : Nat} {x1 : Int32}  (hR : 0 + 1 ≤ E.2.2.2.1.frames ∧ 8 + (2 + 11) + 0 ≤ E.2.2.2.1.locals) (hl : zTbl (.methodLink own index yX4_letterAt)) (hta : κ.2.1 a = some (.inr 4)) (hc : κ.2.2.1 ≤ E.2.2.2.1.cells ∧ κ.2.2.2 ≤ E.2.2.2.1.slots) (hW : (st.map fun v => v.category).sum ≤ 8) (hd : decode cc pc = .ok (.invokevirtual index, 3)) (kk : ∀ r g', zSim K (h r g') (zAt E D A Q nL κ g' (pc + 3) lv (.int r :: st))) : zSim K (zb (f_X4_letterAt a x1 g) h) (zAt E D A Q nL κ g pc lv (.int x1 :: .ref a :: st)) :=
  z_callV F (n := 1) (As := [.int x1]) (C := (RX4, TX4, 14)) ⟨q_519, q_8, by decide +kernel, rfl, rfl, hR.1, hR.2⟩ (c_X4_letterAt E.2.1 D κ.1 κ.2.1 g a x1 hta) hl q_518 q_1372 hta rfl rfl rfl hc hW hd kk _ rfl
theorem dX4_fail_0 : decode cX4_fail 0 = .ok (.aload_n 0, 1) := by decide +kernel
theorem dX4_fail_1 : decode cX4_fail 1 = .ok (.iload_n 1, 1) := by decide +kernel
theorem dX4_fail_2 : decode cX4_fail 2 = .ok (.putfield 34, 3) := by decide +kernel
theorem dX4_fail_5 : decode cX4_fail 5 = .ok (.aload_n 0, 1) := by decide +kernel
theorem dX4_fail_6 : decode cX4_fail 6 = .ok (.iload_n 2, 1) := by decide +kernel
theorem dX4_fail_7 : decode cX4_fail 7 = .ok (.putfield 164, 3) := by decide +kernel
theorem dX4_fail_10 : decode cX4_fail 10 = .ok (.iconst 0, 1) := by decide +kernel
theorem dX4_fail_11 : decode cX4_fail 11 = .ok (.ireturn, 1) := by decide +kernel
def f_X4_fail (a : Nat) (x1 : Int32) (x2 : Int32) (g : zG) : Option (Int32 × zG) :=
  zl (zsi g a 2 x1) (fun g1 => zl (zsi g1 a 3 x2) (fun g2 => some ((0, g2))))
abbrev rm_X4_fail : Room := { frames := 0, cells := 0, slots := 0, locals := 0 }
set_option maxRecDepth 100000 in
set_option maxHeartbeats 4000000 in
theorem c_X4_fail (l : Launch) (D : zD) (sz : Nat) (τ : zT) (g : zG) (a : Nat) (x1 : Int32) (x2 : Int32) (hta : τ a = some (.inr 4)) : zCon l D yX4_fail cX4_fail 3 (some .boolean) rm_X4_fail 0 0 zrI [.ref a, .int x1, .int x2] sz τ g τ (f_X4_fail a x1 x2 g) := by
  refine zCon.of (by decide) (Nat.le_of_ble_eq_true rfl) (fun E r g' hl hR hsz hnm F => ?_)
  have F : zF E D (zA τ sz) cX4_fail "TypeChain$Reader" 3 (some .boolean) := F
  show zSim (fun q : Int32 × zG => q = (r, g')) (f_X4_fail a x1 x2 g) (zAt E D (zA τ sz) (zQ E D zrI 0 0 sz τ τ r g') 3 (sz, τ, 0, 0) g 0 [(0, .ref a), (1, .int x1), (2, .int x2)] [])
  unfold f_X4_fail
  refine z_aload_n F 0 rfl rfl dX4_fail_0 ?_
  refine z_iload_n F 1 rfl rfl dX4_fail_1 ?_
  refine pf_X4_34 F hta dX4_fail_2 ?_
  refine z_letg (fun g1 => ?_)
  refine z_aload_n F 0 rfl rfl dX4_fail_5 ?_
  refine z_iload_n F 2 rfl rfl dX4_fail_6 ?_
  refine pf_X4_164 F hta dX4_fail_7 ?_
  refine z_letg (fun g2 => ?_)
  refine z_iconst (v := 0) F (by decide) dX4_fail_10 ?_
  exact z_zreturn F rfl rfl rfl rfl rfl (fun h => h) dX4_fail_11
theorem k_X4_fail {ρ : Type} {K : ρ → Prop} {E : zE} {D : zD} {A : Nat → Prop} {Q : State → Prop} {nL : Nat} {κ : zC} {g : zG} {pc : Nat} {lv : List (Nat × Value)} {st : List Value} {cc : ByteArray} {own : String} {ret : Option FieldType} (F : zF E D A cc own nL ret) {index : Nat} {h : Int32 → zG → Option ρ} {a : Nat} {x1 : Int32} {x2 : Int32}  (hR : 0 + 1 ≤ E.2.2.2.1.frames ∧ 8 + (3 + 11) + 0 ≤ E.2.2.2.1.locals) (hl : zTbl (.methodLink own index yX4_fail)) (hta : κ.2.1 a = some (.inr 4)) (hc : κ.2.2.1 ≤ E.2.2.2.1.cells ∧ κ.2.2.2 ≤ E.2.2.2.1.slots) (hW : (st.map fun v => v.category).sum ≤ 8) (hd : decode cc pc = .ok (.invokevirtual index, 3)) (kk : ∀ r g', zSim K (h r g') (zAt E D A Q nL κ g' (pc + 3) lv (.int r :: st))) : zSim K (zb (f_X4_fail a x1 x2 g) h) (zAt E D A Q nL κ g pc lv (.int x2 :: .int x1 :: .ref a :: st)) :=
  z_callV F (n := 2) (As := [.int x1, .int x2]) (C := (RX4, TX4, 14)) ⟨q_449, q_8, by decide +kernel, rfl, rfl, hR.1, hR.2⟩ (c_X4_fail E.2.1 D κ.1 κ.2.1 g a x1 x2 hta) hl q_448 q_1365 hta rfl rfl rfl hc hW hd kk _ rfl
theorem dX4_lookBehindAll_0 : decode cX4_lookBehindAll 0 = .ok (.iconst 0, 1) := by decide +kernel
theorem dX4_lookBehindAll_1 : decode cX4_lookBehindAll 1 = .ok (.istore_n 2, 1) := by decide +kernel
theorem dX4_lookBehindAll_2 : decode cX4_lookBehindAll 2 = .ok (.iload_n 2, 1) := by decide +kernel
theorem dX4_lookBehindAll_3 : decode cX4_lookBehindAll 3 = .ok (.aload_n 0, 1) := by decide +kernel
theorem dX4_lookBehindAll_4 : decode cX4_lookBehindAll 4 = .ok (.getfield 46, 3) := by decide +kernel
theorem dX4_lookBehindAll_7 : decode cX4_lookBehindAll 7 = .ok (.if_icmp .ge 59, 3) := by decide +kernel
theorem dX4_lookBehindAll_10 : decode cX4_lookBehindAll 10 = .ok (.aload_n 1, 1) := by decide +kernel
theorem dX4_lookBehindAll_11 : decode cX4_lookBehindAll 11 = .ok (.getfield 126, 3) := by decide +kernel
theorem dX4_lookBehindAll_14 : decode cX4_lookBehindAll 14 = .ok (.aload_n 0, 1) := by decide +kernel
theorem dX4_lookBehindAll_15 : decode cX4_lookBehindAll 15 = .ok (.getfield 15, 3) := by decide +kernel
theorem dX4_lookBehindAll_18 : decode cX4_lookBehindAll 18 = .ok (.iload_n 2, 1) := by decide +kernel
theorem dX4_lookBehindAll_19 : decode cX4_lookBehindAll 19 = .ok (.iaload, 1) := by decide +kernel
theorem dX4_lookBehindAll_20 : decode cX4_lookBehindAll 20 = .ok (.bipush 6, 2) := by decide +kernel
theorem dX4_lookBehindAll_22 : decode cX4_lookBehindAll 22 = .ok (.if_icmp .ne 8, 3) := by decide +kernel
theorem dX4_lookBehindAll_25 : decode cX4_lookBehindAll 25 = .ok (.bipush 7, 2) := by decide +kernel
theorem dX4_lookBehindAll_27 : decode cX4_lookBehindAll 27 = .ok (.goto 4, 3) := by decide +kernel
theorem dX4_lookBehindAll_30 : decode cX4_lookBehindAll 30 = .ok (.iconst 3, 1) := by decide +kernel
theorem dX4_lookBehindAll_31 : decode cX4_lookBehindAll 31 = .ok (.iaload, 1) := by decide +kernel
theorem dX4_lookBehindAll_32 : decode cX4_lookBehindAll 32 = .ok (.istore_n 3, 1) := by decide +kernel
theorem dX4_lookBehindAll_33 : decode cX4_lookBehindAll 33 = .ok (.aload_n 0, 1) := by decide +kernel
theorem dX4_lookBehindAll_34 : decode cX4_lookBehindAll 34 = .ok (.getfield 19, 3) := by decide +kernel
theorem dX4_lookBehindAll_37 : decode cX4_lookBehindAll 37 = .ok (.iload_n 2, 1) := by decide +kernel
theorem dX4_lookBehindAll_38 : decode cX4_lookBehindAll 38 = .ok (.iaload, 1) := by decide +kernel
theorem dX4_lookBehindAll_39 : decode cX4_lookBehindAll 39 = .ok (.iload_n 3, 1) := by decide +kernel
theorem dX4_lookBehindAll_40 : decode cX4_lookBehindAll 40 = .ok (.if_icmp .le 20, 3) := by decide +kernel
theorem dX4_lookBehindAll_43 : decode cX4_lookBehindAll 43 = .ok (.aload_n 0, 1) := by decide +kernel
theorem dX4_lookBehindAll_44 : decode cX4_lookBehindAll 44 = .ok (.aload_n 0, 1) := by decide +kernel
theorem dX4_lookBehindAll_45 : decode cX4_lookBehindAll 45 = .ok (.getfield 15, 3) := by decide +kernel
theorem dX4_lookBehindAll_48 : decode cX4_lookBehindAll 48 = .ok (.iload_n 2, 1) := by decide +kernel
theorem dX4_lookBehindAll_49 : decode cX4_lookBehindAll 49 = .ok (.iaload, 1) := by decide +kernel
theorem dX4_lookBehindAll_50 : decode cX4_lookBehindAll 50 = .ok (.aload_n 0, 1) := by decide +kernel
theorem dX4_lookBehindAll_51 : decode cX4_lookBehindAll 51 = .ok (.getfield 22, 3) := by decide +kernel
theorem dX4_lookBehindAll_54 : decode cX4_lookBehindAll 54 = .ok (.iload_n 2, 1) := by decide +kernel
theorem dX4_lookBehindAll_55 : decode cX4_lookBehindAll 55 = .ok (.iaload, 1) := by decide +kernel
theorem dX4_lookBehindAll_56 : decode cX4_lookBehindAll 56 = .ok (.invokevirtual 73, 3) := by decide +kernel
theorem dX4_lookBehindAll_59 : decode cX4_lookBehindAll 59 = .ok (.ireturn, 1) := by decide +kernel
theorem dX4_lookBehindAll_60 : decode cX4_lookBehindAll 60 = .ok (.iinc 2 1, 3) := by decide +kernel
theorem dX4_lookBehindAll_63 : decode cX4_lookBehindAll 63 = .ok (.goto (-61), 3) := by decide +kernel
theorem dX4_lookBehindAll_66 : decode cX4_lookBehindAll 66 = .ok (.iconst 1, 1) := by decide +kernel
theorem dX4_lookBehindAll_67 : decode cX4_lookBehindAll 67 = .ok (.ireturn, 1) := by decide +kernel
def j_X4_lookBehindAll_43 (a : Nat) (l2 : Int32) (g : zG) : Option (Int32 × zG) :=
  zc (zin l2 34) (zc (zin l2 34) (zb (f_X4_fail a (g.1 (g.2.1 a 10) l2.toNatClampNeg) (g.1 (g.2.1 a 12) l2.toNatClampNeg) g) (fun v3 g4 => zc (v3 = 0 ∨ v3 = 1) (some ((v3, g4))))))
def j_X4_lookBehindAll_31_2 (a : Nat) (l1 : Nat) (l2 : Int32) (s0 : Nat) (s1 : Int32) (g : zG) : Option ((Int32) ⊕ ((Int32) ⊕ (Int32 × zG))) :=
  zc (zin s1 8) (zl (g.1 s0 s1.toNatClampNeg) (fun v6 => zc (zin l2 34) (if (g.1 (g.2.1 a 11) l2.toNatClampNeg) ≤ v6 then (zl (l2 + 1) (fun v9 => some (.inl v9))) else (some (.inr (.inl l2))))))
def l_X4_lookBehindAll_2 (a : Nat) (l1 : Nat) (g : zG) (l2 : Int32) : Option ((Int32) ⊕ ((Int32) ⊕ (Int32 × zG))) :=
  if (g.1 a 13) ≤ l2 then (some (.inr (.inr (1, g)))) else (zc (zin l2 34) (if (g.1 (g.2.1 a 10) l2.toNatClampNeg) = 6 then (j_X4_lookBehindAll_31_2 a l1 l2 (g.2.1 l1 2) 7 g) else (j_X4_lookBehindAll_31_2 a l1 l2 (g.2.1 l1 2) 3 g)))
def f_X4_lookBehindAll (a : Nat) (b1 : Nat) (g : zG) : Option (Int32 × zG) :=
  zk2 (zw zN (fun s => l_X4_lookBehindAll_2 a b1 g s) 0) (fun x => j_X4_lookBehindAll_43 a x g)
abbrev rm_X4_lookBehindAll : Room := { frames := 1, cells := 0, slots := 0, locals := 22 }
set_option maxRecDepth 100000 in
set_option maxHeartbeats 4000000 in
theorem c_X4_lookBehindAll (l : Launch) (D : zD) (sz : Nat) (τ : zT) (g : zG) (a : Nat) (b1 : Nat) (hta : τ a = some (.inr 4)) (htb1 : τ b1 = some (.inr 5)) : zCon l D yX4_lookBehindAll cX4_lookBehindAll 4 (some .boolean) rm_X4_lookBehindAll 0 0 zrI [.ref a, .ref b1] sz τ g τ (f_X4_lookBehindAll a b1 g) := by
  refine zCon.of (by decide) (Nat.le_of_ble_eq_true rfl) (fun E r g' hl hR hsz hnm F => ?_)
  have F : zF E D (zA τ sz) cX4_lookBehindAll "TypeChain$Reader" 4 (some .boolean) := F
  show zSim (fun q : Int32 × zG => q = (r, g')) (f_X4_lookBehindAll a b1 g) (zAt E D (zA τ sz) (zQ E D zrI 0 0 sz τ τ r g') 4 (sz, τ, 0, 0) g 0 [(0, .ref a), (1, .ref b1)] [])
  have hj_X4_lookBehindAll_43 : ∀ (l2_43 : Int32) (g_43 : zG), zSim (fun q : Int32 × zG => q = (r, g')) (j_X4_lookBehindAll_43 a l2_43 g_43) (zAt E D (zA τ sz) (zQ E D zrI 0 0 sz τ τ r g') 4 (sz, τ, 0, 0) g_43 43 [(0, .ref a), (2, .int l2_43)] []) := by
    intro l2_43 g_43
    unfold j_X4_lookBehindAll_43
    refine z_aload_n F 0 rfl rfl dX4_lookBehindAll_43 ?_
    refine z_aload_n F 0 rfl rfl dX4_lookBehindAll_44 ?_
    refine gf_X4_15 F hta dX4_lookBehindAll_45 (fun ht1 => ?_)
    refine z_iload_n F 1 rfl rfl dX4_lookBehindAll_48 ?_
    refine z_iald F ht1 dX4_lookBehindAll_49 ?_
    refine z_aload_n F 0 rfl rfl dX4_lookBehindAll_50 ?_
    refine gf_X4_22 F hta dX4_lookBehindAll_51 (fun ht2 => ?_)
    refine z_iload_n F 1 rfl rfl dX4_lookBehindAll_54 ?_
    refine z_iald F ht2 dX4_lookBehindAll_55 ?_
    refine k_X4_fail F (by rw [hR]; exact ⟨by decide, by decide⟩) q_446 hta ⟨Nat.zero_le _, Nat.zero_le _⟩ (Nat.le_of_ble_eq_true rfl) dX4_lookBehindAll_56 (fun v3 g4 => ?_)
    exact z_zc (fun c5 => z_zreturn F (znar01 c5) rfl rfl rfl rfl (fun h => h) dX4_lookBehindAll_59)
  unfold f_X4_lookBehindAll
  refine z_iconst (v := 0) F (by decide) dX4_lookBehindAll_0 ?_
  refine z_istore_n (lv' := [(2, .int 0), (0, .ref a), (1, .ref b1)]) F rfl (by decide) dX4_lookBehindAll_1 rfl ?_
  refine z_sub (lv' := [(0, .ref a), (1, .ref b1), (2, .int 0)]) [1, 2, 0] rfl ?_
  refine z_loop2 (P := fun s : Int32 => zAt E D (zA τ sz) (zQ E D zrI 0 0 sz τ τ r g') 4 (sz, τ, 0, 0) g 2 [(0, .ref a), (1, .ref b1), (2, .int s)] []) (Px := fun x : Int32 => zAt E D (zA τ sz) (zQ E D zrI 0 0 sz τ τ r g') 4 (sz, τ, 0, 0) g 43 [(0, .ref a), (2, .int x)] []) 0 (fun s => ?_) (fun x => ?_)
  · generalize s = l2_2
    show zSim (zKl (fun s : Int32 => zAt E D (zA τ sz) (zQ E D zrI 0 0 sz τ τ r g') 4 (sz, τ, 0, 0) g 2 [(0, .ref a), (1, .ref b1), (2, .int s)] []) (zKl (fun x : Int32 => zAt E D (zA τ sz) (zQ E D zrI 0 0 sz τ τ r g') 4 (sz, τ, 0, 0) g 43 [(0, .ref a), (2, .int x)] []) (fun q : Int32 × zG => q = (r, g')))) (l_X4_lookBehindAll_2 a b1 g l2_2) (zAt E D (zA τ sz) (zQ E D zrI 0 0 sz τ τ r g') 4 (sz, τ, 0, 0) g 2 [(0, .ref a), (1, .ref b1), (2, .int l2_2)] [])
    have hj_X4_lookBehindAll_31_2 : ∀ (l2_31 : Int32) (s0_31 : Nat) (s1_31 : Int32), τ s0_31 = some (.inl (FieldType.int, 8)) → zSim (zKl (fun s : Int32 => zAt E D (zA τ sz) (zQ E D zrI 0 0 sz τ τ r g') 4 (sz, τ, 0, 0) g 2 [(0, .ref a), (1, .ref b1), (2, .int s)] []) (zKl (fun x : Int32 => zAt E D (zA τ sz) (zQ E D zrI 0 0 sz τ τ r g') 4 (sz, τ, 0, 0) g 43 [(0, .ref a), (2, .int x)] []) (fun q : Int32 × zG => q = (r, g')))) (j_X4_lookBehindAll_31_2 a b1 l2_31 s0_31 s1_31 g) (zAt E D (zA τ sz) (zQ E D zrI 0 0 sz τ τ r g') 4 (sz, τ, 0, 0) g 31 [(0, .ref a), (1, .ref b1), (2, .int l2_31)] [.int s1_31, .ref s0_31]) := by
      intro l2_31 s0_31 s1_31 ht_s0_31
      unfold j_X4_lookBehindAll_31_2
      refine z_iald F ht_s0_31 dX4_lookBehindAll_31 ?_
      refine z_leti (fun v6 => ?_)
      refine z_istore_n (lv' := [(3, .int v6), (0, .ref a), (1, .ref b1), (2, .int l2_31)]) F rfl (by decide) dX4_lookBehindAll_32 rfl ?_
      refine z_aload_n F 1 rfl rfl dX4_lookBehindAll_33 ?_
      refine gf_X4_19 F hta dX4_lookBehindAll_34 (fun ht7 => ?_)
      refine z_iload_n F 3 rfl rfl dX4_lookBehindAll_37 ?_
      refine z_iald F ht7 dX4_lookBehindAll_38 ?_
      refine z_iload_n F 0 rfl rfl dX4_lookBehindAll_39 ?_
      refine z_icmp_le (tgt := 60) F dX4_lookBehindAll_40 (by decide) (fun c8 => ?_) (fun c8 => ?_)
      · refine z_iincl (lv' := fun v9 => [(2, .int v9), (3, .int v6), (0, .ref a), (1, .ref b1)]) F 3 rfl (by decide) (by decide) dX4_lookBehindAll_60 (fun _ => rfl) (fun v9 => ?_)
        refine z_goto (tgt := 2) F dX4_lookBehindAll_63 (by decide) ?_
        refine z_sub (lv' := [(0, .ref a), (1, .ref b1), (2, .int v9)]) [2, 3, 0] rfl ?_
        exact z_back (fun h => h)
      · refine z_sub (lv' := [(0, .ref a), (2, .int l2_31)]) [1, 3] rfl ?_
        exact z_back (fun h => h)
    unfold l_X4_lookBehindAll_2
    refine z_iload_n F 2 rfl rfl dX4_lookBehindAll_2 ?_
    refine z_aload_n F 0 rfl rfl dX4_lookBehindAll_3 ?_
    refine gf_X4_46 F hta dX4_lookBehindAll_4 ?_
    refine z_icmp_ge (tgt := 66) F dX4_lookBehindAll_7 (by decide) (fun c10 => ?_) (fun c10 => ?_)
    · refine z_iconst (v := 1) F (by decide) dX4_lookBehindAll_66 ?_
      exact z_zreturn F rfl rfl rfl rfl rfl (fun h => h) dX4_lookBehindAll_67
    · refine z_aload_n F 1 rfl rfl dX4_lookBehindAll_10 ?_
      refine gf_X4_126 F htb1 dX4_lookBehindAll_11 (fun ht11 => ?_)
      refine z_aload_n F 0 rfl rfl dX4_lookBehindAll_14 ?_
      refine gf_X4_15 F hta dX4_lookBehindAll_15 (fun ht12 => ?_)
      refine z_iload_n F 2 rfl rfl dX4_lookBehindAll_18 ?_
      refine z_iald F ht12 dX4_lookBehindAll_19 ?_
      refine z_bipush (v := 6) F (by decide) dX4_lookBehindAll_20 ?_
      refine z_icmp_ne (tgt := 30) F dX4_lookBehindAll_22 (by decide) (fun c13 => ?_) (fun c13 => ?_)
      · refine z_bipush (v := 7) F (by decide) dX4_lookBehindAll_25 ?_
        refine z_goto (tgt := 31) F dX4_lookBehindAll_27 (by decide) ?_
        exact hj_X4_lookBehindAll_31_2 l2_2 (g.2.1 b1 2) 7 ht11
      · refine z_iconst (v := 3) F (by decide) dX4_lookBehindAll_30 ?_
        exact hj_X4_lookBehindAll_31_2 l2_2 (g.2.1 b1 2) 3 ht11
  · show zSim (fun q : Int32 × zG => q = (r, g')) (j_X4_lookBehindAll_43 a x g) (zAt E D (zA τ sz) (zQ E D zrI 0 0 sz τ τ r g') 4 (sz, τ, 0, 0) g 43 [(0, .ref a), (2, .int x)] [])
    exact hj_X4_lookBehindAll_43 x g
theorem k_X4_lookBehindAll {ρ : Type} {K : ρ → Prop} {E : zE} {D : zD} {A : Nat → Prop} {Q : State → Prop} {nL : Nat} {κ : zC} {g : zG} {pc : Nat} {lv : List (Nat × Value)} {st : List Value} {cc : ByteArray} {own : String} {ret : Option FieldType} (F : zF E D A cc own nL ret) {index : Nat} {h : Int32 → zG → Option ρ} {a : Nat} {b1 : Nat}  (hR : 1 + 1 ≤ E.2.2.2.1.frames ∧ 8 + (4 + 11) + 22 ≤ E.2.2.2.1.locals) (hl : zTbl (.methodLink own index yX4_lookBehindAll)) (hta : κ.2.1 a = some (.inr 4)) (htb1 : κ.2.1 b1 = some (.inr 5)) (hc : κ.2.2.1 ≤ E.2.2.2.1.cells ∧ κ.2.2.2 ≤ E.2.2.2.1.slots) (hW : (st.map fun v => v.category).sum ≤ 8) (hd : decode cc pc = .ok (.invokevirtual index, 3)) (kk : ∀ r g', zSim K (h r g') (zAt E D A Q nL κ g' (pc + 3) lv (.int r :: st))) : zSim K (zb (f_X4_lookBehindAll a b1 g) h) (zAt E D A Q nL κ g pc lv (.ref b1 :: .ref a :: st)) :=
  z_callV F (n := 1) (As := [.ref b1]) (C := (RX4, TX4, 14)) ⟨q_454, q_8, by decide +kernel, rfl, rfl, hR.1, hR.2⟩ (c_X4_lookBehindAll E.2.1 D κ.1 κ.2.1 g a b1 hta htb1) hl q_453 q_1366 hta rfl rfl rfl hc hW hd kk _ rfl
theorem dX4_nextToken_0 : decode cX4_nextToken 0 = .ok (.aload_n 0, 1) := by decide +kernel
theorem dX4_nextToken_1 : decode cX4_nextToken 1 = .ok (.getfield 37, 3) := by decide +kernel
theorem dX4_nextToken_4 : decode cX4_nextToken 4 = .ok (.aload_n 0, 1) := by decide +kernel
theorem dX4_nextToken_5 : decode cX4_nextToken 5 = .ok (.getfield 25, 3) := by decide +kernel
theorem dX4_nextToken_8 : decode cX4_nextToken 8 = .ok (.if_icmp .ge 30, 3) := by decide +kernel
theorem dX4_nextToken_11 : decode cX4_nextToken 11 = .ok (.aload_n 0, 1) := by decide +kernel
theorem dX4_nextToken_12 : decode cX4_nextToken 12 = .ok (.getfield 9, 3) := by decide +kernel
theorem dX4_nextToken_15 : decode cX4_nextToken 15 = .ok (.aload_n 0, 1) := by decide +kernel
theorem dX4_nextToken_16 : decode cX4_nextToken 16 = .ok (.getfield 37, 3) := by decide +kernel
theorem dX4_nextToken_19 : decode cX4_nextToken 19 = .ok (.baload, 1) := by decide +kernel
theorem dX4_nextToken_20 : decode cX4_nextToken 20 = .ok (.bipush 32, 2) := by decide +kernel
theorem dX4_nextToken_22 : decode cX4_nextToken 22 = .ok (.if_icmp .ne 16, 3) := by decide +kernel
theorem dX4_nextToken_25 : decode cX4_nextToken 25 = .ok (.aload_n 0, 1) := by decide +kernel
theorem dX4_nextToken_26 : decode cX4_nextToken 26 = .ok (.dup, 1) := by decide +kernel
theorem dX4_nextToken_27 : decode cX4_nextToken 27 = .ok (.getfield 37, 3) := by decide +kernel
theorem dX4_nextToken_30 : decode cX4_nextToken 30 = .ok (.iconst 1, 1) := by decide +kernel
theorem dX4_nextToken_31 : decode cX4_nextToken 31 = .ok (.iadd, 1) := by decide +kernel
theorem dX4_nextToken_32 : decode cX4_nextToken 32 = .ok (.putfield 37, 3) := by decide +kernel
theorem dX4_nextToken_35 : decode cX4_nextToken 35 = .ok (.goto (-35), 3) := by decide +kernel
theorem dX4_nextToken_38 : decode cX4_nextToken 38 = .ok (.aload_n 0, 1) := by decide +kernel
theorem dX4_nextToken_39 : decode cX4_nextToken 39 = .ok (.aload_n 0, 1) := by decide +kernel
theorem dX4_nextToken_40 : decode cX4_nextToken 40 = .ok (.getfield 37, 3) := by decide +kernel
theorem dX4_nextToken_43 : decode cX4_nextToken 43 = .ok (.putfield 70, 3) := by decide +kernel
theorem dX4_nextToken_46 : decode cX4_nextToken 46 = .ok (.aload_n 0, 1) := by decide +kernel
theorem dX4_nextToken_47 : decode cX4_nextToken 47 = .ok (.getfield 37, 3) := by decide +kernel
theorem dX4_nextToken_50 : decode cX4_nextToken 50 = .ok (.aload_n 0, 1) := by decide +kernel
theorem dX4_nextToken_51 : decode cX4_nextToken 51 = .ok (.getfield 25, 3) := by decide +kernel
theorem dX4_nextToken_54 : decode cX4_nextToken 54 = .ok (.if_icmp .lt 10, 3) := by decide +kernel
theorem dX4_nextToken_57 : decode cX4_nextToken 57 = .ok (.aload_n 0, 1) := by decide +kernel
theorem dX4_nextToken_58 : decode cX4_nextToken 58 = .ok (.iconst 0, 1) := by decide +kernel
theorem dX4_nextToken_59 : decode cX4_nextToken 59 = .ok (.putfield 53, 3) := by decide +kernel
theorem dX4_nextToken_62 : decode cX4_nextToken 62 = .ok (.iconst 1, 1) := by decide +kernel
theorem dX4_nextToken_63 : decode cX4_nextToken 63 = .ok (.ireturn, 1) := by decide +kernel
theorem dX4_nextToken_64 : decode cX4_nextToken 64 = .ok (.aload_n 0, 1) := by decide +kernel
theorem dX4_nextToken_65 : decode cX4_nextToken 65 = .ok (.aload_n 0, 1) := by decide +kernel
theorem dX4_nextToken_66 : decode cX4_nextToken 66 = .ok (.getfield 9, 3) := by decide +kernel
theorem dX4_nextToken_69 : decode cX4_nextToken 69 = .ok (.aload_n 0, 1) := by decide +kernel
theorem dX4_nextToken_70 : decode cX4_nextToken 70 = .ok (.getfield 37, 3) := by decide +kernel
theorem dX4_nextToken_73 : decode cX4_nextToken 73 = .ok (.baload, 1) := by decide +kernel
theorem dX4_nextToken_74 : decode cX4_nextToken 74 = .ok (.invokestatic 150, 3) := by decide +kernel
theorem dX4_nextToken_77 : decode cX4_nextToken 77 = .ok (.putfield 53, 3) := by decide +kernel
theorem dX4_nextToken_80 : decode cX4_nextToken 80 = .ok (.aload_n 0, 1) := by decide +kernel
theorem dX4_nextToken_81 : decode cX4_nextToken 81 = .ok (.dup, 1) := by decide +kernel
theorem dX4_nextToken_82 : decode cX4_nextToken 82 = .ok (.getfield 37, 3) := by decide +kernel
theorem dX4_nextToken_85 : decode cX4_nextToken 85 = .ok (.iconst 1, 1) := by decide +kernel
theorem dX4_nextToken_86 : decode cX4_nextToken 86 = .ok (.iadd, 1) := by decide +kernel
theorem dX4_nextToken_87 : decode cX4_nextToken 87 = .ok (.putfield 37, 3) := by decide +kernel
theorem dX4_nextToken_90 : decode cX4_nextToken 90 = .ok (.aload_n 0, 1) := by decide +kernel
theorem dX4_nextToken_91 : decode cX4_nextToken 91 = .ok (.getfield 53, 3) := by decide +kernel
theorem dX4_nextToken_94 : decode cX4_nextToken 94 = .ok (.iconst 1, 1) := by decide +kernel
theorem dX4_nextToken_95 : decode cX4_nextToken 95 = .ok (.if_icmp .eq 11, 3) := by decide +kernel
theorem dX4_nextToken_98 : decode cX4_nextToken 98 = .ok (.aload_n 0, 1) := by decide +kernel
theorem dX4_nextToken_99 : decode cX4_nextToken 99 = .ok (.getfield 53, 3) := by decide +kernel
theorem dX4_nextToken_102 : decode cX4_nextToken 102 = .ok (.iconst 2, 1) := by decide +kernel
theorem dX4_nextToken_103 : decode cX4_nextToken 103 = .ok (.if_icmp .ne 46, 3) := by decide +kernel
theorem dX4_nextToken_106 : decode cX4_nextToken 106 = .ok (.aload_n 0, 1) := by decide +kernel
theorem dX4_nextToken_107 : decode cX4_nextToken 107 = .ok (.getfield 37, 3) := by decide +kernel
theorem dX4_nextToken_110 : decode cX4_nextToken 110 = .ok (.aload_n 0, 1) := by decide +kernel
theorem dX4_nextToken_111 : decode cX4_nextToken 111 = .ok (.getfield 25, 3) := by decide +kernel
theorem dX4_nextToken_114 : decode cX4_nextToken 114 = .ok (.if_icmp .ge 35, 3) := by decide +kernel
theorem dX4_nextToken_117 : decode cX4_nextToken 117 = .ok (.aload_n 0, 1) := by decide +kernel
theorem dX4_nextToken_118 : decode cX4_nextToken 118 = .ok (.getfield 9, 3) := by decide +kernel
theorem dX4_nextToken_121 : decode cX4_nextToken 121 = .ok (.aload_n 0, 1) := by decide +kernel
theorem dX4_nextToken_122 : decode cX4_nextToken 122 = .ok (.getfield 37, 3) := by decide +kernel
theorem dX4_nextToken_125 : decode cX4_nextToken 125 = .ok (.baload, 1) := by decide +kernel
theorem dX4_nextToken_126 : decode cX4_nextToken 126 = .ok (.invokestatic 150, 3) := by decide +kernel
theorem dX4_nextToken_129 : decode cX4_nextToken 129 = .ok (.aload_n 0, 1) := by decide +kernel
theorem dX4_nextToken_130 : decode cX4_nextToken 130 = .ok (.getfield 53, 3) := by decide +kernel
theorem dX4_nextToken_133 : decode cX4_nextToken 133 = .ok (.if_icmp .ne 16, 3) := by decide +kernel
theorem dX4_nextToken_136 : decode cX4_nextToken 136 = .ok (.aload_n 0, 1) := by decide +kernel
theorem dX4_nextToken_137 : decode cX4_nextToken 137 = .ok (.dup, 1) := by decide +kernel
theorem dX4_nextToken_138 : decode cX4_nextToken 138 = .ok (.getfield 37, 3) := by decide +kernel
theorem dX4_nextToken_141 : decode cX4_nextToken 141 = .ok (.iconst 1, 1) := by decide +kernel
theorem dX4_nextToken_142 : decode cX4_nextToken 142 = .ok (.iadd, 1) := by decide +kernel
theorem dX4_nextToken_143 : decode cX4_nextToken 143 = .ok (.putfield 37, 3) := by decide +kernel
theorem dX4_nextToken_146 : decode cX4_nextToken 146 = .ok (.goto (-56), 3) := by decide +kernel
theorem dX4_nextToken_149 : decode cX4_nextToken 149 = .ok (.aload_n 0, 1) := by decide +kernel
theorem dX4_nextToken_150 : decode cX4_nextToken 150 = .ok (.getfield 53, 3) := by decide +kernel
theorem dX4_nextToken_153 : decode cX4_nextToken 153 = .ok (.iconst 3, 1) := by decide +kernel
theorem dX4_nextToken_154 : decode cX4_nextToken 154 = .ok (.if_icmp .eq 24, 3) := by decide +kernel
theorem dX4_nextToken_157 : decode cX4_nextToken 157 = .ok (.aload_n 0, 1) := by decide +kernel
theorem dX4_nextToken_158 : decode cX4_nextToken 158 = .ok (.getfield 53, 3) := by decide +kernel
theorem dX4_nextToken_161 : decode cX4_nextToken 161 = .ok (.iconst 2, 1) := by decide +kernel
theorem dX4_nextToken_162 : decode cX4_nextToken 162 = .ok (.if_icmp .ne 26, 3) := by decide +kernel
theorem dX4_nextToken_165 : decode cX4_nextToken 165 = .ok (.aload_n 0, 1) := by decide +kernel
theorem dX4_nextToken_166 : decode cX4_nextToken 166 = .ok (.getfield 37, 3) := by decide +kernel
theorem dX4_nextToken_169 : decode cX4_nextToken 169 = .ok (.aload_n 0, 1) := by decide +kernel
theorem dX4_nextToken_170 : decode cX4_nextToken 170 = .ok (.getfield 70, 3) := by decide +kernel
theorem dX4_nextToken_173 : decode cX4_nextToken 173 = .ok (.isub, 1) := by decide +kernel
theorem dX4_nextToken_174 : decode cX4_nextToken 174 = .ok (.iconst 2, 1) := by decide +kernel
theorem dX4_nextToken_175 : decode cX4_nextToken 175 = .ok (.if_icmp .le 13, 3) := by decide +kernel
theorem dX4_nextToken_178 : decode cX4_nextToken 178 = .ok (.aload_n 0, 1) := by decide +kernel
theorem dX4_nextToken_179 : decode cX4_nextToken 179 = .ok (.iconst 1, 1) := by decide +kernel
theorem dX4_nextToken_180 : decode cX4_nextToken 180 = .ok (.aload_n 0, 1) := by decide +kernel
theorem dX4_nextToken_181 : decode cX4_nextToken 181 = .ok (.getfield 70, 3) := by decide +kernel
theorem dX4_nextToken_184 : decode cX4_nextToken 184 = .ok (.invokevirtual 73, 3) := by decide +kernel
theorem dX4_nextToken_187 : decode cX4_nextToken 187 = .ok (.ireturn, 1) := by decide +kernel
theorem dX4_nextToken_188 : decode cX4_nextToken 188 = .ok (.iconst 1, 1) := by decide +kernel
theorem dX4_nextToken_189 : decode cX4_nextToken 189 = .ok (.ireturn, 1) := by decide +kernel
def j_X4_nextToken_178 (a : Nat)  (g : zG) : Option (Int32 × zG) :=
  zb (f_X4_fail a 1 (g.1 a 6) g) (fun v1 g2 => zc (v1 = 0 ∨ v1 = 1) (some ((v1, g2))))
def j_X4_nextToken_149 (a : Nat)  (g : zG) : Option (Int32 × zG) :=
  if (g.1 a 5) = 3 then (j_X4_nextToken_178 a g) else (if (g.1 a 5) = 2 then (if ((g.1 a 7) - (g.1 a 6)) ≤ 2 then (some ((1, g))) else (j_X4_nextToken_178 a g)) else (some ((1, g))))
def j_X4_nextToken_106_90 (a : Nat)  (g : zG) : Option ((zG) ⊕ (zG)) :=
  if (g.1 a 1) ≤ (g.1 a 7) then (some (.inr g)) else (zc (zin (g.1 a 7) 240) (zb (f_X4_kindOf (g.1 (g.2.1 a 0) (g.1 a 7).toNatClampNeg) g) (fun v16 g17 => if v16 = (g17.1 a 5) then (zl (zsi g17 a 7 ((g17.1 a 7) + 1)) (fun g19 => some (.inl g19))) else (some (.inr g17)))))
def l_X4_nextToken_90 (a : Nat)  (g : zG) : Option ((zG) ⊕ (zG)) :=
  if (g.1 a 5) = 1 then (j_X4_nextToken_106_90 a g) else (if (g.1 a 5) = 2 then (j_X4_nextToken_106_90 a g) else (some (.inr g)))
def j_X4_nextToken_38 (a : Nat)  (g : zG) : Option (Int32 × zG) :=
  zl (zsi g a 6 (g.1 a 7)) (fun g7 => if (g7.1 a 7) < (g7.1 a 1) then (zc (zin (g7.1 a 7) 240) (zb (f_X4_kindOf (g7.1 (g7.2.1 a 0) (g7.1 a 7).toNatClampNeg) g7) (fun v10 g11 => zl (zsi g11 a 5 v10) (fun g12 => zl (zsi g12 a 7 ((g12.1 a 7) + 1)) (fun g13 => zk (zw zN (fun s => l_X4_nextToken_90 a s) g13) (fun x => j_X4_nextToken_149 a x)))))) else (zl (zsi g7 a 5 0) (fun g22 => some ((1, g22)))))
def l_X4_nextToken_0 (a : Nat)  (g : zG) : Option ((zG) ⊕ (zG)) :=
  if (g.1 a 1) ≤ (g.1 a 7) then (some (.inr g)) else (zc (zin (g.1 a 7) 240) (if (g.1 (g.2.1 a 0) (g.1 a 7).toNatClampNeg) = 32 then (zl (zsi g a 7 ((g.1 a 7) + 1)) (fun g26 => some (.inl g26))) else (some (.inr g))))
def f_X4_nextToken (a : Nat) (g : zG) : Option (Int32 × zG) :=
  zk (zw zN (fun s => l_X4_nextToken_0 a s) g) (fun x => j_X4_nextToken_38 a x)
abbrev rm_X4_nextToken : Room := { frames := 1, cells := 0, slots := 0, locals := 22 }
set_option maxRecDepth 100000 in
set_option maxHeartbeats 4000000 in
theorem c_X4_nextToken (l : Launch) (D : zD) (sz : Nat) (τ : zT) (g : zG) (a : Nat) (hta : τ a = some (.inr 4)) : zCon l D yX4_nextToken cX4_nextToken 1 (some .boolean) rm_X4_nextToken 0 0 zrI [.ref a] sz τ g τ (f_X4_nextToken a g) := by
  refine zCon.of (by decide) (Nat.le_of_ble_eq_true rfl) (fun E r g' hl hR hsz hnm F => ?_)
  have F : zF E D (zA τ sz) cX4_nextToken "TypeChain$Reader" 1 (some .boolean) := F
  show zSim (fun q : Int32 × zG => q = (r, g')) (f_X4_nextToken a g) (zAt E D (zA τ sz) (zQ E D zrI 0 0 sz τ τ r g') 1 (sz, τ, 0, 0) g 0 [(0, .ref a)] [])
  have hj_X4_nextToken_178 : ∀  (g_178 : zG), zSim (fun q : Int32 × zG => q = (r, g')) (j_X4_nextToken_178 a g_178) (zAt E D (zA τ sz) (zQ E D zrI 0 0 sz τ τ r g') 1 (sz, τ, 0, 0) g_178 178 [(0, .ref a)] []) := by
    intro g_178
    unfold j_X4_nextToken_178
    refine z_aload_n F 0 rfl rfl dX4_nextToken_178 ?_
    refine z_iconst (v := 1) F (by decide) dX4_nextToken_179 ?_
    refine z_aload_n F 0 rfl rfl dX4_nextToken_180 ?_
    refine gf_X4_70 F hta dX4_nextToken_181 ?_
    refine k_X4_fail F (by rw [hR]; exact ⟨by decide, by decide⟩) q_446 hta ⟨Nat.zero_le _, Nat.zero_le _⟩ (Nat.le_of_ble_eq_true rfl) dX4_nextToken_184 (fun v1 g2 => ?_)
    exact z_zc (fun c3 => z_zreturn F (znar01 c3) rfl rfl rfl rfl (fun h => h) dX4_nextToken_187)
  have hj_X4_nextToken_149 : ∀  (g_149 : zG), zSim (fun q : Int32 × zG => q = (r, g')) (j_X4_nextToken_149 a g_149) (zAt E D (zA τ sz) (zQ E D zrI 0 0 sz τ τ r g') 1 (sz, τ, 0, 0) g_149 149 [(0, .ref a)] []) := by
    intro g_149
    unfold j_X4_nextToken_149
    refine z_aload_n F 0 rfl rfl dX4_nextToken_149 ?_
    refine gf_X4_53 F hta dX4_nextToken_150 ?_
    refine z_iconst (v := 3) F (by decide) dX4_nextToken_153 ?_
    refine z_icmp_eq (tgt := 178) F dX4_nextToken_154 (by decide) (fun c4 => ?_) (fun c4 => ?_)
    · exact hj_X4_nextToken_178 g_149
    · refine z_aload_n F 0 rfl rfl dX4_nextToken_157 ?_
      refine gf_X4_53 F hta dX4_nextToken_158 ?_
      refine z_iconst (v := 2) F (by decide) dX4_nextToken_161 ?_
      refine z_icmp_ne (tgt := 188) F dX4_nextToken_162 (by decide) (fun c5 => ?_) (fun c5 => ?_)
      · refine z_aload_n F 0 rfl rfl dX4_nextToken_165 ?_
        refine gf_X4_37 F hta dX4_nextToken_166 ?_
        refine z_aload_n F 0 rfl rfl dX4_nextToken_169 ?_
        refine gf_X4_70 F hta dX4_nextToken_170 ?_
        refine z_isub F dX4_nextToken_173 ?_
        refine z_iconst (v := 2) F (by decide) dX4_nextToken_174 ?_
        refine z_icmp_le (tgt := 188) F dX4_nextToken_175 (by decide) (fun c6 => ?_) (fun c6 => ?_)
        · refine z_iconst (v := 1) F (by decide) dX4_nextToken_188 ?_
          exact z_zreturn F rfl rfl rfl rfl rfl (fun h => h) dX4_nextToken_189
        · exact hj_X4_nextToken_178 g_149
      · refine z_iconst (v := 1) F (by decide) dX4_nextToken_188 ?_
        exact z_zreturn F rfl rfl rfl rfl rfl (fun h => h) dX4_nextToken_189
  have hj_X4_nextToken_38 : ∀  (g_38 : zG), zSim (fun q : Int32 × zG => q = (r, g')) (j_X4_nextToken_38 a g_38) (zAt E D (zA τ sz) (zQ E D zrI 0 0 sz τ τ r g') 1 (sz, τ, 0, 0) g_38 38 [(0, .ref a)] []) := by
    intro g_38
    unfold j_X4_nextToken_38
    refine z_aload_n F 0 rfl rfl dX4_nextToken_38 ?_
    refine z_aload_n F 0 rfl rfl dX4_nextToken_39 ?_
    refine gf_X4_37 F hta dX4_nextToken_40 ?_
    refine pf_X4_70 F hta dX4_nextToken_43 ?_
    refine z_letg (fun g7 => ?_)
    refine z_aload_n F 0 rfl rfl dX4_nextToken_46 ?_
    refine gf_X4_37 F hta dX4_nextToken_47 ?_
    refine z_aload_n F 0 rfl rfl dX4_nextToken_50 ?_
    refine gf_X4_25 F hta dX4_nextToken_51 ?_
    refine z_icmp_lt (tgt := 64) F dX4_nextToken_54 (by decide) (fun c8 => ?_) (fun c8 => ?_)
    · refine z_aload_n F 0 rfl rfl dX4_nextToken_64 ?_
      refine z_aload_n F 0 rfl rfl dX4_nextToken_65 ?_
      refine gf_X4_9 F hta dX4_nextToken_66 (fun ht9 => ?_)
      refine z_aload_n F 0 rfl rfl dX4_nextToken_69 ?_
      refine gf_X4_37 F hta dX4_nextToken_70 ?_
      refine z_bald F ht9 dX4_nextToken_73 ?_
      refine k_X4_kindOf F (by rw [hR]; exact ⟨by decide, by decide⟩) q_443  ⟨Nat.zero_le _, Nat.zero_le _⟩ (Nat.le_of_ble_eq_true rfl) dX4_nextToken_74 (fun v10 g11 => ?_)
      refine pf_X4_53 F hta dX4_nextToken_77 ?_
      refine z_letg (fun g12 => ?_)
      refine z_aload_n F 0 rfl rfl dX4_nextToken_80 ?_
      refine z_dup F rfl dX4_nextToken_81 ?_
      refine gf_X4_37 F hta dX4_nextToken_82 ?_
      refine z_iconst (v := 1) F (by decide) dX4_nextToken_85 ?_
      refine z_iadd F dX4_nextToken_86 ?_
      refine pf_X4_37 F hta dX4_nextToken_87 ?_
      refine z_letg (fun g13 => ?_)
      refine z_loop (P := fun s : zG => zAt E D (zA τ sz) (zQ E D zrI 0 0 sz τ τ r g') 1 (sz, τ, 0, 0) s 90 [(0, .ref a)] []) (Px := fun x : zG => zAt E D (zA τ sz) (zQ E D zrI 0 0 sz τ τ r g') 1 (sz, τ, 0, 0) x 149 [(0, .ref a)] []) g13 (fun s => ?_) (fun x => ?_)
      · generalize s = g_90
        show zSim (zKl (fun s : zG => zAt E D (zA τ sz) (zQ E D zrI 0 0 sz τ τ r g') 1 (sz, τ, 0, 0) s 90 [(0, .ref a)] []) (fun x : zG => zAt E D (zA τ sz) (zQ E D zrI 0 0 sz τ τ r g') 1 (sz, τ, 0, 0) x 149 [(0, .ref a)] [])) (l_X4_nextToken_90 a g_90) (zAt E D (zA τ sz) (zQ E D zrI 0 0 sz τ τ r g') 1 (sz, τ, 0, 0) g_90 90 [(0, .ref a)] [])
        have hj_X4_nextToken_106_90 : ∀  (g_106 : zG), zSim (zKl (fun s : zG => zAt E D (zA τ sz) (zQ E D zrI 0 0 sz τ τ r g') 1 (sz, τ, 0, 0) s 90 [(0, .ref a)] []) (fun x : zG => zAt E D (zA τ sz) (zQ E D zrI 0 0 sz τ τ r g') 1 (sz, τ, 0, 0) x 149 [(0, .ref a)] [])) (j_X4_nextToken_106_90 a g_106) (zAt E D (zA τ sz) (zQ E D zrI 0 0 sz τ τ r g') 1 (sz, τ, 0, 0) g_106 106 [(0, .ref a)] []) := by
          intro g_106
          unfold j_X4_nextToken_106_90
          refine z_aload_n F 0 rfl rfl dX4_nextToken_106 ?_
          refine gf_X4_37 F hta dX4_nextToken_107 ?_
          refine z_aload_n F 0 rfl rfl dX4_nextToken_110 ?_
          refine gf_X4_25 F hta dX4_nextToken_111 ?_
          refine z_icmp_ge (tgt := 149) F dX4_nextToken_114 (by decide) (fun c14 => ?_) (fun c14 => ?_)
          · exact z_back (fun h => h)
          · refine z_aload_n F 0 rfl rfl dX4_nextToken_117 ?_
            refine gf_X4_9 F hta dX4_nextToken_118 (fun ht15 => ?_)
            refine z_aload_n F 0 rfl rfl dX4_nextToken_121 ?_
            refine gf_X4_37 F hta dX4_nextToken_122 ?_
            refine z_bald F ht15 dX4_nextToken_125 ?_
            refine k_X4_kindOf F (by rw [hR]; exact ⟨by decide, by decide⟩) q_443  ⟨Nat.zero_le _, Nat.zero_le _⟩ (Nat.le_of_ble_eq_true rfl) dX4_nextToken_126 (fun v16 g17 => ?_)
            refine z_aload_n F 0 rfl rfl dX4_nextToken_129 ?_
            refine gf_X4_53 F hta dX4_nextToken_130 ?_
            refine z_icmp_ne (tgt := 149) F dX4_nextToken_133 (by decide) (fun c18 => ?_) (fun c18 => ?_)
            · refine z_aload_n F 0 rfl rfl dX4_nextToken_136 ?_
              refine z_dup F rfl dX4_nextToken_137 ?_
              refine gf_X4_37 F hta dX4_nextToken_138 ?_
              refine z_iconst (v := 1) F (by decide) dX4_nextToken_141 ?_
              refine z_iadd F dX4_nextToken_142 ?_
              refine pf_X4_37 F hta dX4_nextToken_143 ?_
              refine z_letg (fun g19 => ?_)
              refine z_goto (tgt := 90) F dX4_nextToken_146 (by decide) ?_
              exact z_back (fun h => h)
            · exact z_back (fun h => h)
        unfold l_X4_nextToken_90
        refine z_aload_n F 0 rfl rfl dX4_nextToken_90 ?_
        refine gf_X4_53 F hta dX4_nextToken_91 ?_
        refine z_iconst (v := 1) F (by decide) dX4_nextToken_94 ?_
        refine z_icmp_eq (tgt := 106) F dX4_nextToken_95 (by decide) (fun c20 => ?_) (fun c20 => ?_)
        · exact hj_X4_nextToken_106_90 g_90
        · refine z_aload_n F 0 rfl rfl dX4_nextToken_98 ?_
          refine gf_X4_53 F hta dX4_nextToken_99 ?_
          refine z_iconst (v := 2) F (by decide) dX4_nextToken_102 ?_
          refine z_icmp_ne (tgt := 149) F dX4_nextToken_103 (by decide) (fun c21 => ?_) (fun c21 => ?_)
          · exact hj_X4_nextToken_106_90 g_90
          · exact z_back (fun h => h)
      · show zSim (fun q : Int32 × zG => q = (r, g')) (j_X4_nextToken_149 a x) (zAt E D (zA τ sz) (zQ E D zrI 0 0 sz τ τ r g') 1 (sz, τ, 0, 0) x 149 [(0, .ref a)] [])
        exact hj_X4_nextToken_149 x
    · refine z_aload_n F 0 rfl rfl dX4_nextToken_57 ?_
      refine z_iconst (v := 0) F (by decide) dX4_nextToken_58 ?_
      refine pf_X4_53 F hta dX4_nextToken_59 ?_
      refine z_letg (fun g22 => ?_)
      refine z_iconst (v := 1) F (by decide) dX4_nextToken_62 ?_
      exact z_zreturn F rfl rfl rfl rfl rfl (fun h => h) dX4_nextToken_63
  unfold f_X4_nextToken
  refine z_loop (P := fun s : zG => zAt E D (zA τ sz) (zQ E D zrI 0 0 sz τ τ r g') 1 (sz, τ, 0, 0) s 0 [(0, .ref a)] []) (Px := fun x : zG => zAt E D (zA τ sz) (zQ E D zrI 0 0 sz τ τ r g') 1 (sz, τ, 0, 0) x 38 [(0, .ref a)] []) g (fun s => ?_) (fun x => ?_)
  · generalize s = g_0
    show zSim (zKl (fun s : zG => zAt E D (zA τ sz) (zQ E D zrI 0 0 sz τ τ r g') 1 (sz, τ, 0, 0) s 0 [(0, .ref a)] []) (fun x : zG => zAt E D (zA τ sz) (zQ E D zrI 0 0 sz τ τ r g') 1 (sz, τ, 0, 0) x 38 [(0, .ref a)] [])) (l_X4_nextToken_0 a g_0) (zAt E D (zA τ sz) (zQ E D zrI 0 0 sz τ τ r g') 1 (sz, τ, 0, 0) g_0 0 [(0, .ref a)] [])
    unfold l_X4_nextToken_0
    refine z_aload_n F 0 rfl rfl dX4_nextToken_0 ?_
    refine gf_X4_37 F hta dX4_nextToken_1 ?_
    refine z_aload_n F 0 rfl rfl dX4_nextToken_4 ?_
    refine gf_X4_25 F hta dX4_nextToken_5 ?_
    refine z_icmp_ge (tgt := 38) F dX4_nextToken_8 (by decide) (fun c23 => ?_) (fun c23 => ?_)
    · exact z_back (fun h => h)
    · refine z_aload_n F 0 rfl rfl dX4_nextToken_11 ?_
      refine gf_X4_9 F hta dX4_nextToken_12 (fun ht24 => ?_)
      refine z_aload_n F 0 rfl rfl dX4_nextToken_15 ?_
      refine gf_X4_37 F hta dX4_nextToken_16 ?_
      refine z_bald F ht24 dX4_nextToken_19 ?_
      refine z_bipush (v := 32) F (by decide) dX4_nextToken_20 ?_
      refine z_icmp_ne (tgt := 38) F dX4_nextToken_22 (by decide) (fun c25 => ?_) (fun c25 => ?_)
      · refine z_aload_n F 0 rfl rfl dX4_nextToken_25 ?_
        refine z_dup F rfl dX4_nextToken_26 ?_
        refine gf_X4_37 F hta dX4_nextToken_27 ?_
        refine z_iconst (v := 1) F (by decide) dX4_nextToken_30 ?_
        refine z_iadd F dX4_nextToken_31 ?_
        refine pf_X4_37 F hta dX4_nextToken_32 ?_
        refine z_letg (fun g26 => ?_)
        refine z_goto (tgt := 0) F dX4_nextToken_35 (by decide) ?_
        exact z_back (fun h => h)
      · exact z_back (fun h => h)
  · show zSim (fun q : Int32 × zG => q = (r, g')) (j_X4_nextToken_38 a x) (zAt E D (zA τ sz) (zQ E D zrI 0 0 sz τ τ r g') 1 (sz, τ, 0, 0) x 38 [(0, .ref a)] [])
    exact hj_X4_nextToken_38 x
theorem k_X4_nextToken {ρ : Type} {K : ρ → Prop} {E : zE} {D : zD} {A : Nat → Prop} {Q : State → Prop} {nL : Nat} {κ : zC} {g : zG} {pc : Nat} {lv : List (Nat × Value)} {st : List Value} {cc : ByteArray} {own : String} {ret : Option FieldType} (F : zF E D A cc own nL ret) {index : Nat} {h : Int32 → zG → Option ρ} {a : Nat}  (hR : 1 + 1 ≤ E.2.2.2.1.frames ∧ 8 + (1 + 11) + 22 ≤ E.2.2.2.1.locals) (hl : zTbl (.methodLink own index yX4_nextToken)) (hta : κ.2.1 a = some (.inr 4)) (hc : κ.2.2.1 ≤ E.2.2.2.1.cells ∧ κ.2.2.2 ≤ E.2.2.2.1.slots) (hW : (st.map fun v => v.category).sum ≤ 8) (hd : decode cc pc = .ok (.invokevirtual index, 3)) (kk : ∀ r g', zSim K (h r g') (zAt E D A Q nL κ g' (pc + 3) lv (.int r :: st))) : zSim K (zb (f_X4_nextToken a g) h) (zAt E D A Q nL κ g pc lv (.ref a :: st)) :=
  z_callV F (n := 0) (As := []) (C := (RX4, TX4, 14)) ⟨q_442, q_8, by decide +kernel, rfl, rfl, hR.1, hR.2⟩ (c_X4_nextToken E.2.1 D κ.1 κ.2.1 g a hta) hl q_441 q_1364 hta rfl rfl rfl hc hW hd kk _ rfl
theorem dX4_wordOfToken_0 : decode cX4_wordOfToken 0 = .ok (.aload_n 0, 1) := by decide +kernel
theorem dX4_wordOfToken_1 : decode cX4_wordOfToken 1 = .ok (.getfield 37, 3) := by decide +kernel
theorem dX4_wordOfToken_4 : decode cX4_wordOfToken 4 = .ok (.aload_n 0, 1) := by decide +kernel
theorem dX4_wordOfToken_5 : decode cX4_wordOfToken 5 = .ok (.getfield 70, 3) := by decide +kernel
theorem dX4_wordOfToken_8 : decode cX4_wordOfToken 8 = .ok (.isub, 1) := by decide +kernel
theorem dX4_wordOfToken_9 : decode cX4_wordOfToken 9 = .ok (.istore_n 1, 1) := by decide +kernel
theorem dX4_wordOfToken_10 : decode cX4_wordOfToken 10 = .ok (.aload_n 0, 1) := by decide +kernel
theorem dX4_wordOfToken_11 : decode cX4_wordOfToken 11 = .ok (.getfield 53, 3) := by decide +kernel
theorem dX4_wordOfToken_14 : decode cX4_wordOfToken 14 = .ok (.iconst 1, 1) := by decide +kernel
theorem dX4_wordOfToken_15 : decode cX4_wordOfToken 15 = .ok (.if_icmp .ne 9, 3) := by decide +kernel
theorem dX4_wordOfToken_18 : decode cX4_wordOfToken 18 = .ok (.iload_n 1, 1) := by decide +kernel
theorem dX4_wordOfToken_19 : decode cX4_wordOfToken 19 = .ok (.bipush 7, 2) := by decide +kernel
theorem dX4_wordOfToken_21 : decode cX4_wordOfToken 21 = .ok (.if_icmp .le 6, 3) := by decide +kernel
theorem dX4_wordOfToken_24 : decode cX4_wordOfToken 24 = .ok (.bipush (-4), 2) := by decide +kernel
theorem dX4_wordOfToken_26 : decode cX4_wordOfToken 26 = .ok (.ireturn, 1) := by decide +kernel
theorem dX4_wordOfToken_27 : decode cX4_wordOfToken 27 = .ok (.iconst 0, 1) := by decide +kernel
theorem dX4_wordOfToken_28 : decode cX4_wordOfToken 28 = .ok (.istore_n 2, 1) := by decide +kernel
theorem dX4_wordOfToken_29 : decode cX4_wordOfToken 29 = .ok (.iload_n 2, 1) := by decide +kernel
theorem dX4_wordOfToken_30 : decode cX4_wordOfToken 30 = .ok (.bipush 13, 2) := by decide +kernel
theorem dX4_wordOfToken_32 : decode cX4_wordOfToken 32 = .ok (.if_icmp .ge 20, 3) := by decide +kernel
theorem dX4_wordOfToken_35 : decode cX4_wordOfToken 35 = .ok (.aload_n 0, 1) := by decide +kernel
theorem dX4_wordOfToken_36 : decode cX4_wordOfToken 36 = .ok (.iload_n 2, 1) := by decide +kernel
theorem dX4_wordOfToken_37 : decode cX4_wordOfToken 37 = .ok (.iload_n 1, 1) := by decide +kernel
theorem dX4_wordOfToken_38 : decode cX4_wordOfToken 38 = .ok (.invokevirtual 153, 3) := by decide +kernel
theorem dX4_wordOfToken_41 : decode cX4_wordOfToken 41 = .ok (.ifCond .eq 5, 3) := by decide +kernel
theorem dX4_wordOfToken_44 : decode cX4_wordOfToken 44 = .ok (.iload_n 2, 1) := by decide +kernel
theorem dX4_wordOfToken_45 : decode cX4_wordOfToken 45 = .ok (.ireturn, 1) := by decide +kernel
theorem dX4_wordOfToken_46 : decode cX4_wordOfToken 46 = .ok (.iinc 2 1, 3) := by decide +kernel
theorem dX4_wordOfToken_49 : decode cX4_wordOfToken 49 = .ok (.goto (-20), 3) := by decide +kernel
theorem dX4_wordOfToken_52 : decode cX4_wordOfToken 52 = .ok (.bipush (-4), 2) := by decide +kernel
theorem dX4_wordOfToken_54 : decode cX4_wordOfToken 54 = .ok (.ireturn, 1) := by decide +kernel
def j_X4_wordOfToken_44 (a : Nat) (l2 : Int32) (g : zG) : Option (Int32 × zG) :=
  some ((l2, g))
def l_X4_wordOfToken_29 (a : Nat) (l1 : Int32) (l2 : Int32) (g : zG) : Option ((Int32 × zG) ⊕ ((Int32 × zG) ⊕ (Int32 × zG))) :=
  if 13 ≤ l2 then (some (.inr (.inr ((-4), g)))) else (zb (f_X4_isWord a l2 l1 g) (fun v5 g6 => if v5 = 0 then (zl (l2 + 1) (fun v8 => some (.inl (v8, g6)))) else (some (.inr (.inl (l2, g6))))))
def f_X4_wordOfToken (a : Nat) (g : zG) : Option (Int32 × zG) :=
  zl ((g.1 a 7) - (g.1 a 6)) (fun v1 => if (g.1 a 5) = 1 then (if v1 ≤ 7 then (zk2 (zw zN (fun s => l_X4_wordOfToken_29 a v1 s.1 s.2) (0, g)) (fun x => j_X4_wordOfToken_44 a x.1 x.2)) else (some (((-4), g)))) else (some (((-4), g))))
abbrev rm_X4_wordOfToken : Room := { frames := 5, cells := 0, slots := 0, locals := 109 }
set_option maxRecDepth 100000 in
set_option maxHeartbeats 4000000 in
theorem c_X4_wordOfToken (l : Launch) (D : zD) (sz : Nat) (τ : zT) (g : zG) (a : Nat) (hta : τ a = some (.inr 4)) : zCon l D yX4_wordOfToken cX4_wordOfToken 3 (some .int) rm_X4_wordOfToken 0 0 zrI [.ref a] sz τ g τ (f_X4_wordOfToken a g) := by
  refine zCon.of (by decide) (Nat.le_of_ble_eq_true rfl) (fun E r g' hl hR hsz hnm F => ?_)
  have F : zF E D (zA τ sz) cX4_wordOfToken "TypeChain$Reader" 3 (some .int) := F
  show zSim (fun q : Int32 × zG => q = (r, g')) (f_X4_wordOfToken a g) (zAt E D (zA τ sz) (zQ E D zrI 0 0 sz τ τ r g') 3 (sz, τ, 0, 0) g 0 [(0, .ref a)] [])
  have hj_X4_wordOfToken_44 : ∀ (l2_44 : Int32) (g_44 : zG), zSim (fun q : Int32 × zG => q = (r, g')) (j_X4_wordOfToken_44 a l2_44 g_44) (zAt E D (zA τ sz) (zQ E D zrI 0 0 sz τ τ r g') 3 (sz, τ, 0, 0) g_44 44 [(2, .int l2_44)] []) := by
    intro l2_44 g_44
    unfold j_X4_wordOfToken_44
    refine z_iload_n F 0 rfl rfl dX4_wordOfToken_44 ?_
    exact z_ireturn F rfl rfl rfl rfl (fun h => h) dX4_wordOfToken_45
  unfold f_X4_wordOfToken
  refine z_aload_n F 0 rfl rfl dX4_wordOfToken_0 ?_
  refine gf_X4_37 F hta dX4_wordOfToken_1 ?_
  refine z_aload_n F 0 rfl rfl dX4_wordOfToken_4 ?_
  refine gf_X4_70 F hta dX4_wordOfToken_5 ?_
  refine z_isub F dX4_wordOfToken_8 ?_
  refine z_leti (fun v1 => ?_)
  refine z_istore_n (lv' := [(1, .int v1), (0, .ref a)]) F rfl (by decide) dX4_wordOfToken_9 rfl ?_
  refine z_aload_n F 1 rfl rfl dX4_wordOfToken_10 ?_
  refine gf_X4_53 F hta dX4_wordOfToken_11 ?_
  refine z_iconst (v := 1) F (by decide) dX4_wordOfToken_14 ?_
  refine z_icmp_ne (tgt := 24) F dX4_wordOfToken_15 (by decide) (fun c2 => ?_) (fun c2 => ?_)
  · refine z_iload_n F 0 rfl rfl dX4_wordOfToken_18 ?_
    refine z_bipush (v := 7) F (by decide) dX4_wordOfToken_19 ?_
    refine z_icmp_le (tgt := 27) F dX4_wordOfToken_21 (by decide) (fun c3 => ?_) (fun c3 => ?_)
    · refine z_iconst (v := 0) F (by decide) dX4_wordOfToken_27 ?_
      refine z_istore_n (lv' := [(2, .int 0), (1, .int v1), (0, .ref a)]) F rfl (by decide) dX4_wordOfToken_28 rfl ?_
      refine z_sub (lv' := [(0, .ref a), (1, .int v1), (2, .int 0)]) [2, 1, 0] rfl ?_
      refine z_loop2 (P := fun s : Int32 × zG => zAt E D (zA τ sz) (zQ E D zrI 0 0 sz τ τ r g') 3 (sz, τ, 0, 0) s.2 29 [(0, .ref a), (1, .int v1), (2, .int s.1)] []) (Px := fun x : Int32 × zG => zAt E D (zA τ sz) (zQ E D zrI 0 0 sz τ τ r g') 3 (sz, τ, 0, 0) x.2 44 [(2, .int x.1)] []) (0, g) (fun s => ?_) (fun x => ?_)
      · obtain ⟨l2_29, g_29⟩ := s
        show zSim (zKl (fun s : Int32 × zG => zAt E D (zA τ sz) (zQ E D zrI 0 0 sz τ τ r g') 3 (sz, τ, 0, 0) s.2 29 [(0, .ref a), (1, .int v1), (2, .int s.1)] []) (zKl (fun x : Int32 × zG => zAt E D (zA τ sz) (zQ E D zrI 0 0 sz τ τ r g') 3 (sz, τ, 0, 0) x.2 44 [(2, .int x.1)] []) (fun q : Int32 × zG => q = (r, g')))) (l_X4_wordOfToken_29 a v1 l2_29 g_29) (zAt E D (zA τ sz) (zQ E D zrI 0 0 sz τ τ r g') 3 (sz, τ, 0, 0) g_29 29 [(0, .ref a), (1, .int v1), (2, .int l2_29)] [])
        unfold l_X4_wordOfToken_29
        refine z_iload_n F 2 rfl rfl dX4_wordOfToken_29 ?_
        refine z_bipush (v := 13) F (by decide) dX4_wordOfToken_30 ?_
        refine z_icmp_ge (tgt := 52) F dX4_wordOfToken_32 (by decide) (fun c4 => ?_) (fun c4 => ?_)
        · refine z_bipush (v := (-4)) F (by decide) dX4_wordOfToken_52 ?_
          exact z_ireturn F rfl rfl rfl rfl (fun h => h) dX4_wordOfToken_54
        · refine z_aload_n F 0 rfl rfl dX4_wordOfToken_35 ?_
          refine z_iload_n F 2 rfl rfl dX4_wordOfToken_36 ?_
          refine z_iload_n F 1 rfl rfl dX4_wordOfToken_37 ?_
          refine k_X4_isWord F (by rw [hR]; exact ⟨by decide, by decide⟩) q_463 hta ⟨Nat.zero_le _, Nat.zero_le _⟩ (Nat.le_of_ble_eq_true rfl) dX4_wordOfToken_38 (fun v5 g6 => ?_)
          refine z_if_eq (tgt := 46) F dX4_wordOfToken_41 (by decide) (fun c7 => ?_) (fun c7 => ?_)
          · refine z_iincl (lv' := fun v8 => [(2, .int v8), (0, .ref a), (1, .int v1)]) F 2 rfl (by decide) (by decide) dX4_wordOfToken_46 (fun _ => rfl) (fun v8 => ?_)
            refine z_goto (tgt := 29) F dX4_wordOfToken_49 (by decide) ?_
            refine z_sub (lv' := [(0, .ref a), (1, .int v1), (2, .int v8)]) [1, 2, 0] rfl ?_
            exact z_back (fun h => h)
          · refine z_sub (lv' := [(2, .int l2_29)]) [2] rfl ?_
            exact z_back (fun h => h)
      · show zSim (fun q : Int32 × zG => q = (r, g')) (j_X4_wordOfToken_44 a x.1 x.2) (zAt E D (zA τ sz) (zQ E D zrI 0 0 sz τ τ r g') 3 (sz, τ, 0, 0) x.2 44 [(2, .int x.1)] [])
        exact hj_X4_wordOfToken_44 x.1 x.2
    · refine z_bipush (v := (-4)) F (by decide) dX4_wordOfToken_24 ?_
      exact z_ireturn F rfl rfl rfl rfl (fun h => h) dX4_wordOfToken_26
  · refine z_bipush (v := (-4)) F (by decide) dX4_wordOfToken_24 ?_
    exact z_ireturn F rfl rfl rfl rfl (fun h => h) dX4_wordOfToken_26
theorem k_X4_wordOfToken {ρ : Type} {K : ρ → Prop} {E : zE} {D : zD} {A : Nat → Prop} {Q : State → Prop} {nL : Nat} {κ : zC} {g : zG} {pc : Nat} {lv : List (Nat × Value)} {st : List Value} {cc : ByteArray} {own : String} {ret : Option FieldType} (F : zF E D A cc own nL ret) {index : Nat} {h : Int32 → zG → Option ρ} {a : Nat}  (hR : 5 + 1 ≤ E.2.2.2.1.frames ∧ 8 + (3 + 11) + 109 ≤ E.2.2.2.1.locals) (hl : zTbl (.methodLink own index yX4_wordOfToken)) (hta : κ.2.1 a = some (.inr 4)) (hc : κ.2.2.1 ≤ E.2.2.2.1.cells ∧ κ.2.2.2 ≤ E.2.2.2.1.slots) (hW : (st.map fun v => v.category).sum ≤ 8) (hd : decode cc pc = .ok (.invokevirtual index, 3)) (kk : ∀ r g', zSim K (h r g') (zAt E D A Q nL κ g' (pc + 3) lv (.int r :: st))) : zSim K (zb (f_X4_wordOfToken a g) h) (zAt E D A Q nL κ g pc lv (.ref a :: st)) :=
  z_callV F (n := 0) (As := []) (C := (RX4, TX4, 14)) ⟨q_462, q_8, by decide +kernel, rfl, rfl, hR.1, hR.2⟩ (c_X4_wordOfToken E.2.1 D κ.1 κ.2.1 g a hta) hl q_461 q_1368 hta rfl rfl rfl hc hW hd kk _ rfl
theorem dX4_take_0 : decode cX4_take 0 = .ok (.aload_n 0, 1) := by decide +kernel
theorem dX4_take_1 : decode cX4_take 1 = .ok (.invokevirtual 49, 3) := by decide +kernel
theorem dX4_take_4 : decode cX4_take 4 = .ok (.ifCond .eq 27, 3) := by decide +kernel
theorem dX4_take_7 : decode cX4_take 7 = .ok (.aload_n 0, 1) := by decide +kernel
theorem dX4_take_8 : decode cX4_take 8 = .ok (.getfield 53, 3) := by decide +kernel
theorem dX4_take_11 : decode cX4_take 11 = .ok (.iload_n 1, 1) := by decide +kernel
theorem dX4_take_12 : decode cX4_take 12 = .ok (.if_icmp .eq 15, 3) := by decide +kernel
theorem dX4_take_15 : decode cX4_take 15 = .ok (.aload_n 0, 1) := by decide +kernel
theorem dX4_take_16 : decode cX4_take 16 = .ok (.iconst 2, 1) := by decide +kernel
theorem dX4_take_17 : decode cX4_take 17 = .ok (.aload_n 0, 1) := by decide +kernel
theorem dX4_take_18 : decode cX4_take 18 = .ok (.getfield 70, 3) := by decide +kernel
theorem dX4_take_21 : decode cX4_take 21 = .ok (.invokevirtual 73, 3) := by decide +kernel
theorem dX4_take_24 : decode cX4_take 24 = .ok (.ifCond .eq 7, 3) := by decide +kernel
theorem dX4_take_27 : decode cX4_take 27 = .ok (.iconst 1, 1) := by decide +kernel
theorem dX4_take_28 : decode cX4_take 28 = .ok (.goto 4, 3) := by decide +kernel
theorem dX4_take_31 : decode cX4_take 31 = .ok (.iconst 0, 1) := by decide +kernel
theorem dX4_take_32 : decode cX4_take 32 = .ok (.ireturn, 1) := by decide +kernel
def f_X4_take (a : Nat) (x1 : Int32) (g : zG) : Option (Int32 × zG) :=
  zb (f_X4_nextToken a g) (fun v1 g2 => if v1 = 0 then (some ((0, g2))) else (if (g2.1 a 5) = x1 then (some ((1, g2))) else (zb (f_X4_fail a 2 (g2.1 a 6) g2) (fun v5 g6 => if v5 = 0 then (some ((0, g6))) else (some ((1, g6)))))))
abbrev rm_X4_take : Room := { frames := 2, cells := 0, slots := 0, locals := 42 }
set_option maxRecDepth 100000 in
set_option maxHeartbeats 4000000 in
theorem c_X4_take (l : Launch) (D : zD) (sz : Nat) (τ : zT) (g : zG) (a : Nat) (x1 : Int32) (hta : τ a = some (.inr 4)) : zCon l D yX4_take cX4_take 2 (some .boolean) rm_X4_take 0 0 zrI [.ref a, .int x1] sz τ g τ (f_X4_take a x1 g) := by
  refine zCon.of (by decide) (Nat.le_of_ble_eq_true rfl) (fun E r g' hl hR hsz hnm F => ?_)
  have F : zF E D (zA τ sz) cX4_take "TypeChain$Reader" 2 (some .boolean) := F
  show zSim (fun q : Int32 × zG => q = (r, g')) (f_X4_take a x1 g) (zAt E D (zA τ sz) (zQ E D zrI 0 0 sz τ τ r g') 2 (sz, τ, 0, 0) g 0 [(0, .ref a), (1, .int x1)] [])
  unfold f_X4_take
  refine z_aload_n F 0 rfl rfl dX4_take_0 ?_
  refine k_X4_nextToken F (by rw [hR]; exact ⟨by decide, by decide⟩) q_439 hta ⟨Nat.zero_le _, Nat.zero_le _⟩ (Nat.le_of_ble_eq_true rfl) dX4_take_1 (fun v1 g2 => ?_)
  refine z_if_eq (tgt := 31) F dX4_take_4 (by decide) (fun c3 => ?_) (fun c3 => ?_)
  · refine z_iconst (v := 0) F (by decide) dX4_take_31 ?_
    exact z_zreturn F rfl rfl rfl rfl rfl (fun h => h) dX4_take_32
  · refine z_aload_n F 0 rfl rfl dX4_take_7 ?_
    refine gf_X4_53 F hta dX4_take_8 ?_
    refine z_iload_n F 1 rfl rfl dX4_take_11 ?_
    refine z_icmp_eq (tgt := 27) F dX4_take_12 (by decide) (fun c4 => ?_) (fun c4 => ?_)
    · refine z_iconst (v := 1) F (by decide) dX4_take_27 ?_
      refine z_goto (tgt := 32) F dX4_take_28 (by decide) ?_
      exact z_zreturn F rfl rfl rfl rfl rfl (fun h => h) dX4_take_32
    · refine z_aload_n F 0 rfl rfl dX4_take_15 ?_
      refine z_iconst (v := 2) F (by decide) dX4_take_16 ?_
      refine z_aload_n F 0 rfl rfl dX4_take_17 ?_
      refine gf_X4_70 F hta dX4_take_18 ?_
      refine k_X4_fail F (by rw [hR]; exact ⟨by decide, by decide⟩) q_446 hta ⟨Nat.zero_le _, Nat.zero_le _⟩ (Nat.le_of_ble_eq_true rfl) dX4_take_21 (fun v5 g6 => ?_)
      refine z_if_eq (tgt := 31) F dX4_take_24 (by decide) (fun c7 => ?_) (fun c7 => ?_)
      · refine z_iconst (v := 0) F (by decide) dX4_take_31 ?_
        exact z_zreturn F rfl rfl rfl rfl rfl (fun h => h) dX4_take_32
      · refine z_iconst (v := 1) F (by decide) dX4_take_27 ?_
        refine z_goto (tgt := 32) F dX4_take_28 (by decide) ?_
        exact z_zreturn F rfl rfl rfl rfl rfl (fun h => h) dX4_take_32
theorem k_X4_take {ρ : Type} {K : ρ → Prop} {E : zE} {D : zD} {A : Nat → Prop} {Q : State → Prop} {nL : Nat} {κ : zC} {g : zG} {pc : Nat} {lv : List (Nat × Value)} {st : List Value} {cc : ByteArray} {own : String} {ret : Option FieldType} (F : zF E D A cc own nL ret) {index : Nat} {h : Int32 → zG → Option ρ} {a : Nat} {x1 : Int32}  (hR : 2 + 1 ≤ E.2.2.2.1.frames ∧ 8 + (2 + 11) + 42 ≤ E.2.2.2.1.locals) (hl : zTbl (.methodLink own index yX4_take)) (hta : κ.2.1 a = some (.inr 4)) (hc : κ.2.2.1 ≤ E.2.2.2.1.cells ∧ κ.2.2.2 ≤ E.2.2.2.1.slots) (hW : (st.map fun v => v.category).sum ≤ 8) (hd : decode cc pc = .ok (.invokevirtual index, 3)) (kk : ∀ r g', zSim K (h r g') (zAt E D A Q nL κ g' (pc + 3) lv (.int r :: st))) : zSim K (zb (f_X4_take a x1 g) h) (zAt E D A Q nL κ g pc lv (.int x1 :: .ref a :: st)) :=
  z_callV F (n := 1) (As := [.int x1]) (C := (RX4, TX4, 14)) ⟨q_515, q_8, by decide +kernel, rfl, rfl, hR.1, hR.2⟩ (c_X4_take E.2.1 D κ.1 κ.2.1 g a x1 hta) hl q_514 q_1371 hta rfl rfl rfl hc hW hd kk _ rfl
theorem dX4_takeNumber_0 : decode cX4_takeNumber 0 = .ok (.aload_n 0, 1) := by decide +kernel
theorem dX4_takeNumber_1 : decode cX4_takeNumber 1 = .ok (.invokevirtual 49, 3) := by decide +kernel
theorem dX4_takeNumber_4 : decode cX4_takeNumber 4 = .ok (.ifCond .ne 5, 3) := by decide +kernel
theorem dX4_takeNumber_7 : decode cX4_takeNumber 7 = .ok (.iconst 0, 1) := by decide +kernel
theorem dX4_takeNumber_8 : decode cX4_takeNumber 8 = .ok (.ireturn, 1) := by decide +kernel
theorem dX4_takeNumber_9 : decode cX4_takeNumber 9 = .ok (.aload_n 0, 1) := by decide +kernel
theorem dX4_takeNumber_10 : decode cX4_takeNumber 10 = .ok (.getfield 53, 3) := by decide +kernel
theorem dX4_takeNumber_13 : decode cX4_takeNumber 13 = .ok (.iconst 2, 1) := by decide +kernel
theorem dX4_takeNumber_14 : decode cX4_takeNumber 14 = .ok (.if_icmp .eq 13, 3) := by decide +kernel
theorem dX4_takeNumber_17 : decode cX4_takeNumber 17 = .ok (.aload_n 0, 1) := by decide +kernel
theorem dX4_takeNumber_18 : decode cX4_takeNumber 18 = .ok (.iconst 2, 1) := by decide +kernel
theorem dX4_takeNumber_19 : decode cX4_takeNumber 19 = .ok (.aload_n 0, 1) := by decide +kernel
theorem dX4_takeNumber_20 : decode cX4_takeNumber 20 = .ok (.getfield 70, 3) := by decide +kernel
theorem dX4_takeNumber_23 : decode cX4_takeNumber 23 = .ok (.invokevirtual 73, 3) := by decide +kernel
theorem dX4_takeNumber_26 : decode cX4_takeNumber 26 = .ok (.ireturn, 1) := by decide +kernel
theorem dX4_takeNumber_27 : decode cX4_takeNumber 27 = .ok (.aload_n 0, 1) := by decide +kernel
theorem dX4_takeNumber_28 : decode cX4_takeNumber 28 = .ok (.iconst 0, 1) := by decide +kernel
theorem dX4_takeNumber_29 : decode cX4_takeNumber 29 = .ok (.putfield 129, 3) := by decide +kernel
theorem dX4_takeNumber_32 : decode cX4_takeNumber 32 = .ok (.aload_n 0, 1) := by decide +kernel
theorem dX4_takeNumber_33 : decode cX4_takeNumber 33 = .ok (.getfield 70, 3) := by decide +kernel
theorem dX4_takeNumber_36 : decode cX4_takeNumber 36 = .ok (.istore_n 3, 1) := by decide +kernel
theorem dX4_takeNumber_37 : decode cX4_takeNumber 37 = .ok (.iload_n 3, 1) := by decide +kernel
theorem dX4_takeNumber_38 : decode cX4_takeNumber 38 = .ok (.aload_n 0, 1) := by decide +kernel
theorem dX4_takeNumber_39 : decode cX4_takeNumber 39 = .ok (.getfield 37, 3) := by decide +kernel
theorem dX4_takeNumber_42 : decode cX4_takeNumber 42 = .ok (.if_icmp .ge 30, 3) := by decide +kernel
theorem dX4_takeNumber_45 : decode cX4_takeNumber 45 = .ok (.aload_n 0, 1) := by decide +kernel
theorem dX4_takeNumber_46 : decode cX4_takeNumber 46 = .ok (.aload_n 0, 1) := by decide +kernel
theorem dX4_takeNumber_47 : decode cX4_takeNumber 47 = .ok (.getfield 129, 3) := by decide +kernel
theorem dX4_takeNumber_50 : decode cX4_takeNumber 50 = .ok (.bipush 10, 2) := by decide +kernel
theorem dX4_takeNumber_52 : decode cX4_takeNumber 52 = .ok (.imul, 1) := by decide +kernel
theorem dX4_takeNumber_53 : decode cX4_takeNumber 53 = .ok (.aload_n 0, 1) := by decide +kernel
theorem dX4_takeNumber_54 : decode cX4_takeNumber 54 = .ok (.getfield 9, 3) := by decide +kernel
theorem dX4_takeNumber_57 : decode cX4_takeNumber 57 = .ok (.iload_n 3, 1) := by decide +kernel
theorem dX4_takeNumber_58 : decode cX4_takeNumber 58 = .ok (.baload, 1) := by decide +kernel
theorem dX4_takeNumber_59 : decode cX4_takeNumber 59 = .ok (.bipush 48, 2) := by decide +kernel
theorem dX4_takeNumber_61 : decode cX4_takeNumber 61 = .ok (.isub, 1) := by decide +kernel
theorem dX4_takeNumber_62 : decode cX4_takeNumber 62 = .ok (.iadd, 1) := by decide +kernel
theorem dX4_takeNumber_63 : decode cX4_takeNumber 63 = .ok (.putfield 129, 3) := by decide +kernel
theorem dX4_takeNumber_66 : decode cX4_takeNumber 66 = .ok (.iinc 3 1, 3) := by decide +kernel
theorem dX4_takeNumber_69 : decode cX4_takeNumber 69 = .ok (.goto (-32), 3) := by decide +kernel
theorem dX4_takeNumber_72 : decode cX4_takeNumber 72 = .ok (.aload_n 0, 1) := by decide +kernel
theorem dX4_takeNumber_73 : decode cX4_takeNumber 73 = .ok (.getfield 129, 3) := by decide +kernel
theorem dX4_takeNumber_76 : decode cX4_takeNumber 76 = .ok (.iload_n 1, 1) := by decide +kernel
theorem dX4_takeNumber_77 : decode cX4_takeNumber 77 = .ok (.if_icmp .lt 11, 3) := by decide +kernel
theorem dX4_takeNumber_80 : decode cX4_takeNumber 80 = .ok (.aload_n 0, 1) := by decide +kernel
theorem dX4_takeNumber_81 : decode cX4_takeNumber 81 = .ok (.getfield 129, 3) := by decide +kernel
theorem dX4_takeNumber_84 : decode cX4_takeNumber 84 = .ok (.iload_n 2, 1) := by decide +kernel
theorem dX4_takeNumber_85 : decode cX4_takeNumber 85 = .ok (.if_icmp .le 15, 3) := by decide +kernel
theorem dX4_takeNumber_88 : decode cX4_takeNumber 88 = .ok (.aload_n 0, 1) := by decide +kernel
theorem dX4_takeNumber_89 : decode cX4_takeNumber 89 = .ok (.iconst 3, 1) := by decide +kernel
theorem dX4_takeNumber_90 : decode cX4_takeNumber 90 = .ok (.aload_n 0, 1) := by decide +kernel
theorem dX4_takeNumber_91 : decode cX4_takeNumber 91 = .ok (.getfield 70, 3) := by decide +kernel
theorem dX4_takeNumber_94 : decode cX4_takeNumber 94 = .ok (.invokevirtual 73, 3) := by decide +kernel
theorem dX4_takeNumber_97 : decode cX4_takeNumber 97 = .ok (.ifCond .eq 7, 3) := by decide +kernel
theorem dX4_takeNumber_100 : decode cX4_takeNumber 100 = .ok (.iconst 1, 1) := by decide +kernel
theorem dX4_takeNumber_101 : decode cX4_takeNumber 101 = .ok (.goto 4, 3) := by decide +kernel
theorem dX4_takeNumber_104 : decode cX4_takeNumber 104 = .ok (.iconst 0, 1) := by decide +kernel
theorem dX4_takeNumber_105 : decode cX4_takeNumber 105 = .ok (.ireturn, 1) := by decide +kernel
def j_X4_takeNumber_88 (a : Nat)  (g : zG) : Option (Int32 × zG) :=
  zb (f_X4_fail a 3 (g.1 a 6) g) (fun v1 g2 => if v1 = 0 then (some ((0, g2))) else (some ((1, g2))))
def j_X4_takeNumber_72 (a : Nat) (l1 : Int32) (l2 : Int32) (g : zG) : Option (Int32 × zG) :=
  if (g.1 a 8) < l1 then (j_X4_takeNumber_88 a g) else (if (g.1 a 8) ≤ l2 then (some ((1, g))) else (j_X4_takeNumber_88 a g))
def l_X4_takeNumber_37 (a : Nat) (l1 : Int32) (l2 : Int32) (l3 : Int32) (g : zG) : Option ((Int32 × zG) ⊕ (zG)) :=
  if (g.1 a 7) ≤ l3 then (some (.inr g)) else (zc (zin l3 240) (zl (zsi g a 8 (((g.1 a 8) * 10) + ((g.1 (g.2.1 a 0) l3.toNatClampNeg) - 48))) (fun g14 => zl (l3 + 1) (fun v15 => some (.inl (v15, g14))))))
def f_X4_takeNumber (a : Nat) (x1 : Int32) (x2 : Int32) (g : zG) : Option (Int32 × zG) :=
  zb (f_X4_nextToken a g) (fun v6 g7 => if v6 = 0 then (some ((0, g7))) else (if (g7.1 a 5) = 2 then (zl (zsi g7 a 8 0) (fun g10 => zl (g10.1 a 6) (fun v11 => zk (zw zN (fun s => l_X4_takeNumber_37 a x1 x2 s.1 s.2) (v11, g10)) (fun x => j_X4_takeNumber_72 a x1 x2 x)))) else (zb (f_X4_fail a 2 (g7.1 a 6) g7) (fun v16 g17 => zc (v16 = 0 ∨ v16 = 1) (some ((v16, g17)))))))
abbrev rm_X4_takeNumber : Room := { frames := 2, cells := 0, slots := 0, locals := 42 }
set_option maxRecDepth 100000 in
set_option maxHeartbeats 4000000 in
theorem c_X4_takeNumber (l : Launch) (D : zD) (sz : Nat) (τ : zT) (g : zG) (a : Nat) (x1 : Int32) (x2 : Int32) (hta : τ a = some (.inr 4)) : zCon l D yX4_takeNumber cX4_takeNumber 4 (some .boolean) rm_X4_takeNumber 0 0 zrI [.ref a, .int x1, .int x2] sz τ g τ (f_X4_takeNumber a x1 x2 g) := by
  refine zCon.of (by decide) (Nat.le_of_ble_eq_true rfl) (fun E r g' hl hR hsz hnm F => ?_)
  have F : zF E D (zA τ sz) cX4_takeNumber "TypeChain$Reader" 4 (some .boolean) := F
  show zSim (fun q : Int32 × zG => q = (r, g')) (f_X4_takeNumber a x1 x2 g) (zAt E D (zA τ sz) (zQ E D zrI 0 0 sz τ τ r g') 4 (sz, τ, 0, 0) g 0 [(0, .ref a), (1, .int x1), (2, .int x2)] [])
  have hj_X4_takeNumber_88 : ∀  (g_88 : zG), zSim (fun q : Int32 × zG => q = (r, g')) (j_X4_takeNumber_88 a g_88) (zAt E D (zA τ sz) (zQ E D zrI 0 0 sz τ τ r g') 4 (sz, τ, 0, 0) g_88 88 [(0, .ref a)] []) := by
    intro g_88
    unfold j_X4_takeNumber_88
    refine z_aload_n F 0 rfl rfl dX4_takeNumber_88 ?_
    refine z_iconst (v := 3) F (by decide) dX4_takeNumber_89 ?_
    refine z_aload_n F 0 rfl rfl dX4_takeNumber_90 ?_
    refine gf_X4_70 F hta dX4_takeNumber_91 ?_
    refine k_X4_fail F (by rw [hR]; exact ⟨by decide, by decide⟩) q_446 hta ⟨Nat.zero_le _, Nat.zero_le _⟩ (Nat.le_of_ble_eq_true rfl) dX4_takeNumber_94 (fun v1 g2 => ?_)
    refine z_if_eq (tgt := 104) F dX4_takeNumber_97 (by decide) (fun c3 => ?_) (fun c3 => ?_)
    · refine z_iconst (v := 0) F (by decide) dX4_takeNumber_104 ?_
      exact z_zreturn F rfl rfl rfl rfl rfl (fun h => h) dX4_takeNumber_105
    · refine z_iconst (v := 1) F (by decide) dX4_takeNumber_100 ?_
      refine z_goto (tgt := 105) F dX4_takeNumber_101 (by decide) ?_
      exact z_zreturn F rfl rfl rfl rfl rfl (fun h => h) dX4_takeNumber_105
  have hj_X4_takeNumber_72 : ∀ (l1_72 : Int32) (l2_72 : Int32) (g_72 : zG), zSim (fun q : Int32 × zG => q = (r, g')) (j_X4_takeNumber_72 a l1_72 l2_72 g_72) (zAt E D (zA τ sz) (zQ E D zrI 0 0 sz τ τ r g') 4 (sz, τ, 0, 0) g_72 72 [(0, .ref a), (1, .int l1_72), (2, .int l2_72)] []) := by
    intro l1_72 l2_72 g_72
    unfold j_X4_takeNumber_72
    refine z_aload_n F 0 rfl rfl dX4_takeNumber_72 ?_
    refine gf_X4_129 F hta dX4_takeNumber_73 ?_
    refine z_iload_n F 1 rfl rfl dX4_takeNumber_76 ?_
    refine z_icmp_lt (tgt := 88) F dX4_takeNumber_77 (by decide) (fun c4 => ?_) (fun c4 => ?_)
    · refine z_sub (lv' := [(0, .ref a)]) [0] rfl ?_
      exact hj_X4_takeNumber_88 g_72
    · refine z_aload_n F 0 rfl rfl dX4_takeNumber_80 ?_
      refine gf_X4_129 F hta dX4_takeNumber_81 ?_
      refine z_iload_n F 2 rfl rfl dX4_takeNumber_84 ?_
      refine z_icmp_le (tgt := 100) F dX4_takeNumber_85 (by decide) (fun c5 => ?_) (fun c5 => ?_)
      · refine z_iconst (v := 1) F (by decide) dX4_takeNumber_100 ?_
        refine z_goto (tgt := 105) F dX4_takeNumber_101 (by decide) ?_
        exact z_zreturn F rfl rfl rfl rfl rfl (fun h => h) dX4_takeNumber_105
      · refine z_sub (lv' := [(0, .ref a)]) [0] rfl ?_
        exact hj_X4_takeNumber_88 g_72
  unfold f_X4_takeNumber
  refine z_aload_n F 0 rfl rfl dX4_takeNumber_0 ?_
  refine k_X4_nextToken F (by rw [hR]; exact ⟨by decide, by decide⟩) q_439 hta ⟨Nat.zero_le _, Nat.zero_le _⟩ (Nat.le_of_ble_eq_true rfl) dX4_takeNumber_1 (fun v6 g7 => ?_)
  refine z_if_ne (tgt := 9) F dX4_takeNumber_4 (by decide) (fun c8 => ?_) (fun c8 => ?_)
  · refine z_iconst (v := 0) F (by decide) dX4_takeNumber_7 ?_
    exact z_zreturn F rfl rfl rfl rfl rfl (fun h => h) dX4_takeNumber_8
  · refine z_aload_n F 0 rfl rfl dX4_takeNumber_9 ?_
    refine gf_X4_53 F hta dX4_takeNumber_10 ?_
    refine z_iconst (v := 2) F (by decide) dX4_takeNumber_13 ?_
    refine z_icmp_eq (tgt := 27) F dX4_takeNumber_14 (by decide) (fun c9 => ?_) (fun c9 => ?_)
    · refine z_aload_n F 0 rfl rfl dX4_takeNumber_27 ?_
      refine z_iconst (v := 0) F (by decide) dX4_takeNumber_28 ?_
      refine pf_X4_129 F hta dX4_takeNumber_29 ?_
      refine z_letg (fun g10 => ?_)
      refine z_aload_n F 0 rfl rfl dX4_takeNumber_32 ?_
      refine gf_X4_70 F hta dX4_takeNumber_33 ?_
      refine z_leti (fun v11 => ?_)
      refine z_istore_n (lv' := [(3, .int v11), (0, .ref a), (1, .int x1), (2, .int x2)]) F rfl (by decide) dX4_takeNumber_36 rfl ?_
      refine z_sub (lv' := [(0, .ref a), (1, .int x1), (2, .int x2), (3, .int v11)]) [1, 2, 3, 0] rfl ?_
      refine z_loop (P := fun s : Int32 × zG => zAt E D (zA τ sz) (zQ E D zrI 0 0 sz τ τ r g') 4 (sz, τ, 0, 0) s.2 37 [(0, .ref a), (1, .int x1), (2, .int x2), (3, .int s.1)] []) (Px := fun x : zG => zAt E D (zA τ sz) (zQ E D zrI 0 0 sz τ τ r g') 4 (sz, τ, 0, 0) x 72 [(0, .ref a), (1, .int x1), (2, .int x2)] []) (v11, g10) (fun s => ?_) (fun x => ?_)
      · obtain ⟨l3_37, g_37⟩ := s
        show zSim (zKl (fun s : Int32 × zG => zAt E D (zA τ sz) (zQ E D zrI 0 0 sz τ τ r g') 4 (sz, τ, 0, 0) s.2 37 [(0, .ref a), (1, .int x1), (2, .int x2), (3, .int s.1)] []) (fun x : zG => zAt E D (zA τ sz) (zQ E D zrI 0 0 sz τ τ r g') 4 (sz, τ, 0, 0) x 72 [(0, .ref a), (1, .int x1), (2, .int x2)] [])) (l_X4_takeNumber_37 a x1 x2 l3_37 g_37) (zAt E D (zA τ sz) (zQ E D zrI 0 0 sz τ τ r g') 4 (sz, τ, 0, 0) g_37 37 [(0, .ref a), (1, .int x1), (2, .int x2), (3, .int l3_37)] [])
        unfold l_X4_takeNumber_37
        refine z_iload_n F 3 rfl rfl dX4_takeNumber_37 ?_
        refine z_aload_n F 0 rfl rfl dX4_takeNumber_38 ?_
        refine gf_X4_37 F hta dX4_takeNumber_39 ?_
        refine z_icmp_ge (tgt := 72) F dX4_takeNumber_42 (by decide) (fun c12 => ?_) (fun c12 => ?_)
        · refine z_sub (lv' := [(0, .ref a), (1, .int x1), (2, .int x2)]) [0, 1, 2] rfl ?_
          exact z_back (fun h => h)
        · refine z_aload_n F 0 rfl rfl dX4_takeNumber_45 ?_
          refine z_aload_n F 0 rfl rfl dX4_takeNumber_46 ?_
          refine gf_X4_129 F hta dX4_takeNumber_47 ?_
          refine z_bipush (v := 10) F (by decide) dX4_takeNumber_50 ?_
          refine z_imul F dX4_takeNumber_52 ?_
          refine z_aload_n F 0 rfl rfl dX4_takeNumber_53 ?_
          refine gf_X4_9 F hta dX4_takeNumber_54 (fun ht13 => ?_)
          refine z_iload_n F 3 rfl rfl dX4_takeNumber_57 ?_
          refine z_bald F ht13 dX4_takeNumber_58 ?_
          refine z_bipush (v := 48) F (by decide) dX4_takeNumber_59 ?_
          refine z_isub F dX4_takeNumber_61 ?_
          refine z_iadd F dX4_takeNumber_62 ?_
          refine pf_X4_129 F hta dX4_takeNumber_63 ?_
          refine z_letg (fun g14 => ?_)
          refine z_iincl (lv' := fun v15 => [(3, .int v15), (0, .ref a), (1, .int x1), (2, .int x2)]) F 3 rfl (by decide) (by decide) dX4_takeNumber_66 (fun _ => rfl) (fun v15 => ?_)
          refine z_goto (tgt := 37) F dX4_takeNumber_69 (by decide) ?_
          refine z_sub (lv' := [(0, .ref a), (1, .int x1), (2, .int x2), (3, .int v15)]) [1, 2, 3, 0] rfl ?_
          exact z_back (fun h => h)
      · show zSim (fun q : Int32 × zG => q = (r, g')) (j_X4_takeNumber_72 a x1 x2 x) (zAt E D (zA τ sz) (zQ E D zrI 0 0 sz τ τ r g') 4 (sz, τ, 0, 0) x 72 [(0, .ref a), (1, .int x1), (2, .int x2)] [])
        exact hj_X4_takeNumber_72 x1 x2 x
    · refine z_aload_n F 0 rfl rfl dX4_takeNumber_17 ?_
      refine z_iconst (v := 2) F (by decide) dX4_takeNumber_18 ?_
      refine z_aload_n F 0 rfl rfl dX4_takeNumber_19 ?_
      refine gf_X4_70 F hta dX4_takeNumber_20 ?_
      refine k_X4_fail F (by rw [hR]; exact ⟨by decide, by decide⟩) q_446 hta ⟨Nat.zero_le _, Nat.zero_le _⟩ (Nat.le_of_ble_eq_true rfl) dX4_takeNumber_23 (fun v16 g17 => ?_)
      exact z_zc (fun c18 => z_zreturn F (znar01 c18) rfl rfl rfl rfl (fun h => h) dX4_takeNumber_26)
theorem k_X4_takeNumber {ρ : Type} {K : ρ → Prop} {E : zE} {D : zD} {A : Nat → Prop} {Q : State → Prop} {nL : Nat} {κ : zC} {g : zG} {pc : Nat} {lv : List (Nat × Value)} {st : List Value} {cc : ByteArray} {own : String} {ret : Option FieldType} (F : zF E D A cc own nL ret) {index : Nat} {h : Int32 → zG → Option ρ} {a : Nat} {x1 : Int32} {x2 : Int32}  (hR : 2 + 1 ≤ E.2.2.2.1.frames ∧ 8 + (4 + 11) + 42 ≤ E.2.2.2.1.locals) (hl : zTbl (.methodLink own index yX4_takeNumber)) (hta : κ.2.1 a = some (.inr 4)) (hc : κ.2.2.1 ≤ E.2.2.2.1.cells ∧ κ.2.2.2 ≤ E.2.2.2.1.slots) (hW : (st.map fun v => v.category).sum ≤ 8) (hd : decode cc pc = .ok (.invokevirtual index, 3)) (kk : ∀ r g', zSim K (h r g') (zAt E D A Q nL κ g' (pc + 3) lv (.int r :: st))) : zSim K (zb (f_X4_takeNumber a x1 x2 g) h) (zAt E D A Q nL κ g pc lv (.int x2 :: .int x1 :: .ref a :: st)) :=
  z_callV F (n := 2) (As := [.int x1, .int x2]) (C := (RX4, TX4, 14)) ⟨q_531, q_8, by decide +kernel, rfl, rfl, hR.1, hR.2⟩ (c_X4_takeNumber E.2.1 D κ.1 κ.2.1 g a x1 x2 hta) hl q_530 q_1374 hta rfl rfl rfl hc hW hd kk _ rfl
theorem dX4_readNumbered_0 : decode cX4_readNumbered 0 = .ok (.aload_n 0, 1) := by decide +kernel
theorem dX4_readNumbered_1 : decode cX4_readNumbered 1 = .ok (.getstatic 117, 3) := by decide +kernel
theorem dX4_readNumbered_4 : decode cX4_readNumbered 4 = .ok (.iload_n 1, 1) := by decide +kernel
theorem dX4_readNumbered_5 : decode cX4_readNumbered 5 = .ok (.iaload, 1) := by decide +kernel
theorem dX4_readNumbered_6 : decode cX4_readNumbered 6 = .ok (.getstatic 120, 3) := by decide +kernel
theorem dX4_readNumbered_9 : decode cX4_readNumbered 9 = .ok (.iload_n 1, 1) := by decide +kernel
theorem dX4_readNumbered_10 : decode cX4_readNumbered 10 = .ok (.iaload, 1) := by decide +kernel
theorem dX4_readNumbered_11 : decode cX4_readNumbered 11 = .ok (.invokevirtual 123, 3) := by decide +kernel
theorem dX4_readNumbered_14 : decode cX4_readNumbered 14 = .ok (.ifCond .ne 5, 3) := by decide +kernel
theorem dX4_readNumbered_17 : decode cX4_readNumbered 17 = .ok (.iconst 0, 1) := by decide +kernel
theorem dX4_readNumbered_18 : decode cX4_readNumbered 18 = .ok (.ireturn, 1) := by decide +kernel
theorem dX4_readNumbered_19 : decode cX4_readNumbered 19 = .ok (.iload_n 1, 1) := by decide +kernel
theorem dX4_readNumbered_20 : decode cX4_readNumbered 20 = .ok (.bipush 7, 2) := by decide +kernel
theorem dX4_readNumbered_22 : decode cX4_readNumbered 22 = .ok (.if_icmp .gt 16, 3) := by decide +kernel
theorem dX4_readNumbered_25 : decode cX4_readNumbered 25 = .ok (.aload_n 2, 1) := by decide +kernel
theorem dX4_readNumbered_26 : decode cX4_readNumbered 26 = .ok (.getfield 126, 3) := by decide +kernel
theorem dX4_readNumbered_29 : decode cX4_readNumbered 29 = .ok (.iload_n 1, 1) := by decide +kernel
theorem dX4_readNumbered_30 : decode cX4_readNumbered 30 = .ok (.aload_n 0, 1) := by decide +kernel
theorem dX4_readNumbered_31 : decode cX4_readNumbered 31 = .ok (.getfield 129, 3) := by decide +kernel
theorem dX4_readNumbered_34 : decode cX4_readNumbered 34 = .ok (.iastore, 1) := by decide +kernel
theorem dX4_readNumbered_35 : decode cX4_readNumbered 35 = .ok (.goto 16, 3) := by decide +kernel
theorem dX4_readNumbered_38 : decode cX4_readNumbered 38 = .ok (.aload_n 2, 1) := by decide +kernel
theorem dX4_readNumbered_39 : decode cX4_readNumbered 39 = .ok (.getfield 77, 3) := by decide +kernel
theorem dX4_readNumbered_42 : decode cX4_readNumbered 42 = .ok (.iload_n 1, 1) := by decide +kernel
theorem dX4_readNumbered_43 : decode cX4_readNumbered 43 = .ok (.aload_n 0, 1) := by decide +kernel
theorem dX4_readNumbered_44 : decode cX4_readNumbered 44 = .ok (.getfield 129, 3) := by decide +kernel
theorem dX4_readNumbered_47 : decode cX4_readNumbered 47 = .ok (.iconst 0, 1) := by decide +kernel
theorem dX4_readNumbered_48 : decode cX4_readNumbered 48 = .ok (.invokevirtual 105, 3) := by decide +kernel
theorem dX4_readNumbered_51 : decode cX4_readNumbered 51 = .ok (.iconst 1, 1) := by decide +kernel
theorem dX4_readNumbered_52 : decode cX4_readNumbered 52 = .ok (.ireturn, 1) := by decide +kernel
def f_X4_readNumbered (a : Nat) (x1 : Int32) (b2 : Nat) (g : zG) : Option (Int32 × zG) :=
  zc (zin x1 (zTabN 0)) (zc (zin x1 (zTabN 1)) (zb (f_X4_takeNumber a (zTabF 0 x1.toNatClampNeg) (zTabF 1 x1.toNatClampNeg) g) (fun v1 g2 => if v1 = 0 then (some ((0, g2))) else (if 7 < x1 then (zb (f_X3_addOrder (g2.2.1 b2 1) x1 (g2.1 a 8) 0 g2) (fun v6 g7 => some ((1, g7)))) else (zc (zin x1 8) (zl (zsi g2 (g2.2.1 b2 2) x1.toNatClampNeg (g2.1 a 8)) (fun g9 => some ((1, g9)))))))))
abbrev rm_X4_readNumbered : Room := { frames := 3, cells := 0, slots := 0, locals := 65 }
set_option maxRecDepth 100000 in
set_option maxHeartbeats 4000000 in
theorem c_X4_readNumbered (l : Launch) (D : zD) (sz : Nat) (τ : zT) (g : zG) (a : Nat) (x1 : Int32) (b2 : Nat) (hta : τ a = some (.inr 4)) (htb2 : τ b2 = some (.inr 5)) : zCon l D yX4_readNumbered cX4_readNumbered 3 (some .boolean) rm_X4_readNumbered 0 0 zrI [.ref a, .int x1, .ref b2] sz τ g τ (f_X4_readNumbered a x1 b2 g) := by
  refine zCon.of (by decide) (Nat.le_of_ble_eq_true rfl) (fun E r g' hl hR hsz hnm F => ?_)
  have F : zF E D (zA τ sz) cX4_readNumbered "TypeChain$Reader" 3 (some .boolean) := F
  show zSim (fun q : Int32 × zG => q = (r, g')) (f_X4_readNumbered a x1 b2 g) (zAt E D (zA τ sz) (zQ E D zrI 0 0 sz τ τ r g') 3 (sz, τ, 0, 0) g 0 [(0, .ref a), (1, .int x1), (2, .ref b2)] [])
  unfold f_X4_readNumbered
  refine z_aload_n F 0 rfl rfl dX4_readNumbered_0 ?_
  refine z_getsN F 0 (by decide) q_524 dX4_readNumbered_1 ?_
  refine z_iload_n F 1 rfl rfl dX4_readNumbered_4 ?_
  refine z_tald F 0 (by decide) dX4_readNumbered_5 ?_
  refine z_getsN F 1 (by decide) q_526 dX4_readNumbered_6 ?_
  refine z_iload_n F 1 rfl rfl dX4_readNumbered_9 ?_
  refine z_tald F 1 (by decide) dX4_readNumbered_10 ?_
  refine k_X4_takeNumber F (by rw [hR]; exact ⟨by decide, by decide⟩) q_528 hta ⟨Nat.zero_le _, Nat.zero_le _⟩ (Nat.le_of_ble_eq_true rfl) dX4_readNumbered_11 (fun v1 g2 => ?_)
  refine z_if_ne (tgt := 19) F dX4_readNumbered_14 (by decide) (fun c3 => ?_) (fun c3 => ?_)
  · refine z_iconst (v := 0) F (by decide) dX4_readNumbered_17 ?_
    exact z_zreturn F rfl rfl rfl rfl rfl (fun h => h) dX4_readNumbered_18
  · refine z_iload_n F 1 rfl rfl dX4_readNumbered_19 ?_
    refine z_bipush (v := 7) F (by decide) dX4_readNumbered_20 ?_
    refine z_icmp_gt (tgt := 38) F dX4_readNumbered_22 (by decide) (fun c4 => ?_) (fun c4 => ?_)
    · refine z_aload_n F 2 rfl rfl dX4_readNumbered_38 ?_
      refine gf_X4_77 F htb2 dX4_readNumbered_39 (fun ht5 => ?_)
      refine z_iload_n F 1 rfl rfl dX4_readNumbered_42 ?_
      refine z_aload_n F 0 rfl rfl dX4_readNumbered_43 ?_
      refine gf_X4_129 F hta dX4_readNumbered_44 ?_
      refine z_iconst (v := 0) F (by decide) dX4_readNumbered_47 ?_
      refine k_X3_addOrder F (by rw [hR]; exact ⟨by decide, by decide⟩) q_544 ht5 ⟨Nat.zero_le _, Nat.zero_le _⟩ (Nat.le_of_ble_eq_true rfl) dX4_readNumbered_48 (fun v6 g7 => ?_)
      refine z_iconst (v := 1) F (by decide) dX4_readNumbered_51 ?_
      exact z_zreturn F rfl rfl rfl rfl rfl (fun h => h) dX4_readNumbered_52
    · refine z_aload_n F 2 rfl rfl dX4_readNumbered_25 ?_
      refine gf_X4_126 F htb2 dX4_readNumbered_26 (fun ht8 => ?_)
      refine z_iload_n F 1 rfl rfl dX4_readNumbered_29 ?_
      refine z_aload_n F 0 rfl rfl dX4_readNumbered_30 ?_
      refine gf_X4_129 F hta dX4_readNumbered_31 ?_
      refine z_iast F ht8 dX4_readNumbered_34 ?_
      refine z_letg (fun g9 => ?_)
      refine z_goto (tgt := 51) F dX4_readNumbered_35 (by decide) ?_
      refine z_iconst (v := 1) F (by decide) dX4_readNumbered_51 ?_
      exact z_zreturn F rfl rfl rfl rfl rfl (fun h => h) dX4_readNumbered_52
theorem k_X4_readNumbered {ρ : Type} {K : ρ → Prop} {E : zE} {D : zD} {A : Nat → Prop} {Q : State → Prop} {nL : Nat} {κ : zC} {g : zG} {pc : Nat} {lv : List (Nat × Value)} {st : List Value} {cc : ByteArray} {own : String} {ret : Option FieldType} (F : zF E D A cc own nL ret) {index : Nat} {h : Int32 → zG → Option ρ} {a : Nat} {x1 : Int32} {b2 : Nat}  (hR : 3 + 1 ≤ E.2.2.2.1.frames ∧ 8 + (3 + 11) + 65 ≤ E.2.2.2.1.locals) (hl : zTbl (.methodLink own index yX4_readNumbered)) (hta : κ.2.1 a = some (.inr 4)) (htb2 : κ.2.1 b2 = some (.inr 5)) (hc : κ.2.2.1 ≤ E.2.2.2.1.cells ∧ κ.2.2.2 ≤ E.2.2.2.1.slots) (hW : (st.map fun v => v.category).sum ≤ 8) (hd : decode cc pc = .ok (.invokevirtual index, 3)) (kk : ∀ r g', zSim K (h r g') (zAt E D A Q nL κ g' (pc + 3) lv (.int r :: st))) : zSim K (zb (f_X4_readNumbered a x1 b2 g) h) (zAt E D A Q nL κ g pc lv (.ref b2 :: .int x1 :: .ref a :: st)) :=
  z_callV F (n := 2) (As := [.int x1, .ref b2]) (C := (RX4, TX4, 14)) ⟨q_551, q_8, by decide +kernel, rfl, rfl, hR.1, hR.2⟩ (c_X4_readNumbered E.2.1 D κ.1 κ.2.1 g a x1 b2 hta htb2) hl q_550 q_1377 hta rfl rfl rfl hc hW hd kk _ rfl
theorem dX4_readChain_0 : decode cX4_readChain 0 = .ok (.aload_n 0, 1) := by decide +kernel
theorem dX4_readChain_1 : decode cX4_readChain 1 = .ok (.bipush 44, 2) := by decide +kernel
theorem dX4_readChain_3 : decode cX4_readChain 3 = .ok (.invokevirtual 113, 3) := by decide +kernel
theorem dX4_readChain_6 : decode cX4_readChain 6 = .ok (.ifCond .eq 11, 3) := by decide +kernel
theorem dX4_readChain_9 : decode cX4_readChain 9 = .ok (.aload_n 0, 1) := by decide +kernel
theorem dX4_readChain_10 : decode cX4_readChain 10 = .ok (.iconst 1, 1) := by decide +kernel
theorem dX4_readChain_11 : decode cX4_readChain 11 = .ok (.invokevirtual 113, 3) := by decide +kernel
theorem dX4_readChain_14 : decode cX4_readChain 14 = .ok (.ifCond .ne 5, 3) := by decide +kernel
theorem dX4_readChain_17 : decode cX4_readChain 17 = .ok (.iconst 0, 1) := by decide +kernel
theorem dX4_readChain_18 : decode cX4_readChain 18 = .ok (.ireturn, 1) := by decide +kernel
theorem dX4_readChain_19 : decode cX4_readChain 19 = .ok (.aload_n 0, 1) := by decide +kernel
theorem dX4_readChain_20 : decode cX4_readChain 20 = .ok (.getfield 37, 3) := by decide +kernel
theorem dX4_readChain_23 : decode cX4_readChain 23 = .ok (.aload_n 0, 1) := by decide +kernel
theorem dX4_readChain_24 : decode cX4_readChain 24 = .ok (.getfield 70, 3) := by decide +kernel
theorem dX4_readChain_27 : decode cX4_readChain 27 = .ok (.isub, 1) := by decide +kernel
theorem dX4_readChain_28 : decode cX4_readChain 28 = .ok (.istore_n 2, 1) := by decide +kernel
theorem dX4_readChain_29 : decode cX4_readChain 29 = .ok (.iload_n 2, 1) := by decide +kernel
theorem dX4_readChain_30 : decode cX4_readChain 30 = .ok (.iconst 2, 1) := by decide +kernel
theorem dX4_readChain_31 : decode cX4_readChain 31 = .ok (.if_icmp .lt 9, 3) := by decide +kernel
theorem dX4_readChain_34 : decode cX4_readChain 34 = .ok (.iload_n 2, 1) := by decide +kernel
theorem dX4_readChain_35 : decode cX4_readChain 35 = .ok (.bipush 48, 2) := by decide +kernel
theorem dX4_readChain_37 : decode cX4_readChain 37 = .ok (.if_icmp .le 13, 3) := by decide +kernel
theorem dX4_readChain_40 : decode cX4_readChain 40 = .ok (.aload_n 0, 1) := by decide +kernel
theorem dX4_readChain_41 : decode cX4_readChain 41 = .ok (.iconst 3, 1) := by decide +kernel
theorem dX4_readChain_42 : decode cX4_readChain 42 = .ok (.aload_n 0, 1) := by decide +kernel
theorem dX4_readChain_43 : decode cX4_readChain 43 = .ok (.getfield 70, 3) := by decide +kernel
theorem dX4_readChain_46 : decode cX4_readChain 46 = .ok (.invokevirtual 73, 3) := by decide +kernel
theorem dX4_readChain_49 : decode cX4_readChain 49 = .ok (.ireturn, 1) := by decide +kernel
theorem dX4_readChain_50 : decode cX4_readChain 50 = .ok (.iconst 0, 1) := by decide +kernel
theorem dX4_readChain_51 : decode cX4_readChain 51 = .ok (.istore_n 3, 1) := by decide +kernel
theorem dX4_readChain_52 : decode cX4_readChain 52 = .ok (.iload_n 3, 1) := by decide +kernel
theorem dX4_readChain_53 : decode cX4_readChain 53 = .ok (.iload_n 2, 1) := by decide +kernel
theorem dX4_readChain_54 : decode cX4_readChain 54 = .ok (.if_icmp .ge 25, 3) := by decide +kernel
theorem dX4_readChain_57 : decode cX4_readChain 57 = .ok (.aload_n 1, 1) := by decide +kernel
theorem dX4_readChain_58 : decode cX4_readChain 58 = .ok (.getfield 132, 3) := by decide +kernel
theorem dX4_readChain_61 : decode cX4_readChain 61 = .ok (.iload_n 3, 1) := by decide +kernel
theorem dX4_readChain_62 : decode cX4_readChain 62 = .ok (.aload_n 0, 1) := by decide +kernel
theorem dX4_readChain_63 : decode cX4_readChain 63 = .ok (.aload_n 0, 1) := by decide +kernel
theorem dX4_readChain_64 : decode cX4_readChain 64 = .ok (.getfield 70, 3) := by decide +kernel
theorem dX4_readChain_67 : decode cX4_readChain 67 = .ok (.iload_n 3, 1) := by decide +kernel
theorem dX4_readChain_68 : decode cX4_readChain 68 = .ok (.iadd, 1) := by decide +kernel
theorem dX4_readChain_69 : decode cX4_readChain 69 = .ok (.invokevirtual 137, 3) := by decide +kernel
theorem dX4_readChain_72 : decode cX4_readChain 72 = .ok (.iastore, 1) := by decide +kernel
theorem dX4_readChain_73 : decode cX4_readChain 73 = .ok (.iinc 3 1, 3) := by decide +kernel
theorem dX4_readChain_76 : decode cX4_readChain 76 = .ok (.goto (-24), 3) := by decide +kernel
theorem dX4_readChain_79 : decode cX4_readChain 79 = .ok (.aload_n 1, 1) := by decide +kernel
theorem dX4_readChain_80 : decode cX4_readChain 80 = .ok (.iload_n 2, 1) := by decide +kernel
theorem dX4_readChain_81 : decode cX4_readChain 81 = .ok (.putfield 141, 3) := by decide +kernel
theorem dX4_readChain_84 : decode cX4_readChain 84 = .ok (.iconst 1, 1) := by decide +kernel
theorem dX4_readChain_85 : decode cX4_readChain 85 = .ok (.ireturn, 1) := by decide +kernel
def j_X4_readChain_79 (a : Nat) (l1 : Nat) (l2 : Int32) (g : zG) : Option (Int32 × zG) :=
  zl (zsi g l1 1 l2) (fun g1 => some ((1, g1)))
def j_X4_readChain_40 (a : Nat)  (g : zG) : Option (Int32 × zG) :=
  zb (f_X4_fail a 3 (g.1 a 6) g) (fun v2 g3 => zc (v2 = 0 ∨ v2 = 1) (some ((v2, g3))))
def l_X4_readChain_52 (a : Nat) (l1 : Nat) (l2 : Int32) (l3 : Int32) (g : zG) : Option ((Int32 × zG) ⊕ (zG)) :=
  if l2 ≤ l3 then (some (.inr g)) else (zb (f_X4_letterAt a ((g.1 a 6) + l3) g) (fun v16 g17 => zc (zin l3 48) (zl (zsi g17 (g.2.1 l1 0) l3.toNatClampNeg v16) (fun g18 => zl (l3 + 1) (fun v19 => some (.inl (v19, g18)))))))
def f_X4_readChain (a : Nat) (b1 : Nat) (g : zG) : Option (Int32 × zG) :=
  zb (f_X4_take a 44 g) (fun v5 g6 => if v5 = 0 then (some ((0, g6))) else (zb (f_X4_take a 1 g6) (fun v8 g9 => if v8 = 0 then (some ((0, g9))) else (zl ((g9.1 a 7) - (g9.1 a 6)) (fun v11 => if v11 < 2 then (j_X4_readChain_40 a g9) else (if v11 ≤ 48 then (zk (zw zN (fun s => l_X4_readChain_52 a b1 v11 s.1 s.2) (0, g9)) (fun x => j_X4_readChain_79 a b1 v11 x)) else (j_X4_readChain_40 a g9)))))))
abbrev rm_X4_readChain : Room := { frames := 3, cells := 0, slots := 0, locals := 63 }
set_option maxRecDepth 100000 in
set_option maxHeartbeats 4000000 in
theorem c_X4_readChain (l : Launch) (D : zD) (sz : Nat) (τ : zT) (g : zG) (a : Nat) (b1 : Nat) (hta : τ a = some (.inr 4)) (htb1 : τ b1 = some (.inr 0)) : zCon l D yX4_readChain cX4_readChain 4 (some .boolean) rm_X4_readChain 0 0 zrI [.ref a, .ref b1] sz τ g τ (f_X4_readChain a b1 g) := by
  refine zCon.of (by decide) (Nat.le_of_ble_eq_true rfl) (fun E r g' hl hR hsz hnm F => ?_)
  have F : zF E D (zA τ sz) cX4_readChain "TypeChain$Reader" 4 (some .boolean) := F
  show zSim (fun q : Int32 × zG => q = (r, g')) (f_X4_readChain a b1 g) (zAt E D (zA τ sz) (zQ E D zrI 0 0 sz τ τ r g') 4 (sz, τ, 0, 0) g 0 [(0, .ref a), (1, .ref b1)] [])
  have hj_X4_readChain_79 : ∀ (l1_79 : Nat) (l2_79 : Int32) (g_79 : zG), τ l1_79 = some (.inr 0) → zSim (fun q : Int32 × zG => q = (r, g')) (j_X4_readChain_79 a l1_79 l2_79 g_79) (zAt E D (zA τ sz) (zQ E D zrI 0 0 sz τ τ r g') 4 (sz, τ, 0, 0) g_79 79 [(1, .ref l1_79), (2, .int l2_79)] []) := by
    intro l1_79 l2_79 g_79 ht_l1_79
    unfold j_X4_readChain_79
    refine z_aload_n F 0 rfl rfl dX4_readChain_79 ?_
    refine z_iload_n F 1 rfl rfl dX4_readChain_80 ?_
    refine pf_X4_141 F ht_l1_79 dX4_readChain_81 ?_
    refine z_letg (fun g1 => ?_)
    refine z_iconst (v := 1) F (by decide) dX4_readChain_84 ?_
    exact z_zreturn F rfl rfl rfl rfl rfl (fun h => h) dX4_readChain_85
  have hj_X4_readChain_40 : ∀  (g_40 : zG), zSim (fun q : Int32 × zG => q = (r, g')) (j_X4_readChain_40 a g_40) (zAt E D (zA τ sz) (zQ E D zrI 0 0 sz τ τ r g') 4 (sz, τ, 0, 0) g_40 40 [(0, .ref a)] []) := by
    intro g_40
    unfold j_X4_readChain_40
    refine z_aload_n F 0 rfl rfl dX4_readChain_40 ?_
    refine z_iconst (v := 3) F (by decide) dX4_readChain_41 ?_
    refine z_aload_n F 0 rfl rfl dX4_readChain_42 ?_
    refine gf_X4_70 F hta dX4_readChain_43 ?_
    refine k_X4_fail F (by rw [hR]; exact ⟨by decide, by decide⟩) q_446 hta ⟨Nat.zero_le _, Nat.zero_le _⟩ (Nat.le_of_ble_eq_true rfl) dX4_readChain_46 (fun v2 g3 => ?_)
    exact z_zc (fun c4 => z_zreturn F (znar01 c4) rfl rfl rfl rfl (fun h => h) dX4_readChain_49)
  unfold f_X4_readChain
  refine z_aload_n F 0 rfl rfl dX4_readChain_0 ?_
  refine z_bipush (v := 44) F (by decide) dX4_readChain_1 ?_
  refine k_X4_take F (by rw [hR]; exact ⟨by decide, by decide⟩) q_512 hta ⟨Nat.zero_le _, Nat.zero_le _⟩ (Nat.le_of_ble_eq_true rfl) dX4_readChain_3 (fun v5 g6 => ?_)
  refine z_if_eq (tgt := 17) F dX4_readChain_6 (by decide) (fun c7 => ?_) (fun c7 => ?_)
  · refine z_iconst (v := 0) F (by decide) dX4_readChain_17 ?_
    exact z_zreturn F rfl rfl rfl rfl rfl (fun h => h) dX4_readChain_18
  · refine z_aload_n F 0 rfl rfl dX4_readChain_9 ?_
    refine z_iconst (v := 1) F (by decide) dX4_readChain_10 ?_
    refine k_X4_take F (by rw [hR]; exact ⟨by decide, by decide⟩) q_512 hta ⟨Nat.zero_le _, Nat.zero_le _⟩ (Nat.le_of_ble_eq_true rfl) dX4_readChain_11 (fun v8 g9 => ?_)
    refine z_if_ne (tgt := 19) F dX4_readChain_14 (by decide) (fun c10 => ?_) (fun c10 => ?_)
    · refine z_iconst (v := 0) F (by decide) dX4_readChain_17 ?_
      exact z_zreturn F rfl rfl rfl rfl rfl (fun h => h) dX4_readChain_18
    · refine z_aload_n F 0 rfl rfl dX4_readChain_19 ?_
      refine gf_X4_37 F hta dX4_readChain_20 ?_
      refine z_aload_n F 0 rfl rfl dX4_readChain_23 ?_
      refine gf_X4_70 F hta dX4_readChain_24 ?_
      refine z_isub F dX4_readChain_27 ?_
      refine z_leti (fun v11 => ?_)
      refine z_istore_n (lv' := [(2, .int v11), (0, .ref a), (1, .ref b1)]) F rfl (by decide) dX4_readChain_28 rfl ?_
      refine z_iload_n F 0 rfl rfl dX4_readChain_29 ?_
      refine z_iconst (v := 2) F (by decide) dX4_readChain_30 ?_
      refine z_icmp_lt (tgt := 40) F dX4_readChain_31 (by decide) (fun c12 => ?_) (fun c12 => ?_)
      · refine z_sub (lv' := [(0, .ref a)]) [1] rfl ?_
        exact hj_X4_readChain_40 g9
      · refine z_iload_n F 0 rfl rfl dX4_readChain_34 ?_
        refine z_bipush (v := 48) F (by decide) dX4_readChain_35 ?_
        refine z_icmp_le (tgt := 50) F dX4_readChain_37 (by decide) (fun c13 => ?_) (fun c13 => ?_)
        · refine z_iconst (v := 0) F (by decide) dX4_readChain_50 ?_
          refine z_istore_n (lv' := [(3, .int 0), (2, .int v11), (0, .ref a), (1, .ref b1)]) F rfl (by decide) dX4_readChain_51 rfl ?_
          refine z_sub (lv' := [(0, .ref a), (1, .ref b1), (2, .int v11), (3, .int 0)]) [2, 3, 1, 0] rfl ?_
          refine z_loop (P := fun s : Int32 × zG => zAt E D (zA τ sz) (zQ E D zrI 0 0 sz τ τ r g') 4 (sz, τ, 0, 0) s.2 52 [(0, .ref a), (1, .ref b1), (2, .int v11), (3, .int s.1)] []) (Px := fun x : zG => zAt E D (zA τ sz) (zQ E D zrI 0 0 sz τ τ r g') 4 (sz, τ, 0, 0) x 79 [(1, .ref b1), (2, .int v11)] []) (0, g9) (fun s => ?_) (fun x => ?_)
          · obtain ⟨l3_52, g_52⟩ := s
            show zSim (zKl (fun s : Int32 × zG => zAt E D (zA τ sz) (zQ E D zrI 0 0 sz τ τ r g') 4 (sz, τ, 0, 0) s.2 52 [(0, .ref a), (1, .ref b1), (2, .int v11), (3, .int s.1)] []) (fun x : zG => zAt E D (zA τ sz) (zQ E D zrI 0 0 sz τ τ r g') 4 (sz, τ, 0, 0) x 79 [(1, .ref b1), (2, .int v11)] [])) (l_X4_readChain_52 a b1 v11 l3_52 g_52) (zAt E D (zA τ sz) (zQ E D zrI 0 0 sz τ τ r g') 4 (sz, τ, 0, 0) g_52 52 [(0, .ref a), (1, .ref b1), (2, .int v11), (3, .int l3_52)] [])
            unfold l_X4_readChain_52
            refine z_iload_n F 3 rfl rfl dX4_readChain_52 ?_
            refine z_iload_n F 2 rfl rfl dX4_readChain_53 ?_
            refine z_icmp_ge (tgt := 79) F dX4_readChain_54 (by decide) (fun c14 => ?_) (fun c14 => ?_)
            · refine z_sub (lv' := [(1, .ref b1), (2, .int v11)]) [1, 2] rfl ?_
              exact z_back (fun h => h)
            · refine z_aload_n F 1 rfl rfl dX4_readChain_57 ?_
              refine gf_X4_132 F htb1 dX4_readChain_58 (fun ht15 => ?_)
              refine z_iload_n F 3 rfl rfl dX4_readChain_61 ?_
              refine z_aload_n F 0 rfl rfl dX4_readChain_62 ?_
              refine z_aload_n F 0 rfl rfl dX4_readChain_63 ?_
              refine gf_X4_70 F hta dX4_readChain_64 ?_
              refine z_iload_n F 3 rfl rfl dX4_readChain_67 ?_
              refine z_iadd F dX4_readChain_68 ?_
              refine k_X4_letterAt F (by rw [hR]; exact ⟨by decide, by decide⟩) q_516 hta ⟨Nat.zero_le _, Nat.zero_le _⟩ (Nat.le_of_ble_eq_true rfl) dX4_readChain_69 (fun v16 g17 => ?_)
              refine z_iast F ht15 dX4_readChain_72 ?_
              refine z_letg (fun g18 => ?_)
              refine z_iincl (lv' := fun v19 => [(3, .int v19), (0, .ref a), (1, .ref b1), (2, .int v11)]) F 3 rfl (by decide) (by decide) dX4_readChain_73 (fun _ => rfl) (fun v19 => ?_)
              refine z_goto (tgt := 52) F dX4_readChain_76 (by decide) ?_
              refine z_sub (lv' := [(0, .ref a), (1, .ref b1), (2, .int v11), (3, .int v19)]) [1, 2, 3, 0] rfl ?_
              exact z_back (fun h => h)
          · show zSim (fun q : Int32 × zG => q = (r, g')) (j_X4_readChain_79 a b1 v11 x) (zAt E D (zA τ sz) (zQ E D zrI 0 0 sz τ τ r g') 4 (sz, τ, 0, 0) x 79 [(1, .ref b1), (2, .int v11)] [])
            exact hj_X4_readChain_79 b1 v11 x htb1
        · refine z_sub (lv' := [(0, .ref a)]) [1] rfl ?_
          exact hj_X4_readChain_40 g9
theorem k_X4_readChain {ρ : Type} {K : ρ → Prop} {E : zE} {D : zD} {A : Nat → Prop} {Q : State → Prop} {nL : Nat} {κ : zC} {g : zG} {pc : Nat} {lv : List (Nat × Value)} {st : List Value} {cc : ByteArray} {own : String} {ret : Option FieldType} (F : zF E D A cc own nL ret) {index : Nat} {h : Int32 → zG → Option ρ} {a : Nat} {b1 : Nat}  (hR : 3 + 1 ≤ E.2.2.2.1.frames ∧ 8 + (4 + 11) + 63 ≤ E.2.2.2.1.locals) (hl : zTbl (.methodLink own index yX4_readChain)) (hta : κ.2.1 a = some (.inr 4)) (htb1 : κ.2.1 b1 = some (.inr 0)) (hc : κ.2.2.1 ≤ E.2.2.2.1.cells ∧ κ.2.2.2 ≤ E.2.2.2.1.slots) (hW : (st.map fun v => v.category).sum ≤ 8) (hd : decode cc pc = .ok (.invokevirtual index, 3)) (kk : ∀ r g', zSim K (h r g') (zAt E D A Q nL κ g' (pc + 3) lv (.int r :: st))) : zSim K (zb (f_X4_readChain a b1 g) h) (zAt E D A Q nL κ g pc lv (.ref b1 :: .ref a :: st)) :=
  z_callV F (n := 1) (As := [.ref b1]) (C := (RX4, TX4, 14)) ⟨q_511, q_8, by decide +kernel, rfl, rfl, hR.1, hR.2⟩ (c_X4_readChain E.2.1 D κ.1 κ.2.1 g a b1 hta htb1) hl q_510 q_1370 hta rfl rfl rfl hc hW hd kk _ rfl
theorem dX4_readHole_0 : decode cX4_readHole 0 = .ok (.aload_n 0, 1) := by decide +kernel
theorem dX4_readHole_1 : decode cX4_readHole 1 = .ok (.getstatic 117, 3) := by decide +kernel
theorem dX4_readHole_4 : decode cX4_readHole 4 = .ok (.bipush 8, 2) := by decide +kernel
theorem dX4_readHole_6 : decode cX4_readHole 6 = .ok (.iaload, 1) := by decide +kernel
theorem dX4_readHole_7 : decode cX4_readHole 7 = .ok (.getstatic 120, 3) := by decide +kernel
theorem dX4_readHole_10 : decode cX4_readHole 10 = .ok (.bipush 8, 2) := by decide +kernel
theorem dX4_readHole_12 : decode cX4_readHole 12 = .ok (.iaload, 1) := by decide +kernel
theorem dX4_readHole_13 : decode cX4_readHole 13 = .ok (.invokevirtual 123, 3) := by decide +kernel
theorem dX4_readHole_16 : decode cX4_readHole 16 = .ok (.ifCond .ne 5, 3) := by decide +kernel
theorem dX4_readHole_19 : decode cX4_readHole 19 = .ok (.iconst 0, 1) := by decide +kernel
theorem dX4_readHole_20 : decode cX4_readHole 20 = .ok (.ireturn, 1) := by decide +kernel
theorem dX4_readHole_21 : decode cX4_readHole 21 = .ok (.aload_n 0, 1) := by decide +kernel
theorem dX4_readHole_22 : decode cX4_readHole 22 = .ok (.getfield 129, 3) := by decide +kernel
theorem dX4_readHole_25 : decode cX4_readHole 25 = .ok (.istore_n 2, 1) := by decide +kernel
theorem dX4_readHole_26 : decode cX4_readHole 26 = .ok (.aload_n 0, 1) := by decide +kernel
theorem dX4_readHole_27 : decode cX4_readHole 27 = .ok (.bipush 6, 2) := by decide +kernel
theorem dX4_readHole_29 : decode cX4_readHole 29 = .ok (.iload_n 2, 1) := by decide +kernel
theorem dX4_readHole_30 : decode cX4_readHole 30 = .ok (.iconst 1, 1) := by decide +kernel
theorem dX4_readHole_31 : decode cX4_readHole 31 = .ok (.iadd, 1) := by decide +kernel
theorem dX4_readHole_32 : decode cX4_readHole 32 = .ok (.invokevirtual 142, 3) := by decide +kernel
theorem dX4_readHole_35 : decode cX4_readHole 35 = .ok (.aload_n 0, 1) := by decide +kernel
theorem dX4_readHole_36 : decode cX4_readHole 36 = .ok (.iconst 0, 1) := by decide +kernel
theorem dX4_readHole_37 : decode cX4_readHole 37 = .ok (.bipush 7, 2) := by decide +kernel
theorem dX4_readHole_39 : decode cX4_readHole 39 = .ok (.invokevirtual 123, 3) := by decide +kernel
theorem dX4_readHole_42 : decode cX4_readHole 42 = .ok (.ifCond .ne 5, 3) := by decide +kernel
theorem dX4_readHole_45 : decode cX4_readHole 45 = .ok (.iconst 0, 1) := by decide +kernel
theorem dX4_readHole_46 : decode cX4_readHole 46 = .ok (.ireturn, 1) := by decide +kernel
theorem dX4_readHole_47 : decode cX4_readHole 47 = .ok (.aload_n 1, 1) := by decide +kernel
theorem dX4_readHole_48 : decode cX4_readHole 48 = .ok (.iload_n 2, 1) := by decide +kernel
theorem dX4_readHole_49 : decode cX4_readHole 49 = .ok (.dup2, 1) := by decide +kernel
theorem dX4_readHole_50 : decode cX4_readHole 50 = .ok (.iaload, 1) := by decide +kernel
theorem dX4_readHole_51 : decode cX4_readHole 51 = .ok (.iconst 1, 1) := by decide +kernel
theorem dX4_readHole_52 : decode cX4_readHole 52 = .ok (.aload_n 0, 1) := by decide +kernel
theorem dX4_readHole_53 : decode cX4_readHole 53 = .ok (.getfield 129, 3) := by decide +kernel
theorem dX4_readHole_56 : decode cX4_readHole 56 = .ok (.ishl, 1) := by decide +kernel
theorem dX4_readHole_57 : decode cX4_readHole 57 = .ok (.ior, 1) := by decide +kernel
theorem dX4_readHole_58 : decode cX4_readHole 58 = .ok (.iastore, 1) := by decide +kernel
theorem dX4_readHole_59 : decode cX4_readHole 59 = .ok (.iconst 1, 1) := by decide +kernel
theorem dX4_readHole_60 : decode cX4_readHole 60 = .ok (.ireturn, 1) := by decide +kernel
def f_X4_readHole (a : Nat) (b1 : Nat) (g : zG) : Option (Int32 × zG) :=
  zc (zin 8 (zTabN 0)) (zc (zin 8 (zTabN 1)) (zb (f_X4_takeNumber a (zTabF 0 (8 : Int32).toNatClampNeg) (zTabF 1 (8 : Int32).toNatClampNeg) g) (fun v1 g2 => if v1 = 0 then (some ((0, g2))) else (zl (g2.1 a 8) (fun v4 => zb (f_X4_lookLater a 6 (v4 + 1) g2) (fun v5 g6 => zb (f_X4_takeNumber a 0 7 g6) (fun v7 g8 => if v7 = 0 then (some ((0, g8))) else (zc (zin v4 60) (zc (zin v4 60) (zl (zsi g8 b1 v4.toNatClampNeg ((g8.1 b1 v4.toNatClampNeg) ||| (zshl 1 (g8.1 a 8)))) (fun g10 => some ((1, g10)))))))))))))
abbrev rm_X4_readHole : Room := { frames := 3, cells := 0, slots := 0, locals := 65 }
set_option maxRecDepth 100000 in
set_option maxHeartbeats 4000000 in
theorem c_X4_readHole (l : Launch) (D : zD) (sz : Nat) (τ : zT) (g : zG) (a : Nat) (b1 : Nat) (hta : τ a = some (.inr 4)) (htb1 : τ b1 = some (.inl (.int, 60))) : zCon l D yX4_readHole cX4_readHole 3 (some .boolean) rm_X4_readHole 0 0 zrI [.ref a, .ref b1] sz τ g τ (f_X4_readHole a b1 g) := by
  refine zCon.of (by decide) (Nat.le_of_ble_eq_true rfl) (fun E r g' hl hR hsz hnm F => ?_)
  have F : zF E D (zA τ sz) cX4_readHole "TypeChain$Reader" 3 (some .boolean) := F
  show zSim (fun q : Int32 × zG => q = (r, g')) (f_X4_readHole a b1 g) (zAt E D (zA τ sz) (zQ E D zrI 0 0 sz τ τ r g') 3 (sz, τ, 0, 0) g 0 [(0, .ref a), (1, .ref b1)] [])
  unfold f_X4_readHole
  refine z_aload_n F 0 rfl rfl dX4_readHole_0 ?_
  refine z_getsN F 0 (by decide) q_524 dX4_readHole_1 ?_
  refine z_bipush (v := 8) F (by decide) dX4_readHole_4 ?_
  refine z_tald F 0 (by decide) dX4_readHole_6 ?_
  refine z_getsN F 1 (by decide) q_526 dX4_readHole_7 ?_
  refine z_bipush (v := 8) F (by decide) dX4_readHole_10 ?_
  refine z_tald F 1 (by decide) dX4_readHole_12 ?_
  refine k_X4_takeNumber F (by rw [hR]; exact ⟨by decide, by decide⟩) q_528 hta ⟨Nat.zero_le _, Nat.zero_le _⟩ (Nat.le_of_ble_eq_true rfl) dX4_readHole_13 (fun v1 g2 => ?_)
  refine z_if_ne (tgt := 21) F dX4_readHole_16 (by decide) (fun c3 => ?_) (fun c3 => ?_)
  · refine z_iconst (v := 0) F (by decide) dX4_readHole_19 ?_
    exact z_zreturn F rfl rfl rfl rfl rfl (fun h => h) dX4_readHole_20
  · refine z_aload_n F 0 rfl rfl dX4_readHole_21 ?_
    refine gf_X4_129 F hta dX4_readHole_22 ?_
    refine z_leti (fun v4 => ?_)
    refine z_istore_n (lv' := [(2, .int v4), (0, .ref a), (1, .ref b1)]) F rfl (by decide) dX4_readHole_25 rfl ?_
    refine z_aload_n F 1 rfl rfl dX4_readHole_26 ?_
    refine z_bipush (v := 6) F (by decide) dX4_readHole_27 ?_
    refine z_iload_n F 0 rfl rfl dX4_readHole_29 ?_
    refine z_iconst (v := 1) F (by decide) dX4_readHole_30 ?_
    refine z_iadd F dX4_readHole_31 ?_
    refine k_X4_lookLater F (by rw [hR]; exact ⟨by decide, by decide⟩) q_532 hta ⟨Nat.zero_le _, Nat.zero_le _⟩ (Nat.le_of_ble_eq_true rfl) dX4_readHole_32 (fun v5 g6 => ?_)
    refine z_aload_n F 1 rfl rfl dX4_readHole_35 ?_
    refine z_iconst (v := 0) F (by decide) dX4_readHole_36 ?_
    refine z_bipush (v := 7) F (by decide) dX4_readHole_37 ?_
    refine k_X4_takeNumber F (by rw [hR]; exact ⟨by decide, by decide⟩) q_528 hta ⟨Nat.zero_le _, Nat.zero_le _⟩ (Nat.le_of_ble_eq_true rfl) dX4_readHole_39 (fun v7 g8 => ?_)
    refine z_if_ne (tgt := 47) F dX4_readHole_42 (by decide) (fun c9 => ?_) (fun c9 => ?_)
    · refine z_iconst (v := 0) F (by decide) dX4_readHole_45 ?_
      exact z_zreturn F rfl rfl rfl rfl rfl (fun h => h) dX4_readHole_46
    · refine z_aload_n F 2 rfl rfl dX4_readHole_47 ?_
      refine z_iload_n F 0 rfl rfl dX4_readHole_48 ?_
      refine z_dup2 F rfl rfl dX4_readHole_49 ?_
      refine z_iald F htb1 dX4_readHole_50 ?_
      refine z_iconst (v := 1) F (by decide) dX4_readHole_51 ?_
      refine z_aload_n F 1 rfl rfl dX4_readHole_52 ?_
      refine gf_X4_129 F hta dX4_readHole_53 ?_
      refine z_ishl F dX4_readHole_56 ?_
      refine z_ior F dX4_readHole_57 ?_
      refine z_iast F htb1 dX4_readHole_58 ?_
      refine z_letg (fun g10 => ?_)
      refine z_iconst (v := 1) F (by decide) dX4_readHole_59 ?_
      exact z_zreturn F rfl rfl rfl rfl rfl (fun h => h) dX4_readHole_60
theorem k_X4_readHole {ρ : Type} {K : ρ → Prop} {E : zE} {D : zD} {A : Nat → Prop} {Q : State → Prop} {nL : Nat} {κ : zC} {g : zG} {pc : Nat} {lv : List (Nat × Value)} {st : List Value} {cc : ByteArray} {own : String} {ret : Option FieldType} (F : zF E D A cc own nL ret) {index : Nat} {h : Int32 → zG → Option ρ} {a : Nat} {b1 : Nat}  (hR : 3 + 1 ≤ E.2.2.2.1.frames ∧ 8 + (3 + 11) + 65 ≤ E.2.2.2.1.locals) (hl : zTbl (.methodLink own index yX4_readHole)) (hta : κ.2.1 a = some (.inr 4)) (htb1 : κ.2.1 b1 = some (.inl (.int, 60))) (hc : κ.2.2.1 ≤ E.2.2.2.1.cells ∧ κ.2.2.2 ≤ E.2.2.2.1.slots) (hW : (st.map fun v => v.category).sum ≤ 8) (hd : decode cc pc = .ok (.invokevirtual index, 3)) (kk : ∀ r g', zSim K (h r g') (zAt E D A Q nL κ g' (pc + 3) lv (.int r :: st))) : zSim K (zb (f_X4_readHole a b1 g) h) (zAt E D A Q nL κ g pc lv (.ref b1 :: .ref a :: st)) :=
  z_callV F (n := 1) (As := [.ref b1]) (C := (RX4, TX4, 14)) ⟨q_523, q_8, by decide +kernel, rfl, rfl, hR.1, hR.2⟩ (c_X4_readHole E.2.1 D κ.1 κ.2.1 g a b1 hta htb1) hl q_522 q_1373 hta rfl rfl rfl hc hW hd kk _ rfl
theorem dX4_readPut_0 : decode cX4_readPut 0 = .ok (.aload_n 0, 1) := by decide +kernel
theorem dX4_readPut_1 : decode cX4_readPut 1 = .ok (.bipush 44, 2) := by decide +kernel
theorem dX4_readPut_3 : decode cX4_readPut 3 = .ok (.invokevirtual 113, 3) := by decide +kernel
theorem dX4_readPut_6 : decode cX4_readPut 6 = .ok (.ifCond .eq 11, 3) := by decide +kernel
theorem dX4_readPut_9 : decode cX4_readPut 9 = .ok (.aload_n 0, 1) := by decide +kernel
theorem dX4_readPut_10 : decode cX4_readPut 10 = .ok (.iconst 1, 1) := by decide +kernel
theorem dX4_readPut_11 : decode cX4_readPut 11 = .ok (.invokevirtual 113, 3) := by decide +kernel
theorem dX4_readPut_14 : decode cX4_readPut 14 = .ok (.ifCond .ne 5, 3) := by decide +kernel
theorem dX4_readPut_17 : decode cX4_readPut 17 = .ok (.iconst 0, 1) := by decide +kernel
theorem dX4_readPut_18 : decode cX4_readPut 18 = .ok (.ireturn, 1) := by decide +kernel
theorem dX4_readPut_19 : decode cX4_readPut 19 = .ok (.aload_n 0, 1) := by decide +kernel
theorem dX4_readPut_20 : decode cX4_readPut 20 = .ok (.getfield 37, 3) := by decide +kernel
theorem dX4_readPut_23 : decode cX4_readPut 23 = .ok (.aload_n 0, 1) := by decide +kernel
theorem dX4_readPut_24 : decode cX4_readPut 24 = .ok (.getfield 70, 3) := by decide +kernel
theorem dX4_readPut_27 : decode cX4_readPut 27 = .ok (.isub, 1) := by decide +kernel
theorem dX4_readPut_28 : decode cX4_readPut 28 = .ok (.istore_n 2, 1) := by decide +kernel
theorem dX4_readPut_29 : decode cX4_readPut 29 = .ok (.iconst 0, 1) := by decide +kernel
theorem dX4_readPut_30 : decode cX4_readPut 30 = .ok (.istore_n 3, 1) := by decide +kernel
theorem dX4_readPut_31 : decode cX4_readPut 31 = .ok (.iload_n 3, 1) := by decide +kernel
theorem dX4_readPut_32 : decode cX4_readPut 32 = .ok (.iload_n 2, 1) := by decide +kernel
theorem dX4_readPut_33 : decode cX4_readPut 33 = .ok (.if_icmp .ge 23, 3) := by decide +kernel
theorem dX4_readPut_36 : decode cX4_readPut 36 = .ok (.aload_n 1, 1) := by decide +kernel
theorem dX4_readPut_37 : decode cX4_readPut 37 = .ok (.aload_n 0, 1) := by decide +kernel
theorem dX4_readPut_38 : decode cX4_readPut 38 = .ok (.aload_n 0, 1) := by decide +kernel
theorem dX4_readPut_39 : decode cX4_readPut 39 = .ok (.getfield 70, 3) := by decide +kernel
theorem dX4_readPut_42 : decode cX4_readPut 42 = .ok (.iload_n 3, 1) := by decide +kernel
theorem dX4_readPut_43 : decode cX4_readPut 43 = .ok (.iadd, 1) := by decide +kernel
theorem dX4_readPut_44 : decode cX4_readPut 44 = .ok (.invokevirtual 137, 3) := by decide +kernel
theorem dX4_readPut_47 : decode cX4_readPut 47 = .ok (.invokevirtual 146, 3) := by decide +kernel
theorem dX4_readPut_50 : decode cX4_readPut 50 = .ok (.iinc 3 1, 3) := by decide +kernel
theorem dX4_readPut_53 : decode cX4_readPut 53 = .ok (.goto (-22), 3) := by decide +kernel
theorem dX4_readPut_56 : decode cX4_readPut 56 = .ok (.aload_n 0, 1) := by decide +kernel
theorem dX4_readPut_57 : decode cX4_readPut 57 = .ok (.getstatic 117, 3) := by decide +kernel
theorem dX4_readPut_60 : decode cX4_readPut 60 = .ok (.bipush 9, 2) := by decide +kernel
theorem dX4_readPut_62 : decode cX4_readPut 62 = .ok (.iaload, 1) := by decide +kernel
theorem dX4_readPut_63 : decode cX4_readPut 63 = .ok (.getstatic 120, 3) := by decide +kernel
theorem dX4_readPut_66 : decode cX4_readPut 66 = .ok (.bipush 9, 2) := by decide +kernel
theorem dX4_readPut_68 : decode cX4_readPut 68 = .ok (.iaload, 1) := by decide +kernel
theorem dX4_readPut_69 : decode cX4_readPut 69 = .ok (.invokevirtual 123, 3) := by decide +kernel
theorem dX4_readPut_72 : decode cX4_readPut 72 = .ok (.ifCond .ne 5, 3) := by decide +kernel
theorem dX4_readPut_75 : decode cX4_readPut 75 = .ok (.iconst 0, 1) := by decide +kernel
theorem dX4_readPut_76 : decode cX4_readPut 76 = .ok (.ireturn, 1) := by decide +kernel
theorem dX4_readPut_77 : decode cX4_readPut 77 = .ok (.aload_n 0, 1) := by decide +kernel
theorem dX4_readPut_78 : decode cX4_readPut 78 = .ok (.bipush 7, 2) := by decide +kernel
theorem dX4_readPut_80 : decode cX4_readPut 80 = .ok (.aload_n 0, 1) := by decide +kernel
theorem dX4_readPut_81 : decode cX4_readPut 81 = .ok (.getfield 129, 3) := by decide +kernel
theorem dX4_readPut_84 : decode cX4_readPut 84 = .ok (.iload_n 2, 1) := by decide +kernel
theorem dX4_readPut_85 : decode cX4_readPut 85 = .ok (.iadd, 1) := by decide +kernel
theorem dX4_readPut_86 : decode cX4_readPut 86 = .ok (.invokevirtual 142, 3) := by decide +kernel
theorem dX4_readPut_89 : decode cX4_readPut 89 = .ok (.aload_n 1, 1) := by decide +kernel
theorem dX4_readPut_90 : decode cX4_readPut 90 = .ok (.bipush 9, 2) := by decide +kernel
theorem dX4_readPut_92 : decode cX4_readPut 92 = .ok (.aload_n 0, 1) := by decide +kernel
theorem dX4_readPut_93 : decode cX4_readPut 93 = .ok (.getfield 129, 3) := by decide +kernel
theorem dX4_readPut_96 : decode cX4_readPut 96 = .ok (.iload_n 2, 1) := by decide +kernel
theorem dX4_readPut_97 : decode cX4_readPut 97 = .ok (.invokevirtual 105, 3) := by decide +kernel
theorem dX4_readPut_100 : decode cX4_readPut 100 = .ok (.iconst 1, 1) := by decide +kernel
theorem dX4_readPut_101 : decode cX4_readPut 101 = .ok (.ireturn, 1) := by decide +kernel
def j_X4_readPut_56 (a : Nat) (l1 : Nat) (l2 : Int32) (g : zG) : Option (Int32 × zG) :=
  zc (zin 9 (zTabN 0)) (zc (zin 9 (zTabN 1)) (zb (f_X4_takeNumber a (zTabF 0 (9 : Int32).toNatClampNeg) (zTabF 1 (9 : Int32).toNatClampNeg) g) (fun v1 g2 => if v1 = 0 then (some ((0, g2))) else (zb (f_X4_lookLater a 7 ((g2.1 a 8) + l2) g2) (fun v4 g5 => zb (f_X3_addOrder l1 9 (g5.1 a 8) l2 g5) (fun v6 g7 => some ((1, g7))))))))
def l_X4_readPut_31 (a : Nat) (l1 : Nat) (l2 : Int32) (l3 : Int32) (g : zG) : Option ((Int32 × zG) ⊕ (zG)) :=
  if l2 ≤ l3 then (some (.inr g)) else (zb (f_X4_letterAt a ((g.1 a 6) + l3) g) (fun v16 g17 => zb (f_X3_addLetter l1 v16 g17) (fun v18 g19 => zl (l3 + 1) (fun v20 => some (.inl (v20, g19))))))
def f_X4_readPut (a : Nat) (b1 : Nat) (g : zG) : Option (Int32 × zG) :=
  zb (f_X4_take a 44 g) (fun v8 g9 => if v8 = 0 then (some ((0, g9))) else (zb (f_X4_take a 1 g9) (fun v11 g12 => if v11 = 0 then (some ((0, g12))) else (zl ((g12.1 a 7) - (g12.1 a 6)) (fun v14 => zk (zw zN (fun s => l_X4_readPut_31 a b1 v14 s.1 s.2) (0, g12)) (fun x => j_X4_readPut_56 a b1 v14 x))))))
abbrev rm_X4_readPut : Room := { frames := 3, cells := 0, slots := 0, locals := 65 }
set_option maxRecDepth 100000 in
set_option maxHeartbeats 4000000 in
theorem c_X4_readPut (l : Launch) (D : zD) (sz : Nat) (τ : zT) (g : zG) (a : Nat) (b1 : Nat) (hta : τ a = some (.inr 4)) (htb1 : τ b1 = some (.inr 3)) : zCon l D yX4_readPut cX4_readPut 4 (some .boolean) rm_X4_readPut 0 0 zrI [.ref a, .ref b1] sz τ g τ (f_X4_readPut a b1 g) := by
  refine zCon.of (by decide) (Nat.le_of_ble_eq_true rfl) (fun E r g' hl hR hsz hnm F => ?_)
  have F : zF E D (zA τ sz) cX4_readPut "TypeChain$Reader" 4 (some .boolean) := F
  show zSim (fun q : Int32 × zG => q = (r, g')) (f_X4_readPut a b1 g) (zAt E D (zA τ sz) (zQ E D zrI 0 0 sz τ τ r g') 4 (sz, τ, 0, 0) g 0 [(0, .ref a), (1, .ref b1)] [])
  have hj_X4_readPut_56 : ∀ (l1_56 : Nat) (l2_56 : Int32) (g_56 : zG), τ l1_56 = some (.inr 3) → zSim (fun q : Int32 × zG => q = (r, g')) (j_X4_readPut_56 a l1_56 l2_56 g_56) (zAt E D (zA τ sz) (zQ E D zrI 0 0 sz τ τ r g') 4 (sz, τ, 0, 0) g_56 56 [(0, .ref a), (1, .ref l1_56), (2, .int l2_56)] []) := by
    intro l1_56 l2_56 g_56 ht_l1_56
    unfold j_X4_readPut_56
    refine z_aload_n F 0 rfl rfl dX4_readPut_56 ?_
    refine z_getsN F 0 (by decide) q_524 dX4_readPut_57 ?_
    refine z_bipush (v := 9) F (by decide) dX4_readPut_60 ?_
    refine z_tald F 0 (by decide) dX4_readPut_62 ?_
    refine z_getsN F 1 (by decide) q_526 dX4_readPut_63 ?_
    refine z_bipush (v := 9) F (by decide) dX4_readPut_66 ?_
    refine z_tald F 1 (by decide) dX4_readPut_68 ?_
    refine k_X4_takeNumber F (by rw [hR]; exact ⟨by decide, by decide⟩) q_528 hta ⟨Nat.zero_le _, Nat.zero_le _⟩ (Nat.le_of_ble_eq_true rfl) dX4_readPut_69 (fun v1 g2 => ?_)
    refine z_if_ne (tgt := 77) F dX4_readPut_72 (by decide) (fun c3 => ?_) (fun c3 => ?_)
    · refine z_iconst (v := 0) F (by decide) dX4_readPut_75 ?_
      exact z_zreturn F rfl rfl rfl rfl rfl (fun h => h) dX4_readPut_76
    · refine z_aload_n F 0 rfl rfl dX4_readPut_77 ?_
      refine z_bipush (v := 7) F (by decide) dX4_readPut_78 ?_
      refine z_aload_n F 0 rfl rfl dX4_readPut_80 ?_
      refine gf_X4_129 F hta dX4_readPut_81 ?_
      refine z_iload_n F 2 rfl rfl dX4_readPut_84 ?_
      refine z_iadd F dX4_readPut_85 ?_
      refine k_X4_lookLater F (by rw [hR]; exact ⟨by decide, by decide⟩) q_532 hta ⟨Nat.zero_le _, Nat.zero_le _⟩ (Nat.le_of_ble_eq_true rfl) dX4_readPut_86 (fun v4 g5 => ?_)
      refine z_aload_n F 1 rfl rfl dX4_readPut_89 ?_
      refine z_bipush (v := 9) F (by decide) dX4_readPut_90 ?_
      refine z_aload_n F 0 rfl rfl dX4_readPut_92 ?_
      refine gf_X4_129 F hta dX4_readPut_93 ?_
      refine z_iload_n F 2 rfl rfl dX4_readPut_96 ?_
      refine k_X3_addOrder F (by rw [hR]; exact ⟨by decide, by decide⟩) q_544 ht_l1_56 ⟨Nat.zero_le _, Nat.zero_le _⟩ (Nat.le_of_ble_eq_true rfl) dX4_readPut_97 (fun v6 g7 => ?_)
      refine z_iconst (v := 1) F (by decide) dX4_readPut_100 ?_
      exact z_zreturn F rfl rfl rfl rfl rfl (fun h => h) dX4_readPut_101
  unfold f_X4_readPut
  refine z_aload_n F 0 rfl rfl dX4_readPut_0 ?_
  refine z_bipush (v := 44) F (by decide) dX4_readPut_1 ?_
  refine k_X4_take F (by rw [hR]; exact ⟨by decide, by decide⟩) q_512 hta ⟨Nat.zero_le _, Nat.zero_le _⟩ (Nat.le_of_ble_eq_true rfl) dX4_readPut_3 (fun v8 g9 => ?_)
  refine z_if_eq (tgt := 17) F dX4_readPut_6 (by decide) (fun c10 => ?_) (fun c10 => ?_)
  · refine z_iconst (v := 0) F (by decide) dX4_readPut_17 ?_
    exact z_zreturn F rfl rfl rfl rfl rfl (fun h => h) dX4_readPut_18
  · refine z_aload_n F 0 rfl rfl dX4_readPut_9 ?_
    refine z_iconst (v := 1) F (by decide) dX4_readPut_10 ?_
    refine k_X4_take F (by rw [hR]; exact ⟨by decide, by decide⟩) q_512 hta ⟨Nat.zero_le _, Nat.zero_le _⟩ (Nat.le_of_ble_eq_true rfl) dX4_readPut_11 (fun v11 g12 => ?_)
    refine z_if_ne (tgt := 19) F dX4_readPut_14 (by decide) (fun c13 => ?_) (fun c13 => ?_)
    · refine z_iconst (v := 0) F (by decide) dX4_readPut_17 ?_
      exact z_zreturn F rfl rfl rfl rfl rfl (fun h => h) dX4_readPut_18
    · refine z_aload_n F 0 rfl rfl dX4_readPut_19 ?_
      refine gf_X4_37 F hta dX4_readPut_20 ?_
      refine z_aload_n F 0 rfl rfl dX4_readPut_23 ?_
      refine gf_X4_70 F hta dX4_readPut_24 ?_
      refine z_isub F dX4_readPut_27 ?_
      refine z_leti (fun v14 => ?_)
      refine z_istore_n (lv' := [(2, .int v14), (0, .ref a), (1, .ref b1)]) F rfl (by decide) dX4_readPut_28 rfl ?_
      refine z_iconst (v := 0) F (by decide) dX4_readPut_29 ?_
      refine z_istore_n (lv' := [(3, .int 0), (2, .int v14), (0, .ref a), (1, .ref b1)]) F rfl (by decide) dX4_readPut_30 rfl ?_
      refine z_sub (lv' := [(0, .ref a), (1, .ref b1), (2, .int v14), (3, .int 0)]) [2, 3, 1, 0] rfl ?_
      refine z_loop (P := fun s : Int32 × zG => zAt E D (zA τ sz) (zQ E D zrI 0 0 sz τ τ r g') 4 (sz, τ, 0, 0) s.2 31 [(0, .ref a), (1, .ref b1), (2, .int v14), (3, .int s.1)] []) (Px := fun x : zG => zAt E D (zA τ sz) (zQ E D zrI 0 0 sz τ τ r g') 4 (sz, τ, 0, 0) x 56 [(0, .ref a), (1, .ref b1), (2, .int v14)] []) (0, g12) (fun s => ?_) (fun x => ?_)
      · obtain ⟨l3_31, g_31⟩ := s
        show zSim (zKl (fun s : Int32 × zG => zAt E D (zA τ sz) (zQ E D zrI 0 0 sz τ τ r g') 4 (sz, τ, 0, 0) s.2 31 [(0, .ref a), (1, .ref b1), (2, .int v14), (3, .int s.1)] []) (fun x : zG => zAt E D (zA τ sz) (zQ E D zrI 0 0 sz τ τ r g') 4 (sz, τ, 0, 0) x 56 [(0, .ref a), (1, .ref b1), (2, .int v14)] [])) (l_X4_readPut_31 a b1 v14 l3_31 g_31) (zAt E D (zA τ sz) (zQ E D zrI 0 0 sz τ τ r g') 4 (sz, τ, 0, 0) g_31 31 [(0, .ref a), (1, .ref b1), (2, .int v14), (3, .int l3_31)] [])
        unfold l_X4_readPut_31
        refine z_iload_n F 3 rfl rfl dX4_readPut_31 ?_
        refine z_iload_n F 2 rfl rfl dX4_readPut_32 ?_
        refine z_icmp_ge (tgt := 56) F dX4_readPut_33 (by decide) (fun c15 => ?_) (fun c15 => ?_)
        · refine z_sub (lv' := [(0, .ref a), (1, .ref b1), (2, .int v14)]) [0, 1, 2] rfl ?_
          exact z_back (fun h => h)
        · refine z_aload_n F 1 rfl rfl dX4_readPut_36 ?_
          refine z_aload_n F 0 rfl rfl dX4_readPut_37 ?_
          refine z_aload_n F 0 rfl rfl dX4_readPut_38 ?_
          refine gf_X4_70 F hta dX4_readPut_39 ?_
          refine z_iload_n F 3 rfl rfl dX4_readPut_42 ?_
          refine z_iadd F dX4_readPut_43 ?_
          refine k_X4_letterAt F (by rw [hR]; exact ⟨by decide, by decide⟩) q_516 hta ⟨Nat.zero_le _, Nat.zero_le _⟩ (Nat.le_of_ble_eq_true rfl) dX4_readPut_44 (fun v16 g17 => ?_)
          refine k_X3_addLetter F (by rw [hR]; exact ⟨by decide, by decide⟩) q_540 htb1 ⟨Nat.zero_le _, Nat.zero_le _⟩ (Nat.le_of_ble_eq_true rfl) dX4_readPut_47 (fun v18 g19 => ?_)
          refine z_iincl (lv' := fun v20 => [(3, .int v20), (0, .ref a), (1, .ref b1), (2, .int v14)]) F 3 rfl (by decide) (by decide) dX4_readPut_50 (fun _ => rfl) (fun v20 => ?_)
          refine z_goto (tgt := 31) F dX4_readPut_53 (by decide) ?_
          refine z_sub (lv' := [(0, .ref a), (1, .ref b1), (2, .int v14), (3, .int v20)]) [1, 2, 3, 0] rfl ?_
          exact z_back (fun h => h)
      · show zSim (fun q : Int32 × zG => q = (r, g')) (j_X4_readPut_56 a b1 v14 x) (zAt E D (zA τ sz) (zQ E D zrI 0 0 sz τ τ r g') 4 (sz, τ, 0, 0) x 56 [(0, .ref a), (1, .ref b1), (2, .int v14)] [])
        exact hj_X4_readPut_56 b1 v14 x htb1
theorem k_X4_readPut {ρ : Type} {K : ρ → Prop} {E : zE} {D : zD} {A : Nat → Prop} {Q : State → Prop} {nL : Nat} {κ : zC} {g : zG} {pc : Nat} {lv : List (Nat × Value)} {st : List Value} {cc : ByteArray} {own : String} {ret : Option FieldType} (F : zF E D A cc own nL ret) {index : Nat} {h : Int32 → zG → Option ρ} {a : Nat} {b1 : Nat}  (hR : 3 + 1 ≤ E.2.2.2.1.frames ∧ 8 + (4 + 11) + 65 ≤ E.2.2.2.1.locals) (hl : zTbl (.methodLink own index yX4_readPut)) (hta : κ.2.1 a = some (.inr 4)) (htb1 : κ.2.1 b1 = some (.inr 3)) (hc : κ.2.2.1 ≤ E.2.2.2.1.cells ∧ κ.2.2.2 ≤ E.2.2.2.1.slots) (hW : (st.map fun v => v.category).sum ≤ 8) (hd : decode cc pc = .ok (.invokevirtual index, 3)) (kk : ∀ r g', zSim K (h r g') (zAt E D A Q nL κ g' (pc + 3) lv (.int r :: st))) : zSim K (zb (f_X4_readPut a b1 g) h) (zAt E D A Q nL κ g pc lv (.ref b1 :: .ref a :: st)) :=
  z_callV F (n := 1) (As := [.ref b1]) (C := (RX4, TX4, 14)) ⟨q_539, q_8, by decide +kernel, rfl, rfl, hR.1, hR.2⟩ (c_X4_readPut E.2.1 D κ.1 κ.2.1 g a b1 hta htb1) hl q_538 q_1376 hta rfl rfl rfl hc hW hd kk _ rfl
theorem dX4_readLine_0 : decode cX4_readLine 0 = .ok (.aload_n 0, 1) := by decide +kernel
theorem dX4_readLine_1 : decode cX4_readLine 1 = .ok (.invokevirtual 66, 3) := by decide +kernel
theorem dX4_readLine_4 : decode cX4_readLine 4 = .ok (.istore_n 2, 1) := by decide +kernel
theorem dX4_readLine_5 : decode cX4_readLine 5 = .ok (.iload_n 2, 1) := by decide +kernel
theorem dX4_readLine_6 : decode cX4_readLine 6 = .ok (.bipush (-4), 2) := by decide +kernel
theorem dX4_readLine_8 : decode cX4_readLine 8 = .ok (.if_icmp .ne 13, 3) := by decide +kernel
theorem dX4_readLine_11 : decode cX4_readLine 11 = .ok (.aload_n 0, 1) := by decide +kernel
theorem dX4_readLine_12 : decode cX4_readLine 12 = .ok (.iconst 2, 1) := by decide +kernel
theorem dX4_readLine_13 : decode cX4_readLine 13 = .ok (.aload_n 0, 1) := by decide +kernel
theorem dX4_readLine_14 : decode cX4_readLine 14 = .ok (.getfield 70, 3) := by decide +kernel
theorem dX4_readLine_17 : decode cX4_readLine 17 = .ok (.invokevirtual 73, 3) := by decide +kernel
theorem dX4_readLine_20 : decode cX4_readLine 20 = .ok (.ireturn, 1) := by decide +kernel
theorem dX4_readLine_21 : decode cX4_readLine 21 = .ok (.iload_n 2, 1) := by decide +kernel
theorem dX4_readLine_22 : decode cX4_readLine 22 = .ok (.bipush 7, 2) := by decide +kernel
theorem dX4_readLine_24 : decode cX4_readLine 24 = .ok (.if_icmp .gt 24, 3) := by decide +kernel
theorem dX4_readLine_27 : decode cX4_readLine 27 = .ok (.aload_n 0, 1) := by decide +kernel
theorem dX4_readLine_28 : decode cX4_readLine 28 = .ok (.getfield 43, 3) := by decide +kernel
theorem dX4_readLine_31 : decode cX4_readLine 31 = .ok (.iload_n 2, 1) := by decide +kernel
theorem dX4_readLine_32 : decode cX4_readLine 32 = .ok (.ishr, 1) := by decide +kernel
theorem dX4_readLine_33 : decode cX4_readLine 33 = .ok (.iconst 1, 1) := by decide +kernel
theorem dX4_readLine_34 : decode cX4_readLine 34 = .ok (.iand, 1) := by decide +kernel
theorem dX4_readLine_35 : decode cX4_readLine 35 = .ok (.ifCond .eq 13, 3) := by decide +kernel
theorem dX4_readLine_38 : decode cX4_readLine 38 = .ok (.aload_n 0, 1) := by decide +kernel
theorem dX4_readLine_39 : decode cX4_readLine 39 = .ok (.iconst 4, 1) := by decide +kernel
theorem dX4_readLine_40 : decode cX4_readLine 40 = .ok (.aload_n 0, 1) := by decide +kernel
theorem dX4_readLine_41 : decode cX4_readLine 41 = .ok (.getfield 70, 3) := by decide +kernel
theorem dX4_readLine_44 : decode cX4_readLine 44 = .ok (.invokevirtual 73, 3) := by decide +kernel
theorem dX4_readLine_47 : decode cX4_readLine 47 = .ok (.ireturn, 1) := by decide +kernel
theorem dX4_readLine_48 : decode cX4_readLine 48 = .ok (.iload_n 2, 1) := by decide +kernel
theorem dX4_readLine_49 : decode cX4_readLine 49 = .ok (.bipush 9, 2) := by decide +kernel
theorem dX4_readLine_51 : decode cX4_readLine 51 = .ok (.if_icmp .lt 25, 3) := by decide +kernel
theorem dX4_readLine_54 : decode cX4_readLine 54 = .ok (.aload_n 1, 1) := by decide +kernel
theorem dX4_readLine_55 : decode cX4_readLine 55 = .ok (.getfield 77, 3) := by decide +kernel
theorem dX4_readLine_58 : decode cX4_readLine 58 = .ok (.getfield 81, 3) := by decide +kernel
theorem dX4_readLine_61 : decode cX4_readLine 61 = .ok (.bipush 24, 2) := by decide +kernel
theorem dX4_readLine_63 : decode cX4_readLine 63 = .ok (.if_icmp .lt 13, 3) := by decide +kernel
theorem dX4_readLine_66 : decode cX4_readLine 66 = .ok (.aload_n 0, 1) := by decide +kernel
theorem dX4_readLine_67 : decode cX4_readLine 67 = .ok (.iconst 5, 1) := by decide +kernel
theorem dX4_readLine_68 : decode cX4_readLine 68 = .ok (.aload_n 0, 1) := by decide +kernel
theorem dX4_readLine_69 : decode cX4_readLine 69 = .ok (.getfield 70, 3) := by decide +kernel
theorem dX4_readLine_72 : decode cX4_readLine 72 = .ok (.invokevirtual 73, 3) := by decide +kernel
theorem dX4_readLine_75 : decode cX4_readLine 75 = .ok (.ireturn, 1) := by decide +kernel
theorem dX4_readLine_76 : decode cX4_readLine 76 = .ok (.aload_n 0, 1) := by decide +kernel
theorem dX4_readLine_77 : decode cX4_readLine 77 = .ok (.dup, 1) := by decide +kernel
theorem dX4_readLine_78 : decode cX4_readLine 78 = .ok (.getfield 43, 3) := by decide +kernel
theorem dX4_readLine_81 : decode cX4_readLine 81 = .ok (.iconst 1, 1) := by decide +kernel
theorem dX4_readLine_82 : decode cX4_readLine 82 = .ok (.iload_n 2, 1) := by decide +kernel
theorem dX4_readLine_83 : decode cX4_readLine 83 = .ok (.ishl, 1) := by decide +kernel
theorem dX4_readLine_84 : decode cX4_readLine 84 = .ok (.ior, 1) := by decide +kernel
theorem dX4_readLine_85 : decode cX4_readLine 85 = .ok (.putfield 43, 3) := by decide +kernel
theorem dX4_readLine_88 : decode cX4_readLine 88 = .ok (.iconst 1, 1) := by decide +kernel
theorem dX4_readLine_89 : decode cX4_readLine 89 = .ok (.istore_n 3, 1) := by decide +kernel
theorem dX4_readLine_90 : decode cX4_readLine 90 = .ok (.iload_n 2, 1) := by decide +kernel
theorem dX4_readLine_91 : decode cX4_readLine 91 = .ok (.lookupswitch 91 #[(0, 41), (8, 53), (9, 65), (10, 77)], 41) := by decide +kernel
theorem dX4_readLine_132 : decode cX4_readLine 132 = .ok (.aload_n 0, 1) := by decide +kernel
theorem dX4_readLine_133 : decode cX4_readLine 133 = .ok (.aload_n 1, 1) := by decide +kernel
theorem dX4_readLine_134 : decode cX4_readLine 134 = .ok (.getfield 86, 3) := by decide +kernel
theorem dX4_readLine_137 : decode cX4_readLine 137 = .ok (.invokevirtual 90, 3) := by decide +kernel
theorem dX4_readLine_140 : decode cX4_readLine 140 = .ok (.istore_n 3, 1) := by decide +kernel
theorem dX4_readLine_141 : decode cX4_readLine 141 = .ok (.goto 48, 3) := by decide +kernel
theorem dX4_readLine_144 : decode cX4_readLine 144 = .ok (.aload_n 0, 1) := by decide +kernel
theorem dX4_readLine_145 : decode cX4_readLine 145 = .ok (.aload_n 1, 1) := by decide +kernel
theorem dX4_readLine_146 : decode cX4_readLine 146 = .ok (.getfield 94, 3) := by decide +kernel
theorem dX4_readLine_149 : decode cX4_readLine 149 = .ok (.invokevirtual 97, 3) := by decide +kernel
theorem dX4_readLine_152 : decode cX4_readLine 152 = .ok (.istore_n 3, 1) := by decide +kernel
theorem dX4_readLine_153 : decode cX4_readLine 153 = .ok (.goto 36, 3) := by decide +kernel
theorem dX4_readLine_156 : decode cX4_readLine 156 = .ok (.aload_n 0, 1) := by decide +kernel
theorem dX4_readLine_157 : decode cX4_readLine 157 = .ok (.aload_n 1, 1) := by decide +kernel
theorem dX4_readLine_158 : decode cX4_readLine 158 = .ok (.getfield 77, 3) := by decide +kernel
theorem dX4_readLine_161 : decode cX4_readLine 161 = .ok (.invokevirtual 101, 3) := by decide +kernel
theorem dX4_readLine_164 : decode cX4_readLine 164 = .ok (.istore_n 3, 1) := by decide +kernel
theorem dX4_readLine_165 : decode cX4_readLine 165 = .ok (.goto 24, 3) := by decide +kernel
theorem dX4_readLine_168 : decode cX4_readLine 168 = .ok (.aload_n 1, 1) := by decide +kernel
theorem dX4_readLine_169 : decode cX4_readLine 169 = .ok (.getfield 77, 3) := by decide +kernel
theorem dX4_readLine_172 : decode cX4_readLine 172 = .ok (.bipush 10, 2) := by decide +kernel
theorem dX4_readLine_174 : decode cX4_readLine 174 = .ok (.iconst 0, 1) := by decide +kernel
theorem dX4_readLine_175 : decode cX4_readLine 175 = .ok (.iconst 0, 1) := by decide +kernel
theorem dX4_readLine_176 : decode cX4_readLine 176 = .ok (.invokevirtual 105, 3) := by decide +kernel
theorem dX4_readLine_179 : decode cX4_readLine 179 = .ok (.goto 10, 3) := by decide +kernel
theorem dX4_readLine_182 : decode cX4_readLine 182 = .ok (.aload_n 0, 1) := by decide +kernel
theorem dX4_readLine_183 : decode cX4_readLine 183 = .ok (.iload_n 2, 1) := by decide +kernel
theorem dX4_readLine_184 : decode cX4_readLine 184 = .ok (.aload_n 1, 1) := by decide +kernel
theorem dX4_readLine_185 : decode cX4_readLine 185 = .ok (.invokevirtual 109, 3) := by decide +kernel
theorem dX4_readLine_188 : decode cX4_readLine 188 = .ok (.istore_n 3, 1) := by decide +kernel
theorem dX4_readLine_189 : decode cX4_readLine 189 = .ok (.iload_n 3, 1) := by decide +kernel
theorem dX4_readLine_190 : decode cX4_readLine 190 = .ok (.ifCond .eq 16, 3) := by decide +kernel
theorem dX4_readLine_193 : decode cX4_readLine 193 = .ok (.aload_n 0, 1) := by decide +kernel
theorem dX4_readLine_194 : decode cX4_readLine 194 = .ok (.bipush 59, 2) := by decide +kernel
theorem dX4_readLine_196 : decode cX4_readLine 196 = .ok (.invokevirtual 113, 3) := by decide +kernel
theorem dX4_readLine_199 : decode cX4_readLine 199 = .ok (.ifCond .eq 7, 3) := by decide +kernel
theorem dX4_readLine_202 : decode cX4_readLine 202 = .ok (.iconst 1, 1) := by decide +kernel
theorem dX4_readLine_203 : decode cX4_readLine 203 = .ok (.goto 4, 3) := by decide +kernel
theorem dX4_readLine_206 : decode cX4_readLine 206 = .ok (.iconst 0, 1) := by decide +kernel
theorem dX4_readLine_207 : decode cX4_readLine 207 = .ok (.ireturn, 1) := by decide +kernel
def j_X4_readLine_189 (a : Nat) (l3 : Int32) (g : zG) : Option (Int32 × zG) :=
  if l3 = 0 then (some ((0, g))) else (zb (f_X4_take a 59 g) (fun v2 g3 => if v2 = 0 then (some ((0, g3))) else (some ((1, g3)))))
def j_X4_readLine_76 (a : Nat) (l1 : Nat) (l2 : Int32) (g : zG) : Option (Int32 × zG) :=
  zl (zsi g a 9 ((g.1 a 9) ||| (zshl 1 l2))) (fun g5 => if l2 = 0 then (zb (f_X4_readChain a (g5.2.1 l1 0) g5) (fun v8 g9 => j_X4_readLine_189 a v8 g9)) else (if l2 = 8 then (zb (f_X4_readHole a (g5.2.1 l1 3) g5) (fun v12 g13 => j_X4_readLine_189 a v12 g13)) else (if l2 = 9 then (zb (f_X4_readPut a (g5.2.1 l1 1) g5) (fun v16 g17 => j_X4_readLine_189 a v16 g17)) else (if l2 = 10 then (zb (f_X3_addOrder (g5.2.1 l1 1) 10 0 0 g5) (fun v20 g21 => j_X4_readLine_189 a 1 g21)) else (zb (f_X4_readNumbered a l2 l1 g5) (fun v22 g23 => j_X4_readLine_189 a v22 g23))))))
def j_X4_readLine_48 (a : Nat) (l1 : Nat) (l2 : Int32) (g : zG) : Option (Int32 × zG) :=
  if l2 < 9 then (j_X4_readLine_76 a l1 l2 g) else (if (g.1 (g.2.1 l1 1) 5) < 24 then (j_X4_readLine_76 a l1 l2 g) else (zb (f_X4_fail a 5 (g.1 a 6) g) (fun v27 g28 => zc (v27 = 0 ∨ v27 = 1) (some ((v27, g28))))))
def f_X4_readLine (a : Nat) (b1 : Nat) (g : zG) : Option (Int32 × zG) :=
  zb (f_X4_wordOfToken a g) (fun v30 g31 => if v30 = (-4) then (zb (f_X4_fail a 2 (g31.1 a 6) g31) (fun v33 g34 => zc (v33 = 0 ∨ v33 = 1) (some ((v33, g34))))) else (if 7 < v30 then (j_X4_readLine_48 a b1 v30 g31) else (if ((zshr (g31.1 a 9) v30) &&& 1) = 0 then (j_X4_readLine_48 a b1 v30 g31) else (zb (f_X4_fail a 4 (g31.1 a 6) g31) (fun v38 g39 => zc (v38 = 0 ∨ v38 = 1) (some ((v38, g39))))))))
abbrev rm_X4_readLine : Room := { frames := 6, cells := 0, slots := 0, locals := 131 }
set_option maxRecDepth 100000 in
set_option maxHeartbeats 4000000 in
theorem c_X4_readLine (l : Launch) (D : zD) (sz : Nat) (τ : zT) (g : zG) (a : Nat) (b1 : Nat) (hta : τ a = some (.inr 4)) (htb1 : τ b1 = some (.inr 5)) : zCon l D yX4_readLine cX4_readLine 4 (some .boolean) rm_X4_readLine 0 0 zrI [.ref a, .ref b1] sz τ g τ (f_X4_readLine a b1 g) := by
  refine zCon.of (by decide) (Nat.le_of_ble_eq_true rfl) (fun E r g' hl hR hsz hnm F => ?_)
  have F : zF E D (zA τ sz) cX4_readLine "TypeChain$Reader" 4 (some .boolean) := F
  show zSim (fun q : Int32 × zG => q = (r, g')) (f_X4_readLine a b1 g) (zAt E D (zA τ sz) (zQ E D zrI 0 0 sz τ τ r g') 4 (sz, τ, 0, 0) g 0 [(0, .ref a), (1, .ref b1)] [])
  have hj_X4_readLine_189 : ∀ (l3_189 : Int32) (g_189 : zG), zSim (fun q : Int32 × zG => q = (r, g')) (j_X4_readLine_189 a l3_189 g_189) (zAt E D (zA τ sz) (zQ E D zrI 0 0 sz τ τ r g') 4 (sz, τ, 0, 0) g_189 189 [(0, .ref a), (3, .int l3_189)] []) := by
    intro l3_189 g_189
    unfold j_X4_readLine_189
    refine z_iload_n F 1 rfl rfl dX4_readLine_189 ?_
    refine z_if_eq (tgt := 206) F dX4_readLine_190 (by decide) (fun c1 => ?_) (fun c1 => ?_)
    · refine z_iconst (v := 0) F (by decide) dX4_readLine_206 ?_
      exact z_zreturn F rfl rfl rfl rfl rfl (fun h => h) dX4_readLine_207
    · refine z_aload_n F 0 rfl rfl dX4_readLine_193 ?_
      refine z_bipush (v := 59) F (by decide) dX4_readLine_194 ?_
      refine k_X4_take F (by rw [hR]; exact ⟨by decide, by decide⟩) q_512 hta ⟨Nat.zero_le _, Nat.zero_le _⟩ (Nat.le_of_ble_eq_true rfl) dX4_readLine_196 (fun v2 g3 => ?_)
      refine z_if_eq (tgt := 206) F dX4_readLine_199 (by decide) (fun c4 => ?_) (fun c4 => ?_)
      · refine z_iconst (v := 0) F (by decide) dX4_readLine_206 ?_
        exact z_zreturn F rfl rfl rfl rfl rfl (fun h => h) dX4_readLine_207
      · refine z_iconst (v := 1) F (by decide) dX4_readLine_202 ?_
        refine z_goto (tgt := 207) F dX4_readLine_203 (by decide) ?_
        exact z_zreturn F rfl rfl rfl rfl rfl (fun h => h) dX4_readLine_207
  have hj_X4_readLine_76 : ∀ (l1_76 : Nat) (l2_76 : Int32) (g_76 : zG), τ l1_76 = some (.inr 5) → zSim (fun q : Int32 × zG => q = (r, g')) (j_X4_readLine_76 a l1_76 l2_76 g_76) (zAt E D (zA τ sz) (zQ E D zrI 0 0 sz τ τ r g') 4 (sz, τ, 0, 0) g_76 76 [(0, .ref a), (1, .ref l1_76), (2, .int l2_76)] []) := by
    intro l1_76 l2_76 g_76 ht_l1_76
    unfold j_X4_readLine_76
    refine z_aload_n F 0 rfl rfl dX4_readLine_76 ?_
    refine z_dup F rfl dX4_readLine_77 ?_
    refine gf_X4_43 F hta dX4_readLine_78 ?_
    refine z_iconst (v := 1) F (by decide) dX4_readLine_81 ?_
    refine z_iload_n F 2 rfl rfl dX4_readLine_82 ?_
    refine z_ishl F dX4_readLine_83 ?_
    refine z_ior F dX4_readLine_84 ?_
    refine pf_X4_43 F hta dX4_readLine_85 ?_
    refine z_letg (fun g5 => ?_)
    refine z_iconst (v := 1) F (by decide) dX4_readLine_88 ?_
    refine z_istore_n (lv' := [(3, .int 1), (0, .ref a), (1, .ref l1_76), (2, .int l2_76)]) F rfl (by decide) dX4_readLine_89 rfl ?_
    refine z_iload_n F 3 rfl rfl dX4_readLine_90 ?_
    refine z_ite (fun c6 => ?_) (fun c6 => ?_)
    · refine z_lookup (off := 41) (tgt := 132) F dX4_readLine_91 rfl (by rw [c6]; decide) (by decide) ?_
      refine z_aload_n F 1 rfl rfl dX4_readLine_132 ?_
      refine z_aload_n F 2 rfl rfl dX4_readLine_133 ?_
      refine gf_X4_86 F ht_l1_76 dX4_readLine_134 (fun ht7 => ?_)
      refine k_X4_readChain F (by rw [hR]; exact ⟨by decide, by decide⟩) q_508 hta ht7 ⟨Nat.zero_le _, Nat.zero_le _⟩ (Nat.le_of_ble_eq_true rfl) dX4_readLine_137 (fun v8 g9 => ?_)
      refine z_istore_n (lv' := [(3, .int v8), (0, .ref a), (1, .ref l1_76), (2, .int l2_76)]) F rfl (by decide) dX4_readLine_140 rfl ?_
      refine z_goto (tgt := 189) F dX4_readLine_141 (by decide) ?_
      refine z_sub (lv' := [(0, .ref a), (3, .int v8)]) [1, 0] rfl ?_
      exact hj_X4_readLine_189 v8 g9
    ·
      refine z_ite (fun c10 => ?_) (fun c10 => ?_)
      · refine z_lookup (off := 53) (tgt := 144) F dX4_readLine_91 rfl (by rw [c10]; decide) (by decide) ?_
        refine z_aload_n F 1 rfl rfl dX4_readLine_144 ?_
        refine z_aload_n F 2 rfl rfl dX4_readLine_145 ?_
        refine gf_X4_94 F ht_l1_76 dX4_readLine_146 (fun ht11 => ?_)
        refine k_X4_readHole F (by rw [hR]; exact ⟨by decide, by decide⟩) q_520 hta ht11 ⟨Nat.zero_le _, Nat.zero_le _⟩ (Nat.le_of_ble_eq_true rfl) dX4_readLine_149 (fun v12 g13 => ?_)
        refine z_istore_n (lv' := [(3, .int v12), (0, .ref a), (1, .ref l1_76), (2, .int l2_76)]) F rfl (by decide) dX4_readLine_152 rfl ?_
        refine z_goto (tgt := 189) F dX4_readLine_153 (by decide) ?_
        refine z_sub (lv' := [(0, .ref a), (3, .int v12)]) [1, 0] rfl ?_
        exact hj_X4_readLine_189 v12 g13
      ·
        refine z_ite (fun c14 => ?_) (fun c14 => ?_)
        · refine z_lookup (off := 65) (tgt := 156) F dX4_readLine_91 rfl (by rw [c14]; decide) (by decide) ?_
          refine z_aload_n F 1 rfl rfl dX4_readLine_156 ?_
          refine z_aload_n F 2 rfl rfl dX4_readLine_157 ?_
          refine gf_X4_77 F ht_l1_76 dX4_readLine_158 (fun ht15 => ?_)
          refine k_X4_readPut F (by rw [hR]; exact ⟨by decide, by decide⟩) q_536 hta ht15 ⟨Nat.zero_le _, Nat.zero_le _⟩ (Nat.le_of_ble_eq_true rfl) dX4_readLine_161 (fun v16 g17 => ?_)
          refine z_istore_n (lv' := [(3, .int v16), (0, .ref a), (1, .ref l1_76), (2, .int l2_76)]) F rfl (by decide) dX4_readLine_164 rfl ?_
          refine z_goto (tgt := 189) F dX4_readLine_165 (by decide) ?_
          refine z_sub (lv' := [(0, .ref a), (3, .int v16)]) [1, 0] rfl ?_
          exact hj_X4_readLine_189 v16 g17
        ·
          refine z_ite (fun c18 => ?_) (fun c18 => ?_)
          · refine z_lookup (off := 77) (tgt := 168) F dX4_readLine_91 rfl (by rw [c18]; decide) (by decide) ?_
            refine z_aload_n F 2 rfl rfl dX4_readLine_168 ?_
            refine gf_X4_77 F ht_l1_76 dX4_readLine_169 (fun ht19 => ?_)
            refine z_bipush (v := 10) F (by decide) dX4_readLine_172 ?_
            refine z_iconst (v := 0) F (by decide) dX4_readLine_174 ?_
            refine z_iconst (v := 0) F (by decide) dX4_readLine_175 ?_
            refine k_X3_addOrder F (by rw [hR]; exact ⟨by decide, by decide⟩) q_544 ht19 ⟨Nat.zero_le _, Nat.zero_le _⟩ (Nat.le_of_ble_eq_true rfl) dX4_readLine_176 (fun v20 g21 => ?_)
            refine z_goto (tgt := 189) F dX4_readLine_179 (by decide) ?_
            refine z_sub (lv' := [(0, .ref a), (3, .int 1)]) [1, 0] rfl ?_
            exact hj_X4_readLine_189 1 g21
          ·
            refine z_lookup (off := 91) (tgt := 182) F dX4_readLine_91 rfl (by rw [lv_osw c6 (by decide), lv_osw c10 (by decide), lv_osw c14 (by decide), lv_osw c18 (by decide)]; rfl) (by decide) ?_
            refine z_aload_n F 1 rfl rfl dX4_readLine_182 ?_
            refine z_iload_n F 3 rfl rfl dX4_readLine_183 ?_
            refine z_aload_n F 2 rfl rfl dX4_readLine_184 ?_
            refine k_X4_readNumbered F (by rw [hR]; exact ⟨by decide, by decide⟩) q_548 hta ht_l1_76 ⟨Nat.zero_le _, Nat.zero_le _⟩ (Nat.le_of_ble_eq_true rfl) dX4_readLine_185 (fun v22 g23 => ?_)
            refine z_istore_n (lv' := [(3, .int v22), (0, .ref a), (1, .ref l1_76), (2, .int l2_76)]) F rfl (by decide) dX4_readLine_188 rfl ?_
            refine z_sub (lv' := [(0, .ref a), (3, .int v22)]) [1, 0] rfl ?_
            exact hj_X4_readLine_189 v22 g23
  have hj_X4_readLine_48 : ∀ (l1_48 : Nat) (l2_48 : Int32) (g_48 : zG), τ l1_48 = some (.inr 5) → zSim (fun q : Int32 × zG => q = (r, g')) (j_X4_readLine_48 a l1_48 l2_48 g_48) (zAt E D (zA τ sz) (zQ E D zrI 0 0 sz τ τ r g') 4 (sz, τ, 0, 0) g_48 48 [(0, .ref a), (1, .ref l1_48), (2, .int l2_48)] []) := by
    intro l1_48 l2_48 g_48 ht_l1_48
    unfold j_X4_readLine_48
    refine z_iload_n F 2 rfl rfl dX4_readLine_48 ?_
    refine z_bipush (v := 9) F (by decide) dX4_readLine_49 ?_
    refine z_icmp_lt (tgt := 76) F dX4_readLine_51 (by decide) (fun c24 => ?_) (fun c24 => ?_)
    · exact hj_X4_readLine_76 l1_48 l2_48 g_48 ht_l1_48
    · refine z_aload_n F 1 rfl rfl dX4_readLine_54 ?_
      refine gf_X4_77 F ht_l1_48 dX4_readLine_55 (fun ht25 => ?_)
      refine gf_X4_81 F ht25 dX4_readLine_58 ?_
      refine z_bipush (v := 24) F (by decide) dX4_readLine_61 ?_
      refine z_icmp_lt (tgt := 76) F dX4_readLine_63 (by decide) (fun c26 => ?_) (fun c26 => ?_)
      · exact hj_X4_readLine_76 l1_48 l2_48 g_48 ht_l1_48
      · refine z_aload_n F 0 rfl rfl dX4_readLine_66 ?_
        refine z_iconst (v := 5) F (by decide) dX4_readLine_67 ?_
        refine z_aload_n F 0 rfl rfl dX4_readLine_68 ?_
        refine gf_X4_70 F hta dX4_readLine_69 ?_
        refine k_X4_fail F (by rw [hR]; exact ⟨by decide, by decide⟩) q_446 hta ⟨Nat.zero_le _, Nat.zero_le _⟩ (Nat.le_of_ble_eq_true rfl) dX4_readLine_72 (fun v27 g28 => ?_)
        exact z_zc (fun c29 => z_zreturn F (znar01 c29) rfl rfl rfl rfl (fun h => h) dX4_readLine_75)
  unfold f_X4_readLine
  refine z_aload_n F 0 rfl rfl dX4_readLine_0 ?_
  refine k_X4_wordOfToken F (by rw [hR]; exact ⟨by decide, by decide⟩) q_459 hta ⟨Nat.zero_le _, Nat.zero_le _⟩ (Nat.le_of_ble_eq_true rfl) dX4_readLine_1 (fun v30 g31 => ?_)
  refine z_istore_n (lv' := [(2, .int v30), (0, .ref a), (1, .ref b1)]) F rfl (by decide) dX4_readLine_4 rfl ?_
  refine z_iload_n F 0 rfl rfl dX4_readLine_5 ?_
  refine z_bipush (v := (-4)) F (by decide) dX4_readLine_6 ?_
  refine z_icmp_ne (tgt := 21) F dX4_readLine_8 (by decide) (fun c32 => ?_) (fun c32 => ?_)
  · refine z_aload_n F 1 rfl rfl dX4_readLine_11 ?_
    refine z_iconst (v := 2) F (by decide) dX4_readLine_12 ?_
    refine z_aload_n F 1 rfl rfl dX4_readLine_13 ?_
    refine gf_X4_70 F hta dX4_readLine_14 ?_
    refine k_X4_fail F (by rw [hR]; exact ⟨by decide, by decide⟩) q_446 hta ⟨Nat.zero_le _, Nat.zero_le _⟩ (Nat.le_of_ble_eq_true rfl) dX4_readLine_17 (fun v33 g34 => ?_)
    exact z_zc (fun c35 => z_zreturn F (znar01 c35) rfl rfl rfl rfl (fun h => h) dX4_readLine_20)
  · refine z_iload_n F 0 rfl rfl dX4_readLine_21 ?_
    refine z_bipush (v := 7) F (by decide) dX4_readLine_22 ?_
    refine z_icmp_gt (tgt := 48) F dX4_readLine_24 (by decide) (fun c36 => ?_) (fun c36 => ?_)
    · refine z_sub (lv' := [(0, .ref a), (1, .ref b1), (2, .int v30)]) [1, 2, 0] rfl ?_
      exact hj_X4_readLine_48 b1 v30 g31 htb1
    · refine z_aload_n F 1 rfl rfl dX4_readLine_27 ?_
      refine gf_X4_43 F hta dX4_readLine_28 ?_
      refine z_iload_n F 0 rfl rfl dX4_readLine_31 ?_
      refine z_ishr F dX4_readLine_32 ?_
      refine z_iconst (v := 1) F (by decide) dX4_readLine_33 ?_
      refine z_iand F dX4_readLine_34 ?_
      refine z_if_eq (tgt := 48) F dX4_readLine_35 (by decide) (fun c37 => ?_) (fun c37 => ?_)
      · refine z_sub (lv' := [(0, .ref a), (1, .ref b1), (2, .int v30)]) [1, 2, 0] rfl ?_
        exact hj_X4_readLine_48 b1 v30 g31 htb1
      · refine z_aload_n F 1 rfl rfl dX4_readLine_38 ?_
        refine z_iconst (v := 4) F (by decide) dX4_readLine_39 ?_
        refine z_aload_n F 1 rfl rfl dX4_readLine_40 ?_
        refine gf_X4_70 F hta dX4_readLine_41 ?_
        refine k_X4_fail F (by rw [hR]; exact ⟨by decide, by decide⟩) q_446 hta ⟨Nat.zero_le _, Nat.zero_le _⟩ (Nat.le_of_ble_eq_true rfl) dX4_readLine_44 (fun v38 g39 => ?_)
        exact z_zc (fun c40 => z_zreturn F (znar01 c40) rfl rfl rfl rfl (fun h => h) dX4_readLine_47)
theorem k_X4_readLine {ρ : Type} {K : ρ → Prop} {E : zE} {D : zD} {A : Nat → Prop} {Q : State → Prop} {nL : Nat} {κ : zC} {g : zG} {pc : Nat} {lv : List (Nat × Value)} {st : List Value} {cc : ByteArray} {own : String} {ret : Option FieldType} (F : zF E D A cc own nL ret) {index : Nat} {h : Int32 → zG → Option ρ} {a : Nat} {b1 : Nat}  (hR : 6 + 1 ≤ E.2.2.2.1.frames ∧ 8 + (4 + 11) + 131 ≤ E.2.2.2.1.locals) (hl : zTbl (.methodLink own index yX4_readLine)) (hta : κ.2.1 a = some (.inr 4)) (htb1 : κ.2.1 b1 = some (.inr 5)) (hc : κ.2.2.1 ≤ E.2.2.2.1.cells ∧ κ.2.2.2 ≤ E.2.2.2.1.slots) (hW : (st.map fun v => v.category).sum ≤ 8) (hd : decode cc pc = .ok (.invokevirtual index, 3)) (kk : ∀ r g', zSim K (h r g') (zAt E D A Q nL κ g' (pc + 3) lv (.int r :: st))) : zSim K (zb (f_X4_readLine a b1 g) h) (zAt E D A Q nL κ g pc lv (.ref b1 :: .ref a :: st)) :=
  z_callV F (n := 1) (As := [.ref b1]) (C := (RX4, TX4, 14)) ⟨q_458, q_8, by decide +kernel, rfl, rfl, hR.1, hR.2⟩ (c_X4_readLine E.2.1 D κ.1 κ.2.1 g a b1 hta htb1) hl q_457 q_1367 hta rfl rfl rfl hc hW hd kk _ rfl
theorem dX4_readInto_0 : decode cX4_readInto 0 = .ok (.aload_n 1, 1) := by decide +kernel
theorem dX4_readInto_1 : decode cX4_readInto 1 = .ok (.invokevirtual 29, 3) := by decide +kernel
theorem dX4_readInto_4 : decode cX4_readInto 4 = .ok (.aload_n 0, 1) := by decide +kernel
theorem dX4_readInto_5 : decode cX4_readInto 5 = .ok (.iconst 0, 1) := by decide +kernel
theorem dX4_readInto_6 : decode cX4_readInto 6 = .ok (.putfield 34, 3) := by decide +kernel
theorem dX4_readInto_9 : decode cX4_readInto 9 = .ok (.aload_n 0, 1) := by decide +kernel
theorem dX4_readInto_10 : decode cX4_readInto 10 = .ok (.iconst 0, 1) := by decide +kernel
theorem dX4_readInto_11 : decode cX4_readInto 11 = .ok (.putfield 37, 3) := by decide +kernel
theorem dX4_readInto_14 : decode cX4_readInto 14 = .ok (.aload_n 0, 1) := by decide +kernel
theorem dX4_readInto_15 : decode cX4_readInto 15 = .ok (.iconst 0, 1) := by decide +kernel
theorem dX4_readInto_16 : decode cX4_readInto 16 = .ok (.putfield 40, 3) := by decide +kernel
theorem dX4_readInto_19 : decode cX4_readInto 19 = .ok (.aload_n 0, 1) := by decide +kernel
theorem dX4_readInto_20 : decode cX4_readInto 20 = .ok (.iconst 0, 1) := by decide +kernel
theorem dX4_readInto_21 : decode cX4_readInto 21 = .ok (.putfield 43, 3) := by decide +kernel
theorem dX4_readInto_24 : decode cX4_readInto 24 = .ok (.aload_n 0, 1) := by decide +kernel
theorem dX4_readInto_25 : decode cX4_readInto 25 = .ok (.iconst 0, 1) := by decide +kernel
theorem dX4_readInto_26 : decode cX4_readInto 26 = .ok (.putfield 46, 3) := by decide +kernel
theorem dX4_readInto_29 : decode cX4_readInto 29 = .ok (.iconst 0, 1) := by decide +kernel
theorem dX4_readInto_30 : decode cX4_readInto 30 = .ok (.istore_n 2, 1) := by decide +kernel
theorem dX4_readInto_31 : decode cX4_readInto 31 = .ok (.iload_n 2, 1) := by decide +kernel
theorem dX4_readInto_32 : decode cX4_readInto 32 = .ok (.sipush 240, 3) := by decide +kernel
theorem dX4_readInto_35 : decode cX4_readInto 35 = .ok (.if_icmp .gt 55, 3) := by decide +kernel
theorem dX4_readInto_38 : decode cX4_readInto 38 = .ok (.aload_n 0, 1) := by decide +kernel
theorem dX4_readInto_39 : decode cX4_readInto 39 = .ok (.invokevirtual 49, 3) := by decide +kernel
theorem dX4_readInto_42 : decode cX4_readInto 42 = .ok (.ifCond .ne 5, 3) := by decide +kernel
theorem dX4_readInto_45 : decode cX4_readInto 45 = .ok (.iconst 0, 1) := by decide +kernel
theorem dX4_readInto_46 : decode cX4_readInto 46 = .ok (.ireturn, 1) := by decide +kernel
theorem dX4_readInto_47 : decode cX4_readInto 47 = .ok (.aload_n 0, 1) := by decide +kernel
theorem dX4_readInto_48 : decode cX4_readInto 48 = .ok (.getfield 53, 3) := by decide +kernel
theorem dX4_readInto_51 : decode cX4_readInto 51 = .ok (.ifCond .ne 13, 3) := by decide +kernel
theorem dX4_readInto_54 : decode cX4_readInto 54 = .ok (.aload_n 1, 1) := by decide +kernel
theorem dX4_readInto_55 : decode cX4_readInto 55 = .ok (.invokevirtual 56, 3) := by decide +kernel
theorem dX4_readInto_58 : decode cX4_readInto 58 = .ok (.aload_n 0, 1) := by decide +kernel
theorem dX4_readInto_59 : decode cX4_readInto 59 = .ok (.aload_n 1, 1) := by decide +kernel
theorem dX4_readInto_60 : decode cX4_readInto 60 = .ok (.invokevirtual 59, 3) := by decide +kernel
theorem dX4_readInto_63 : decode cX4_readInto 63 = .ok (.ireturn, 1) := by decide +kernel
theorem dX4_readInto_64 : decode cX4_readInto 64 = .ok (.aload_n 0, 1) := by decide +kernel
theorem dX4_readInto_65 : decode cX4_readInto 65 = .ok (.aload_n 1, 1) := by decide +kernel
theorem dX4_readInto_66 : decode cX4_readInto 66 = .ok (.invokevirtual 63, 3) := by decide +kernel
theorem dX4_readInto_69 : decode cX4_readInto 69 = .ok (.ifCond .ne 5, 3) := by decide +kernel
theorem dX4_readInto_72 : decode cX4_readInto 72 = .ok (.iconst 0, 1) := by decide +kernel
theorem dX4_readInto_73 : decode cX4_readInto 73 = .ok (.ireturn, 1) := by decide +kernel
theorem dX4_readInto_74 : decode cX4_readInto 74 = .ok (.aload_n 0, 1) := by decide +kernel
theorem dX4_readInto_75 : decode cX4_readInto 75 = .ok (.dup, 1) := by decide +kernel
theorem dX4_readInto_76 : decode cX4_readInto 76 = .ok (.getfield 40, 3) := by decide +kernel
theorem dX4_readInto_79 : decode cX4_readInto 79 = .ok (.iconst 1, 1) := by decide +kernel
theorem dX4_readInto_80 : decode cX4_readInto 80 = .ok (.iadd, 1) := by decide +kernel
theorem dX4_readInto_81 : decode cX4_readInto 81 = .ok (.putfield 40, 3) := by decide +kernel
theorem dX4_readInto_84 : decode cX4_readInto 84 = .ok (.iinc 2 1, 3) := by decide +kernel
theorem dX4_readInto_87 : decode cX4_readInto 87 = .ok (.goto (-56), 3) := by decide +kernel
theorem dX4_readInto_90 : decode cX4_readInto 90 = .ok (.iconst 0, 1) := by decide +kernel
theorem dX4_readInto_91 : decode cX4_readInto 91 = .ok (.ireturn, 1) := by decide +kernel
def j_X4_readInto_45 (a : Nat)  (g : zG) : Option (Int32 × zG) :=
  some ((0, g))
def l_X4_readInto_31 (a : Nat) (l1 : Nat) (l2 : Int32) (g : zG) : Option ((Int32 × zG) ⊕ ((zG) ⊕ (Int32 × zG))) :=
  if 240 < l2 then (some (.inr (.inr (0, g)))) else (zb (f_X4_nextToken a g) (fun v9 g10 => if v9 = 0 then (some (.inr (.inl g10))) else (if (g10.1 a 5) = 0 then (zb (f_X5_settle l1 g10) (fun v13 g14 => zb (f_X4_lookBehindAll a l1 g14) (fun v15 g16 => zc (v15 = 0 ∨ v15 = 1) (some (.inr (.inr (v15, g16))))))) else (zb (f_X4_readLine a l1 g10) (fun v18 g19 => if v18 = 0 then (some (.inr (.inr (0, g19)))) else (zl (zsi g19 a 4 ((g19.1 a 4) + 1)) (fun g21 => zl (l2 + 1) (fun v22 => some (.inl (v22, g21))))))))))
def f_X4_readInto (a : Nat) (b1 : Nat) (g : zG) : Option (Int32 × zG) :=
  zb (f_X5_beAtFirst b1 g) (fun v1 g2 => zl (zsi g2 a 2 0) (fun g3 => zl (zsi g3 a 7 0) (fun g4 => zl (zsi g4 a 4 0) (fun g5 => zl (zsi g5 a 9 0) (fun g6 => zl (zsi g6 a 13 0) (fun g7 => zk2 (zw zN (fun s => l_X4_readInto_31 a b1 s.1 s.2) (0, g7)) (fun x => j_X4_readInto_45 a x)))))))
abbrev rm_X4_readInto : Room := { frames := 7, cells := 0, slots := 0, locals := 154 }
set_option maxRecDepth 100000 in
set_option maxHeartbeats 4000000 in
theorem c_X4_readInto (l : Launch) (D : zD) (sz : Nat) (τ : zT) (g : zG) (a : Nat) (b1 : Nat) (hta : τ a = some (.inr 4)) (htb1 : τ b1 = some (.inr 5)) : zCon l D yX4_readInto cX4_readInto 3 (some .boolean) rm_X4_readInto 0 0 zrI [.ref a, .ref b1] sz τ g τ (f_X4_readInto a b1 g) := by
  refine zCon.of (by decide) (Nat.le_of_ble_eq_true rfl) (fun E r g' hl hR hsz hnm F => ?_)
  have F : zF E D (zA τ sz) cX4_readInto "TypeChain$Reader" 3 (some .boolean) := F
  show zSim (fun q : Int32 × zG => q = (r, g')) (f_X4_readInto a b1 g) (zAt E D (zA τ sz) (zQ E D zrI 0 0 sz τ τ r g') 3 (sz, τ, 0, 0) g 0 [(0, .ref a), (1, .ref b1)] [])
  have hj_X4_readInto_45 : ∀  (g_45 : zG), zSim (fun q : Int32 × zG => q = (r, g')) (j_X4_readInto_45 a g_45) (zAt E D (zA τ sz) (zQ E D zrI 0 0 sz τ τ r g') 3 (sz, τ, 0, 0) g_45 45 [] []) := by
    intro g_45
    unfold j_X4_readInto_45
    refine z_iconst (v := 0) F (by decide) dX4_readInto_45 ?_
    exact z_zreturn F rfl rfl rfl rfl rfl (fun h => h) dX4_readInto_46
  unfold f_X4_readInto
  refine z_aload_n F 1 rfl rfl dX4_readInto_0 ?_
  refine k_X5_beAtFirst F (by rw [hR]; exact ⟨by decide, by decide⟩) q_438 htb1 ⟨Nat.zero_le _, Nat.zero_le _⟩ (Nat.le_of_ble_eq_true rfl) dX4_readInto_1 (fun v1 g2 => ?_)
  refine z_aload_n F 0 rfl rfl dX4_readInto_4 ?_
  refine z_iconst (v := 0) F (by decide) dX4_readInto_5 ?_
  refine pf_X4_34 F hta dX4_readInto_6 ?_
  refine z_letg (fun g3 => ?_)
  refine z_aload_n F 0 rfl rfl dX4_readInto_9 ?_
  refine z_iconst (v := 0) F (by decide) dX4_readInto_10 ?_
  refine pf_X4_37 F hta dX4_readInto_11 ?_
  refine z_letg (fun g4 => ?_)
  refine z_aload_n F 0 rfl rfl dX4_readInto_14 ?_
  refine z_iconst (v := 0) F (by decide) dX4_readInto_15 ?_
  refine pf_X4_40 F hta dX4_readInto_16 ?_
  refine z_letg (fun g5 => ?_)
  refine z_aload_n F 0 rfl rfl dX4_readInto_19 ?_
  refine z_iconst (v := 0) F (by decide) dX4_readInto_20 ?_
  refine pf_X4_43 F hta dX4_readInto_21 ?_
  refine z_letg (fun g6 => ?_)
  refine z_aload_n F 0 rfl rfl dX4_readInto_24 ?_
  refine z_iconst (v := 0) F (by decide) dX4_readInto_25 ?_
  refine pf_X4_46 F hta dX4_readInto_26 ?_
  refine z_letg (fun g7 => ?_)
  refine z_iconst (v := 0) F (by decide) dX4_readInto_29 ?_
  refine z_istore_n (lv' := [(2, .int 0), (0, .ref a), (1, .ref b1)]) F rfl (by decide) dX4_readInto_30 rfl ?_
  refine z_sub (lv' := [(0, .ref a), (1, .ref b1), (2, .int 0)]) [1, 2, 0] rfl ?_
  refine z_loop2 (P := fun s : Int32 × zG => zAt E D (zA τ sz) (zQ E D zrI 0 0 sz τ τ r g') 3 (sz, τ, 0, 0) s.2 31 [(0, .ref a), (1, .ref b1), (2, .int s.1)] []) (Px := fun x : zG => zAt E D (zA τ sz) (zQ E D zrI 0 0 sz τ τ r g') 3 (sz, τ, 0, 0) x 45 [] []) (0, g7) (fun s => ?_) (fun x => ?_)
  · obtain ⟨l2_31, g_31⟩ := s
    show zSim (zKl (fun s : Int32 × zG => zAt E D (zA τ sz) (zQ E D zrI 0 0 sz τ τ r g') 3 (sz, τ, 0, 0) s.2 31 [(0, .ref a), (1, .ref b1), (2, .int s.1)] []) (zKl (fun x : zG => zAt E D (zA τ sz) (zQ E D zrI 0 0 sz τ τ r g') 3 (sz, τ, 0, 0) x 45 [] []) (fun q : Int32 × zG => q = (r, g')))) (l_X4_readInto_31 a b1 l2_31 g_31) (zAt E D (zA τ sz) (zQ E D zrI 0 0 sz τ τ r g') 3 (sz, τ, 0, 0) g_31 31 [(0, .ref a), (1, .ref b1), (2, .int l2_31)] [])
    unfold l_X4_readInto_31
    refine z_iload_n F 2 rfl rfl dX4_readInto_31 ?_
    refine z_sipush (v := 240) F (by decide) dX4_readInto_32 ?_
    refine z_icmp_gt (tgt := 90) F dX4_readInto_35 (by decide) (fun c8 => ?_) (fun c8 => ?_)
    · refine z_iconst (v := 0) F (by decide) dX4_readInto_90 ?_
      exact z_zreturn F rfl rfl rfl rfl rfl (fun h => h) dX4_readInto_91
    · refine z_aload_n F 0 rfl rfl dX4_readInto_38 ?_
      refine k_X4_nextToken F (by rw [hR]; exact ⟨by decide, by decide⟩) q_439 hta ⟨Nat.zero_le _, Nat.zero_le _⟩ (Nat.le_of_ble_eq_true rfl) dX4_readInto_39 (fun v9 g10 => ?_)
      refine z_if_ne (tgt := 47) F dX4_readInto_42 (by decide) (fun c11 => ?_) (fun c11 => ?_)
      · refine z_sub (lv' := []) [] rfl ?_
        exact z_back (fun h => h)
      · refine z_aload_n F 0 rfl rfl dX4_readInto_47 ?_
        refine gf_X4_53 F hta dX4_readInto_48 ?_
        refine z_if_ne (tgt := 64) F dX4_readInto_51 (by decide) (fun c12 => ?_) (fun c12 => ?_)
        · refine z_aload_n F 1 rfl rfl dX4_readInto_54 ?_
          refine k_X5_settle F (by rw [hR]; exact ⟨by decide, by decide⟩) q_450 htb1 ⟨Nat.zero_le _, Nat.zero_le _⟩ (Nat.le_of_ble_eq_true rfl) dX4_readInto_55 (fun v13 g14 => ?_)
          refine z_aload_n F 0 rfl rfl dX4_readInto_58 ?_
          refine z_aload_n F 1 rfl rfl dX4_readInto_59 ?_
          refine k_X4_lookBehindAll F (by rw [hR]; exact ⟨by decide, by decide⟩) q_451 hta htb1 ⟨Nat.zero_le _, Nat.zero_le _⟩ (Nat.le_of_ble_eq_true rfl) dX4_readInto_60 (fun v15 g16 => ?_)
          exact z_zc (fun c17 => z_zreturn F (znar01 c17) rfl rfl rfl rfl (fun h => h) dX4_readInto_63)
        · refine z_aload_n F 0 rfl rfl dX4_readInto_64 ?_
          refine z_aload_n F 1 rfl rfl dX4_readInto_65 ?_
          refine k_X4_readLine F (by rw [hR]; exact ⟨by decide, by decide⟩) q_455 hta htb1 ⟨Nat.zero_le _, Nat.zero_le _⟩ (Nat.le_of_ble_eq_true rfl) dX4_readInto_66 (fun v18 g19 => ?_)
          refine z_if_ne (tgt := 74) F dX4_readInto_69 (by decide) (fun c20 => ?_) (fun c20 => ?_)
          · refine z_iconst (v := 0) F (by decide) dX4_readInto_72 ?_
            exact z_zreturn F rfl rfl rfl rfl rfl (fun h => h) dX4_readInto_73
          · refine z_aload_n F 0 rfl rfl dX4_readInto_74 ?_
            refine z_dup F rfl dX4_readInto_75 ?_
            refine gf_X4_40 F hta dX4_readInto_76 ?_
            refine z_iconst (v := 1) F (by decide) dX4_readInto_79 ?_
            refine z_iadd F dX4_readInto_80 ?_
            refine pf_X4_40 F hta dX4_readInto_81 ?_
            refine z_letg (fun g21 => ?_)
            refine z_iincl (lv' := fun v22 => [(2, .int v22), (0, .ref a), (1, .ref b1)]) F 2 rfl (by decide) (by decide) dX4_readInto_84 (fun _ => rfl) (fun v22 => ?_)
            refine z_goto (tgt := 31) F dX4_readInto_87 (by decide) ?_
            refine z_sub (lv' := [(0, .ref a), (1, .ref b1), (2, .int v22)]) [1, 2, 0] rfl ?_
            exact z_back (fun h => h)
  · show zSim (fun q : Int32 × zG => q = (r, g')) (j_X4_readInto_45 a x) (zAt E D (zA τ sz) (zQ E D zrI 0 0 sz τ τ r g') 3 (sz, τ, 0, 0) x 45 [] [])
    exact hj_X4_readInto_45 x
theorem k_X4_readInto {ρ : Type} {K : ρ → Prop} {E : zE} {D : zD} {A : Nat → Prop} {Q : State → Prop} {nL : Nat} {κ : zC} {g : zG} {pc : Nat} {lv : List (Nat × Value)} {st : List Value} {cc : ByteArray} {own : String} {ret : Option FieldType} (F : zF E D A cc own nL ret) {index : Nat} {h : Int32 → zG → Option ρ} {a : Nat} {b1 : Nat}  (hR : 7 + 1 ≤ E.2.2.2.1.frames ∧ 8 + (3 + 11) + 154 ≤ E.2.2.2.1.locals) (hl : zTbl (.methodLink own index yX4_readInto)) (hta : κ.2.1 a = some (.inr 4)) (htb1 : κ.2.1 b1 = some (.inr 5)) (hc : κ.2.2.1 ≤ E.2.2.2.1.cells ∧ κ.2.2.2 ≤ E.2.2.2.1.slots) (hW : (st.map fun v => v.category).sum ≤ 8) (hd : decode cc pc = .ok (.invokevirtual index, 3)) (kk : ∀ r g', zSim K (h r g') (zAt E D A Q nL κ g' (pc + 3) lv (.int r :: st))) : zSim K (zb (f_X4_readInto a b1 g) h) (zAt E D A Q nL κ g pc lv (.ref b1 :: .ref a :: st)) :=
  z_callV F (n := 1) (As := [.ref b1]) (C := (RX4, TX4, 14)) ⟨q_437, q_8, by decide +kernel, rfl, rfl, hR.1, hR.2⟩ (c_X4_readInto E.2.1 D κ.1 κ.2.1 g a b1 hta htb1) hl q_435 q_436 hta rfl rfl rfl hc hW hd kk _ rfl
