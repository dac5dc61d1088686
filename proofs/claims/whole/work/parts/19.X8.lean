theorem dX8_forget_0 : decode cX8_forget 0 = .ok (.aload_n 0, 1) := by decide +kernel
theorem dX8_forget_1 : decode cX8_forget 1 = .ok (.iconst 0, 1) := by decide +kernel
theorem dX8_forget_2 : decode cX8_forget 2 = .ok (.putfield 31, 3) := by decide +kernel
theorem dX8_forget_5 : decode cX8_forget 5 = .ok (.aload_n 0, 1) := by decide +kernel
theorem dX8_forget_6 : decode cX8_forget 6 = .ok (.iconst 0, 1) := by decide +kernel
theorem dX8_forget_7 : decode cX8_forget 7 = .ok (.putfield 35, 3) := by decide +kernel
theorem dX8_forget_10 : decode cX8_forget 10 = .ok (.return_, 1) := by decide +kernel
def f_X8_forget (a : Nat) (g : zG) : Option (Int32 × zG) :=
  zl (zsi g a 7 0) (fun g1 => zl (zsi g1 a 8 0) (fun g2 => some ((0, g2))))
abbrev rm_X8_forget : Room := { frames := 0, cells := 0, slots := 0, locals := 0 }
set_option maxRecDepth 100000 in
set_option maxHeartbeats 4000000 in
theorem c_X8_forget (l : Launch) (D : zD) (sz : Nat) (τ : zT) (g : zG) (a : Nat) (hta : τ a = some (.inr 8)) : zCon l D yX8_forget cX8_forget 1 none rm_X8_forget 0 0 zrV [.ref a] sz τ g τ (f_X8_forget a g) := by
  refine zCon.of (by decide) (Nat.le_of_ble_eq_true rfl) (fun E r g' hl hR hsz hnm F => ?_)
  have F : zF E D (zA τ sz) cX8_forget "TypeChain$Trials" 1 none := F
  show zSim (fun q : Int32 × zG => q = (r, g')) (f_X8_forget a g) (zAt E D (zA τ sz) (zQ E D zrV 0 0 sz τ τ r g') 1 (sz, τ, 0, 0) g 0 [(0, .ref a)] [])
  unfold f_X8_forget
  refine z_aload_n F 0 rfl rfl dX8_forget_0 ?_
  refine z_iconst (v := 0) F (by decide) dX8_forget_1 ?_
  refine pf_X8_31 F hta (Or.inl rfl) dX8_forget_2 ?_
  refine z_letg (fun g1 => ?_)
  refine z_aload_n F 0 rfl rfl dX8_forget_5 ?_
  refine z_iconst (v := 0) F (by decide) dX8_forget_6 ?_
  refine pf_X8_35 F hta (Or.inl rfl) dX8_forget_7 ?_
  refine z_letg (fun g2 => ?_)
  exact z_vreturn F rfl rfl rfl rfl (fun h => h) dX8_forget_10
theorem k_X8_forget {ρ : Type} {K : ρ → Prop} {E : zE} {D : zD} {A : Nat → Prop} {Q : State → Prop} {nL : Nat} {κ : zC} {g : zG} {pc : Nat} {lv : List (Nat × Value)} {st : List Value} {cc : ByteArray} {own : String} {ret : Option FieldType} (F : zF E D A cc own nL ret) {index : Nat} {h : Int32 → zG → Option ρ} {a : Nat}  (hR : 0 + 1 ≤ E.2.2.2.1.frames ∧ 8 + (1 + 11) + 0 ≤ E.2.2.2.1.locals) (hl : zTbl (.methodLink own index yX8_forget)) (hta : κ.2.1 a = some (.inr 8)) (hc : κ.2.2.1 ≤ E.2.2.2.1.cells ∧ κ.2.2.2 ≤ E.2.2.2.1.slots) (hW : (st.map fun v => v.category).sum ≤ 8) (hd : decode cc pc = .ok (.invokevirtual index, 3)) (kk : ∀ r g', zSim K (h r g') (zAt E D A Q nL κ g' (pc + 3) lv (st))) : zSim K (zb (f_X8_forget a g) h) (zAt E D A Q nL κ g pc lv (.ref a :: st)) :=
  z_callV F (n := 0) (As := []) (C := (RX8, TX8, 9)) ⟨q_560, q_12, by decide +kernel, rfl, rfl, hR.1, hR.2⟩ (c_X8_forget E.2.1 D κ.1 κ.2.1 g a hta) hl q_558 q_559 hta rfl rfl rfl hc hW hd kk _ rfl
theorem dX8_keepOrder_0 : decode cX8_keepOrder 0 = .ok (.aload_n 0, 1) := by decide +kernel
theorem dX8_keepOrder_1 : decode cX8_keepOrder 1 = .ok (.iload_n 1, 1) := by decide +kernel
theorem dX8_keepOrder_2 : decode cX8_keepOrder 2 = .ok (.putfield 56, 3) := by decide +kernel
theorem dX8_keepOrder_5 : decode cX8_keepOrder 5 = .ok (.aload_n 0, 1) := by decide +kernel
theorem dX8_keepOrder_6 : decode cX8_keepOrder 6 = .ok (.getfield 18, 3) := by decide +kernel
theorem dX8_keepOrder_9 : decode cX8_keepOrder 9 = .ok (.getfield 64, 3) := by decide +kernel
theorem dX8_keepOrder_12 : decode cX8_keepOrder 12 = .ok (.iconst 0, 1) := by decide +kernel
theorem dX8_keepOrder_13 : decode cX8_keepOrder 13 = .ok (.aload_n 0, 1) := by decide +kernel
theorem dX8_keepOrder_14 : decode cX8_keepOrder 14 = .ok (.getfield 9, 3) := by decide +kernel
theorem dX8_keepOrder_17 : decode cX8_keepOrder 17 = .ok (.iconst 0, 1) := by decide +kernel
theorem dX8_keepOrder_18 : decode cX8_keepOrder 18 = .ok (.bipush 6, 2) := by decide +kernel
theorem dX8_keepOrder_20 : decode cX8_keepOrder 20 = .ok (.invokestatic 67, 3) := by decide +kernel
theorem dX8_keepOrder_23 : decode cX8_keepOrder 23 = .ok (.return_, 1) := by decide +kernel
def f_X8_keepOrder (a : Nat) (x1 : Int32) (g : zG) : Option (Int32 × zG) :=
  zl (zsi g a 2 x1) (fun g1 => zc (zcpok 0 0 6 48 6) (zl (zcp g1 (g1.2.1 a 1) (g1.1 (g1.2.1 (g1.2.1 a 6) 0)) 0 0 6) (fun g5 => some ((0, g5)))))
abbrev rm_X8_keepOrder : Room := { frames := 1, cells := 0, slots := 0, locals := 26 }
set_option maxRecDepth 100000 in
set_option maxHeartbeats 4000000 in
theorem c_X8_keepOrder (l : Launch) (D : zD) (sz : Nat) (τ : zT) (g : zG) (a : Nat) (x1 : Int32) (hta : τ a = some (.inr 8)) : zCon l D yX8_keepOrder cX8_keepOrder 2 none rm_X8_keepOrder 0 0 zrV [.ref a, .int x1] sz τ g τ (f_X8_keepOrder a x1 g) := by
  refine zCon.of (by decide) (Nat.le_of_ble_eq_true rfl) (fun E r g' hl hR hsz hnm F => ?_)
  have F : zF E D (zA τ sz) cX8_keepOrder "TypeChain$Trials" 2 none := F
  show zSim (fun q : Int32 × zG => q = (r, g')) (f_X8_keepOrder a x1 g) (zAt E D (zA τ sz) (zQ E D zrV 0 0 sz τ τ r g') 2 (sz, τ, 0, 0) g 0 [(0, .ref a), (1, .int x1)] [])
  unfold f_X8_keepOrder
  refine z_aload_n F 0 rfl rfl dX8_keepOrder_0 ?_
  refine z_iload_n F 1 rfl rfl dX8_keepOrder_1 ?_
  refine pf_X8_56 F hta dX8_keepOrder_2 ?_
  refine z_letg (fun g1 => ?_)
  refine z_aload_n F 0 rfl rfl dX8_keepOrder_5 ?_
  refine gf_X8_18 F hta dX8_keepOrder_6 (fun ht2 => ?_)
  refine gf_X8_64 F ht2 dX8_keepOrder_9 (fun ht3 => ?_)
  refine z_iconst (v := 0) F (by decide) dX8_keepOrder_12 ?_
  refine z_aload_n F 0 rfl rfl dX8_keepOrder_13 ?_
  refine gf_X8_9 F hta dX8_keepOrder_14 (fun ht4 => ?_)
  refine z_iconst (v := 0) F (by decide) dX8_keepOrder_17 ?_
  refine z_bipush (v := 6) F (by decide) dX8_keepOrder_18 ?_
  refine z_copy F q_801 q_113 q_112 q_5 ht3 ht4 (by rw [hR]; exact ⟨by decide, by decide⟩) (Nat.le_of_ble_eq_true rfl) dX8_keepOrder_20 ?_
  refine z_letg (fun g5 => ?_)
  exact z_vreturn F rfl rfl rfl rfl (fun h => h) dX8_keepOrder_23
theorem k_X8_keepOrder {ρ : Type} {K : ρ → Prop} {E : zE} {D : zD} {A : Nat → Prop} {Q : State → Prop} {nL : Nat} {κ : zC} {g : zG} {pc : Nat} {lv : List (Nat × Value)} {st : List Value} {cc : ByteArray} {own : String} {ret : Option FieldType} (F : zF E D A cc own nL ret) {index : Nat} {h : Int32 → zG → Option ρ} {a : Nat} {x1 : Int32}  (hR : 1 + 1 ≤ E.2.2.2.1.frames ∧ 8 + (2 + 11) + 26 ≤ E.2.2.2.1.locals) (hl : zTbl (.methodLink own index yX8_keepOrder)) (hta : κ.2.1 a = some (.inr 8)) (hc : κ.2.2.1 ≤ E.2.2.2.1.cells ∧ κ.2.2.2 ≤ E.2.2.2.1.slots) (hW : (st.map fun v => v.category).sum ≤ 8) (hd : decode cc pc = .ok (.invokevirtual index, 3)) (kk : ∀ r g', zSim K (h r g') (zAt E D A Q nL κ g' (pc + 3) lv (st))) : zSim K (zb (f_X8_keepOrder a x1 g) h) (zAt E D A Q nL κ g pc lv (.int x1 :: .ref a :: st)) :=
  z_callV F (n := 1) (As := [.int x1]) (C := (RX8, TX8, 9)) ⟨q_800, q_12, by decide +kernel, rfl, rfl, hR.1, hR.2⟩ (c_X8_keepOrder E.2.1 D κ.1 κ.2.1 g a x1 hta) hl q_799 q_1388 hta rfl rfl rfl hc hW hd kk _ rfl
theorem dX8_ticksOfRun_0 : decode cX8_ticksOfRun 0 = .ok (.aload_n 0, 1) := by decide +kernel
theorem dX8_ticksOfRun_1 : decode cX8_ticksOfRun 1 = .ok (.getfield 27, 3) := by decide +kernel
theorem dX8_ticksOfRun_4 : decode cX8_ticksOfRun 4 = .ok (.aload_n 1, 1) := by decide +kernel
theorem dX8_ticksOfRun_5 : decode cX8_ticksOfRun 5 = .ok (.aload_n 0, 1) := by decide +kernel
theorem dX8_ticksOfRun_6 : decode cX8_ticksOfRun 6 = .ok (.getfield 18, 3) := by decide +kernel
theorem dX8_ticksOfRun_9 : decode cX8_ticksOfRun 9 = .ok (.invokevirtual 85, 3) := by decide +kernel
theorem dX8_ticksOfRun_12 : decode cX8_ticksOfRun 12 = .ok (.aload_n 0, 1) := by decide +kernel
theorem dX8_ticksOfRun_13 : decode cX8_ticksOfRun 13 = .ok (.getfield 27, 3) := by decide +kernel
theorem dX8_ticksOfRun_16 : decode cX8_ticksOfRun 16 = .ok (.invokevirtual 89, 3) := by decide +kernel
theorem dX8_ticksOfRun_19 : decode cX8_ticksOfRun 19 = .ok (.aload_n 1, 1) := by decide +kernel
theorem dX8_ticksOfRun_20 : decode cX8_ticksOfRun 20 = .ok (.getfield 93, 3) := by decide +kernel
theorem dX8_ticksOfRun_23 : decode cX8_ticksOfRun 23 = .ok (.getfield 97, 3) := by decide +kernel
theorem dX8_ticksOfRun_26 : decode cX8_ticksOfRun 26 = .ok (.if_icmp .ne 13, 3) := by decide +kernel
theorem dX8_ticksOfRun_29 : decode cX8_ticksOfRun 29 = .ok (.aload_n 0, 1) := by decide +kernel
theorem dX8_ticksOfRun_30 : decode cX8_ticksOfRun 30 = .ok (.getfield 27, 3) := by decide +kernel
theorem dX8_ticksOfRun_33 : decode cX8_ticksOfRun 33 = .ok (.getfield 100, 3) := by decide +kernel
theorem dX8_ticksOfRun_36 : decode cX8_ticksOfRun 36 = .ok (.goto 5, 3) := by decide +kernel
theorem dX8_ticksOfRun_39 : decode cX8_ticksOfRun 39 = .ok (.bipush (-4), 2) := by decide +kernel
theorem dX8_ticksOfRun_41 : decode cX8_ticksOfRun 41 = .ok (.ireturn, 1) := by decide +kernel
def f_X8_ticksOfRun (a : Nat) (b1 : Nat) (g : zG) : Option (Int32 × zG) :=
  zb (f_X2_begin (g.2.1 a 0) b1 (g.2.1 a 6) g) (fun v3 g4 => zb (f_X2_runProgram (g4.2.1 a 0) g4) (fun v6 g7 => if v6 = (g7.1 (g7.2.1 b1 1) 5) then (some ((g7.1 (g7.2.1 a 0) 2, g7))) else (some (((-4), g7)))))
abbrev rm_X8_ticksOfRun : Room := { frames := 5, cells := 0, slots := 0, locals := 127 }
set_option maxRecDepth 100000 in
set_option maxHeartbeats 4000000 in
theorem c_X8_ticksOfRun (l : Launch) (D : zD) (sz : Nat) (τ : zT) (g : zG) (a : Nat) (b1 : Nat) (hta : τ a = some (.inr 8)) (htb1 : τ b1 = some (.inr 5)) : zCon l D yX8_ticksOfRun cX8_ticksOfRun 2 (some .int) rm_X8_ticksOfRun 0 0 zrI [.ref a, .ref b1] sz τ g τ (f_X8_ticksOfRun a b1 g) := by
  refine zCon.of (by decide) (Nat.le_of_ble_eq_true rfl) (fun E r g' hl hR hsz hnm F => ?_)
  have F : zF E D (zA τ sz) cX8_ticksOfRun "TypeChain$Trials" 2 (some .int) := F
  show zSim (fun q : Int32 × zG => q = (r, g')) (f_X8_ticksOfRun a b1 g) (zAt E D (zA τ sz) (zQ E D zrI 0 0 sz τ τ r g') 2 (sz, τ, 0, 0) g 0 [(0, .ref a), (1, .ref b1)] [])
  unfold f_X8_ticksOfRun
  refine z_aload_n F 0 rfl rfl dX8_ticksOfRun_0 ?_
  refine gf_X8_27 F hta dX8_ticksOfRun_1 (fun ht1 => ?_)
  refine z_aload_n F 1 rfl rfl dX8_ticksOfRun_4 ?_
  refine z_aload_n F 0 rfl rfl dX8_ticksOfRun_5 ?_
  refine gf_X8_18 F hta dX8_ticksOfRun_6 (fun ht2 => ?_)
  refine k_X2_begin F (by rw [hR]; exact ⟨by decide, by decide⟩) q_795 ht1 htb1 ht2 ⟨Nat.zero_le _, Nat.zero_le _⟩ (Nat.le_of_ble_eq_true rfl) dX8_ticksOfRun_9 (fun v3 g4 => ?_)
  refine z_aload_n F 0 rfl rfl dX8_ticksOfRun_12 ?_
  refine gf_X8_27 F hta dX8_ticksOfRun_13 (fun ht5 => ?_)
  refine k_X2_runProgram F (by rw [hR]; exact ⟨by decide, by decide⟩) q_796 ht5 ⟨Nat.zero_le _, Nat.zero_le _⟩ (Nat.le_of_ble_eq_true rfl) dX8_ticksOfRun_16 (fun v6 g7 => ?_)
  refine z_aload_n F 1 rfl rfl dX8_ticksOfRun_19 ?_
  refine gf_X8_93 F htb1 dX8_ticksOfRun_20 (fun ht8 => ?_)
  refine gf_X8_97 F ht8 dX8_ticksOfRun_23 ?_
  refine z_icmp_ne (tgt := 39) F dX8_ticksOfRun_26 (by decide) (fun c9 => ?_) (fun c9 => ?_)
  · refine z_aload_n F 0 rfl rfl dX8_ticksOfRun_29 ?_
    refine gf_X8_27 F hta dX8_ticksOfRun_30 (fun ht10 => ?_)
    refine gf_X8_100 F ht10 dX8_ticksOfRun_33 ?_
    refine z_goto (tgt := 41) F dX8_ticksOfRun_36 (by decide) ?_
    exact z_ireturn F rfl rfl rfl rfl (fun h => h) dX8_ticksOfRun_41
  · refine z_bipush (v := (-4)) F (by decide) dX8_ticksOfRun_39 ?_
    exact z_ireturn F rfl rfl rfl rfl (fun h => h) dX8_ticksOfRun_41
theorem k_X8_ticksOfRun {ρ : Type} {K : ρ → Prop} {E : zE} {D : zD} {A : Nat → Prop} {Q : State → Prop} {nL : Nat} {κ : zC} {g : zG} {pc : Nat} {lv : List (Nat × Value)} {st : List Value} {cc : ByteArray} {own : String} {ret : Option FieldType} (F : zF E D A cc own nL ret) {index : Nat} {h : Int32 → zG → Option ρ} {a : Nat} {b1 : Nat}  (hR : 5 + 1 ≤ E.2.2.2.1.frames ∧ 8 + (2 + 11) + 127 ≤ E.2.2.2.1.locals) (hl : zTbl (.methodLink own index yX8_ticksOfRun)) (hta : κ.2.1 a = some (.inr 8)) (htb1 : κ.2.1 b1 = some (.inr 5)) (hc : κ.2.2.1 ≤ E.2.2.2.1.cells ∧ κ.2.2.2 ≤ E.2.2.2.1.slots) (hW : (st.map fun v => v.category).sum ≤ 8) (hd : decode cc pc = .ok (.invokevirtual index, 3)) (kk : ∀ r g', zSim K (h r g') (zAt E D A Q nL κ g' (pc + 3) lv (.int r :: st))) : zSim K (zb (f_X8_ticksOfRun a b1 g) h) (zAt E D A Q nL κ g pc lv (.ref b1 :: .ref a :: st)) :=
  z_callV F (n := 1) (As := [.ref b1]) (C := (RX8, TX8, 9)) ⟨q_794, q_12, by decide +kernel, rfl, rfl, hR.1, hR.2⟩ (c_X8_ticksOfRun E.2.1 D κ.1 κ.2.1 g a b1 hta htb1) hl q_793 q_1387 hta rfl rfl rfl hc hW hd kk _ rfl
theorem dX8_findOrder_0 : decode cX8_findOrder 0 = .ok (.aload_n 0, 1) := by decide +kernel
theorem dX8_findOrder_1 : decode cX8_findOrder 1 = .ok (.getfield 31, 3) := by decide +kernel
theorem dX8_findOrder_4 : decode cX8_findOrder 4 = .ok (.ifCond .eq 4, 3) := by decide +kernel
theorem dX8_findOrder_7 : decode cX8_findOrder 7 = .ok (.return_, 1) := by decide +kernel
theorem dX8_findOrder_8 : decode cX8_findOrder 8 = .ok (.aload_n 0, 1) := by decide +kernel
theorem dX8_findOrder_9 : decode cX8_findOrder 9 = .ok (.iconst 1, 1) := by decide +kernel
theorem dX8_findOrder_10 : decode cX8_findOrder 10 = .ok (.putfield 31, 3) := by decide +kernel
theorem dX8_findOrder_13 : decode cX8_findOrder 13 = .ok (.aload_n 0, 1) := by decide +kernel
theorem dX8_findOrder_14 : decode cX8_findOrder 14 = .ok (.getfield 18, 3) := by decide +kernel
theorem dX8_findOrder_17 : decode cX8_findOrder 17 = .ok (.aload_n 1, 1) := by decide +kernel
theorem dX8_findOrder_18 : decode cX8_findOrder 18 = .ok (.getfield 38, 3) := by decide +kernel
theorem dX8_findOrder_21 : decode cX8_findOrder 21 = .ok (.invokevirtual 41, 3) := by decide +kernel
theorem dX8_findOrder_24 : decode cX8_findOrder 24 = .ok (.aload_n 0, 1) := by decide +kernel
theorem dX8_findOrder_25 : decode cX8_findOrder 25 = .ok (.getfield 18, 3) := by decide +kernel
theorem dX8_findOrder_28 : decode cX8_findOrder 28 = .ok (.invokevirtual 45, 3) := by decide +kernel
theorem dX8_findOrder_31 : decode cX8_findOrder 31 = .ok (.aload_n 0, 1) := by decide +kernel
theorem dX8_findOrder_32 : decode cX8_findOrder 32 = .ok (.aload_n 0, 1) := by decide +kernel
theorem dX8_findOrder_33 : decode cX8_findOrder 33 = .ok (.aload_n 1, 1) := by decide +kernel
theorem dX8_findOrder_34 : decode cX8_findOrder 34 = .ok (.invokevirtual 48, 3) := by decide +kernel
theorem dX8_findOrder_37 : decode cX8_findOrder 37 = .ok (.invokevirtual 52, 3) := by decide +kernel
theorem dX8_findOrder_40 : decode cX8_findOrder 40 = .ok (.iconst 1, 1) := by decide +kernel
theorem dX8_findOrder_41 : decode cX8_findOrder 41 = .ok (.istore_n 2, 1) := by decide +kernel
theorem dX8_findOrder_42 : decode cX8_findOrder 42 = .ok (.iload_n 2, 1) := by decide +kernel
theorem dX8_findOrder_43 : decode cX8_findOrder 43 = .ok (.sipush 720, 3) := by decide +kernel
theorem dX8_findOrder_46 : decode cX8_findOrder 46 = .ok (.if_icmp .ge 47, 3) := by decide +kernel
theorem dX8_findOrder_49 : decode cX8_findOrder 49 = .ok (.aload_n 0, 1) := by decide +kernel
theorem dX8_findOrder_50 : decode cX8_findOrder 50 = .ok (.getfield 56, 3) := by decide +kernel
theorem dX8_findOrder_53 : decode cX8_findOrder 53 = .ok (.bipush (-4), 2) := by decide +kernel
theorem dX8_findOrder_55 : decode cX8_findOrder 55 = .ok (.if_icmp .eq 38, 3) := by decide +kernel
theorem dX8_findOrder_58 : decode cX8_findOrder 58 = .ok (.aload_n 0, 1) := by decide +kernel
theorem dX8_findOrder_59 : decode cX8_findOrder 59 = .ok (.getfield 18, 3) := by decide +kernel
theorem dX8_findOrder_62 : decode cX8_findOrder 62 = .ok (.invokevirtual 60, 3) := by decide +kernel
theorem dX8_findOrder_65 : decode cX8_findOrder 65 = .ok (.ifCond .eq 28, 3) := by decide +kernel
theorem dX8_findOrder_68 : decode cX8_findOrder 68 = .ok (.aload_n 0, 1) := by decide +kernel
theorem dX8_findOrder_69 : decode cX8_findOrder 69 = .ok (.aload_n 1, 1) := by decide +kernel
theorem dX8_findOrder_70 : decode cX8_findOrder 70 = .ok (.invokevirtual 48, 3) := by decide +kernel
theorem dX8_findOrder_73 : decode cX8_findOrder 73 = .ok (.istore_n 3, 1) := by decide +kernel
theorem dX8_findOrder_74 : decode cX8_findOrder 74 = .ok (.iload_n 3, 1) := by decide +kernel
theorem dX8_findOrder_75 : decode cX8_findOrder 75 = .ok (.aload_n 0, 1) := by decide +kernel
theorem dX8_findOrder_76 : decode cX8_findOrder 76 = .ok (.getfield 56, 3) := by decide +kernel
theorem dX8_findOrder_79 : decode cX8_findOrder 79 = .ok (.if_icmp .ge 8, 3) := by decide +kernel
theorem dX8_findOrder_82 : decode cX8_findOrder 82 = .ok (.aload_n 0, 1) := by decide +kernel
theorem dX8_findOrder_83 : decode cX8_findOrder 83 = .ok (.iload_n 3, 1) := by decide +kernel
theorem dX8_findOrder_84 : decode cX8_findOrder 84 = .ok (.invokevirtual 52, 3) := by decide +kernel
theorem dX8_findOrder_87 : decode cX8_findOrder 87 = .ok (.iinc 2 1, 3) := by decide +kernel
theorem dX8_findOrder_90 : decode cX8_findOrder 90 = .ok (.goto (-48), 3) := by decide +kernel
theorem dX8_findOrder_93 : decode cX8_findOrder 93 = .ok (.return_, 1) := by decide +kernel
def j_X8_findOrder_93 (a : Nat)  (g : zG) : Option (Int32 × zG) :=
  some ((0, g))
def l_X8_findOrder_42 (a : Nat) (l1 : Nat) (l2 : Int32) (g : zG) : Option ((Int32 × zG) ⊕ (zG)) :=
  if 720 ≤ l2 then (some (.inr g)) else (if (g.1 a 2) = (-4) then (some (.inr g)) else (zb (f_X0_toNextOrder (g.2.1 a 6) g) (fun v17 g18 => if v17 = 0 then (some (.inr g18)) else (zb (f_X8_ticksOfRun a l1 g18) (fun v20 g21 => if (g21.1 a 2) ≤ v20 then (zl (l2 + 1) (fun v23 => some (.inl (v23, g21)))) else (zb (f_X8_keepOrder a v20 g21) (fun v24 g25 => zl (l2 + 1) (fun v26 => some (.inl (v26, g25))))))))))
def f_X8_findOrder (a : Nat) (b1 : Nat) (g : zG) : Option (Int32 × zG) :=
  if (g.1 a 7) = 0 then (zl (zsi g a 7 1) (fun g2 => zb (f_X0_copyFrom (g2.2.1 a 6) (g2.2.1 b1 0) g2) (fun v5 g6 => zb (f_X0_sortLetters (g6.2.1 a 6) g6) (fun v8 g9 => zb (f_X8_ticksOfRun a b1 g9) (fun v10 g11 => zb (f_X8_keepOrder a v10 g11) (fun v12 g13 => zk (zw zN (fun s => l_X8_findOrder_42 a b1 s.1 s.2) (1, g13)) (fun x => j_X8_findOrder_93 a x))))))) else (some ((0, g)))
abbrev rm_X8_findOrder : Room := { frames := 6, cells := 0, slots := 0, locals := 148 }
set_option maxRecDepth 100000 in
set_option maxHeartbeats 4000000 in
theorem c_X8_findOrder (l : Launch) (D : zD) (sz : Nat) (τ : zT) (g : zG) (a : Nat) (b1 : Nat) (hta : τ a = some (.inr 8)) (htb1 : τ b1 = some (.inr 5)) : zCon l D yX8_findOrder cX8_findOrder 4 none rm_X8_findOrder 0 0 zrV [.ref a, .ref b1] sz τ g τ (f_X8_findOrder a b1 g) := by
  refine zCon.of (by decide) (Nat.le_of_ble_eq_true rfl) (fun E r g' hl hR hsz hnm F => ?_)
  have F : zF E D (zA τ sz) cX8_findOrder "TypeChain$Trials" 4 none := F
  show zSim (fun q : Int32 × zG => q = (r, g')) (f_X8_findOrder a b1 g) (zAt E D (zA τ sz) (zQ E D zrV 0 0 sz τ τ r g') 4 (sz, τ, 0, 0) g 0 [(0, .ref a), (1, .ref b1)] [])
  have hj_X8_findOrder_93 : ∀  (g_93 : zG), zSim (fun q : Int32 × zG => q = (r, g')) (j_X8_findOrder_93 a g_93) (zAt E D (zA τ sz) (zQ E D zrV 0 0 sz τ τ r g') 4 (sz, τ, 0, 0) g_93 93 [] []) := by
    intro g_93
    unfold j_X8_findOrder_93
    exact z_vreturn F rfl rfl rfl rfl (fun h => h) dX8_findOrder_93
  unfold f_X8_findOrder
  refine z_aload_n F 0 rfl rfl dX8_findOrder_0 ?_
  refine gf_X8_31 F hta dX8_findOrder_1 ?_
  refine z_if_eq (tgt := 8) F dX8_findOrder_4 (by decide) (fun c1 => ?_) (fun c1 => ?_)
  · refine z_aload_n F 0 rfl rfl dX8_findOrder_8 ?_
    refine z_iconst (v := 1) F (by decide) dX8_findOrder_9 ?_
    refine pf_X8_31 F hta (Or.inr rfl) dX8_findOrder_10 ?_
    refine z_letg (fun g2 => ?_)
    refine z_aload_n F 0 rfl rfl dX8_findOrder_13 ?_
    refine gf_X8_18 F hta dX8_findOrder_14 (fun ht3 => ?_)
    refine z_aload_n F 1 rfl rfl dX8_findOrder_17 ?_
    refine gf_X8_38 F htb1 dX8_findOrder_18 (fun ht4 => ?_)
    refine k_X0_copyFrom F (by rw [hR]; exact ⟨by decide, by decide⟩) q_778 ht3 ht4 ⟨Nat.zero_le _, Nat.zero_le _⟩ (Nat.le_of_ble_eq_true rfl) dX8_findOrder_21 (fun v5 g6 => ?_)
    refine z_aload_n F 0 rfl rfl dX8_findOrder_24 ?_
    refine gf_X8_18 F hta dX8_findOrder_25 (fun ht7 => ?_)
    refine k_X0_sortLetters F (by rw [hR]; exact ⟨by decide, by decide⟩) q_783 ht7 ⟨Nat.zero_le _, Nat.zero_le _⟩ (Nat.le_of_ble_eq_true rfl) dX8_findOrder_28 (fun v8 g9 => ?_)
    refine z_aload_n F 0 rfl rfl dX8_findOrder_31 ?_
    refine z_aload_n F 0 rfl rfl dX8_findOrder_32 ?_
    refine z_aload_n F 1 rfl rfl dX8_findOrder_33 ?_
    refine k_X8_ticksOfRun F (by rw [hR]; exact ⟨by decide, by decide⟩) q_791 hta htb1 ⟨Nat.zero_le _, Nat.zero_le _⟩ (Nat.le_of_ble_eq_true rfl) dX8_findOrder_34 (fun v10 g11 => ?_)
    refine k_X8_keepOrder F (by rw [hR]; exact ⟨by decide, by decide⟩) q_797 hta ⟨Nat.zero_le _, Nat.zero_le _⟩ (Nat.le_of_ble_eq_true rfl) dX8_findOrder_37 (fun v12 g13 => ?_)
    refine z_iconst (v := 1) F (by decide) dX8_findOrder_40 ?_
    refine z_istore_n (lv' := [(2, .int 1), (0, .ref a), (1, .ref b1)]) F rfl (by decide) dX8_findOrder_41 rfl ?_
    refine z_sub (lv' := [(0, .ref a), (1, .ref b1), (2, .int 1)]) [1, 2, 0] rfl ?_
    refine z_loop (P := fun s : Int32 × zG => zAt E D (zA τ sz) (zQ E D zrV 0 0 sz τ τ r g') 4 (sz, τ, 0, 0) s.2 42 [(0, .ref a), (1, .ref b1), (2, .int s.1)] []) (Px := fun x : zG => zAt E D (zA τ sz) (zQ E D zrV 0 0 sz τ τ r g') 4 (sz, τ, 0, 0) x 93 [] []) (1, g13) (fun s => ?_) (fun x => ?_)
    · obtain ⟨l2_42, g_42⟩ := s
      show zSim (zKl (fun s : Int32 × zG => zAt E D (zA τ sz) (zQ E D zrV 0 0 sz τ τ r g') 4 (sz, τ, 0, 0) s.2 42 [(0, .ref a), (1, .ref b1), (2, .int s.1)] []) (fun x : zG => zAt E D (zA τ sz) (zQ E D zrV 0 0 sz τ τ r g') 4 (sz, τ, 0, 0) x 93 [] [])) (l_X8_findOrder_42 a b1 l2_42 g_42) (zAt E D (zA τ sz) (zQ E D zrV 0 0 sz τ τ r g') 4 (sz, τ, 0, 0) g_42 42 [(0, .ref a), (1, .ref b1), (2, .int l2_42)] [])
      unfold l_X8_findOrder_42
      refine z_iload_n F 2 rfl rfl dX8_findOrder_42 ?_
      refine z_sipush (v := 720) F (by decide) dX8_findOrder_43 ?_
      refine z_icmp_ge (tgt := 93) F dX8_findOrder_46 (by decide) (fun c14 => ?_) (fun c14 => ?_)
      · refine z_sub (lv' := []) [] rfl ?_
        exact z_back (fun h => h)
      · refine z_aload_n F 0 rfl rfl dX8_findOrder_49 ?_
        refine gf_X8_56 F hta dX8_findOrder_50 ?_
        refine z_bipush (v := (-4)) F (by decide) dX8_findOrder_53 ?_
        refine z_icmp_eq (tgt := 93) F dX8_findOrder_55 (by decide) (fun c15 => ?_) (fun c15 => ?_)
        · refine z_sub (lv' := []) [] rfl ?_
          exact z_back (fun h => h)
        · refine z_aload_n F 0 rfl rfl dX8_findOrder_58 ?_
          refine gf_X8_18 F hta dX8_findOrder_59 (fun ht16 => ?_)
          refine k_X0_toNextOrder F (by rw [hR]; exact ⟨by decide, by decide⟩) q_802 ht16 ⟨Nat.zero_le _, Nat.zero_le _⟩ (Nat.le_of_ble_eq_true rfl) dX8_findOrder_62 (fun v17 g18 => ?_)
          refine z_if_eq (tgt := 93) F dX8_findOrder_65 (by decide) (fun c19 => ?_) (fun c19 => ?_)
          · refine z_sub (lv' := []) [] rfl ?_
            exact z_back (fun h => h)
          · refine z_aload_n F 0 rfl rfl dX8_findOrder_68 ?_
            refine z_aload_n F 1 rfl rfl dX8_findOrder_69 ?_
            refine k_X8_ticksOfRun F (by rw [hR]; exact ⟨by decide, by decide⟩) q_791 hta htb1 ⟨Nat.zero_le _, Nat.zero_le _⟩ (Nat.le_of_ble_eq_true rfl) dX8_findOrder_70 (fun v20 g21 => ?_)
            refine z_istore_n (lv' := [(3, .int v20), (0, .ref a), (1, .ref b1), (2, .int l2_42)]) F rfl (by decide) dX8_findOrder_73 rfl ?_
            refine z_iload_n F 0 rfl rfl dX8_findOrder_74 ?_
            refine z_aload_n F 1 rfl rfl dX8_findOrder_75 ?_
            refine gf_X8_56 F hta dX8_findOrder_76 ?_
            refine z_icmp_ge (tgt := 87) F dX8_findOrder_79 (by decide) (fun c22 => ?_) (fun c22 => ?_)
            · refine z_iincl (lv' := fun v23 => [(2, .int v23), (3, .int v20), (0, .ref a), (1, .ref b1)]) F 3 rfl (by decide) (by decide) dX8_findOrder_87 (fun _ => rfl) (fun v23 => ?_)
              refine z_goto (tgt := 42) F dX8_findOrder_90 (by decide) ?_
              refine z_sub (lv' := [(0, .ref a), (1, .ref b1), (2, .int v23)]) [2, 3, 0] rfl ?_
              exact z_back (fun h => h)
            · refine z_aload_n F 1 rfl rfl dX8_findOrder_82 ?_
              refine z_iload_n F 0 rfl rfl dX8_findOrder_83 ?_
              refine k_X8_keepOrder F (by rw [hR]; exact ⟨by decide, by decide⟩) q_797 hta ⟨Nat.zero_le _, Nat.zero_le _⟩ (Nat.le_of_ble_eq_true rfl) dX8_findOrder_84 (fun v24 g25 => ?_)
              refine z_iincl (lv' := fun v26 => [(2, .int v26), (3, .int v20), (0, .ref a), (1, .ref b1)]) F 3 rfl (by decide) (by decide) dX8_findOrder_87 (fun _ => rfl) (fun v26 => ?_)
              refine z_goto (tgt := 42) F dX8_findOrder_90 (by decide) ?_
              refine z_sub (lv' := [(0, .ref a), (1, .ref b1), (2, .int v26)]) [2, 3, 0] rfl ?_
              exact z_back (fun h => h)
    · show zSim (fun q : Int32 × zG => q = (r, g')) (j_X8_findOrder_93 a x) (zAt E D (zA τ sz) (zQ E D zrV 0 0 sz τ τ r g') 4 (sz, τ, 0, 0) x 93 [] [])
      exact hj_X8_findOrder_93 x
  · exact z_vreturn F rfl rfl rfl rfl (fun h => h) dX8_findOrder_7
theorem k_X8_findOrder {ρ : Type} {K : ρ → Prop} {E : zE} {D : zD} {A : Nat → Prop} {Q : State → Prop} {nL : Nat} {κ : zC} {g : zG} {pc : Nat} {lv : List (Nat × Value)} {st : List Value} {cc : ByteArray} {own : String} {ret : Option FieldType} (F : zF E D A cc own nL ret) {index : Nat} {h : Int32 → zG → Option ρ} {a : Nat} {b1 : Nat}  (hR : 6 + 1 ≤ E.2.2.2.1.frames ∧ 8 + (4 + 11) + 148 ≤ E.2.2.2.1.locals) (hl : zTbl (.methodLink own index yX8_findOrder)) (hta : κ.2.1 a = some (.inr 8)) (htb1 : κ.2.1 b1 = some (.inr 5)) (hc : κ.2.2.1 ≤ E.2.2.2.1.cells ∧ κ.2.2.2 ≤ E.2.2.2.1.slots) (hW : (st.map fun v => v.category).sum ≤ 8) (hd : decode cc pc = .ok (.invokevirtual index, 3)) (kk : ∀ r g', zSim K (h r g') (zAt E D A Q nL κ g' (pc + 3) lv (st))) : zSim K (zb (f_X8_findOrder a b1 g) h) (zAt E D A Q nL κ g pc lv (.ref b1 :: .ref a :: st)) :=
  z_callV F (n := 1) (As := [.ref b1]) (C := (RX8, TX8, 9)) ⟨q_777, q_12, by decide +kernel, rfl, rfl, hR.1, hR.2⟩ (c_X8_findOrder E.2.1 D κ.1 κ.2.1 g a b1 hta htb1) hl q_775 q_776 hta rfl rfl rfl hc hW hd kk _ rfl
theorem dX8_findDouble_0 : decode cX8_findDouble 0 = .ok (.aload_n 0, 1) := by decide +kernel
theorem dX8_findDouble_1 : decode cX8_findDouble 1 = .ok (.getfield 35, 3) := by decide +kernel
theorem dX8_findDouble_4 : decode cX8_findDouble 4 = .ok (.ifCond .eq 4, 3) := by decide +kernel
theorem dX8_findDouble_7 : decode cX8_findDouble 7 = .ok (.return_, 1) := by decide +kernel
theorem dX8_findDouble_8 : decode cX8_findDouble 8 = .ok (.aload_n 0, 1) := by decide +kernel
theorem dX8_findDouble_9 : decode cX8_findDouble 9 = .ok (.iconst 1, 1) := by decide +kernel
theorem dX8_findDouble_10 : decode cX8_findDouble 10 = .ok (.putfield 35, 3) := by decide +kernel
theorem dX8_findDouble_13 : decode cX8_findDouble 13 = .ok (.aload_n 0, 1) := by decide +kernel
theorem dX8_findDouble_14 : decode cX8_findDouble 14 = .ok (.bipush (-4), 2) := by decide +kernel
theorem dX8_findDouble_16 : decode cX8_findDouble 16 = .ok (.putfield 73, 3) := by decide +kernel
theorem dX8_findDouble_19 : decode cX8_findDouble 19 = .ok (.aload_n 0, 1) := by decide +kernel
theorem dX8_findDouble_20 : decode cX8_findDouble 20 = .ok (.getfield 18, 3) := by decide +kernel
theorem dX8_findDouble_23 : decode cX8_findDouble 23 = .ok (.aload_n 1, 1) := by decide +kernel
theorem dX8_findDouble_24 : decode cX8_findDouble 24 = .ok (.getfield 38, 3) := by decide +kernel
theorem dX8_findDouble_27 : decode cX8_findDouble 27 = .ok (.invokevirtual 41, 3) := by decide +kernel
theorem dX8_findDouble_30 : decode cX8_findDouble 30 = .ok (.aload_n 0, 1) := by decide +kernel
theorem dX8_findDouble_31 : decode cX8_findDouble 31 = .ok (.aload_n 0, 1) := by decide +kernel
theorem dX8_findDouble_32 : decode cX8_findDouble 32 = .ok (.aload_n 1, 1) := by decide +kernel
theorem dX8_findDouble_33 : decode cX8_findDouble 33 = .ok (.invokevirtual 48, 3) := by decide +kernel
theorem dX8_findDouble_36 : decode cX8_findDouble 36 = .ok (.putfield 76, 3) := by decide +kernel
theorem dX8_findDouble_39 : decode cX8_findDouble 39 = .ok (.aload_n 0, 1) := by decide +kernel
theorem dX8_findDouble_40 : decode cX8_findDouble 40 = .ok (.getfield 18, 3) := by decide +kernel
theorem dX8_findDouble_43 : decode cX8_findDouble 43 = .ok (.getfield 79, 3) := by decide +kernel
theorem dX8_findDouble_46 : decode cX8_findDouble 46 = .ok (.bipush 48, 2) := by decide +kernel
theorem dX8_findDouble_48 : decode cX8_findDouble 48 = .ok (.if_icmp .lt 4, 3) := by decide +kernel
theorem dX8_findDouble_51 : decode cX8_findDouble 51 = .ok (.return_, 1) := by decide +kernel
theorem dX8_findDouble_52 : decode cX8_findDouble 52 = .ok (.aload_n 0, 1) := by decide +kernel
theorem dX8_findDouble_53 : decode cX8_findDouble 53 = .ok (.getfield 18, 3) := by decide +kernel
theorem dX8_findDouble_56 : decode cX8_findDouble 56 = .ok (.dup, 1) := by decide +kernel
theorem dX8_findDouble_57 : decode cX8_findDouble 57 = .ok (.getfield 79, 3) := by decide +kernel
theorem dX8_findDouble_60 : decode cX8_findDouble 60 = .ok (.iconst 1, 1) := by decide +kernel
theorem dX8_findDouble_61 : decode cX8_findDouble 61 = .ok (.iadd, 1) := by decide +kernel
theorem dX8_findDouble_62 : decode cX8_findDouble 62 = .ok (.putfield 79, 3) := by decide +kernel
theorem dX8_findDouble_65 : decode cX8_findDouble 65 = .ok (.iconst 1, 1) := by decide +kernel
theorem dX8_findDouble_66 : decode cX8_findDouble 66 = .ok (.istore_n 2, 1) := by decide +kernel
theorem dX8_findDouble_67 : decode cX8_findDouble 67 = .ok (.iload_n 2, 1) := by decide +kernel
theorem dX8_findDouble_68 : decode cX8_findDouble 68 = .ok (.bipush 26, 2) := by decide +kernel
theorem dX8_findDouble_70 : decode cX8_findDouble 70 = .ok (.if_icmp .gt 66, 3) := by decide +kernel
theorem dX8_findDouble_73 : decode cX8_findDouble 73 = .ok (.aload_n 0, 1) := by decide +kernel
theorem dX8_findDouble_74 : decode cX8_findDouble 74 = .ok (.getfield 18, 3) := by decide +kernel
theorem dX8_findDouble_77 : decode cX8_findDouble 77 = .ok (.getfield 64, 3) := by decide +kernel
theorem dX8_findDouble_80 : decode cX8_findDouble 80 = .ok (.aload_n 0, 1) := by decide +kernel
theorem dX8_findDouble_81 : decode cX8_findDouble 81 = .ok (.getfield 18, 3) := by decide +kernel
theorem dX8_findDouble_84 : decode cX8_findDouble 84 = .ok (.getfield 79, 3) := by decide +kernel
theorem dX8_findDouble_87 : decode cX8_findDouble 87 = .ok (.iconst 1, 1) := by decide +kernel
theorem dX8_findDouble_88 : decode cX8_findDouble 88 = .ok (.isub, 1) := by decide +kernel
theorem dX8_findDouble_89 : decode cX8_findDouble 89 = .ok (.iload_n 2, 1) := by decide +kernel
theorem dX8_findDouble_90 : decode cX8_findDouble 90 = .ok (.iastore, 1) := by decide +kernel
theorem dX8_findDouble_91 : decode cX8_findDouble 91 = .ok (.aload_n 0, 1) := by decide +kernel
theorem dX8_findDouble_92 : decode cX8_findDouble 92 = .ok (.aload_n 1, 1) := by decide +kernel
theorem dX8_findDouble_93 : decode cX8_findDouble 93 = .ok (.invokevirtual 48, 3) := by decide +kernel
theorem dX8_findDouble_96 : decode cX8_findDouble 96 = .ok (.istore_n 3, 1) := by decide +kernel
theorem dX8_findDouble_97 : decode cX8_findDouble 97 = .ok (.iload_n 3, 1) := by decide +kernel
theorem dX8_findDouble_98 : decode cX8_findDouble 98 = .ok (.bipush (-4), 2) := by decide +kernel
theorem dX8_findDouble_100 : decode cX8_findDouble 100 = .ok (.if_icmp .eq 30, 3) := by decide +kernel
theorem dX8_findDouble_103 : decode cX8_findDouble 103 = .ok (.aload_n 0, 1) := by decide +kernel
theorem dX8_findDouble_104 : decode cX8_findDouble 104 = .ok (.getfield 73, 3) := by decide +kernel
theorem dX8_findDouble_107 : decode cX8_findDouble 107 = .ok (.bipush (-4), 2) := by decide +kernel
theorem dX8_findDouble_109 : decode cX8_findDouble 109 = .ok (.if_icmp .eq 11, 3) := by decide +kernel
theorem dX8_findDouble_112 : decode cX8_findDouble 112 = .ok (.iload_n 3, 1) := by decide +kernel
theorem dX8_findDouble_113 : decode cX8_findDouble 113 = .ok (.aload_n 0, 1) := by decide +kernel
theorem dX8_findDouble_114 : decode cX8_findDouble 114 = .ok (.getfield 73, 3) := by decide +kernel
theorem dX8_findDouble_117 : decode cX8_findDouble 117 = .ok (.if_icmp .ge 13, 3) := by decide +kernel
theorem dX8_findDouble_120 : decode cX8_findDouble 120 = .ok (.aload_n 0, 1) := by decide +kernel
theorem dX8_findDouble_121 : decode cX8_findDouble 121 = .ok (.iload_n 3, 1) := by decide +kernel
theorem dX8_findDouble_122 : decode cX8_findDouble 122 = .ok (.putfield 73, 3) := by decide +kernel
theorem dX8_findDouble_125 : decode cX8_findDouble 125 = .ok (.aload_n 0, 1) := by decide +kernel
theorem dX8_findDouble_126 : decode cX8_findDouble 126 = .ok (.iload_n 2, 1) := by decide +kernel
theorem dX8_findDouble_127 : decode cX8_findDouble 127 = .ok (.putfield 82, 3) := by decide +kernel
theorem dX8_findDouble_130 : decode cX8_findDouble 130 = .ok (.iinc 2 1, 3) := by decide +kernel
theorem dX8_findDouble_133 : decode cX8_findDouble 133 = .ok (.goto (-66), 3) := by decide +kernel
theorem dX8_findDouble_136 : decode cX8_findDouble 136 = .ok (.return_, 1) := by decide +kernel
def j_X8_findDouble_136 (a : Nat)  (g : zG) : Option (Int32 × zG) :=
  some ((0, g))
def l_X8_findDouble_67 (a : Nat) (l1 : Nat) (l2 : Int32) (g : zG) : Option ((Int32 × zG) ⊕ (zG)) :=
  if 26 < l2 then (some (.inr g)) else (zc (zin ((g.1 (g.2.1 a 6) 1) - 1) 48) (zl (zsi g (g.2.1 (g.2.1 a 6) 0) ((g.1 (g.2.1 a 6) 1) - 1).toNatClampNeg l2) (fun g19 => zb (f_X8_ticksOfRun a l1 g19) (fun v20 g21 => if v20 = (-4) then (zl (l2 + 1) (fun v23 => some (.inl (v23, g21)))) else (if (g21.1 a 3) = (-4) then (zl (zsi g21 a 3 v20) (fun g25 => zl (zsi g25 a 4 l2) (fun g26 => zl (l2 + 1) (fun v27 => some (.inl (v27, g26)))))) else (if (g21.1 a 3) ≤ v20 then (zl (l2 + 1) (fun v29 => some (.inl (v29, g21)))) else (zl (zsi g21 a 3 v20) (fun g30 => zl (zsi g30 a 4 l2) (fun g31 => zl (l2 + 1) (fun v32 => some (.inl (v32, g31))))))))))))
def f_X8_findDouble (a : Nat) (b1 : Nat) (g : zG) : Option (Int32 × zG) :=
  if (g.1 a 8) = 0 then (zl (zsi g a 8 1) (fun g2 => zl (zsi g2 a 3 (-4)) (fun g3 => zb (f_X0_copyFrom (g3.2.1 a 6) (g3.2.1 b1 0) g3) (fun v6 g7 => zb (f_X8_ticksOfRun a b1 g7) (fun v8 g9 => zl (zsi g9 a 5 v8) (fun g10 => if (g10.1 (g10.2.1 a 6) 1) < 48 then (zl (zsi g10 (g10.2.1 a 6) 1 ((g10.1 (g10.2.1 a 6) 1) + 1)) (fun g14 => zk (zw zN (fun s => l_X8_findDouble_67 a b1 s.1 s.2) (1, g14)) (fun x => j_X8_findDouble_136 a x))) else (some ((0, g10))))))))) else (some ((0, g)))
abbrev rm_X8_findDouble : Room := { frames := 6, cells := 0, slots := 0, locals := 148 }
set_option maxRecDepth 100000 in
set_option maxHeartbeats 4000000 in
theorem c_X8_findDouble (l : Launch) (D : zD) (sz : Nat) (τ : zT) (g : zG) (a : Nat) (b1 : Nat) (hta : τ a = some (.inr 8)) (htb1 : τ b1 = some (.inr 5)) : zCon l D yX8_findDouble cX8_findDouble 4 none rm_X8_findDouble 0 0 zrV [.ref a, .ref b1] sz τ g τ (f_X8_findDouble a b1 g) := by
  refine zCon.of (by decide) (Nat.le_of_ble_eq_true rfl) (fun E r g' hl hR hsz hnm F => ?_)
  have F : zF E D (zA τ sz) cX8_findDouble "TypeChain$Trials" 4 none := F
  show zSim (fun q : Int32 × zG => q = (r, g')) (f_X8_findDouble a b1 g) (zAt E D (zA τ sz) (zQ E D zrV 0 0 sz τ τ r g') 4 (sz, τ, 0, 0) g 0 [(0, .ref a), (1, .ref b1)] [])
  have hj_X8_findDouble_136 : ∀  (g_136 : zG), zSim (fun q : Int32 × zG => q = (r, g')) (j_X8_findDouble_136 a g_136) (zAt E D (zA τ sz) (zQ E D zrV 0 0 sz τ τ r g') 4 (sz, τ, 0, 0) g_136 136 [] []) := by
    intro g_136
    unfold j_X8_findDouble_136
    exact z_vreturn F rfl rfl rfl rfl (fun h => h) dX8_findDouble_136
  unfold f_X8_findDouble
  refine z_aload_n F 0 rfl rfl dX8_findDouble_0 ?_
  refine gf_X8_35 F hta dX8_findDouble_1 ?_
  refine z_if_eq (tgt := 8) F dX8_findDouble_4 (by decide) (fun c1 => ?_) (fun c1 => ?_)
  · refine z_aload_n F 0 rfl rfl dX8_findDouble_8 ?_
    refine z_iconst (v := 1) F (by decide) dX8_findDouble_9 ?_
    refine pf_X8_35 F hta (Or.inr rfl) dX8_findDouble_10 ?_
    refine z_letg (fun g2 => ?_)
    refine z_aload_n F 0 rfl rfl dX8_findDouble_13 ?_
    refine z_bipush (v := (-4)) F (by decide) dX8_findDouble_14 ?_
    refine pf_X8_73 F hta dX8_findDouble_16 ?_
    refine z_letg (fun g3 => ?_)
    refine z_aload_n F 0 rfl rfl dX8_findDouble_19 ?_
    refine gf_X8_18 F hta dX8_findDouble_20 (fun ht4 => ?_)
    refine z_aload_n F 1 rfl rfl dX8_findDouble_23 ?_
    refine gf_X8_38 F htb1 dX8_findDouble_24 (fun ht5 => ?_)
    refine k_X0_copyFrom F (by rw [hR]; exact ⟨by decide, by decide⟩) q_778 ht4 ht5 ⟨Nat.zero_le _, Nat.zero_le _⟩ (Nat.le_of_ble_eq_true rfl) dX8_findDouble_27 (fun v6 g7 => ?_)
    refine z_aload_n F 0 rfl rfl dX8_findDouble_30 ?_
    refine z_aload_n F 0 rfl rfl dX8_findDouble_31 ?_
    refine z_aload_n F 1 rfl rfl dX8_findDouble_32 ?_
    refine k_X8_ticksOfRun F (by rw [hR]; exact ⟨by decide, by decide⟩) q_791 hta htb1 ⟨Nat.zero_le _, Nat.zero_le _⟩ (Nat.le_of_ble_eq_true rfl) dX8_findDouble_33 (fun v8 g9 => ?_)
    refine pf_X8_76 F hta dX8_findDouble_36 ?_
    refine z_letg (fun g10 => ?_)
    refine z_aload_n F 0 rfl rfl dX8_findDouble_39 ?_
    refine gf_X8_18 F hta dX8_findDouble_40 (fun ht11 => ?_)
    refine gf_X8_79 F ht11 dX8_findDouble_43 ?_
    refine z_bipush (v := 48) F (by decide) dX8_findDouble_46 ?_
    refine z_icmp_lt (tgt := 52) F dX8_findDouble_48 (by decide) (fun c12 => ?_) (fun c12 => ?_)
    · refine z_aload_n F 0 rfl rfl dX8_findDouble_52 ?_
      refine gf_X8_18 F hta dX8_findDouble_53 (fun ht13 => ?_)
      refine z_dup F rfl dX8_findDouble_56 ?_
      refine gf_X8_79 F ht13 dX8_findDouble_57 ?_
      refine z_iconst (v := 1) F (by decide) dX8_findDouble_60 ?_
      refine z_iadd F dX8_findDouble_61 ?_
      refine pf_X8_79 F ht13 dX8_findDouble_62 ?_
      refine z_letg (fun g14 => ?_)
      refine z_iconst (v := 1) F (by decide) dX8_findDouble_65 ?_
      refine z_istore_n (lv' := [(2, .int 1), (0, .ref a), (1, .ref b1)]) F rfl (by decide) dX8_findDouble_66 rfl ?_
      refine z_sub (lv' := [(0, .ref a), (1, .ref b1), (2, .int 1)]) [1, 2, 0] rfl ?_
      refine z_loop (P := fun s : Int32 × zG => zAt E D (zA τ sz) (zQ E D zrV 0 0 sz τ τ r g') 4 (sz, τ, 0, 0) s.2 67 [(0, .ref a), (1, .ref b1), (2, .int s.1)] []) (Px := fun x : zG => zAt E D (zA τ sz) (zQ E D zrV 0 0 sz τ τ r g') 4 (sz, τ, 0, 0) x 136 [] []) (1, g14) (fun s => ?_) (fun x => ?_)
      · obtain ⟨l2_67, g_67⟩ := s
        show zSim (zKl (fun s : Int32 × zG => zAt E D (zA τ sz) (zQ E D zrV 0 0 sz τ τ r g') 4 (sz, τ, 0, 0) s.2 67 [(0, .ref a), (1, .ref b1), (2, .int s.1)] []) (fun x : zG => zAt E D (zA τ sz) (zQ E D zrV 0 0 sz τ τ r g') 4 (sz, τ, 0, 0) x 136 [] [])) (l_X8_findDouble_67 a b1 l2_67 g_67) (zAt E D (zA τ sz) (zQ E D zrV 0 0 sz τ τ r g') 4 (sz, τ, 0, 0) g_67 67 [(0, .ref a), (1, .ref b1), (2, .int l2_67)] [])
        unfold l_X8_findDouble_67
        refine z_iload_n F 2 rfl rfl dX8_findDouble_67 ?_
        refine z_bipush (v := 26) F (by decide) dX8_findDouble_68 ?_
        refine z_icmp_gt (tgt := 136) F dX8_findDouble_70 (by decide) (fun c15 => ?_) (fun c15 => ?_)
        · refine z_sub (lv' := []) [] rfl ?_
          exact z_back (fun h => h)
        · refine z_aload_n F 0 rfl rfl dX8_findDouble_73 ?_
          refine gf_X8_18 F hta dX8_findDouble_74 (fun ht16 => ?_)
          refine gf_X8_64 F ht16 dX8_findDouble_77 (fun ht17 => ?_)
          refine z_aload_n F 0 rfl rfl dX8_findDouble_80 ?_
          refine gf_X8_18 F hta dX8_findDouble_81 (fun ht18 => ?_)
          refine gf_X8_79 F ht18 dX8_findDouble_84 ?_
          refine z_iconst (v := 1) F (by decide) dX8_findDouble_87 ?_
          refine z_isub F dX8_findDouble_88 ?_
          refine z_iload_n F 2 rfl rfl dX8_findDouble_89 ?_
          refine z_iast F ht17 dX8_findDouble_90 ?_
          refine z_letg (fun g19 => ?_)
          refine z_aload_n F 0 rfl rfl dX8_findDouble_91 ?_
          refine z_aload_n F 1 rfl rfl dX8_findDouble_92 ?_
          refine k_X8_ticksOfRun F (by rw [hR]; exact ⟨by decide, by decide⟩) q_791 hta htb1 ⟨Nat.zero_le _, Nat.zero_le _⟩ (Nat.le_of_ble_eq_true rfl) dX8_findDouble_93 (fun v20 g21 => ?_)
          refine z_istore_n (lv' := [(3, .int v20), (0, .ref a), (1, .ref b1), (2, .int l2_67)]) F rfl (by decide) dX8_findDouble_96 rfl ?_
          refine z_iload_n F 0 rfl rfl dX8_findDouble_97 ?_
          refine z_bipush (v := (-4)) F (by decide) dX8_findDouble_98 ?_
          refine z_icmp_eq (tgt := 130) F dX8_findDouble_100 (by decide) (fun c22 => ?_) (fun c22 => ?_)
          · refine z_iincl (lv' := fun v23 => [(2, .int v23), (3, .int v20), (0, .ref a), (1, .ref b1)]) F 3 rfl (by decide) (by decide) dX8_findDouble_130 (fun _ => rfl) (fun v23 => ?_)
            refine z_goto (tgt := 67) F dX8_findDouble_133 (by decide) ?_
            refine z_sub (lv' := [(0, .ref a), (1, .ref b1), (2, .int v23)]) [2, 3, 0] rfl ?_
            exact z_back (fun h => h)
          · refine z_aload_n F 1 rfl rfl dX8_findDouble_103 ?_
            refine gf_X8_73 F hta dX8_findDouble_104 ?_
            refine z_bipush (v := (-4)) F (by decide) dX8_findDouble_107 ?_
            refine z_icmp_eq (tgt := 120) F dX8_findDouble_109 (by decide) (fun c24 => ?_) (fun c24 => ?_)
            · refine z_aload_n F 1 rfl rfl dX8_findDouble_120 ?_
              refine z_iload_n F 0 rfl rfl dX8_findDouble_121 ?_
              refine pf_X8_73 F hta dX8_findDouble_122 ?_
              refine z_letg (fun g25 => ?_)
              refine z_aload_n F 1 rfl rfl dX8_findDouble_125 ?_
              refine z_iload_n F 3 rfl rfl dX8_findDouble_126 ?_
              refine pf_X8_82 F hta dX8_findDouble_127 ?_
              refine z_letg (fun g26 => ?_)
              refine z_iincl (lv' := fun v27 => [(2, .int v27), (3, .int v20), (0, .ref a), (1, .ref b1)]) F 3 rfl (by decide) (by decide) dX8_findDouble_130 (fun _ => rfl) (fun v27 => ?_)
              refine z_goto (tgt := 67) F dX8_findDouble_133 (by decide) ?_
              refine z_sub (lv' := [(0, .ref a), (1, .ref b1), (2, .int v27)]) [2, 3, 0] rfl ?_
              exact z_back (fun h => h)
            · refine z_iload_n F 0 rfl rfl dX8_findDouble_112 ?_
              refine z_aload_n F 1 rfl rfl dX8_findDouble_113 ?_
              refine gf_X8_73 F hta dX8_findDouble_114 ?_
              refine z_icmp_ge (tgt := 130) F dX8_findDouble_117 (by decide) (fun c28 => ?_) (fun c28 => ?_)
              · refine z_iincl (lv' := fun v29 => [(2, .int v29), (3, .int v20), (0, .ref a), (1, .ref b1)]) F 3 rfl (by decide) (by decide) dX8_findDouble_130 (fun _ => rfl) (fun v29 => ?_)
                refine z_goto (tgt := 67) F dX8_findDouble_133 (by decide) ?_
                refine z_sub (lv' := [(0, .ref a), (1, .ref b1), (2, .int v29)]) [2, 3, 0] rfl ?_
                exact z_back (fun h => h)
              · refine z_aload_n F 1 rfl rfl dX8_findDouble_120 ?_
                refine z_iload_n F 0 rfl rfl dX8_findDouble_121 ?_
                refine pf_X8_73 F hta dX8_findDouble_122 ?_
                refine z_letg (fun g30 => ?_)
                refine z_aload_n F 1 rfl rfl dX8_findDouble_125 ?_
                refine z_iload_n F 3 rfl rfl dX8_findDouble_126 ?_
                refine pf_X8_82 F hta dX8_findDouble_127 ?_
                refine z_letg (fun g31 => ?_)
                refine z_iincl (lv' := fun v32 => [(2, .int v32), (3, .int v20), (0, .ref a), (1, .ref b1)]) F 3 rfl (by decide) (by decide) dX8_findDouble_130 (fun _ => rfl) (fun v32 => ?_)
                refine z_goto (tgt := 67) F dX8_findDouble_133 (by decide) ?_
                refine z_sub (lv' := [(0, .ref a), (1, .ref b1), (2, .int v32)]) [2, 3, 0] rfl ?_
                exact z_back (fun h => h)
      · show zSim (fun q : Int32 × zG => q = (r, g')) (j_X8_findDouble_136 a x) (zAt E D (zA τ sz) (zQ E D zrV 0 0 sz τ τ r g') 4 (sz, τ, 0, 0) x 136 [] [])
        exact hj_X8_findDouble_136 x
    · exact z_vreturn F rfl rfl rfl rfl (fun h => h) dX8_findDouble_51
  · exact z_vreturn F rfl rfl rfl rfl (fun h => h) dX8_findDouble_7
theorem k_X8_findDouble {ρ : Type} {K : ρ → Prop} {E : zE} {D : zD} {A : Nat → Prop} {Q : State → Prop} {nL : Nat} {κ : zC} {g : zG} {pc : Nat} {lv : List (Nat × Value)} {st : List Value} {cc : ByteArray} {own : String} {ret : Option FieldType} (F : zF E D A cc own nL ret) {index : Nat} {h : Int32 → zG → Option ρ} {a : Nat} {b1 : Nat}  (hR : 6 + 1 ≤ E.2.2.2.1.frames ∧ 8 + (4 + 11) + 148 ≤ E.2.2.2.1.locals) (hl : zTbl (.methodLink own index yX8_findDouble)) (hta : κ.2.1 a = some (.inr 8)) (htb1 : κ.2.1 b1 = some (.inr 5)) (hc : κ.2.2.1 ≤ E.2.2.2.1.cells ∧ κ.2.2.2 ≤ E.2.2.2.1.slots) (hW : (st.map fun v => v.category).sum ≤ 8) (hd : decode cc pc = .ok (.invokevirtual index, 3)) (kk : ∀ r g', zSim K (h r g') (zAt E D A Q nL κ g' (pc + 3) lv (st))) : zSim K (zb (f_X8_findDouble a b1 g) h) (zAt E D A Q nL κ g pc lv (.ref b1 :: .ref a :: st)) :=
  z_callV F (n := 1) (As := [.ref b1]) (C := (RX8, TX8, 9)) ⟨q_815, q_12, by decide +kernel, rfl, rfl, hR.1, hR.2⟩ (c_X8_findDouble E.2.1 D κ.1 κ.2.1 g a b1 hta htb1) hl q_813 q_814 hta rfl rfl rfl hc hW hd kk _ rfl
