theorem dX0_copyFrom_0 : decode cX0_copyFrom 0 = .ok (.aload_n 1, 1) := by decide +kernel
theorem dX0_copyFrom_1 : decode cX0_copyFrom 1 = .ok (.getfield 9, 3) := by decide +kernel
theorem dX0_copyFrom_4 : decode cX0_copyFrom 4 = .ok (.iconst 0, 1) := by decide +kernel
theorem dX0_copyFrom_5 : decode cX0_copyFrom 5 = .ok (.aload_n 0, 1) := by decide +kernel
theorem dX0_copyFrom_6 : decode cX0_copyFrom 6 = .ok (.getfield 9, 3) := by decide +kernel
theorem dX0_copyFrom_9 : decode cX0_copyFrom 9 = .ok (.iconst 0, 1) := by decide +kernel
theorem dX0_copyFrom_10 : decode cX0_copyFrom 10 = .ok (.bipush 48, 2) := by decide +kernel
theorem dX0_copyFrom_12 : decode cX0_copyFrom 12 = .ok (.invokestatic 15, 3) := by decide +kernel
theorem dX0_copyFrom_15 : decode cX0_copyFrom 15 = .ok (.aload_n 0, 1) := by decide +kernel
theorem dX0_copyFrom_16 : decode cX0_copyFrom 16 = .ok (.aload_n 1, 1) := by decide +kernel
theorem dX0_copyFrom_17 : decode cX0_copyFrom 17 = .ok (.getfield 21, 3) := by decide +kernel
theorem dX0_copyFrom_20 : decode cX0_copyFrom 20 = .ok (.putfield 21, 3) := by decide +kernel
theorem dX0_copyFrom_23 : decode cX0_copyFrom 23 = .ok (.aload_n 0, 1) := by decide +kernel
theorem dX0_copyFrom_24 : decode cX0_copyFrom 24 = .ok (.aload_n 1, 1) := by decide +kernel
theorem dX0_copyFrom_25 : decode cX0_copyFrom 25 = .ok (.getfield 25, 3) := by decide +kernel
theorem dX0_copyFrom_28 : decode cX0_copyFrom 28 = .ok (.putfield 25, 3) := by decide +kernel
theorem dX0_copyFrom_31 : decode cX0_copyFrom 31 = .ok (.aload_n 0, 1) := by decide +kernel
theorem dX0_copyFrom_32 : decode cX0_copyFrom 32 = .ok (.aload_n 1, 1) := by decide +kernel
theorem dX0_copyFrom_33 : decode cX0_copyFrom 33 = .ok (.getfield 28, 3) := by decide +kernel
theorem dX0_copyFrom_36 : decode cX0_copyFrom 36 = .ok (.putfield 28, 3) := by decide +kernel
theorem dX0_copyFrom_39 : decode cX0_copyFrom 39 = .ok (.return_, 1) := by decide +kernel
def f_X0_copyFrom (a : Nat) (b1 : Nat) (g : zG) : Option (Int32 × zG) :=
  zc (zcpok 0 0 48 48 48) (zl (zcp g (g.2.1 a 0) (g.1 (g.2.1 b1 0)) 0 0 48) (fun g3 => zl (zsi g3 a 1 (g3.1 b1 1)) (fun g4 => zl (zsi g4 a 2 (g4.1 b1 2)) (fun g5 => zl (zsi g5 a 3 (g5.1 b1 3)) (fun g6 => some ((0, g6)))))))
abbrev rm_X0_copyFrom : Room := { frames := 1, cells := 0, slots := 0, locals := 26 }
set_option maxRecDepth 100000 in
set_option maxHeartbeats 4000000 in
theorem c_X0_copyFrom (l : Launch) (D : zD) (sz : Nat) (τ : zT) (g : zG) (a : Nat) (b1 : Nat) (hta : τ a = some (.inr 0)) (htb1 : τ b1 = some (.inr 0)) : zCon l D yX0_copyFrom cX0_copyFrom 2 none rm_X0_copyFrom 0 0 zrV [.ref a, .ref b1] sz τ g τ (f_X0_copyFrom a b1 g) := by
  refine zCon.of (by decide) (Nat.le_of_ble_eq_true rfl) (fun E r g' hl hR hsz hnm F => ?_)
  have F : zF E D (zA τ sz) cX0_copyFrom "TypeChain$Chain" 2 none := F
  show zSim (fun q : Int32 × zG => q = (r, g')) (f_X0_copyFrom a b1 g) (zAt E D (zA τ sz) (zQ E D zrV 0 0 sz τ τ r g') 2 (sz, τ, 0, 0) g 0 [(0, .ref a), (1, .ref b1)] [])
  unfold f_X0_copyFrom
  refine z_aload_n F 1 rfl rfl dX0_copyFrom_0 ?_
  refine gf_X0_9 F htb1 dX0_copyFrom_1 (fun ht1 => ?_)
  refine z_iconst (v := 0) F (by decide) dX0_copyFrom_4 ?_
  refine z_aload_n F 0 rfl rfl dX0_copyFrom_5 ?_
  refine gf_X0_9 F hta dX0_copyFrom_6 (fun ht2 => ?_)
  refine z_iconst (v := 0) F (by decide) dX0_copyFrom_9 ?_
  refine z_bipush (v := 48) F (by decide) dX0_copyFrom_10 ?_
  refine z_copy F q_782 q_113 q_112 q_5 ht1 ht2 (by rw [hR]; exact ⟨by decide, by decide⟩) (Nat.le_of_ble_eq_true rfl) dX0_copyFrom_12 ?_
  refine z_letg (fun g3 => ?_)
  refine z_aload_n F 0 rfl rfl dX0_copyFrom_15 ?_
  refine z_aload_n F 1 rfl rfl dX0_copyFrom_16 ?_
  refine gf_X0_21 F htb1 dX0_copyFrom_17 ?_
  refine pf_X0_21 F hta dX0_copyFrom_20 ?_
  refine z_letg (fun g4 => ?_)
  refine z_aload_n F 0 rfl rfl dX0_copyFrom_23 ?_
  refine z_aload_n F 1 rfl rfl dX0_copyFrom_24 ?_
  refine gf_X0_25 F htb1 dX0_copyFrom_25 ?_
  refine pf_X0_25 F hta dX0_copyFrom_28 ?_
  refine z_letg (fun g5 => ?_)
  refine z_aload_n F 0 rfl rfl dX0_copyFrom_31 ?_
  refine z_aload_n F 1 rfl rfl dX0_copyFrom_32 ?_
  refine gf_X0_28 F htb1 dX0_copyFrom_33 ?_
  refine pf_X0_28 F hta dX0_copyFrom_36 ?_
  refine z_letg (fun g6 => ?_)
  exact z_vreturn F rfl rfl rfl rfl (fun h => h) dX0_copyFrom_39
theorem k_X0_copyFrom {ρ : Type} {K : ρ → Prop} {E : zE} {D : zD} {A : Nat → Prop} {Q : State → Prop} {nL : Nat} {κ : zC} {g : zG} {pc : Nat} {lv : List (Nat × Value)} {st : List Value} {cc : ByteArray} {own : String} {ret : Option FieldType} (F : zF E D A cc own nL ret) {index : Nat} {h : Int32 → zG → Option ρ} {a : Nat} {b1 : Nat}  (hR : 1 + 1 ≤ E.2.2.2.1.frames ∧ 8 + (2 + 11) + 26 ≤ E.2.2.2.1.locals) (hl : zTbl (.methodLink own index yX0_copyFrom)) (hta : κ.2.1 a = some (.inr 0)) (htb1 : κ.2.1 b1 = some (.inr 0)) (hc : κ.2.2.1 ≤ E.2.2.2.1.cells ∧ κ.2.2.2 ≤ E.2.2.2.1.slots) (hW : (st.map fun v => v.category).sum ≤ 8) (hd : decode cc pc = .ok (.invokevirtual index, 3)) (kk : ∀ r g', zSim K (h r g') (zAt E D A Q nL κ g' (pc + 3) lv (st))) : zSim K (zb (f_X0_copyFrom a b1 g) h) (zAt E D A Q nL κ g pc lv (.ref b1 :: .ref a :: st)) :=
  z_callV F (n := 1) (As := [.ref b1]) (C := (RX0, TX0, 4)) ⟨q_781, q_3, by decide +kernel, rfl, rfl, hR.1, hR.2⟩ (c_X0_copyFrom E.2.1 D κ.1 κ.2.1 g a b1 hta htb1) hl q_779 q_780 hta rfl rfl rfl hc hW hd kk _ rfl
theorem dX0_slugFacing_0 : decode cX0_slugFacing 0 = .ok (.iload_n 1, 1) := by decide +kernel
theorem dX0_slugFacing_1 : decode cX0_slugFacing 1 = .ok (.aload_n 0, 1) := by decide +kernel
theorem dX0_slugFacing_2 : decode cX0_slugFacing 2 = .ok (.getfield 28, 3) := by decide +kernel
theorem dX0_slugFacing_5 : decode cX0_slugFacing 5 = .ok (.imul, 1) := by decide +kernel
theorem dX0_slugFacing_6 : decode cX0_slugFacing 6 = .ok (.iload_n 2, 1) := by decide +kernel
theorem dX0_slugFacing_7 : decode cX0_slugFacing 7 = .ok (.iadd, 1) := by decide +kernel
theorem dX0_slugFacing_8 : decode cX0_slugFacing 8 = .ok (.istore_n 3, 1) := by decide +kernel
theorem dX0_slugFacing_9 : decode cX0_slugFacing 9 = .ok (.aload_n 0, 1) := by decide +kernel
theorem dX0_slugFacing_10 : decode cX0_slugFacing 10 = .ok (.getfield 21, 3) := by decide +kernel
theorem dX0_slugFacing_13 : decode cX0_slugFacing 13 = .ok (.iconst 1, 1) := by decide +kernel
theorem dX0_slugFacing_14 : decode cX0_slugFacing 14 = .ok (.if_icmp .lt 20, 3) := by decide +kernel
theorem dX0_slugFacing_17 : decode cX0_slugFacing 17 = .ok (.aload_n 0, 1) := by decide +kernel
theorem dX0_slugFacing_18 : decode cX0_slugFacing 18 = .ok (.getfield 25, 3) := by decide +kernel
theorem dX0_slugFacing_21 : decode cX0_slugFacing 21 = .ok (.iconst 1, 1) := by decide +kernel
theorem dX0_slugFacing_22 : decode cX0_slugFacing 22 = .ok (.if_icmp .lt 12, 3) := by decide +kernel
theorem dX0_slugFacing_25 : decode cX0_slugFacing 25 = .ok (.iload_n 3, 1) := by decide +kernel
theorem dX0_slugFacing_26 : decode cX0_slugFacing 26 = .ok (.aload_n 0, 1) := by decide +kernel
theorem dX0_slugFacing_27 : decode cX0_slugFacing 27 = .ok (.getfield 25, 3) := by decide +kernel
theorem dX0_slugFacing_30 : decode cX0_slugFacing 30 = .ok (.irem, 1) := by decide +kernel
theorem dX0_slugFacing_31 : decode cX0_slugFacing 31 = .ok (.ifCond .eq 6, 3) := by decide +kernel
theorem dX0_slugFacing_34 : decode cX0_slugFacing 34 = .ok (.bipush (-4), 2) := by decide +kernel
theorem dX0_slugFacing_36 : decode cX0_slugFacing 36 = .ok (.ireturn, 1) := by decide +kernel
theorem dX0_slugFacing_37 : decode cX0_slugFacing 37 = .ok (.iload_n 3, 1) := by decide +kernel
theorem dX0_slugFacing_38 : decode cX0_slugFacing 38 = .ok (.aload_n 0, 1) := by decide +kernel
theorem dX0_slugFacing_39 : decode cX0_slugFacing 39 = .ok (.getfield 25, 3) := by decide +kernel
theorem dX0_slugFacing_42 : decode cX0_slugFacing 42 = .ok (.idiv, 1) := by decide +kernel
theorem dX0_slugFacing_43 : decode cX0_slugFacing 43 = .ok (.aload_n 0, 1) := by decide +kernel
theorem dX0_slugFacing_44 : decode cX0_slugFacing 44 = .ok (.getfield 21, 3) := by decide +kernel
theorem dX0_slugFacing_47 : decode cX0_slugFacing 47 = .ok (.irem, 1) := by decide +kernel
theorem dX0_slugFacing_48 : decode cX0_slugFacing 48 = .ok (.ireturn, 1) := by decide +kernel
def f_X0_slugFacing (a : Nat) (x1 : Int32) (x2 : Int32) (g : zG) : Option (Int32 × zG) :=
  zl ((x1 * (g.1 a 3)) + x2) (fun v1 => if (g.1 a 1) < 1 then (some (((-4), g))) else (if (g.1 a 2) < 1 then (some (((-4), g))) else (zc (¬ (g.1 a 2) = 0) (if (zrem v1 (g.1 a 2)) = 0 then (zc (¬ (g.1 a 2) = 0) (zc (¬ (g.1 a 1) = 0) (some ((zrem (v1 / (g.1 a 2)) (g.1 a 1), g))))) else (some (((-4), g)))))))
abbrev rm_X0_slugFacing : Room := { frames := 0, cells := 0, slots := 0, locals := 0 }
set_option maxRecDepth 100000 in
set_option maxHeartbeats 4000000 in
theorem c_X0_slugFacing (l : Launch) (D : zD) (sz : Nat) (τ : zT) (g : zG) (a : Nat) (x1 : Int32) (x2 : Int32) (hta : τ a = some (.inr 0)) : zCon l D yX0_slugFacing cX0_slugFacing 4 (some .int) rm_X0_slugFacing 0 0 zrI [.ref a, .int x1, .int x2] sz τ g τ (f_X0_slugFacing a x1 x2 g) := by
  refine zCon.of (by decide) (Nat.le_of_ble_eq_true rfl) (fun E r g' hl hR hsz hnm F => ?_)
  have F : zF E D (zA τ sz) cX0_slugFacing "TypeChain$Chain" 4 (some .int) := F
  show zSim (fun q : Int32 × zG => q = (r, g')) (f_X0_slugFacing a x1 x2 g) (zAt E D (zA τ sz) (zQ E D zrI 0 0 sz τ τ r g') 4 (sz, τ, 0, 0) g 0 [(0, .ref a), (1, .int x1), (2, .int x2)] [])
  unfold f_X0_slugFacing
  refine z_iload_n F 1 rfl rfl dX0_slugFacing_0 ?_
  refine z_aload_n F 0 rfl rfl dX0_slugFacing_1 ?_
  refine gf_X0_28 F hta dX0_slugFacing_2 ?_
  refine z_imul F dX0_slugFacing_5 ?_
  refine z_iload_n F 2 rfl rfl dX0_slugFacing_6 ?_
  refine z_iadd F dX0_slugFacing_7 ?_
  refine z_leti (fun v1 => ?_)
  refine z_istore_n (lv' := [(3, .int v1), (0, .ref a), (1, .int x1), (2, .int x2)]) F rfl (by decide) dX0_slugFacing_8 rfl ?_
  refine z_aload_n F 1 rfl rfl dX0_slugFacing_9 ?_
  refine gf_X0_21 F hta dX0_slugFacing_10 ?_
  refine z_iconst (v := 1) F (by decide) dX0_slugFacing_13 ?_
  refine z_icmp_lt (tgt := 34) F dX0_slugFacing_14 (by decide) (fun c2 => ?_) (fun c2 => ?_)
  · refine z_bipush (v := (-4)) F (by decide) dX0_slugFacing_34 ?_
    exact z_ireturn F rfl rfl rfl rfl (fun h => h) dX0_slugFacing_36
  · refine z_aload_n F 1 rfl rfl dX0_slugFacing_17 ?_
    refine gf_X0_25 F hta dX0_slugFacing_18 ?_
    refine z_iconst (v := 1) F (by decide) dX0_slugFacing_21 ?_
    refine z_icmp_lt (tgt := 34) F dX0_slugFacing_22 (by decide) (fun c3 => ?_) (fun c3 => ?_)
    · refine z_bipush (v := (-4)) F (by decide) dX0_slugFacing_34 ?_
      exact z_ireturn F rfl rfl rfl rfl (fun h => h) dX0_slugFacing_36
    · refine z_iload_n F 0 rfl rfl dX0_slugFacing_25 ?_
      refine z_aload_n F 1 rfl rfl dX0_slugFacing_26 ?_
      refine gf_X0_25 F hta dX0_slugFacing_27 ?_
      refine z_irem F dX0_slugFacing_30 ?_
      refine z_if_eq (tgt := 37) F dX0_slugFacing_31 (by decide) (fun c4 => ?_) (fun c4 => ?_)
      · refine z_iload_n F 0 rfl rfl dX0_slugFacing_37 ?_
        refine z_aload_n F 1 rfl rfl dX0_slugFacing_38 ?_
        refine gf_X0_25 F hta dX0_slugFacing_39 ?_
        refine z_idiv F dX0_slugFacing_42 ?_
        refine z_aload_n F 1 rfl rfl dX0_slugFacing_43 ?_
        refine gf_X0_21 F hta dX0_slugFacing_44 ?_
        refine z_irem F dX0_slugFacing_47 ?_
        exact z_ireturn F rfl rfl rfl rfl (fun h => h) dX0_slugFacing_48
      · refine z_bipush (v := (-4)) F (by decide) dX0_slugFacing_34 ?_
        exact z_ireturn F rfl rfl rfl rfl (fun h => h) dX0_slugFacing_36
theorem k_X0_slugFacing {ρ : Type} {K : ρ → Prop} {E : zE} {D : zD} {A : Nat → Prop} {Q : State → Prop} {nL : Nat} {κ : zC} {g : zG} {pc : Nat} {lv : List (Nat × Value)} {st : List Value} {cc : ByteArray} {own : String} {ret : Option FieldType} (F : zF E D A cc own nL ret) {index : Nat} {h : Int32 → zG → Option ρ} {a : Nat} {x1 : Int32} {x2 : Int32}  (hR : 0 + 1 ≤ E.2.2.2.1.frames ∧ 8 + (4 + 11) + 0 ≤ E.2.2.2.1.locals) (hl : zTbl (.methodLink own index yX0_slugFacing)) (hta : κ.2.1 a = some (.inr 0)) (hc : κ.2.2.1 ≤ E.2.2.2.1.cells ∧ κ.2.2.2 ≤ E.2.2.2.1.slots) (hW : (st.map fun v => v.category).sum ≤ 8) (hd : decode cc pc = .ok (.invokevirtual index, 3)) (kk : ∀ r g', zSim K (h r g') (zAt E D A Q nL κ g' (pc + 3) lv (.int r :: st))) : zSim K (zb (f_X0_slugFacing a x1 x2 g) h) (zAt E D A Q nL κ g pc lv (.int x2 :: .int x1 :: .ref a :: st)) :=
  z_callV F (n := 2) (As := [.int x1, .int x2]) (C := (RX0, TX0, 4)) ⟨q_608, q_3, by decide +kernel, rfl, rfl, hR.1, hR.2⟩ (c_X0_slugFacing E.2.1 D κ.1 κ.2.1 g a x1 x2 hta) hl q_606 q_607 hta rfl rfl rfl hc hW hd kk _ rfl
theorem dX0_letterFacing_0 : decode cX0_letterFacing 0 = .ok (.aload_n 0, 1) := by decide +kernel
theorem dX0_letterFacing_1 : decode cX0_letterFacing 1 = .ok (.iload_n 1, 1) := by decide +kernel
theorem dX0_letterFacing_2 : decode cX0_letterFacing 2 = .ok (.iload_n 2, 1) := by decide +kernel
theorem dX0_letterFacing_3 : decode cX0_letterFacing 3 = .ok (.invokevirtual 31, 3) := by decide +kernel
theorem dX0_letterFacing_6 : decode cX0_letterFacing 6 = .ok (.istore_n 3, 1) := by decide +kernel
theorem dX0_letterFacing_7 : decode cX0_letterFacing 7 = .ok (.iload_n 3, 1) := by decide +kernel
theorem dX0_letterFacing_8 : decode cX0_letterFacing 8 = .ok (.ifCond .ge 8, 3) := by decide +kernel
theorem dX0_letterFacing_11 : decode cX0_letterFacing 11 = .ok (.bipush (-4), 2) := by decide +kernel
theorem dX0_letterFacing_13 : decode cX0_letterFacing 13 = .ok (.goto 9, 3) := by decide +kernel
theorem dX0_letterFacing_16 : decode cX0_letterFacing 16 = .ok (.aload_n 0, 1) := by decide +kernel
theorem dX0_letterFacing_17 : decode cX0_letterFacing 17 = .ok (.getfield 9, 3) := by decide +kernel
theorem dX0_letterFacing_20 : decode cX0_letterFacing 20 = .ok (.iload_n 3, 1) := by decide +kernel
theorem dX0_letterFacing_21 : decode cX0_letterFacing 21 = .ok (.iaload, 1) := by decide +kernel
theorem dX0_letterFacing_22 : decode cX0_letterFacing 22 = .ok (.ireturn, 1) := by decide +kernel
def f_X0_letterFacing (a : Nat) (x1 : Int32) (x2 : Int32) (g : zG) : Option (Int32 × zG) :=
  zb (f_X0_slugFacing a x1 x2 g) (fun v1 g2 => if 0 ≤ v1 then (zc (zin v1 48) (some ((g2.1 (g2.2.1 a 0) v1.toNatClampNeg, g2)))) else (some (((-4), g2))))
abbrev rm_X0_letterFacing : Room := { frames := 1, cells := 0, slots := 0, locals := 23 }
set_option maxRecDepth 100000 in
set_option maxHeartbeats 4000000 in
theorem c_X0_letterFacing (l : Launch) (D : zD) (sz : Nat) (τ : zT) (g : zG) (a : Nat) (x1 : Int32) (x2 : Int32) (hta : τ a = some (.inr 0)) : zCon l D yX0_letterFacing cX0_letterFacing 4 (some .int) rm_X0_letterFacing 0 0 zrI [.ref a, .int x1, .int x2] sz τ g τ (f_X0_letterFacing a x1 x2 g) := by
  refine zCon.of (by decide) (Nat.le_of_ble_eq_true rfl) (fun E r g' hl hR hsz hnm F => ?_)
  have F : zF E D (zA τ sz) cX0_letterFacing "TypeChain$Chain" 4 (some .int) := F
  show zSim (fun q : Int32 × zG => q = (r, g')) (f_X0_letterFacing a x1 x2 g) (zAt E D (zA τ sz) (zQ E D zrI 0 0 sz τ τ r g') 4 (sz, τ, 0, 0) g 0 [(0, .ref a), (1, .int x1), (2, .int x2)] [])
  unfold f_X0_letterFacing
  refine z_aload_n F 0 rfl rfl dX0_letterFacing_0 ?_
  refine z_iload_n F 1 rfl rfl dX0_letterFacing_1 ?_
  refine z_iload_n F 2 rfl rfl dX0_letterFacing_2 ?_
  refine k_X0_slugFacing F (by rw [hR]; exact ⟨by decide, by decide⟩) q_605 hta ⟨Nat.zero_le _, Nat.zero_le _⟩ (Nat.le_of_ble_eq_true rfl) dX0_letterFacing_3 (fun v1 g2 => ?_)
  refine z_istore_n (lv' := [(3, .int v1), (0, .ref a), (1, .int x1), (2, .int x2)]) F rfl (by decide) dX0_letterFacing_6 rfl ?_
  refine z_iload_n F 0 rfl rfl dX0_letterFacing_7 ?_
  refine z_if_ge (tgt := 16) F dX0_letterFacing_8 (by decide) (fun c3 => ?_) (fun c3 => ?_)
  · refine z_aload_n F 1 rfl rfl dX0_letterFacing_16 ?_
    refine gf_X0_9 F hta dX0_letterFacing_17 (fun ht4 => ?_)
    refine z_iload_n F 0 rfl rfl dX0_letterFacing_20 ?_
    refine z_iald F ht4 dX0_letterFacing_21 ?_
    exact z_ireturn F rfl rfl rfl rfl (fun h => h) dX0_letterFacing_22
  · refine z_bipush (v := (-4)) F (by decide) dX0_letterFacing_11 ?_
    refine z_goto (tgt := 22) F dX0_letterFacing_13 (by decide) ?_
    exact z_ireturn F rfl rfl rfl rfl (fun h => h) dX0_letterFacing_22
theorem k_X0_letterFacing {ρ : Type} {K : ρ → Prop} {E : zE} {D : zD} {A : Nat → Prop} {Q : State → Prop} {nL : Nat} {κ : zC} {g : zG} {pc : Nat} {lv : List (Nat × Value)} {st : List Value} {cc : ByteArray} {own : String} {ret : Option FieldType} (F : zF E D A cc own nL ret) {index : Nat} {h : Int32 → zG → Option ρ} {a : Nat} {x1 : Int32} {x2 : Int32}  (hR : 1 + 1 ≤ E.2.2.2.1.frames ∧ 8 + (4 + 11) + 23 ≤ E.2.2.2.1.locals) (hl : zTbl (.methodLink own index yX0_letterFacing)) (hta : κ.2.1 a = some (.inr 0)) (hc : κ.2.2.1 ≤ E.2.2.2.1.cells ∧ κ.2.2.2 ≤ E.2.2.2.1.slots) (hW : (st.map fun v => v.category).sum ≤ 8) (hd : decode cc pc = .ok (.invokevirtual index, 3)) (kk : ∀ r g', zSim K (h r g') (zAt E D A Q nL κ g' (pc + 3) lv (.int r :: st))) : zSim K (zb (f_X0_letterFacing a x1 x2 g) h) (zAt E D A Q nL κ g pc lv (.int x2 :: .int x1 :: .ref a :: st)) :=
  z_callV F (n := 2) (As := [.int x1, .int x2]) (C := (RX0, TX0, 4)) ⟨q_604, q_3, by decide +kernel, rfl, rfl, hR.1, hR.2⟩ (c_X0_letterFacing E.2.1 D κ.1 κ.2.1 g a x1 x2 hta) hl q_602 q_603 hta rfl rfl rfl hc hW hd kk _ rfl
theorem dX0_nextTick_0 : decode cX0_nextTick 0 = .ok (.aload_n 0, 1) := by decide +kernel
theorem dX0_nextTick_1 : decode cX0_nextTick 1 = .ok (.getfield 21, 3) := by decide +kernel
theorem dX0_nextTick_4 : decode cX0_nextTick 4 = .ok (.aload_n 0, 1) := by decide +kernel
theorem dX0_nextTick_5 : decode cX0_nextTick 5 = .ok (.getfield 25, 3) := by decide +kernel
theorem dX0_nextTick_8 : decode cX0_nextTick 8 = .ok (.imul, 1) := by decide +kernel
theorem dX0_nextTick_9 : decode cX0_nextTick 9 = .ok (.istore 4, 2) := by decide +kernel
theorem dX0_nextTick_11 : decode cX0_nextTick 11 = .ok (.iload 4, 2) := by decide +kernel
theorem dX0_nextTick_13 : decode cX0_nextTick 13 = .ok (.iconst 1, 1) := by decide +kernel
theorem dX0_nextTick_14 : decode cX0_nextTick 14 = .ok (.if_icmp .ge 6, 3) := by decide +kernel
theorem dX0_nextTick_17 : decode cX0_nextTick 17 = .ok (.bipush (-4), 2) := by decide +kernel
theorem dX0_nextTick_19 : decode cX0_nextTick 19 = .ok (.ireturn, 1) := by decide +kernel
theorem dX0_nextTick_20 : decode cX0_nextTick 20 = .ok (.iload_n 1, 1) := by decide +kernel
theorem dX0_nextTick_21 : decode cX0_nextTick 21 = .ok (.aload_n 0, 1) := by decide +kernel
theorem dX0_nextTick_22 : decode cX0_nextTick 22 = .ok (.getfield 28, 3) := by decide +kernel
theorem dX0_nextTick_25 : decode cX0_nextTick 25 = .ok (.imul, 1) := by decide +kernel
theorem dX0_nextTick_26 : decode cX0_nextTick 26 = .ok (.iload_n 3, 1) := by decide +kernel
theorem dX0_nextTick_27 : decode cX0_nextTick 27 = .ok (.iadd, 1) := by decide +kernel
theorem dX0_nextTick_28 : decode cX0_nextTick 28 = .ok (.iload 4, 2) := by decide +kernel
theorem dX0_nextTick_30 : decode cX0_nextTick 30 = .ok (.irem, 1) := by decide +kernel
theorem dX0_nextTick_31 : decode cX0_nextTick 31 = .ok (.istore 5, 2) := by decide +kernel
theorem dX0_nextTick_33 : decode cX0_nextTick 33 = .ok (.iload 4, 2) := by decide +kernel
theorem dX0_nextTick_35 : decode cX0_nextTick 35 = .ok (.istore 6, 2) := by decide +kernel
theorem dX0_nextTick_37 : decode cX0_nextTick 37 = .ok (.iconst 0, 1) := by decide +kernel
theorem dX0_nextTick_38 : decode cX0_nextTick 38 = .ok (.istore 7, 2) := by decide +kernel
theorem dX0_nextTick_40 : decode cX0_nextTick 40 = .ok (.iload 7, 2) := by decide +kernel
theorem dX0_nextTick_42 : decode cX0_nextTick 42 = .ok (.aload_n 0, 1) := by decide +kernel
theorem dX0_nextTick_43 : decode cX0_nextTick 43 = .ok (.getfield 21, 3) := by decide +kernel
theorem dX0_nextTick_46 : decode cX0_nextTick 46 = .ok (.if_icmp .ge 55, 3) := by decide +kernel
theorem dX0_nextTick_49 : decode cX0_nextTick 49 = .ok (.iload 7, 2) := by decide +kernel
theorem dX0_nextTick_51 : decode cX0_nextTick 51 = .ok (.aload_n 0, 1) := by decide +kernel
theorem dX0_nextTick_52 : decode cX0_nextTick 52 = .ok (.getfield 25, 3) := by decide +kernel
theorem dX0_nextTick_55 : decode cX0_nextTick 55 = .ok (.imul, 1) := by decide +kernel
theorem dX0_nextTick_56 : decode cX0_nextTick 56 = .ok (.iload 5, 2) := by decide +kernel
theorem dX0_nextTick_58 : decode cX0_nextTick 58 = .ok (.isub, 1) := by decide +kernel
theorem dX0_nextTick_59 : decode cX0_nextTick 59 = .ok (.istore 8, 2) := by decide +kernel
theorem dX0_nextTick_61 : decode cX0_nextTick 61 = .ok (.iload 8, 2) := by decide +kernel
theorem dX0_nextTick_63 : decode cX0_nextTick 63 = .ok (.ifCond .ge 10, 3) := by decide +kernel
theorem dX0_nextTick_66 : decode cX0_nextTick 66 = .ok (.iload 8, 2) := by decide +kernel
theorem dX0_nextTick_68 : decode cX0_nextTick 68 = .ok (.iload 4, 2) := by decide +kernel
theorem dX0_nextTick_70 : decode cX0_nextTick 70 = .ok (.iadd, 1) := by decide +kernel
theorem dX0_nextTick_71 : decode cX0_nextTick 71 = .ok (.istore 8, 2) := by decide +kernel
theorem dX0_nextTick_73 : decode cX0_nextTick 73 = .ok (.aload_n 0, 1) := by decide +kernel
theorem dX0_nextTick_74 : decode cX0_nextTick 74 = .ok (.getfield 9, 3) := by decide +kernel
theorem dX0_nextTick_77 : decode cX0_nextTick 77 = .ok (.iload 7, 2) := by decide +kernel
theorem dX0_nextTick_79 : decode cX0_nextTick 79 = .ok (.iaload, 1) := by decide +kernel
theorem dX0_nextTick_80 : decode cX0_nextTick 80 = .ok (.iload_n 2, 1) := by decide +kernel
theorem dX0_nextTick_81 : decode cX0_nextTick 81 = .ok (.if_icmp .ne 14, 3) := by decide +kernel
theorem dX0_nextTick_84 : decode cX0_nextTick 84 = .ok (.iload 8, 2) := by decide +kernel
theorem dX0_nextTick_86 : decode cX0_nextTick 86 = .ok (.iload 6, 2) := by decide +kernel
theorem dX0_nextTick_88 : decode cX0_nextTick 88 = .ok (.if_icmp .ge 7, 3) := by decide +kernel
theorem dX0_nextTick_91 : decode cX0_nextTick 91 = .ok (.iload 8, 2) := by decide +kernel
theorem dX0_nextTick_93 : decode cX0_nextTick 93 = .ok (.istore 6, 2) := by decide +kernel
theorem dX0_nextTick_95 : decode cX0_nextTick 95 = .ok (.iinc 7 1, 3) := by decide +kernel
theorem dX0_nextTick_98 : decode cX0_nextTick 98 = .ok (.goto (-58), 3) := by decide +kernel
theorem dX0_nextTick_101 : decode cX0_nextTick 101 = .ok (.iload 6, 2) := by decide +kernel
theorem dX0_nextTick_103 : decode cX0_nextTick 103 = .ok (.iload 4, 2) := by decide +kernel
theorem dX0_nextTick_105 : decode cX0_nextTick 105 = .ok (.if_icmp .ne 8, 3) := by decide +kernel
theorem dX0_nextTick_108 : decode cX0_nextTick 108 = .ok (.bipush (-4), 2) := by decide +kernel
theorem dX0_nextTick_110 : decode cX0_nextTick 110 = .ok (.goto 7, 3) := by decide +kernel
theorem dX0_nextTick_113 : decode cX0_nextTick 113 = .ok (.iload_n 3, 1) := by decide +kernel
theorem dX0_nextTick_114 : decode cX0_nextTick 114 = .ok (.iload 6, 2) := by decide +kernel
theorem dX0_nextTick_116 : decode cX0_nextTick 116 = .ok (.iadd, 1) := by decide +kernel
theorem dX0_nextTick_117 : decode cX0_nextTick 117 = .ok (.ireturn, 1) := by decide +kernel
def j_X0_nextTick_101 (a : Nat) (l3 : Int32) (l4 : Int32) (l6 : Int32) (g : zG) : Option (Int32 × zG) :=
  if l6 = l4 then (some (((-4), g))) else (some ((l3 + l6, g)))
def j_X0_nextTick_73_40 (a : Nat) (l2 : Int32) (l3 : Int32) (l4 : Int32) (l5 : Int32) (l6 : Int32) (l7 : Int32) (l8 : Int32) (g : zG) : Option ((Int32 × Int32) ⊕ (Int32)) :=
  zc (zin l7 48) (if (g.1 (g.2.1 a 0) l7.toNatClampNeg) = l2 then (if l6 ≤ l8 then (zl (l7 + 1) (fun v8 => some (.inl (l6, v8)))) else (zl (l7 + 1) (fun v9 => some (.inl (l8, v9))))) else (zl (l7 + 1) (fun v10 => some (.inl (l6, v10)))))
def l_X0_nextTick_40 (a : Nat) (l2 : Int32) (l3 : Int32) (l4 : Int32) (l5 : Int32) (g : zG) (l6 : Int32) (l7 : Int32) : Option ((Int32 × Int32) ⊕ (Int32)) :=
  if (g.1 a 1) ≤ l7 then (some (.inr l6)) else (zl ((l7 * (g.1 a 2)) - l5) (fun v12 => if 0 ≤ v12 then (j_X0_nextTick_73_40 a l2 l3 l4 l5 l6 l7 v12 g) else (zl (v12 + l4) (fun v14 => j_X0_nextTick_73_40 a l2 l3 l4 l5 l6 l7 v14 g))))
def f_X0_nextTick (a : Nat) (x1 : Int32) (x2 : Int32) (x3 : Int32) (g : zG) : Option (Int32 × zG) :=
  zl ((g.1 a 1) * (g.1 a 2)) (fun v2 => if 1 ≤ v2 then (zc (¬ v2 = 0) (zl (zrem ((x1 * (g.1 a 3)) + x3) v2) (fun v4 => zk (zw zN (fun s => l_X0_nextTick_40 a x2 x3 v2 v4 g s.1 s.2) (v2, 0)) (fun x => j_X0_nextTick_101 a x3 v2 x g)))) else (some (((-4), g))))
abbrev rm_X0_nextTick : Room := { frames := 0, cells := 0, slots := 0, locals := 0 }
set_option maxRecDepth 100000 in
set_option maxHeartbeats 4000000 in
theorem c_X0_nextTick (l : Launch) (D : zD) (sz : Nat) (τ : zT) (g : zG) (a : Nat) (x1 : Int32) (x2 : Int32) (x3 : Int32) (hta : τ a = some (.inr 0)) : zCon l D yX0_nextTick cX0_nextTick 9 (some .int) rm_X0_nextTick 0 0 zrI [.ref a, .int x1, .int x2, .int x3] sz τ g τ (f_X0_nextTick a x1 x2 x3 g) := by
  refine zCon.of (by decide) (Nat.le_of_ble_eq_true rfl) (fun E r g' hl hR hsz hnm F => ?_)
  have F : zF E D (zA τ sz) cX0_nextTick "TypeChain$Chain" 9 (some .int) := F
  show zSim (fun q : Int32 × zG => q = (r, g')) (f_X0_nextTick a x1 x2 x3 g) (zAt E D (zA τ sz) (zQ E D zrI 0 0 sz τ τ r g') 9 (sz, τ, 0, 0) g 0 [(0, .ref a), (1, .int x1), (2, .int x2), (3, .int x3)] [])
  have hj_X0_nextTick_101 : ∀ (l3_101 : Int32) (l4_101 : Int32) (l6_101 : Int32) (g_101 : zG), zSim (fun q : Int32 × zG => q = (r, g')) (j_X0_nextTick_101 a l3_101 l4_101 l6_101 g_101) (zAt E D (zA τ sz) (zQ E D zrI 0 0 sz τ τ r g') 9 (sz, τ, 0, 0) g_101 101 [(3, .int l3_101), (4, .int l4_101), (6, .int l6_101)] []) := by
    intro l3_101 l4_101 l6_101 g_101
    unfold j_X0_nextTick_101
    refine z_iload F 2 rfl dX0_nextTick_101 ?_
    refine z_iload F 1 rfl dX0_nextTick_103 ?_
    refine z_icmp_ne (tgt := 113) F dX0_nextTick_105 (by decide) (fun c1 => ?_) (fun c1 => ?_)
    · refine z_bipush (v := (-4)) F (by decide) dX0_nextTick_108 ?_
      refine z_goto (tgt := 117) F dX0_nextTick_110 (by decide) ?_
      exact z_ireturn F rfl rfl rfl rfl (fun h => h) dX0_nextTick_117
    · refine z_iload_n F 0 rfl rfl dX0_nextTick_113 ?_
      refine z_iload F 2 rfl dX0_nextTick_114 ?_
      refine z_iadd F dX0_nextTick_116 ?_
      exact z_ireturn F rfl rfl rfl rfl (fun h => h) dX0_nextTick_117
  unfold f_X0_nextTick
  refine z_aload_n F 0 rfl rfl dX0_nextTick_0 ?_
  refine gf_X0_21 F hta dX0_nextTick_1 ?_
  refine z_aload_n F 0 rfl rfl dX0_nextTick_4 ?_
  refine gf_X0_25 F hta dX0_nextTick_5 ?_
  refine z_imul F dX0_nextTick_8 ?_
  refine z_leti (fun v2 => ?_)
  refine z_istore (lv' := [(4, .int v2), (0, .ref a), (1, .int x1), (2, .int x2), (3, .int x3)]) F (by decide) dX0_nextTick_9 rfl ?_
  refine z_iload F 0 rfl dX0_nextTick_11 ?_
  refine z_iconst (v := 1) F (by decide) dX0_nextTick_13 ?_
  refine z_icmp_ge (tgt := 20) F dX0_nextTick_14 (by decide) (fun c3 => ?_) (fun c3 => ?_)
  · refine z_iload_n F 2 rfl rfl dX0_nextTick_20 ?_
    refine z_aload_n F 1 rfl rfl dX0_nextTick_21 ?_
    refine gf_X0_28 F hta dX0_nextTick_22 ?_
    refine z_imul F dX0_nextTick_25 ?_
    refine z_iload_n F 4 rfl rfl dX0_nextTick_26 ?_
    refine z_iadd F dX0_nextTick_27 ?_
    refine z_iload F 0 rfl dX0_nextTick_28 ?_
    refine z_irem F dX0_nextTick_30 ?_
    refine z_leti (fun v4 => ?_)
    refine z_istore (lv' := [(5, .int v4), (4, .int v2), (0, .ref a), (1, .int x1), (2, .int x2), (3, .int x3)]) F (by decide) dX0_nextTick_31 rfl ?_
    refine z_iload F 1 rfl dX0_nextTick_33 ?_
    refine z_istore (lv' := [(6, .int v2), (5, .int v4), (4, .int v2), (0, .ref a), (1, .int x1), (2, .int x2), (3, .int x3)]) F (by decide) dX0_nextTick_35 rfl ?_
    refine z_iconst (v := 0) F (by decide) dX0_nextTick_37 ?_
    refine z_istore (lv' := [(7, .int 0), (6, .int v2), (5, .int v4), (4, .int v2), (0, .ref a), (1, .int x1), (2, .int x2), (3, .int x3)]) F (by decide) dX0_nextTick_38 rfl ?_
    refine z_sub (lv' := [(0, .ref a), (2, .int x2), (3, .int x3), (4, .int v2), (5, .int v4), (6, .int v2), (7, .int 0)]) [4, 6, 7, 3, 2, 1, 0] rfl ?_
    refine z_loop (P := fun s : Int32 × Int32 => zAt E D (zA τ sz) (zQ E D zrI 0 0 sz τ τ r g') 9 (sz, τ, 0, 0) g 40 [(0, .ref a), (2, .int x2), (3, .int x3), (4, .int v2), (5, .int v4), (6, .int s.1), (7, .int s.2)] []) (Px := fun x : Int32 => zAt E D (zA τ sz) (zQ E D zrI 0 0 sz τ τ r g') 9 (sz, τ, 0, 0) g 101 [(3, .int x3), (4, .int v2), (6, .int x)] []) (v2, 0) (fun s => ?_) (fun x => ?_)
    · obtain ⟨l6_40, l7_40⟩ := s
      show zSim (zKl (fun s : Int32 × Int32 => zAt E D (zA τ sz) (zQ E D zrI 0 0 sz τ τ r g') 9 (sz, τ, 0, 0) g 40 [(0, .ref a), (2, .int x2), (3, .int x3), (4, .int v2), (5, .int v4), (6, .int s.1), (7, .int s.2)] []) (fun x : Int32 => zAt E D (zA τ sz) (zQ E D zrI 0 0 sz τ τ r g') 9 (sz, τ, 0, 0) g 101 [(3, .int x3), (4, .int v2), (6, .int x)] [])) (l_X0_nextTick_40 a x2 x3 v2 v4 g l6_40 l7_40) (zAt E D (zA τ sz) (zQ E D zrI 0 0 sz τ τ r g') 9 (sz, τ, 0, 0) g 40 [(0, .ref a), (2, .int x2), (3, .int x3), (4, .int v2), (5, .int v4), (6, .int l6_40), (7, .int l7_40)] [])
      have hj_X0_nextTick_73_40 : ∀ (l6_73 : Int32) (l7_73 : Int32) (l8_73 : Int32), zSim (zKl (fun s : Int32 × Int32 => zAt E D (zA τ sz) (zQ E D zrI 0 0 sz τ τ r g') 9 (sz, τ, 0, 0) g 40 [(0, .ref a), (2, .int x2), (3, .int x3), (4, .int v2), (5, .int v4), (6, .int s.1), (7, .int s.2)] []) (fun x : Int32 => zAt E D (zA τ sz) (zQ E D zrI 0 0 sz τ τ r g') 9 (sz, τ, 0, 0) g 101 [(3, .int x3), (4, .int v2), (6, .int x)] [])) (j_X0_nextTick_73_40 a x2 x3 v2 v4 l6_73 l7_73 l8_73 g) (zAt E D (zA τ sz) (zQ E D zrI 0 0 sz τ τ r g') 9 (sz, τ, 0, 0) g 73 [(0, .ref a), (2, .int x2), (3, .int x3), (4, .int v2), (5, .int v4), (6, .int l6_73), (7, .int l7_73), (8, .int l8_73)] []) := by
        intro l6_73 l7_73 l8_73
        unfold j_X0_nextTick_73_40
        refine z_aload_n F 0 rfl rfl dX0_nextTick_73 ?_
        refine gf_X0_9 F hta dX0_nextTick_74 (fun ht5 => ?_)
        refine z_iload F 6 rfl dX0_nextTick_77 ?_
        refine z_iald F ht5 dX0_nextTick_79 ?_
        refine z_iload_n F 1 rfl rfl dX0_nextTick_80 ?_
        refine z_icmp_ne (tgt := 95) F dX0_nextTick_81 (by decide) (fun c6 => ?_) (fun c6 => ?_)
        · refine z_iload F 7 rfl dX0_nextTick_84 ?_
          refine z_iload F 5 rfl dX0_nextTick_86 ?_
          refine z_icmp_ge (tgt := 95) F dX0_nextTick_88 (by decide) (fun c7 => ?_) (fun c7 => ?_)
          · refine z_iincl (lv' := fun v8 => [(7, .int v8), (0, .ref a), (2, .int x2), (3, .int x3), (4, .int v2), (5, .int v4), (6, .int l6_73), (8, .int l8_73)]) F 6 rfl (by decide) (by decide) dX0_nextTick_95 (fun _ => rfl) (fun v8 => ?_)
            refine z_goto (tgt := 40) F dX0_nextTick_98 (by decide) ?_
            refine z_sub (lv' := [(0, .ref a), (2, .int x2), (3, .int x3), (4, .int v2), (5, .int v4), (6, .int l6_73), (7, .int v8)]) [1, 2, 3, 4, 5, 6, 0] rfl ?_
            exact z_back (fun h => h)
          · refine z_iload F 7 rfl dX0_nextTick_91 ?_
            refine z_istore (lv' := [(6, .int l8_73), (0, .ref a), (2, .int x2), (3, .int x3), (4, .int v2), (5, .int v4), (7, .int l7_73), (8, .int l8_73)]) F (by decide) dX0_nextTick_93 rfl ?_
            refine z_iincl (lv' := fun v9 => [(7, .int v9), (6, .int l8_73), (0, .ref a), (2, .int x2), (3, .int x3), (4, .int v2), (5, .int v4), (8, .int l8_73)]) F 6 rfl (by decide) (by decide) dX0_nextTick_95 (fun _ => rfl) (fun v9 => ?_)
            refine z_goto (tgt := 40) F dX0_nextTick_98 (by decide) ?_
            refine z_sub (lv' := [(0, .ref a), (2, .int x2), (3, .int x3), (4, .int v2), (5, .int v4), (6, .int l8_73), (7, .int v9)]) [2, 3, 4, 5, 6, 1, 0] rfl ?_
            exact z_back (fun h => h)
        · refine z_iincl (lv' := fun v10 => [(7, .int v10), (0, .ref a), (2, .int x2), (3, .int x3), (4, .int v2), (5, .int v4), (6, .int l6_73), (8, .int l8_73)]) F 6 rfl (by decide) (by decide) dX0_nextTick_95 (fun _ => rfl) (fun v10 => ?_)
          refine z_goto (tgt := 40) F dX0_nextTick_98 (by decide) ?_
          refine z_sub (lv' := [(0, .ref a), (2, .int x2), (3, .int x3), (4, .int v2), (5, .int v4), (6, .int l6_73), (7, .int v10)]) [1, 2, 3, 4, 5, 6, 0] rfl ?_
          exact z_back (fun h => h)
      unfold l_X0_nextTick_40
      refine z_iload F 6 rfl dX0_nextTick_40 ?_
      refine z_aload_n F 0 rfl rfl dX0_nextTick_42 ?_
      refine gf_X0_21 F hta dX0_nextTick_43 ?_
      refine z_icmp_ge (tgt := 101) F dX0_nextTick_46 (by decide) (fun c11 => ?_) (fun c11 => ?_)
      · refine z_sub (lv' := [(3, .int x3), (4, .int v2), (6, .int l6_40)]) [2, 3, 5] rfl ?_
        exact z_back (fun h => h)
      · refine z_iload F 6 rfl dX0_nextTick_49 ?_
        refine z_aload_n F 0 rfl rfl dX0_nextTick_51 ?_
        refine gf_X0_25 F hta dX0_nextTick_52 ?_
        refine z_imul F dX0_nextTick_55 ?_
        refine z_iload F 4 rfl dX0_nextTick_56 ?_
        refine z_isub F dX0_nextTick_58 ?_
        refine z_leti (fun v12 => ?_)
        refine z_istore (lv' := [(8, .int v12), (0, .ref a), (2, .int x2), (3, .int x3), (4, .int v2), (5, .int v4), (6, .int l6_40), (7, .int l7_40)]) F (by decide) dX0_nextTick_59 rfl ?_
        refine z_iload F 0 rfl dX0_nextTick_61 ?_
        refine z_if_ge (tgt := 73) F dX0_nextTick_63 (by decide) (fun c13 => ?_) (fun c13 => ?_)
        · refine z_sub (lv' := [(0, .ref a), (2, .int x2), (3, .int x3), (4, .int v2), (5, .int v4), (6, .int l6_40), (7, .int l7_40), (8, .int v12)]) [1, 2, 3, 4, 5, 6, 7, 0] rfl ?_
          exact hj_X0_nextTick_73_40 l6_40 l7_40 v12
        · refine z_iload F 0 rfl dX0_nextTick_66 ?_
          refine z_iload F 4 rfl dX0_nextTick_68 ?_
          refine z_iadd F dX0_nextTick_70 ?_
          refine z_leti (fun v14 => ?_)
          refine z_istore (lv' := [(8, .int v14), (0, .ref a), (2, .int x2), (3, .int x3), (4, .int v2), (5, .int v4), (6, .int l6_40), (7, .int l7_40)]) F (by decide) dX0_nextTick_71 rfl ?_
          refine z_sub (lv' := [(0, .ref a), (2, .int x2), (3, .int x3), (4, .int v2), (5, .int v4), (6, .int l6_40), (7, .int l7_40), (8, .int v14)]) [1, 2, 3, 4, 5, 6, 7, 0] rfl ?_
          exact hj_X0_nextTick_73_40 l6_40 l7_40 v14
    · show zSim (fun q : Int32 × zG => q = (r, g')) (j_X0_nextTick_101 a x3 v2 x g) (zAt E D (zA τ sz) (zQ E D zrI 0 0 sz τ τ r g') 9 (sz, τ, 0, 0) g 101 [(3, .int x3), (4, .int v2), (6, .int x)] [])
      exact hj_X0_nextTick_101 x3 v2 x g
  · refine z_bipush (v := (-4)) F (by decide) dX0_nextTick_17 ?_
    exact z_ireturn F rfl rfl rfl rfl (fun h => h) dX0_nextTick_19
theorem k_X0_nextTick {ρ : Type} {K : ρ → Prop} {E : zE} {D : zD} {A : Nat → Prop} {Q : State → Prop} {nL : Nat} {κ : zC} {g : zG} {pc : Nat} {lv : List (Nat × Value)} {st : List Value} {cc : ByteArray} {own : String} {ret : Option FieldType} (F : zF E D A cc own nL ret) {index : Nat} {h : Int32 → zG → Option ρ} {a : Nat} {x1 : Int32} {x2 : Int32} {x3 : Int32}  (hR : 0 + 1 ≤ E.2.2.2.1.frames ∧ 8 + (9 + 11) + 0 ≤ E.2.2.2.1.locals) (hl : zTbl (.methodLink own index yX0_nextTick)) (hta : κ.2.1 a = some (.inr 0)) (hc : κ.2.2.1 ≤ E.2.2.2.1.cells ∧ κ.2.2.2 ≤ E.2.2.2.1.slots) (hW : (st.map fun v => v.category).sum ≤ 8) (hd : decode cc pc = .ok (.invokevirtual index, 3)) (kk : ∀ r g', zSim K (h r g') (zAt E D A Q nL κ g' (pc + 3) lv (.int r :: st))) : zSim K (zb (f_X0_nextTick a x1 x2 x3 g) h) (zAt E D A Q nL κ g pc lv (.int x3 :: .int x2 :: .int x1 :: .ref a :: st)) :=
  z_callV F (n := 3) (As := [.int x1, .int x2, .int x3]) (C := (RX0, TX0, 4)) ⟨q_619, q_3, by decide +kernel, rfl, rfl, hR.1, hR.2⟩ (c_X0_nextTick E.2.1 D κ.1 κ.2.1 g a x1 x2 x3 hta) hl q_617 q_618 hta rfl rfl rfl hc hW hd kk _ rfl
theorem dX0_letterSet_0 : decode cX0_letterSet 0 = .ok (.iconst 0, 1) := by decide +kernel
theorem dX0_letterSet_1 : decode cX0_letterSet 1 = .ok (.istore_n 1, 1) := by decide +kernel
theorem dX0_letterSet_2 : decode cX0_letterSet 2 = .ok (.iconst 0, 1) := by decide +kernel
theorem dX0_letterSet_3 : decode cX0_letterSet 3 = .ok (.istore_n 2, 1) := by decide +kernel
theorem dX0_letterSet_4 : decode cX0_letterSet 4 = .ok (.iload_n 2, 1) := by decide +kernel
theorem dX0_letterSet_5 : decode cX0_letterSet 5 = .ok (.aload_n 0, 1) := by decide +kernel
theorem dX0_letterSet_6 : decode cX0_letterSet 6 = .ok (.getfield 21, 3) := by decide +kernel
theorem dX0_letterSet_9 : decode cX0_letterSet 9 = .ok (.if_icmp .ge 20, 3) := by decide +kernel
theorem dX0_letterSet_12 : decode cX0_letterSet 12 = .ok (.iload_n 1, 1) := by decide +kernel
theorem dX0_letterSet_13 : decode cX0_letterSet 13 = .ok (.iconst 1, 1) := by decide +kernel
theorem dX0_letterSet_14 : decode cX0_letterSet 14 = .ok (.aload_n 0, 1) := by decide +kernel
theorem dX0_letterSet_15 : decode cX0_letterSet 15 = .ok (.getfield 9, 3) := by decide +kernel
theorem dX0_letterSet_18 : decode cX0_letterSet 18 = .ok (.iload_n 2, 1) := by decide +kernel
theorem dX0_letterSet_19 : decode cX0_letterSet 19 = .ok (.iaload, 1) := by decide +kernel
theorem dX0_letterSet_20 : decode cX0_letterSet 20 = .ok (.ishl, 1) := by decide +kernel
theorem dX0_letterSet_21 : decode cX0_letterSet 21 = .ok (.ior, 1) := by decide +kernel
theorem dX0_letterSet_22 : decode cX0_letterSet 22 = .ok (.istore_n 1, 1) := by decide +kernel
theorem dX0_letterSet_23 : decode cX0_letterSet 23 = .ok (.iinc 2 1, 3) := by decide +kernel
theorem dX0_letterSet_26 : decode cX0_letterSet 26 = .ok (.goto (-22), 3) := by decide +kernel
theorem dX0_letterSet_29 : decode cX0_letterSet 29 = .ok (.iload_n 1, 1) := by decide +kernel
theorem dX0_letterSet_30 : decode cX0_letterSet 30 = .ok (.ireturn, 1) := by decide +kernel
def j_X0_letterSet_29 (a : Nat) (l1 : Int32) (g : zG) : Option (Int32 × zG) :=
  some ((l1, g))
def l_X0_letterSet_4 (a : Nat) (g : zG) (l1 : Int32) (l2 : Int32) : Option ((Int32 × Int32) ⊕ (Int32)) :=
  if (g.1 a 1) ≤ l2 then (some (.inr l1)) else (zc (zin l2 48) (zl (l1 ||| (zshl 1 (g.1 (g.2.1 a 0) l2.toNatClampNeg))) (fun v3 => zl (l2 + 1) (fun v4 => some (.inl (v3, v4))))))
def f_X0_letterSet (a : Nat) (g : zG) : Option (Int32 × zG) :=
  zk (zw zN (fun s => l_X0_letterSet_4 a g s.1 s.2) (0, 0)) (fun x => j_X0_letterSet_29 a x g)
abbrev rm_X0_letterSet : Room := { frames := 0, cells := 0, slots := 0, locals := 0 }
set_option maxRecDepth 100000 in
set_option maxHeartbeats 4000000 in
theorem c_X0_letterSet (l : Launch) (D : zD) (sz : Nat) (τ : zT) (g : zG) (a : Nat) (hta : τ a = some (.inr 0)) : zCon l D yX0_letterSet cX0_letterSet 3 (some .int) rm_X0_letterSet 0 0 zrI [.ref a] sz τ g τ (f_X0_letterSet a g) := by
  refine zCon.of (by decide) (Nat.le_of_ble_eq_true rfl) (fun E r g' hl hR hsz hnm F => ?_)
  have F : zF E D (zA τ sz) cX0_letterSet "TypeChain$Chain" 3 (some .int) := F
  show zSim (fun q : Int32 × zG => q = (r, g')) (f_X0_letterSet a g) (zAt E D (zA τ sz) (zQ E D zrI 0 0 sz τ τ r g') 3 (sz, τ, 0, 0) g 0 [(0, .ref a)] [])
  have hj_X0_letterSet_29 : ∀ (l1_29 : Int32) (g_29 : zG), zSim (fun q : Int32 × zG => q = (r, g')) (j_X0_letterSet_29 a l1_29 g_29) (zAt E D (zA τ sz) (zQ E D zrI 0 0 sz τ τ r g') 3 (sz, τ, 0, 0) g_29 29 [(1, .int l1_29)] []) := by
    intro l1_29 g_29
    unfold j_X0_letterSet_29
    refine z_iload_n F 0 rfl rfl dX0_letterSet_29 ?_
    exact z_ireturn F rfl rfl rfl rfl (fun h => h) dX0_letterSet_30
  unfold f_X0_letterSet
  refine z_iconst (v := 0) F (by decide) dX0_letterSet_0 ?_
  refine z_istore_n (lv' := [(1, .int 0), (0, .ref a)]) F rfl (by decide) dX0_letterSet_1 rfl ?_
  refine z_iconst (v := 0) F (by decide) dX0_letterSet_2 ?_
  refine z_istore_n (lv' := [(2, .int 0), (1, .int 0), (0, .ref a)]) F rfl (by decide) dX0_letterSet_3 rfl ?_
  refine z_sub (lv' := [(0, .ref a), (1, .int 0), (2, .int 0)]) [2, 1, 0] rfl ?_
  refine z_loop (P := fun s : Int32 × Int32 => zAt E D (zA τ sz) (zQ E D zrI 0 0 sz τ τ r g') 3 (sz, τ, 0, 0) g 4 [(0, .ref a), (1, .int s.1), (2, .int s.2)] []) (Px := fun x : Int32 => zAt E D (zA τ sz) (zQ E D zrI 0 0 sz τ τ r g') 3 (sz, τ, 0, 0) g 29 [(1, .int x)] []) (0, 0) (fun s => ?_) (fun x => ?_)
  · obtain ⟨l1_4, l2_4⟩ := s
    show zSim (zKl (fun s : Int32 × Int32 => zAt E D (zA τ sz) (zQ E D zrI 0 0 sz τ τ r g') 3 (sz, τ, 0, 0) g 4 [(0, .ref a), (1, .int s.1), (2, .int s.2)] []) (fun x : Int32 => zAt E D (zA τ sz) (zQ E D zrI 0 0 sz τ τ r g') 3 (sz, τ, 0, 0) g 29 [(1, .int x)] [])) (l_X0_letterSet_4 a g l1_4 l2_4) (zAt E D (zA τ sz) (zQ E D zrI 0 0 sz τ τ r g') 3 (sz, τ, 0, 0) g 4 [(0, .ref a), (1, .int l1_4), (2, .int l2_4)] [])
    unfold l_X0_letterSet_4
    refine z_iload_n F 2 rfl rfl dX0_letterSet_4 ?_
    refine z_aload_n F 0 rfl rfl dX0_letterSet_5 ?_
    refine gf_X0_21 F hta dX0_letterSet_6 ?_
    refine z_icmp_ge (tgt := 29) F dX0_letterSet_9 (by decide) (fun c1 => ?_) (fun c1 => ?_)
    · refine z_sub (lv' := [(1, .int l1_4)]) [1] rfl ?_
      exact z_back (fun h => h)
    · refine z_iload_n F 1 rfl rfl dX0_letterSet_12 ?_
      refine z_iconst (v := 1) F (by decide) dX0_letterSet_13 ?_
      refine z_aload_n F 0 rfl rfl dX0_letterSet_14 ?_
      refine gf_X0_9 F hta dX0_letterSet_15 (fun ht2 => ?_)
      refine z_iload_n F 2 rfl rfl dX0_letterSet_18 ?_
      refine z_iald F ht2 dX0_letterSet_19 ?_
      refine z_ishl F dX0_letterSet_20 ?_
      refine z_ior F dX0_letterSet_21 ?_
      refine z_leti (fun v3 => ?_)
      refine z_istore_n (lv' := [(1, .int v3), (0, .ref a), (2, .int l2_4)]) F rfl (by decide) dX0_letterSet_22 rfl ?_
      refine z_iincl (lv' := fun v4 => [(2, .int v4), (1, .int v3), (0, .ref a)]) F 2 rfl (by decide) (by decide) dX0_letterSet_23 (fun _ => rfl) (fun v4 => ?_)
      refine z_goto (tgt := 4) F dX0_letterSet_26 (by decide) ?_
      refine z_sub (lv' := [(0, .ref a), (1, .int v3), (2, .int v4)]) [2, 1, 0] rfl ?_
      exact z_back (fun h => h)
  · show zSim (fun q : Int32 × zG => q = (r, g')) (j_X0_letterSet_29 a x g) (zAt E D (zA τ sz) (zQ E D zrI 0 0 sz τ τ r g') 3 (sz, τ, 0, 0) g 29 [(1, .int x)] [])
    exact hj_X0_letterSet_29 x g
theorem k_X0_letterSet {ρ : Type} {K : ρ → Prop} {E : zE} {D : zD} {A : Nat → Prop} {Q : State → Prop} {nL : Nat} {κ : zC} {g : zG} {pc : Nat} {lv : List (Nat × Value)} {st : List Value} {cc : ByteArray} {own : String} {ret : Option FieldType} (F : zF E D A cc own nL ret) {index : Nat} {h : Int32 → zG → Option ρ} {a : Nat}  (hR : 0 + 1 ≤ E.2.2.2.1.frames ∧ 8 + (3 + 11) + 0 ≤ E.2.2.2.1.locals) (hl : zTbl (.methodLink own index yX0_letterSet)) (hta : κ.2.1 a = some (.inr 0)) (hc : κ.2.2.1 ≤ E.2.2.2.1.cells ∧ κ.2.2.2 ≤ E.2.2.2.1.slots) (hW : (st.map fun v => v.category).sum ≤ 8) (hd : decode cc pc = .ok (.invokevirtual index, 3)) (kk : ∀ r g', zSim K (h r g') (zAt E D A Q nL κ g' (pc + 3) lv (.int r :: st))) : zSim K (zb (f_X0_letterSet a g) h) (zAt E D A Q nL κ g pc lv (.ref a :: st)) :=
  z_callV F (n := 0) (As := []) (C := (RX0, TX0, 4)) ⟨q_643, q_3, by decide +kernel, rfl, rfl, hR.1, hR.2⟩ (c_X0_letterSet E.2.1 D κ.1 κ.2.1 g a hta) hl q_641 q_642 hta rfl rfl rfl hc hW hd kk _ rfl
theorem dX0_swapLetters_0 : decode cX0_swapLetters 0 = .ok (.aload_n 0, 1) := by decide +kernel
theorem dX0_swapLetters_1 : decode cX0_swapLetters 1 = .ok (.getfield 9, 3) := by decide +kernel
theorem dX0_swapLetters_4 : decode cX0_swapLetters 4 = .ok (.iload_n 1, 1) := by decide +kernel
theorem dX0_swapLetters_5 : decode cX0_swapLetters 5 = .ok (.iaload, 1) := by decide +kernel
theorem dX0_swapLetters_6 : decode cX0_swapLetters 6 = .ok (.istore_n 3, 1) := by decide +kernel
theorem dX0_swapLetters_7 : decode cX0_swapLetters 7 = .ok (.aload_n 0, 1) := by decide +kernel
theorem dX0_swapLetters_8 : decode cX0_swapLetters 8 = .ok (.getfield 9, 3) := by decide +kernel
theorem dX0_swapLetters_11 : decode cX0_swapLetters 11 = .ok (.iload_n 1, 1) := by decide +kernel
theorem dX0_swapLetters_12 : decode cX0_swapLetters 12 = .ok (.aload_n 0, 1) := by decide +kernel
theorem dX0_swapLetters_13 : decode cX0_swapLetters 13 = .ok (.getfield 9, 3) := by decide +kernel
theorem dX0_swapLetters_16 : decode cX0_swapLetters 16 = .ok (.iload_n 2, 1) := by decide +kernel
theorem dX0_swapLetters_17 : decode cX0_swapLetters 17 = .ok (.iaload, 1) := by decide +kernel
theorem dX0_swapLetters_18 : decode cX0_swapLetters 18 = .ok (.iastore, 1) := by decide +kernel
theorem dX0_swapLetters_19 : decode cX0_swapLetters 19 = .ok (.aload_n 0, 1) := by decide +kernel
theorem dX0_swapLetters_20 : decode cX0_swapLetters 20 = .ok (.getfield 9, 3) := by decide +kernel
theorem dX0_swapLetters_23 : decode cX0_swapLetters 23 = .ok (.iload_n 2, 1) := by decide +kernel
theorem dX0_swapLetters_24 : decode cX0_swapLetters 24 = .ok (.iload_n 3, 1) := by decide +kernel
theorem dX0_swapLetters_25 : decode cX0_swapLetters 25 = .ok (.iastore, 1) := by decide +kernel
theorem dX0_swapLetters_26 : decode cX0_swapLetters 26 = .ok (.return_, 1) := by decide +kernel
def f_X0_swapLetters (a : Nat) (x1 : Int32) (x2 : Int32) (g : zG) : Option (Int32 × zG) :=
  zc (zin x1 48) (zl (g.1 (g.2.1 a 0) x1.toNatClampNeg) (fun v2 => zc (zin x2 48) (zc (zin x1 48) (zl (zsi g (g.2.1 a 0) x1.toNatClampNeg (g.1 (g.2.1 a 0) x2.toNatClampNeg)) (fun g5 => zc (zin x2 48) (zl (zsi g5 (g5.2.1 a 0) x2.toNatClampNeg v2) (fun g7 => some ((0, g7)))))))))
abbrev rm_X0_swapLetters : Room := { frames := 0, cells := 0, slots := 0, locals := 0 }
set_option maxRecDepth 100000 in
set_option maxHeartbeats 4000000 in
theorem c_X0_swapLetters (l : Launch) (D : zD) (sz : Nat) (τ : zT) (g : zG) (a : Nat) (x1 : Int32) (x2 : Int32) (hta : τ a = some (.inr 0)) : zCon l D yX0_swapLetters cX0_swapLetters 4 none rm_X0_swapLetters 0 0 zrV [.ref a, .int x1, .int x2] sz τ g τ (f_X0_swapLetters a x1 x2 g) := by
  refine zCon.of (by decide) (Nat.le_of_ble_eq_true rfl) (fun E r g' hl hR hsz hnm F => ?_)
  have F : zF E D (zA τ sz) cX0_swapLetters "TypeChain$Chain" 4 none := F
  show zSim (fun q : Int32 × zG => q = (r, g')) (f_X0_swapLetters a x1 x2 g) (zAt E D (zA τ sz) (zQ E D zrV 0 0 sz τ τ r g') 4 (sz, τ, 0, 0) g 0 [(0, .ref a), (1, .int x1), (2, .int x2)] [])
  unfold f_X0_swapLetters
  refine z_aload_n F 0 rfl rfl dX0_swapLetters_0 ?_
  refine gf_X0_9 F hta dX0_swapLetters_1 (fun ht1 => ?_)
  refine z_iload_n F 1 rfl rfl dX0_swapLetters_4 ?_
  refine z_iald F ht1 dX0_swapLetters_5 ?_
  refine z_leti (fun v2 => ?_)
  refine z_istore_n (lv' := [(3, .int v2), (0, .ref a), (1, .int x1), (2, .int x2)]) F rfl (by decide) dX0_swapLetters_6 rfl ?_
  refine z_aload_n F 1 rfl rfl dX0_swapLetters_7 ?_
  refine gf_X0_9 F hta dX0_swapLetters_8 (fun ht3 => ?_)
  refine z_iload_n F 2 rfl rfl dX0_swapLetters_11 ?_
  refine z_aload_n F 1 rfl rfl dX0_swapLetters_12 ?_
  refine gf_X0_9 F hta dX0_swapLetters_13 (fun ht4 => ?_)
  refine z_iload_n F 3 rfl rfl dX0_swapLetters_16 ?_
  refine z_iald F ht4 dX0_swapLetters_17 ?_
  refine z_iast F ht3 dX0_swapLetters_18 ?_
  refine z_letg (fun g5 => ?_)
  refine z_aload_n F 1 rfl rfl dX0_swapLetters_19 ?_
  refine gf_X0_9 F hta dX0_swapLetters_20 (fun ht6 => ?_)
  refine z_iload_n F 3 rfl rfl dX0_swapLetters_23 ?_
  refine z_iload_n F 0 rfl rfl dX0_swapLetters_24 ?_
  refine z_iast F ht6 dX0_swapLetters_25 ?_
  refine z_letg (fun g7 => ?_)
  exact z_vreturn F rfl rfl rfl rfl (fun h => h) dX0_swapLetters_26
theorem k_X0_swapLetters {ρ : Type} {K : ρ → Prop} {E : zE} {D : zD} {A : Nat → Prop} {Q : State → Prop} {nL : Nat} {κ : zC} {g : zG} {pc : Nat} {lv : List (Nat × Value)} {st : List Value} {cc : ByteArray} {own : String} {ret : Option FieldType} (F : zF E D A cc own nL ret) {index : Nat} {h : Int32 → zG → Option ρ} {a : Nat} {x1 : Int32} {x2 : Int32}  (hR : 0 + 1 ≤ E.2.2.2.1.frames ∧ 8 + (4 + 11) + 0 ≤ E.2.2.2.1.locals) (hl : zTbl (.methodLink own index yX0_swapLetters)) (hta : κ.2.1 a = some (.inr 0)) (hc : κ.2.2.1 ≤ E.2.2.2.1.cells ∧ κ.2.2.2 ≤ E.2.2.2.1.slots) (hW : (st.map fun v => v.category).sum ≤ 8) (hd : decode cc pc = .ok (.invokevirtual index, 3)) (kk : ∀ r g', zSim K (h r g') (zAt E D A Q nL κ g' (pc + 3) lv (st))) : zSim K (zb (f_X0_swapLetters a x1 x2 g) h) (zAt E D A Q nL κ g pc lv (.int x2 :: .int x1 :: .ref a :: st)) :=
  z_callV F (n := 2) (As := [.int x1, .int x2]) (C := (RX0, TX0, 4)) ⟨q_790, q_3, by decide +kernel, rfl, rfl, hR.1, hR.2⟩ (c_X0_swapLetters E.2.1 D κ.1 κ.2.1 g a x1 x2 hta) hl q_789 q_1386 hta rfl rfl rfl hc hW hd kk _ rfl
theorem dX0_sortLetters_0 : decode cX0_sortLetters 0 = .ok (.iconst 1, 1) := by decide +kernel
theorem dX0_sortLetters_1 : decode cX0_sortLetters 1 = .ok (.istore_n 1, 1) := by decide +kernel
theorem dX0_sortLetters_2 : decode cX0_sortLetters 2 = .ok (.iload_n 1, 1) := by decide +kernel
theorem dX0_sortLetters_3 : decode cX0_sortLetters 3 = .ok (.aload_n 0, 1) := by decide +kernel
theorem dX0_sortLetters_4 : decode cX0_sortLetters 4 = .ok (.getfield 21, 3) := by decide +kernel
theorem dX0_sortLetters_7 : decode cX0_sortLetters 7 = .ok (.if_icmp .ge 46, 3) := by decide +kernel
theorem dX0_sortLetters_10 : decode cX0_sortLetters 10 = .ok (.iload_n 1, 1) := by decide +kernel
theorem dX0_sortLetters_11 : decode cX0_sortLetters 11 = .ok (.istore_n 2, 1) := by decide +kernel
theorem dX0_sortLetters_12 : decode cX0_sortLetters 12 = .ok (.iload_n 2, 1) := by decide +kernel
theorem dX0_sortLetters_13 : decode cX0_sortLetters 13 = .ok (.ifCond .le 34, 3) := by decide +kernel
theorem dX0_sortLetters_16 : decode cX0_sortLetters 16 = .ok (.aload_n 0, 1) := by decide +kernel
theorem dX0_sortLetters_17 : decode cX0_sortLetters 17 = .ok (.getfield 9, 3) := by decide +kernel
theorem dX0_sortLetters_20 : decode cX0_sortLetters 20 = .ok (.iload_n 2, 1) := by decide +kernel
theorem dX0_sortLetters_21 : decode cX0_sortLetters 21 = .ok (.iconst 1, 1) := by decide +kernel
theorem dX0_sortLetters_22 : decode cX0_sortLetters 22 = .ok (.isub, 1) := by decide +kernel
theorem dX0_sortLetters_23 : decode cX0_sortLetters 23 = .ok (.iaload, 1) := by decide +kernel
theorem dX0_sortLetters_24 : decode cX0_sortLetters 24 = .ok (.aload_n 0, 1) := by decide +kernel
theorem dX0_sortLetters_25 : decode cX0_sortLetters 25 = .ok (.getfield 9, 3) := by decide +kernel
theorem dX0_sortLetters_28 : decode cX0_sortLetters 28 = .ok (.iload_n 2, 1) := by decide +kernel
theorem dX0_sortLetters_29 : decode cX0_sortLetters 29 = .ok (.iaload, 1) := by decide +kernel
theorem dX0_sortLetters_30 : decode cX0_sortLetters 30 = .ok (.if_icmp .le 17, 3) := by decide +kernel
theorem dX0_sortLetters_33 : decode cX0_sortLetters 33 = .ok (.aload_n 0, 1) := by decide +kernel
theorem dX0_sortLetters_34 : decode cX0_sortLetters 34 = .ok (.iload_n 2, 1) := by decide +kernel
theorem dX0_sortLetters_35 : decode cX0_sortLetters 35 = .ok (.iconst 1, 1) := by decide +kernel
theorem dX0_sortLetters_36 : decode cX0_sortLetters 36 = .ok (.isub, 1) := by decide +kernel
theorem dX0_sortLetters_37 : decode cX0_sortLetters 37 = .ok (.iload_n 2, 1) := by decide +kernel
theorem dX0_sortLetters_38 : decode cX0_sortLetters 38 = .ok (.invokevirtual 35, 3) := by decide +kernel
theorem dX0_sortLetters_41 : decode cX0_sortLetters 41 = .ok (.iinc 2 (-1), 3) := by decide +kernel
theorem dX0_sortLetters_44 : decode cX0_sortLetters 44 = .ok (.goto (-32), 3) := by decide +kernel
theorem dX0_sortLetters_47 : decode cX0_sortLetters 47 = .ok (.iinc 1 1, 3) := by decide +kernel
theorem dX0_sortLetters_50 : decode cX0_sortLetters 50 = .ok (.goto (-48), 3) := by decide +kernel
theorem dX0_sortLetters_53 : decode cX0_sortLetters 53 = .ok (.return_, 1) := by decide +kernel
def j_X0_sortLetters_53 (a : Nat)  (g : zG) : Option (Int32 × zG) :=
  some ((0, g))
def j_X0_sortLetters_47_2 (a : Nat) (l1 : Int32) (g : zG) : Option ((Int32 × zG) ⊕ (zG)) :=
  zl (l1 + 1) (fun v1 => some (.inl (v1, g)))
def l_X0_sortLetters_12 (a : Nat) (l1 : Int32) (l2 : Int32) (g : zG) : Option ((Int32 × zG) ⊕ (zG)) :=
  if l2 ≤ 0 then (some (.inr g)) else (zc (zin (l2 - 1) 48) (zc (zin l2 48) (if (g.1 (g.2.1 a 0) (l2 - 1).toNatClampNeg) ≤ (g.1 (g.2.1 a 0) l2.toNatClampNeg) then (some (.inr g)) else (zb (f_X0_swapLetters a (l2 - 1) l2 g) (fun v7 g8 => zl (l2 + (-1)) (fun v9 => some (.inl (v9, g8))))))))
def l_X0_sortLetters_2 (a : Nat) (l1 : Int32) (g : zG) : Option ((Int32 × zG) ⊕ (zG)) :=
  if (g.1 a 1) ≤ l1 then (some (.inr g)) else (zk (zw zN (fun s => l_X0_sortLetters_12 a l1 s.1 s.2) (l1, g)) (fun x => j_X0_sortLetters_47_2 a l1 x))
def f_X0_sortLetters (a : Nat) (g : zG) : Option (Int32 × zG) :=
  zk (zw zN (fun s => l_X0_sortLetters_2 a s.1 s.2) (1, g)) (fun x => j_X0_sortLetters_53 a x)
abbrev rm_X0_sortLetters : Room := { frames := 1, cells := 0, slots := 0, locals := 23 }
set_option maxRecDepth 100000 in
set_option maxHeartbeats 4000000 in
theorem c_X0_sortLetters (l : Launch) (D : zD) (sz : Nat) (τ : zT) (g : zG) (a : Nat) (hta : τ a = some (.inr 0)) : zCon l D yX0_sortLetters cX0_sortLetters 3 none rm_X0_sortLetters 0 0 zrV [.ref a] sz τ g τ (f_X0_sortLetters a g) := by
  refine zCon.of (by decide) (Nat.le_of_ble_eq_true rfl) (fun E r g' hl hR hsz hnm F => ?_)
  have F : zF E D (zA τ sz) cX0_sortLetters "TypeChain$Chain" 3 none := F
  show zSim (fun q : Int32 × zG => q = (r, g')) (f_X0_sortLetters a g) (zAt E D (zA τ sz) (zQ E D zrV 0 0 sz τ τ r g') 3 (sz, τ, 0, 0) g 0 [(0, .ref a)] [])
  have hj_X0_sortLetters_53 : ∀  (g_53 : zG), zSim (fun q : Int32 × zG => q = (r, g')) (j_X0_sortLetters_53 a g_53) (zAt E D (zA τ sz) (zQ E D zrV 0 0 sz τ τ r g') 3 (sz, τ, 0, 0) g_53 53 [] []) := by
    intro g_53
    unfold j_X0_sortLetters_53
    exact z_vreturn F rfl rfl rfl rfl (fun h => h) dX0_sortLetters_53
  unfold f_X0_sortLetters
  refine z_iconst (v := 1) F (by decide) dX0_sortLetters_0 ?_
  refine z_istore_n (lv' := [(1, .int 1), (0, .ref a)]) F rfl (by decide) dX0_sortLetters_1 rfl ?_
  refine z_sub (lv' := [(0, .ref a), (1, .int 1)]) [1, 0] rfl ?_
  refine z_loop (P := fun s : Int32 × zG => zAt E D (zA τ sz) (zQ E D zrV 0 0 sz τ τ r g') 3 (sz, τ, 0, 0) s.2 2 [(0, .ref a), (1, .int s.1)] []) (Px := fun x : zG => zAt E D (zA τ sz) (zQ E D zrV 0 0 sz τ τ r g') 3 (sz, τ, 0, 0) x 53 [] []) (1, g) (fun s => ?_) (fun x => ?_)
  · obtain ⟨l1_2, g_2⟩ := s
    show zSim (zKl (fun s : Int32 × zG => zAt E D (zA τ sz) (zQ E D zrV 0 0 sz τ τ r g') 3 (sz, τ, 0, 0) s.2 2 [(0, .ref a), (1, .int s.1)] []) (fun x : zG => zAt E D (zA τ sz) (zQ E D zrV 0 0 sz τ τ r g') 3 (sz, τ, 0, 0) x 53 [] [])) (l_X0_sortLetters_2 a l1_2 g_2) (zAt E D (zA τ sz) (zQ E D zrV 0 0 sz τ τ r g') 3 (sz, τ, 0, 0) g_2 2 [(0, .ref a), (1, .int l1_2)] [])
    have hj_X0_sortLetters_47_2 : ∀ (l1_47 : Int32) (g_47 : zG), zSim (zKl (fun s : Int32 × zG => zAt E D (zA τ sz) (zQ E D zrV 0 0 sz τ τ r g') 3 (sz, τ, 0, 0) s.2 2 [(0, .ref a), (1, .int s.1)] []) (fun x : zG => zAt E D (zA τ sz) (zQ E D zrV 0 0 sz τ τ r g') 3 (sz, τ, 0, 0) x 53 [] [])) (j_X0_sortLetters_47_2 a l1_47 g_47) (zAt E D (zA τ sz) (zQ E D zrV 0 0 sz τ τ r g') 3 (sz, τ, 0, 0) g_47 47 [(0, .ref a), (1, .int l1_47)] []) := by
      intro l1_47 g_47
      unfold j_X0_sortLetters_47_2
      refine z_iincl (lv' := fun v1 => [(1, .int v1), (0, .ref a)]) F 1 rfl (by decide) (by decide) dX0_sortLetters_47 (fun _ => rfl) (fun v1 => ?_)
      refine z_goto (tgt := 2) F dX0_sortLetters_50 (by decide) ?_
      refine z_sub (lv' := [(0, .ref a), (1, .int v1)]) [1, 0] rfl ?_
      exact z_back (fun h => h)
    unfold l_X0_sortLetters_2
    refine z_iload_n F 1 rfl rfl dX0_sortLetters_2 ?_
    refine z_aload_n F 0 rfl rfl dX0_sortLetters_3 ?_
    refine gf_X0_21 F hta dX0_sortLetters_4 ?_
    refine z_icmp_ge (tgt := 53) F dX0_sortLetters_7 (by decide) (fun c2 => ?_) (fun c2 => ?_)
    · refine z_sub (lv' := []) [] rfl ?_
      exact z_back (fun h => h)
    · refine z_iload_n F 1 rfl rfl dX0_sortLetters_10 ?_
      refine z_istore_n (lv' := [(2, .int l1_2), (0, .ref a), (1, .int l1_2)]) F rfl (by decide) dX0_sortLetters_11 rfl ?_
      refine z_sub (lv' := [(0, .ref a), (1, .int l1_2), (2, .int l1_2)]) [1, 2, 0] rfl ?_
      refine z_loop (P := fun s : Int32 × zG => zAt E D (zA τ sz) (zQ E D zrV 0 0 sz τ τ r g') 3 (sz, τ, 0, 0) s.2 12 [(0, .ref a), (1, .int l1_2), (2, .int s.1)] []) (Px := fun x : zG => zAt E D (zA τ sz) (zQ E D zrV 0 0 sz τ τ r g') 3 (sz, τ, 0, 0) x 47 [(0, .ref a), (1, .int l1_2)] []) (l1_2, g_2) (fun s => ?_) (fun x => ?_)
      · obtain ⟨l2_12, g_12⟩ := s
        show zSim (zKl (fun s : Int32 × zG => zAt E D (zA τ sz) (zQ E D zrV 0 0 sz τ τ r g') 3 (sz, τ, 0, 0) s.2 12 [(0, .ref a), (1, .int l1_2), (2, .int s.1)] []) (fun x : zG => zAt E D (zA τ sz) (zQ E D zrV 0 0 sz τ τ r g') 3 (sz, τ, 0, 0) x 47 [(0, .ref a), (1, .int l1_2)] [])) (l_X0_sortLetters_12 a l1_2 l2_12 g_12) (zAt E D (zA τ sz) (zQ E D zrV 0 0 sz τ τ r g') 3 (sz, τ, 0, 0) g_12 12 [(0, .ref a), (1, .int l1_2), (2, .int l2_12)] [])
        unfold l_X0_sortLetters_12
        refine z_iload_n F 2 rfl rfl dX0_sortLetters_12 ?_
        refine z_if_le (tgt := 47) F dX0_sortLetters_13 (by decide) (fun c3 => ?_) (fun c3 => ?_)
        · refine z_sub (lv' := [(0, .ref a), (1, .int l1_2)]) [0, 1] rfl ?_
          exact z_back (fun h => h)
        · refine z_aload_n F 0 rfl rfl dX0_sortLetters_16 ?_
          refine gf_X0_9 F hta dX0_sortLetters_17 (fun ht4 => ?_)
          refine z_iload_n F 2 rfl rfl dX0_sortLetters_20 ?_
          refine z_iconst (v := 1) F (by decide) dX0_sortLetters_21 ?_
          refine z_isub F dX0_sortLetters_22 ?_
          refine z_iald F ht4 dX0_sortLetters_23 ?_
          refine z_aload_n F 0 rfl rfl dX0_sortLetters_24 ?_
          refine gf_X0_9 F hta dX0_sortLetters_25 (fun ht5 => ?_)
          refine z_iload_n F 2 rfl rfl dX0_sortLetters_28 ?_
          refine z_iald F ht5 dX0_sortLetters_29 ?_
          refine z_icmp_le (tgt := 47) F dX0_sortLetters_30 (by decide) (fun c6 => ?_) (fun c6 => ?_)
          · refine z_sub (lv' := [(0, .ref a), (1, .int l1_2)]) [0, 1] rfl ?_
            exact z_back (fun h => h)
          · refine z_aload_n F 0 rfl rfl dX0_sortLetters_33 ?_
            refine z_iload_n F 2 rfl rfl dX0_sortLetters_34 ?_
            refine z_iconst (v := 1) F (by decide) dX0_sortLetters_35 ?_
            refine z_isub F dX0_sortLetters_36 ?_
            refine z_iload_n F 2 rfl rfl dX0_sortLetters_37 ?_
            refine k_X0_swapLetters F (by rw [hR]; exact ⟨by decide, by decide⟩) q_787 hta ⟨Nat.zero_le _, Nat.zero_le _⟩ (Nat.le_of_ble_eq_true rfl) dX0_sortLetters_38 (fun v7 g8 => ?_)
            refine z_iincl (lv' := fun v9 => [(2, .int v9), (0, .ref a), (1, .int l1_2)]) F 2 rfl (by decide) (by decide) dX0_sortLetters_41 (fun _ => rfl) (fun v9 => ?_)
            refine z_goto (tgt := 12) F dX0_sortLetters_44 (by decide) ?_
            refine z_sub (lv' := [(0, .ref a), (1, .int l1_2), (2, .int v9)]) [1, 2, 0] rfl ?_
            exact z_back (fun h => h)
      · show zSim (zKl (fun s : Int32 × zG => zAt E D (zA τ sz) (zQ E D zrV 0 0 sz τ τ r g') 3 (sz, τ, 0, 0) s.2 2 [(0, .ref a), (1, .int s.1)] []) (fun x : zG => zAt E D (zA τ sz) (zQ E D zrV 0 0 sz τ τ r g') 3 (sz, τ, 0, 0) x 53 [] [])) (j_X0_sortLetters_47_2 a l1_2 x) (zAt E D (zA τ sz) (zQ E D zrV 0 0 sz τ τ r g') 3 (sz, τ, 0, 0) x 47 [(0, .ref a), (1, .int l1_2)] [])
        exact hj_X0_sortLetters_47_2 l1_2 x
  · show zSim (fun q : Int32 × zG => q = (r, g')) (j_X0_sortLetters_53 a x) (zAt E D (zA τ sz) (zQ E D zrV 0 0 sz τ τ r g') 3 (sz, τ, 0, 0) x 53 [] [])
    exact hj_X0_sortLetters_53 x
theorem k_X0_sortLetters {ρ : Type} {K : ρ → Prop} {E : zE} {D : zD} {A : Nat → Prop} {Q : State → Prop} {nL : Nat} {κ : zC} {g : zG} {pc : Nat} {lv : List (Nat × Value)} {st : List Value} {cc : ByteArray} {own : String} {ret : Option FieldType} (F : zF E D A cc own nL ret) {index : Nat} {h : Int32 → zG → Option ρ} {a : Nat}  (hR : 1 + 1 ≤ E.2.2.2.1.frames ∧ 8 + (3 + 11) + 23 ≤ E.2.2.2.1.locals) (hl : zTbl (.methodLink own index yX0_sortLetters)) (hta : κ.2.1 a = some (.inr 0)) (hc : κ.2.2.1 ≤ E.2.2.2.1.cells ∧ κ.2.2.2 ≤ E.2.2.2.1.slots) (hW : (st.map fun v => v.category).sum ≤ 8) (hd : decode cc pc = .ok (.invokevirtual index, 3)) (kk : ∀ r g', zSim K (h r g') (zAt E D A Q nL κ g' (pc + 3) lv (st))) : zSim K (zb (f_X0_sortLetters a g) h) (zAt E D A Q nL κ g pc lv (.ref a :: st)) :=
  z_callV F (n := 0) (As := []) (C := (RX0, TX0, 4)) ⟨q_786, q_3, by decide +kernel, rfl, rfl, hR.1, hR.2⟩ (c_X0_sortLetters E.2.1 D κ.1 κ.2.1 g a hta) hl q_784 q_785 hta rfl rfl rfl hc hW hd kk _ rfl
theorem dX0_toNextOrder_0 : decode cX0_toNextOrder 0 = .ok (.aload_n 0, 1) := by decide +kernel
theorem dX0_toNextOrder_1 : decode cX0_toNextOrder 1 = .ok (.getfield 21, 3) := by decide +kernel
theorem dX0_toNextOrder_4 : decode cX0_toNextOrder 4 = .ok (.iconst 2, 1) := by decide +kernel
theorem dX0_toNextOrder_5 : decode cX0_toNextOrder 5 = .ok (.isub, 1) := by decide +kernel
theorem dX0_toNextOrder_6 : decode cX0_toNextOrder 6 = .ok (.istore_n 1, 1) := by decide +kernel
theorem dX0_toNextOrder_7 : decode cX0_toNextOrder 7 = .ok (.iload_n 1, 1) := by decide +kernel
theorem dX0_toNextOrder_8 : decode cX0_toNextOrder 8 = .ok (.ifCond .lt 26, 3) := by decide +kernel
theorem dX0_toNextOrder_11 : decode cX0_toNextOrder 11 = .ok (.aload_n 0, 1) := by decide +kernel
theorem dX0_toNextOrder_12 : decode cX0_toNextOrder 12 = .ok (.getfield 9, 3) := by decide +kernel
theorem dX0_toNextOrder_15 : decode cX0_toNextOrder 15 = .ok (.iload_n 1, 1) := by decide +kernel
theorem dX0_toNextOrder_16 : decode cX0_toNextOrder 16 = .ok (.iaload, 1) := by decide +kernel
theorem dX0_toNextOrder_17 : decode cX0_toNextOrder 17 = .ok (.aload_n 0, 1) := by decide +kernel
theorem dX0_toNextOrder_18 : decode cX0_toNextOrder 18 = .ok (.getfield 9, 3) := by decide +kernel
theorem dX0_toNextOrder_21 : decode cX0_toNextOrder 21 = .ok (.iload_n 1, 1) := by decide +kernel
theorem dX0_toNextOrder_22 : decode cX0_toNextOrder 22 = .ok (.iconst 1, 1) := by decide +kernel
theorem dX0_toNextOrder_23 : decode cX0_toNextOrder 23 = .ok (.iadd, 1) := by decide +kernel
theorem dX0_toNextOrder_24 : decode cX0_toNextOrder 24 = .ok (.iaload, 1) := by decide +kernel
theorem dX0_toNextOrder_25 : decode cX0_toNextOrder 25 = .ok (.if_icmp .lt 9, 3) := by decide +kernel
theorem dX0_toNextOrder_28 : decode cX0_toNextOrder 28 = .ok (.iinc 1 (-1), 3) := by decide +kernel
theorem dX0_toNextOrder_31 : decode cX0_toNextOrder 31 = .ok (.goto (-24), 3) := by decide +kernel
theorem dX0_toNextOrder_34 : decode cX0_toNextOrder 34 = .ok (.iload_n 1, 1) := by decide +kernel
theorem dX0_toNextOrder_35 : decode cX0_toNextOrder 35 = .ok (.ifCond .ge 5, 3) := by decide +kernel
theorem dX0_toNextOrder_38 : decode cX0_toNextOrder 38 = .ok (.iconst 0, 1) := by decide +kernel
theorem dX0_toNextOrder_39 : decode cX0_toNextOrder 39 = .ok (.ireturn, 1) := by decide +kernel
theorem dX0_toNextOrder_40 : decode cX0_toNextOrder 40 = .ok (.aload_n 0, 1) := by decide +kernel
theorem dX0_toNextOrder_41 : decode cX0_toNextOrder 41 = .ok (.getfield 21, 3) := by decide +kernel
theorem dX0_toNextOrder_44 : decode cX0_toNextOrder 44 = .ok (.iconst 1, 1) := by decide +kernel
theorem dX0_toNextOrder_45 : decode cX0_toNextOrder 45 = .ok (.isub, 1) := by decide +kernel
theorem dX0_toNextOrder_46 : decode cX0_toNextOrder 46 = .ok (.istore_n 2, 1) := by decide +kernel
theorem dX0_toNextOrder_47 : decode cX0_toNextOrder 47 = .ok (.iload_n 2, 1) := by decide +kernel
theorem dX0_toNextOrder_48 : decode cX0_toNextOrder 48 = .ok (.iload_n 1, 1) := by decide +kernel
theorem dX0_toNextOrder_49 : decode cX0_toNextOrder 49 = .ok (.iconst 1, 1) := by decide +kernel
theorem dX0_toNextOrder_50 : decode cX0_toNextOrder 50 = .ok (.iadd, 1) := by decide +kernel
theorem dX0_toNextOrder_51 : decode cX0_toNextOrder 51 = .ok (.if_icmp .le 24, 3) := by decide +kernel
theorem dX0_toNextOrder_54 : decode cX0_toNextOrder 54 = .ok (.aload_n 0, 1) := by decide +kernel
theorem dX0_toNextOrder_55 : decode cX0_toNextOrder 55 = .ok (.getfield 9, 3) := by decide +kernel
theorem dX0_toNextOrder_58 : decode cX0_toNextOrder 58 = .ok (.iload_n 2, 1) := by decide +kernel
theorem dX0_toNextOrder_59 : decode cX0_toNextOrder 59 = .ok (.iaload, 1) := by decide +kernel
theorem dX0_toNextOrder_60 : decode cX0_toNextOrder 60 = .ok (.aload_n 0, 1) := by decide +kernel
theorem dX0_toNextOrder_61 : decode cX0_toNextOrder 61 = .ok (.getfield 9, 3) := by decide +kernel
theorem dX0_toNextOrder_64 : decode cX0_toNextOrder 64 = .ok (.iload_n 1, 1) := by decide +kernel
theorem dX0_toNextOrder_65 : decode cX0_toNextOrder 65 = .ok (.iaload, 1) := by decide +kernel
theorem dX0_toNextOrder_66 : decode cX0_toNextOrder 66 = .ok (.if_icmp .gt 9, 3) := by decide +kernel
theorem dX0_toNextOrder_69 : decode cX0_toNextOrder 69 = .ok (.iinc 2 (-1), 3) := by decide +kernel
theorem dX0_toNextOrder_72 : decode cX0_toNextOrder 72 = .ok (.goto (-25), 3) := by decide +kernel
theorem dX0_toNextOrder_75 : decode cX0_toNextOrder 75 = .ok (.aload_n 0, 1) := by decide +kernel
theorem dX0_toNextOrder_76 : decode cX0_toNextOrder 76 = .ok (.iload_n 1, 1) := by decide +kernel
theorem dX0_toNextOrder_77 : decode cX0_toNextOrder 77 = .ok (.iload_n 2, 1) := by decide +kernel
theorem dX0_toNextOrder_78 : decode cX0_toNextOrder 78 = .ok (.invokevirtual 35, 3) := by decide +kernel
theorem dX0_toNextOrder_81 : decode cX0_toNextOrder 81 = .ok (.iload_n 1, 1) := by decide +kernel
theorem dX0_toNextOrder_82 : decode cX0_toNextOrder 82 = .ok (.iconst 1, 1) := by decide +kernel
theorem dX0_toNextOrder_83 : decode cX0_toNextOrder 83 = .ok (.iadd, 1) := by decide +kernel
theorem dX0_toNextOrder_84 : decode cX0_toNextOrder 84 = .ok (.istore_n 3, 1) := by decide +kernel
theorem dX0_toNextOrder_85 : decode cX0_toNextOrder 85 = .ok (.aload_n 0, 1) := by decide +kernel
theorem dX0_toNextOrder_86 : decode cX0_toNextOrder 86 = .ok (.getfield 21, 3) := by decide +kernel
theorem dX0_toNextOrder_89 : decode cX0_toNextOrder 89 = .ok (.iconst 1, 1) := by decide +kernel
theorem dX0_toNextOrder_90 : decode cX0_toNextOrder 90 = .ok (.isub, 1) := by decide +kernel
theorem dX0_toNextOrder_91 : decode cX0_toNextOrder 91 = .ok (.istore 4, 2) := by decide +kernel
theorem dX0_toNextOrder_93 : decode cX0_toNextOrder 93 = .ok (.iload_n 3, 1) := by decide +kernel
theorem dX0_toNextOrder_94 : decode cX0_toNextOrder 94 = .ok (.iload 4, 2) := by decide +kernel
theorem dX0_toNextOrder_96 : decode cX0_toNextOrder 96 = .ok (.if_icmp .ge 19, 3) := by decide +kernel
theorem dX0_toNextOrder_99 : decode cX0_toNextOrder 99 = .ok (.aload_n 0, 1) := by decide +kernel
theorem dX0_toNextOrder_100 : decode cX0_toNextOrder 100 = .ok (.iload_n 3, 1) := by decide +kernel
theorem dX0_toNextOrder_101 : decode cX0_toNextOrder 101 = .ok (.iload 4, 2) := by decide +kernel
theorem dX0_toNextOrder_103 : decode cX0_toNextOrder 103 = .ok (.invokevirtual 35, 3) := by decide +kernel
theorem dX0_toNextOrder_106 : decode cX0_toNextOrder 106 = .ok (.iinc 3 1, 3) := by decide +kernel
theorem dX0_toNextOrder_109 : decode cX0_toNextOrder 109 = .ok (.iinc 4 (-1), 3) := by decide +kernel
theorem dX0_toNextOrder_112 : decode cX0_toNextOrder 112 = .ok (.goto (-19), 3) := by decide +kernel
theorem dX0_toNextOrder_115 : decode cX0_toNextOrder 115 = .ok (.iconst 1, 1) := by decide +kernel
theorem dX0_toNextOrder_116 : decode cX0_toNextOrder 116 = .ok (.ireturn, 1) := by decide +kernel
def j_X0_toNextOrder_115 (a : Nat)  (g : zG) : Option (Int32 × zG) :=
  some ((1, g))
def l_X0_toNextOrder_93 (a : Nat) (l3 : Int32) (l4 : Int32) (g : zG) : Option ((Int32 × Int32 × zG) ⊕ (zG)) :=
  if l4 ≤ l3 then (some (.inr g)) else (zb (f_X0_swapLetters a l3 l4 g) (fun v6 g7 => zl (l3 + 1) (fun v8 => zl (l4 + (-1)) (fun v9 => some (.inl (v8, v9, g7))))))
def j_X0_toNextOrder_75 (a : Nat) (l1 : Int32) (l2 : Int32) (g : zG) : Option (Int32 × zG) :=
  zb (f_X0_swapLetters a l1 l2 g) (fun v1 g2 => zl (l1 + 1) (fun v3 => zl ((g2.1 a 1) - 1) (fun v4 => zk (zw zN (fun s => l_X0_toNextOrder_93 a s.1 s.2.1 s.2.2) (v3, v4, g2)) (fun x => j_X0_toNextOrder_115 a x))))
def l_X0_toNextOrder_47 (a : Nat) (l1 : Int32) (g : zG) (l2 : Int32) : Option ((Int32) ⊕ (Int32)) :=
  if l2 ≤ (l1 + 1) then (some (.inr l2)) else (zc (zin l2 48) (zc (zin l1 48) (if (g.1 (g.2.1 a 0) l1.toNatClampNeg) < (g.1 (g.2.1 a 0) l2.toNatClampNeg) then (some (.inr l2)) else (zl (l2 + (-1)) (fun v16 => some (.inl v16))))))
def j_X0_toNextOrder_34 (a : Nat) (l1 : Int32) (g : zG) : Option (Int32 × zG) :=
  if 0 ≤ l1 then (zl ((g.1 a 1) - 1) (fun v11 => zk (zw zN (fun s => l_X0_toNextOrder_47 a l1 g s) v11) (fun x => j_X0_toNextOrder_75 a l1 x g))) else (some ((0, g)))
def l_X0_toNextOrder_7 (a : Nat) (g : zG) (l1 : Int32) : Option ((Int32) ⊕ (Int32)) :=
  if l1 < 0 then (some (.inr l1)) else (zc (zin l1 48) (zc (zin (l1 + 1) 48) (if (g.1 (g.2.1 a 0) l1.toNatClampNeg) < (g.1 (g.2.1 a 0) (l1 + 1).toNatClampNeg) then (some (.inr l1)) else (zl (l1 + (-1)) (fun v22 => some (.inl v22))))))
def f_X0_toNextOrder (a : Nat) (g : zG) : Option (Int32 × zG) :=
  zl ((g.1 a 1) - 2) (fun v17 => zk (zw zN (fun s => l_X0_toNextOrder_7 a g s) v17) (fun x => j_X0_toNextOrder_34 a x g))
abbrev rm_X0_toNextOrder : Room := { frames := 1, cells := 0, slots := 0, locals := 23 }
set_option maxRecDepth 100000 in
set_option maxHeartbeats 4000000 in
theorem c_X0_toNextOrder (l : Launch) (D : zD) (sz : Nat) (τ : zT) (g : zG) (a : Nat) (hta : τ a = some (.inr 0)) : zCon l D yX0_toNextOrder cX0_toNextOrder 5 (some .boolean) rm_X0_toNextOrder 0 0 zrI [.ref a] sz τ g τ (f_X0_toNextOrder a g) := by
  refine zCon.of (by decide) (Nat.le_of_ble_eq_true rfl) (fun E r g' hl hR hsz hnm F => ?_)
  have F : zF E D (zA τ sz) cX0_toNextOrder "TypeChain$Chain" 5 (some .boolean) := F
  show zSim (fun q : Int32 × zG => q = (r, g')) (f_X0_toNextOrder a g) (zAt E D (zA τ sz) (zQ E D zrI 0 0 sz τ τ r g') 5 (sz, τ, 0, 0) g 0 [(0, .ref a)] [])
  have hj_X0_toNextOrder_115 : ∀  (g_115 : zG), zSim (fun q : Int32 × zG => q = (r, g')) (j_X0_toNextOrder_115 a g_115) (zAt E D (zA τ sz) (zQ E D zrI 0 0 sz τ τ r g') 5 (sz, τ, 0, 0) g_115 115 [] []) := by
    intro g_115
    unfold j_X0_toNextOrder_115
    refine z_iconst (v := 1) F (by decide) dX0_toNextOrder_115 ?_
    exact z_zreturn F rfl rfl rfl rfl rfl (fun h => h) dX0_toNextOrder_116
  have hj_X0_toNextOrder_75 : ∀ (l1_75 : Int32) (l2_75 : Int32) (g_75 : zG), zSim (fun q : Int32 × zG => q = (r, g')) (j_X0_toNextOrder_75 a l1_75 l2_75 g_75) (zAt E D (zA τ sz) (zQ E D zrI 0 0 sz τ τ r g') 5 (sz, τ, 0, 0) g_75 75 [(0, .ref a), (1, .int l1_75), (2, .int l2_75)] []) := by
    intro l1_75 l2_75 g_75
    unfold j_X0_toNextOrder_75
    refine z_aload_n F 0 rfl rfl dX0_toNextOrder_75 ?_
    refine z_iload_n F 1 rfl rfl dX0_toNextOrder_76 ?_
    refine z_iload_n F 2 rfl rfl dX0_toNextOrder_77 ?_
    refine k_X0_swapLetters F (by rw [hR]; exact ⟨by decide, by decide⟩) q_787 hta ⟨Nat.zero_le _, Nat.zero_le _⟩ (Nat.le_of_ble_eq_true rfl) dX0_toNextOrder_78 (fun v1 g2 => ?_)
    refine z_iload_n F 1 rfl rfl dX0_toNextOrder_81 ?_
    refine z_iconst (v := 1) F (by decide) dX0_toNextOrder_82 ?_
    refine z_iadd F dX0_toNextOrder_83 ?_
    refine z_leti (fun v3 => ?_)
    refine z_istore_n (lv' := [(3, .int v3), (0, .ref a), (1, .int l1_75), (2, .int l2_75)]) F rfl (by decide) dX0_toNextOrder_84 rfl ?_
    refine z_aload_n F 1 rfl rfl dX0_toNextOrder_85 ?_
    refine gf_X0_21 F hta dX0_toNextOrder_86 ?_
    refine z_iconst (v := 1) F (by decide) dX0_toNextOrder_89 ?_
    refine z_isub F dX0_toNextOrder_90 ?_
    refine z_leti (fun v4 => ?_)
    refine z_istore (lv' := [(4, .int v4), (3, .int v3), (0, .ref a), (1, .int l1_75), (2, .int l2_75)]) F (by decide) dX0_toNextOrder_91 rfl ?_
    refine z_sub (lv' := [(0, .ref a), (3, .int v3), (4, .int v4)]) [2, 1, 0] rfl ?_
    refine z_loop (P := fun s : Int32 × Int32 × zG => zAt E D (zA τ sz) (zQ E D zrI 0 0 sz τ τ r g') 5 (sz, τ, 0, 0) s.2.2 93 [(0, .ref a), (3, .int s.1), (4, .int s.2.1)] []) (Px := fun x : zG => zAt E D (zA τ sz) (zQ E D zrI 0 0 sz τ τ r g') 5 (sz, τ, 0, 0) x 115 [] []) (v3, v4, g2) (fun s => ?_) (fun x => ?_)
    · obtain ⟨l3_93, l4_93, g_93⟩ := s
      show zSim (zKl (fun s : Int32 × Int32 × zG => zAt E D (zA τ sz) (zQ E D zrI 0 0 sz τ τ r g') 5 (sz, τ, 0, 0) s.2.2 93 [(0, .ref a), (3, .int s.1), (4, .int s.2.1)] []) (fun x : zG => zAt E D (zA τ sz) (zQ E D zrI 0 0 sz τ τ r g') 5 (sz, τ, 0, 0) x 115 [] [])) (l_X0_toNextOrder_93 a l3_93 l4_93 g_93) (zAt E D (zA τ sz) (zQ E D zrI 0 0 sz τ τ r g') 5 (sz, τ, 0, 0) g_93 93 [(0, .ref a), (3, .int l3_93), (4, .int l4_93)] [])
      unfold l_X0_toNextOrder_93
      refine z_iload_n F 1 rfl rfl dX0_toNextOrder_93 ?_
      refine z_iload F 2 rfl dX0_toNextOrder_94 ?_
      refine z_icmp_ge (tgt := 115) F dX0_toNextOrder_96 (by decide) (fun c5 => ?_) (fun c5 => ?_)
      · refine z_sub (lv' := []) [] rfl ?_
        exact z_back (fun h => h)
      · refine z_aload_n F 0 rfl rfl dX0_toNextOrder_99 ?_
        refine z_iload_n F 1 rfl rfl dX0_toNextOrder_100 ?_
        refine z_iload F 2 rfl dX0_toNextOrder_101 ?_
        refine k_X0_swapLetters F (by rw [hR]; exact ⟨by decide, by decide⟩) q_787 hta ⟨Nat.zero_le _, Nat.zero_le _⟩ (Nat.le_of_ble_eq_true rfl) dX0_toNextOrder_103 (fun v6 g7 => ?_)
        refine z_iincl (lv' := fun v8 => [(3, .int v8), (0, .ref a), (4, .int l4_93)]) F 1 rfl (by decide) (by decide) dX0_toNextOrder_106 (fun _ => rfl) (fun v8 => ?_)
        refine z_iincl (lv' := fun v9 => [(4, .int v9), (3, .int v8), (0, .ref a)]) F 2 rfl (by decide) (by decide) dX0_toNextOrder_109 (fun _ => rfl) (fun v9 => ?_)
        refine z_goto (tgt := 93) F dX0_toNextOrder_112 (by decide) ?_
        refine z_sub (lv' := [(0, .ref a), (3, .int v8), (4, .int v9)]) [2, 1, 0] rfl ?_
        exact z_back (fun h => h)
    · show zSim (fun q : Int32 × zG => q = (r, g')) (j_X0_toNextOrder_115 a x) (zAt E D (zA τ sz) (zQ E D zrI 0 0 sz τ τ r g') 5 (sz, τ, 0, 0) x 115 [] [])
      exact hj_X0_toNextOrder_115 x
  have hj_X0_toNextOrder_34 : ∀ (l1_34 : Int32) (g_34 : zG), zSim (fun q : Int32 × zG => q = (r, g')) (j_X0_toNextOrder_34 a l1_34 g_34) (zAt E D (zA τ sz) (zQ E D zrI 0 0 sz τ τ r g') 5 (sz, τ, 0, 0) g_34 34 [(0, .ref a), (1, .int l1_34)] []) := by
    intro l1_34 g_34
    unfold j_X0_toNextOrder_34
    refine z_iload_n F 1 rfl rfl dX0_toNextOrder_34 ?_
    refine z_if_ge (tgt := 40) F dX0_toNextOrder_35 (by decide) (fun c10 => ?_) (fun c10 => ?_)
    · refine z_aload_n F 0 rfl rfl dX0_toNextOrder_40 ?_
      refine gf_X0_21 F hta dX0_toNextOrder_41 ?_
      refine z_iconst (v := 1) F (by decide) dX0_toNextOrder_44 ?_
      refine z_isub F dX0_toNextOrder_45 ?_
      refine z_leti (fun v11 => ?_)
      refine z_istore_n (lv' := [(2, .int v11), (0, .ref a), (1, .int l1_34)]) F rfl (by decide) dX0_toNextOrder_46 rfl ?_
      refine z_sub (lv' := [(0, .ref a), (1, .int l1_34), (2, .int v11)]) [1, 2, 0] rfl ?_
      refine z_loop (P := fun s : Int32 => zAt E D (zA τ sz) (zQ E D zrI 0 0 sz τ τ r g') 5 (sz, τ, 0, 0) g_34 47 [(0, .ref a), (1, .int l1_34), (2, .int s)] []) (Px := fun x : Int32 => zAt E D (zA τ sz) (zQ E D zrI 0 0 sz τ τ r g') 5 (sz, τ, 0, 0) g_34 75 [(0, .ref a), (1, .int l1_34), (2, .int x)] []) v11 (fun s => ?_) (fun x => ?_)
      · generalize s = l2_47
        show zSim (zKl (fun s : Int32 => zAt E D (zA τ sz) (zQ E D zrI 0 0 sz τ τ r g') 5 (sz, τ, 0, 0) g_34 47 [(0, .ref a), (1, .int l1_34), (2, .int s)] []) (fun x : Int32 => zAt E D (zA τ sz) (zQ E D zrI 0 0 sz τ τ r g') 5 (sz, τ, 0, 0) g_34 75 [(0, .ref a), (1, .int l1_34), (2, .int x)] [])) (l_X0_toNextOrder_47 a l1_34 g_34 l2_47) (zAt E D (zA τ sz) (zQ E D zrI 0 0 sz τ τ r g') 5 (sz, τ, 0, 0) g_34 47 [(0, .ref a), (1, .int l1_34), (2, .int l2_47)] [])
        unfold l_X0_toNextOrder_47
        refine z_iload_n F 2 rfl rfl dX0_toNextOrder_47 ?_
        refine z_iload_n F 1 rfl rfl dX0_toNextOrder_48 ?_
        refine z_iconst (v := 1) F (by decide) dX0_toNextOrder_49 ?_
        refine z_iadd F dX0_toNextOrder_50 ?_
        refine z_icmp_le (tgt := 75) F dX0_toNextOrder_51 (by decide) (fun c12 => ?_) (fun c12 => ?_)
        · exact z_back (fun h => h)
        · refine z_aload_n F 0 rfl rfl dX0_toNextOrder_54 ?_
          refine gf_X0_9 F hta dX0_toNextOrder_55 (fun ht13 => ?_)
          refine z_iload_n F 2 rfl rfl dX0_toNextOrder_58 ?_
          refine z_iald F ht13 dX0_toNextOrder_59 ?_
          refine z_aload_n F 0 rfl rfl dX0_toNextOrder_60 ?_
          refine gf_X0_9 F hta dX0_toNextOrder_61 (fun ht14 => ?_)
          refine z_iload_n F 1 rfl rfl dX0_toNextOrder_64 ?_
          refine z_iald F ht14 dX0_toNextOrder_65 ?_
          refine z_icmp_gt (tgt := 75) F dX0_toNextOrder_66 (by decide) (fun c15 => ?_) (fun c15 => ?_)
          · exact z_back (fun h => h)
          · refine z_iincl (lv' := fun v16 => [(2, .int v16), (0, .ref a), (1, .int l1_34)]) F 2 rfl (by decide) (by decide) dX0_toNextOrder_69 (fun _ => rfl) (fun v16 => ?_)
            refine z_goto (tgt := 47) F dX0_toNextOrder_72 (by decide) ?_
            refine z_sub (lv' := [(0, .ref a), (1, .int l1_34), (2, .int v16)]) [1, 2, 0] rfl ?_
            exact z_back (fun h => h)
      · show zSim (fun q : Int32 × zG => q = (r, g')) (j_X0_toNextOrder_75 a l1_34 x g_34) (zAt E D (zA τ sz) (zQ E D zrI 0 0 sz τ τ r g') 5 (sz, τ, 0, 0) g_34 75 [(0, .ref a), (1, .int l1_34), (2, .int x)] [])
        exact hj_X0_toNextOrder_75 l1_34 x g_34
    · refine z_iconst (v := 0) F (by decide) dX0_toNextOrder_38 ?_
      exact z_zreturn F rfl rfl rfl rfl rfl (fun h => h) dX0_toNextOrder_39
  unfold f_X0_toNextOrder
  refine z_aload_n F 0 rfl rfl dX0_toNextOrder_0 ?_
  refine gf_X0_21 F hta dX0_toNextOrder_1 ?_
  refine z_iconst (v := 2) F (by decide) dX0_toNextOrder_4 ?_
  refine z_isub F dX0_toNextOrder_5 ?_
  refine z_leti (fun v17 => ?_)
  refine z_istore_n (lv' := [(1, .int v17), (0, .ref a)]) F rfl (by decide) dX0_toNextOrder_6 rfl ?_
  refine z_sub (lv' := [(0, .ref a), (1, .int v17)]) [1, 0] rfl ?_
  refine z_loop (P := fun s : Int32 => zAt E D (zA τ sz) (zQ E D zrI 0 0 sz τ τ r g') 5 (sz, τ, 0, 0) g 7 [(0, .ref a), (1, .int s)] []) (Px := fun x : Int32 => zAt E D (zA τ sz) (zQ E D zrI 0 0 sz τ τ r g') 5 (sz, τ, 0, 0) g 34 [(0, .ref a), (1, .int x)] []) v17 (fun s => ?_) (fun x => ?_)
  · generalize s = l1_7
    show zSim (zKl (fun s : Int32 => zAt E D (zA τ sz) (zQ E D zrI 0 0 sz τ τ r g') 5 (sz, τ, 0, 0) g 7 [(0, .ref a), (1, .int s)] []) (fun x : Int32 => zAt E D (zA τ sz) (zQ E D zrI 0 0 sz τ τ r g') 5 (sz, τ, 0, 0) g 34 [(0, .ref a), (1, .int x)] [])) (l_X0_toNextOrder_7 a g l1_7) (zAt E D (zA τ sz) (zQ E D zrI 0 0 sz τ τ r g') 5 (sz, τ, 0, 0) g 7 [(0, .ref a), (1, .int l1_7)] [])
    unfold l_X0_toNextOrder_7
    refine z_iload_n F 1 rfl rfl dX0_toNextOrder_7 ?_
    refine z_if_lt (tgt := 34) F dX0_toNextOrder_8 (by decide) (fun c18 => ?_) (fun c18 => ?_)
    · exact z_back (fun h => h)
    · refine z_aload_n F 0 rfl rfl dX0_toNextOrder_11 ?_
      refine gf_X0_9 F hta dX0_toNextOrder_12 (fun ht19 => ?_)
      refine z_iload_n F 1 rfl rfl dX0_toNextOrder_15 ?_
      refine z_iald F ht19 dX0_toNextOrder_16 ?_
      refine z_aload_n F 0 rfl rfl dX0_toNextOrder_17 ?_
      refine gf_X0_9 F hta dX0_toNextOrder_18 (fun ht20 => ?_)
      refine z_iload_n F 1 rfl rfl dX0_toNextOrder_21 ?_
      refine z_iconst (v := 1) F (by decide) dX0_toNextOrder_22 ?_
      refine z_iadd F dX0_toNextOrder_23 ?_
      refine z_iald F ht20 dX0_toNextOrder_24 ?_
      refine z_icmp_lt (tgt := 34) F dX0_toNextOrder_25 (by decide) (fun c21 => ?_) (fun c21 => ?_)
      · exact z_back (fun h => h)
      · refine z_iincl (lv' := fun v22 => [(1, .int v22), (0, .ref a)]) F 1 rfl (by decide) (by decide) dX0_toNextOrder_28 (fun _ => rfl) (fun v22 => ?_)
        refine z_goto (tgt := 7) F dX0_toNextOrder_31 (by decide) ?_
        refine z_sub (lv' := [(0, .ref a), (1, .int v22)]) [1, 0] rfl ?_
        exact z_back (fun h => h)
  · show zSim (fun q : Int32 × zG => q = (r, g')) (j_X0_toNextOrder_34 a x g) (zAt E D (zA τ sz) (zQ E D zrI 0 0 sz τ τ r g') 5 (sz, τ, 0, 0) g 34 [(0, .ref a), (1, .int x)] [])
    exact hj_X0_toNextOrder_34 x g
theorem k_X0_toNextOrder {ρ : Type} {K : ρ → Prop} {E : zE} {D : zD} {A : Nat → Prop} {Q : State → Prop} {nL : Nat} {κ : zC} {g : zG} {pc : Nat} {lv : List (Nat × Value)} {st : List Value} {cc : ByteArray} {own : String} {ret : Option FieldType} (F : zF E D A cc own nL ret) {index : Nat} {h : Int32 → zG → Option ρ} {a : Nat}  (hR : 1 + 1 ≤ E.2.2.2.1.frames ∧ 8 + (5 + 11) + 23 ≤ E.2.2.2.1.locals) (hl : zTbl (.methodLink own index yX0_toNextOrder)) (hta : κ.2.1 a = some (.inr 0)) (hc : κ.2.2.1 ≤ E.2.2.2.1.cells ∧ κ.2.2.2 ≤ E.2.2.2.1.slots) (hW : (st.map fun v => v.category).sum ≤ 8) (hd : decode cc pc = .ok (.invokevirtual index, 3)) (kk : ∀ r g', zSim K (h r g') (zAt E D A Q nL κ g' (pc + 3) lv (.int r :: st))) : zSim K (zb (f_X0_toNextOrder a g) h) (zAt E D A Q nL κ g pc lv (.ref a :: st)) :=
  z_callV F (n := 0) (As := []) (C := (RX0, TX0, 4)) ⟨q_805, q_3, by decide +kernel, rfl, rfl, hR.1, hR.2⟩ (c_X0_toNextOrder E.2.1 D κ.1 κ.2.1 g a hta) hl q_803 q_804 hta rfl rfl rfl hc hW hd kk _ rfl
