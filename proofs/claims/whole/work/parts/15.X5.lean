theorem dX5_beAtFirst_0 : decode cX5_beAtFirst 0 = .ok (.getstatic 38, 3) := by decide +kernel
theorem dX5_beAtFirst_3 : decode cX5_beAtFirst 3 = .ok (.iconst 0, 1) := by decide +kernel
theorem dX5_beAtFirst_4 : decode cX5_beAtFirst 4 = .ok (.aload_n 0, 1) := by decide +kernel
theorem dX5_beAtFirst_5 : decode cX5_beAtFirst 5 = .ok (.getfield 25, 3) := by decide +kernel
theorem dX5_beAtFirst_8 : decode cX5_beAtFirst 8 = .ok (.iconst 0, 1) := by decide +kernel
theorem dX5_beAtFirst_9 : decode cX5_beAtFirst 9 = .ok (.getstatic 38, 3) := by decide +kernel
theorem dX5_beAtFirst_12 : decode cX5_beAtFirst 12 = .ok (.arraylength, 1) := by decide +kernel
theorem dX5_beAtFirst_13 : decode cX5_beAtFirst 13 = .ok (.invokestatic 41, 3) := by decide +kernel
theorem dX5_beAtFirst_16 : decode cX5_beAtFirst 16 = .ok (.aload_n 0, 1) := by decide +kernel
theorem dX5_beAtFirst_17 : decode cX5_beAtFirst 17 = .ok (.getfield 12, 3) := by decide +kernel
theorem dX5_beAtFirst_20 : decode cX5_beAtFirst 20 = .ok (.getstatic 38, 3) := by decide +kernel
theorem dX5_beAtFirst_23 : decode cX5_beAtFirst 23 = .ok (.iconst 0, 1) := by decide +kernel
theorem dX5_beAtFirst_24 : decode cX5_beAtFirst 24 = .ok (.iaload, 1) := by decide +kernel
theorem dX5_beAtFirst_25 : decode cX5_beAtFirst 25 = .ok (.putfield 47, 3) := by decide +kernel
theorem dX5_beAtFirst_28 : decode cX5_beAtFirst 28 = .ok (.iconst 0, 1) := by decide +kernel
theorem dX5_beAtFirst_29 : decode cX5_beAtFirst 29 = .ok (.istore_n 1, 1) := by decide +kernel
theorem dX5_beAtFirst_30 : decode cX5_beAtFirst 30 = .ok (.iload_n 1, 1) := by decide +kernel
theorem dX5_beAtFirst_31 : decode cX5_beAtFirst 31 = .ok (.aload_n 0, 1) := by decide +kernel
theorem dX5_beAtFirst_32 : decode cX5_beAtFirst 32 = .ok (.getfield 12, 3) := by decide +kernel
theorem dX5_beAtFirst_35 : decode cX5_beAtFirst 35 = .ok (.getfield 47, 3) := by decide +kernel
theorem dX5_beAtFirst_38 : decode cX5_beAtFirst 38 = .ok (.if_icmp .ge 21, 3) := by decide +kernel
theorem dX5_beAtFirst_41 : decode cX5_beAtFirst 41 = .ok (.aload_n 0, 1) := by decide +kernel
theorem dX5_beAtFirst_42 : decode cX5_beAtFirst 42 = .ok (.getfield 12, 3) := by decide +kernel
theorem dX5_beAtFirst_45 : decode cX5_beAtFirst 45 = .ok (.getfield 51, 3) := by decide +kernel
theorem dX5_beAtFirst_48 : decode cX5_beAtFirst 48 = .ok (.iload_n 1, 1) := by decide +kernel
theorem dX5_beAtFirst_49 : decode cX5_beAtFirst 49 = .ok (.iload_n 1, 1) := by decide +kernel
theorem dX5_beAtFirst_50 : decode cX5_beAtFirst 50 = .ok (.iconst 1, 1) := by decide +kernel
theorem dX5_beAtFirst_51 : decode cX5_beAtFirst 51 = .ok (.iadd, 1) := by decide +kernel
theorem dX5_beAtFirst_52 : decode cX5_beAtFirst 52 = .ok (.iastore, 1) := by decide +kernel
theorem dX5_beAtFirst_53 : decode cX5_beAtFirst 53 = .ok (.iinc 1 1, 3) := by decide +kernel
theorem dX5_beAtFirst_56 : decode cX5_beAtFirst 56 = .ok (.goto (-26), 3) := by decide +kernel
theorem dX5_beAtFirst_59 : decode cX5_beAtFirst 59 = .ok (.aload_n 0, 1) := by decide +kernel
theorem dX5_beAtFirst_60 : decode cX5_beAtFirst 60 = .ok (.getfield 29, 3) := by decide +kernel
theorem dX5_beAtFirst_63 : decode cX5_beAtFirst 63 = .ok (.iconst 0, 1) := by decide +kernel
theorem dX5_beAtFirst_64 : decode cX5_beAtFirst 64 = .ok (.invokestatic 54, 3) := by decide +kernel
theorem dX5_beAtFirst_67 : decode cX5_beAtFirst 67 = .ok (.aload_n 0, 1) := by decide +kernel
theorem dX5_beAtFirst_68 : decode cX5_beAtFirst 68 = .ok (.getfield 21, 3) := by decide +kernel
theorem dX5_beAtFirst_71 : decode cX5_beAtFirst 71 = .ok (.invokevirtual 60, 3) := by decide +kernel
theorem dX5_beAtFirst_74 : decode cX5_beAtFirst 74 = .ok (.return_, 1) := by decide +kernel
def j_X5_beAtFirst_59 (a : Nat)  (g : zG) : Option (Int32 × zG) :=
  zb (f_J7_fill_53178 60 (g.2.1 a 3) 0 g) (fun v2 g3 => zb (f_X3_clear (g3.2.1 a 1) g3) (fun v5 g6 => some ((0, g6))))
def l_X5_beAtFirst_30 (a : Nat) (l1 : Int32) (g : zG) : Option ((Int32 × zG) ⊕ (zG)) :=
  if (g.1 (g.2.1 a 0) 1) ≤ l1 then (some (.inr g)) else (zc (zin l1 48) (zl (zsi g (g.2.1 (g.2.1 a 0) 0) l1.toNatClampNeg (l1 + 1)) (fun g15 => zl (l1 + 1) (fun v16 => some (.inl (v16, g15))))))
def f_X5_beAtFirst (a : Nat) (g : zG) : Option (Int32 × zG) :=
  zc (zcpok 0 0 8 (zTabN 2) 8) (zl (zcp g (g.2.1 a 2) (zTabF 2) 0 0 8) (fun g8 => zc (zin 0 (zTabN 2)) (zl (zsi g8 (g8.2.1 a 0) 1 (zTabF 2 (0 : Int32).toNatClampNeg)) (fun g10 => zk (zw zN (fun s => l_X5_beAtFirst_30 a s.1 s.2) (0, g10)) (fun x => j_X5_beAtFirst_59 a x)))))
abbrev rm_X5_beAtFirst : Room := { frames := 1, cells := 0, slots := 0, locals := 26 }
set_option maxRecDepth 100000 in
set_option maxHeartbeats 4000000 in
theorem c_X5_beAtFirst (l : Launch) (D : zD) (sz : Nat) (τ : zT) (g : zG) (a : Nat) (hta : τ a = some (.inr 5)) : zCon l D yX5_beAtFirst cX5_beAtFirst 2 none rm_X5_beAtFirst 0 0 zrV [.ref a] sz τ g τ (f_X5_beAtFirst a g) := by
  refine zCon.of (by decide) (Nat.le_of_ble_eq_true rfl) (fun E r g' hl hR hsz hnm F => ?_)
  have F : zF E D (zA τ sz) cX5_beAtFirst "TypeChain$Rules" 2 none := F
  show zSim (fun q : Int32 × zG => q = (r, g')) (f_X5_beAtFirst a g) (zAt E D (zA τ sz) (zQ E D zrV 0 0 sz τ τ r g') 2 (sz, τ, 0, 0) g 0 [(0, .ref a)] [])
  have hj_X5_beAtFirst_59 : ∀  (g_59 : zG), zSim (fun q : Int32 × zG => q = (r, g')) (j_X5_beAtFirst_59 a g_59) (zAt E D (zA τ sz) (zQ E D zrV 0 0 sz τ τ r g') 2 (sz, τ, 0, 0) g_59 59 [(0, .ref a)] []) := by
    intro g_59
    unfold j_X5_beAtFirst_59
    refine z_aload_n F 0 rfl rfl dX5_beAtFirst_59 ?_
    refine gf_X5_29 F hta dX5_beAtFirst_60 (fun ht1 => ?_)
    refine z_iconst (v := 0) F (by decide) dX5_beAtFirst_63 ?_
    refine k_J7_fill_53178 F (by rw [hR]; exact ⟨by decide, by decide⟩) q_114 ht1 ⟨Nat.zero_le _, Nat.zero_le _⟩ (Nat.le_of_ble_eq_true rfl) dX5_beAtFirst_64 (fun v2 g3 => ?_)
    refine z_aload_n F 0 rfl rfl dX5_beAtFirst_67 ?_
    refine gf_X5_21 F hta dX5_beAtFirst_68 (fun ht4 => ?_)
    refine k_X3_clear F (by rw [hR]; exact ⟨by decide, by decide⟩) q_117 ht4 ⟨Nat.zero_le _, Nat.zero_le _⟩ (Nat.le_of_ble_eq_true rfl) dX5_beAtFirst_71 (fun v5 g6 => ?_)
    exact z_vreturn F rfl rfl rfl rfl (fun h => h) dX5_beAtFirst_74
  unfold f_X5_beAtFirst
  refine z_getsN F 2 (by decide) q_109 dX5_beAtFirst_0 ?_
  refine z_iconst (v := 0) F (by decide) dX5_beAtFirst_3 ?_
  refine z_aload_n F 0 rfl rfl dX5_beAtFirst_4 ?_
  refine gf_X5_25 F hta dX5_beAtFirst_5 (fun ht7 => ?_)
  refine z_iconst (v := 0) F (by decide) dX5_beAtFirst_8 ?_
  refine z_getsN F 2 (by decide) q_109 dX5_beAtFirst_9 ?_
  refine z_tlen (v := 8) F 2 (by decide) (by decide) dX5_beAtFirst_12 ?_
  refine z_copyt F 2 (by decide) q_111 q_113 q_112 q_5 ht7 (by rw [hR]; exact ⟨by decide, by decide⟩) (Nat.le_of_ble_eq_true rfl) dX5_beAtFirst_13 ?_
  refine z_letg (fun g8 => ?_)
  refine z_aload_n F 0 rfl rfl dX5_beAtFirst_16 ?_
  refine gf_X5_12 F hta dX5_beAtFirst_17 (fun ht9 => ?_)
  refine z_getsN F 2 (by decide) q_109 dX5_beAtFirst_20 ?_
  refine z_iconst (v := 0) F (by decide) dX5_beAtFirst_23 ?_
  refine z_tald F 2 (by decide) dX5_beAtFirst_24 ?_
  refine pf_X5_47 F ht9 dX5_beAtFirst_25 ?_
  refine z_letg (fun g10 => ?_)
  refine z_iconst (v := 0) F (by decide) dX5_beAtFirst_28 ?_
  refine z_istore_n (lv' := [(1, .int 0), (0, .ref a)]) F rfl (by decide) dX5_beAtFirst_29 rfl ?_
  refine z_sub (lv' := [(0, .ref a), (1, .int 0)]) [1, 0] rfl ?_
  refine z_loop (P := fun s : Int32 × zG => zAt E D (zA τ sz) (zQ E D zrV 0 0 sz τ τ r g') 2 (sz, τ, 0, 0) s.2 30 [(0, .ref a), (1, .int s.1)] []) (Px := fun x : zG => zAt E D (zA τ sz) (zQ E D zrV 0 0 sz τ τ r g') 2 (sz, τ, 0, 0) x 59 [(0, .ref a)] []) (0, g10) (fun s => ?_) (fun x => ?_)
  · obtain ⟨l1_30, g_30⟩ := s
    show zSim (zKl (fun s : Int32 × zG => zAt E D (zA τ sz) (zQ E D zrV 0 0 sz τ τ r g') 2 (sz, τ, 0, 0) s.2 30 [(0, .ref a), (1, .int s.1)] []) (fun x : zG => zAt E D (zA τ sz) (zQ E D zrV 0 0 sz τ τ r g') 2 (sz, τ, 0, 0) x 59 [(0, .ref a)] [])) (l_X5_beAtFirst_30 a l1_30 g_30) (zAt E D (zA τ sz) (zQ E D zrV 0 0 sz τ τ r g') 2 (sz, τ, 0, 0) g_30 30 [(0, .ref a), (1, .int l1_30)] [])
    unfold l_X5_beAtFirst_30
    refine z_iload_n F 1 rfl rfl dX5_beAtFirst_30 ?_
    refine z_aload_n F 0 rfl rfl dX5_beAtFirst_31 ?_
    refine gf_X5_12 F hta dX5_beAtFirst_32 (fun ht11 => ?_)
    refine gf_X5_47 F ht11 dX5_beAtFirst_35 ?_
    refine z_icmp_ge (tgt := 59) F dX5_beAtFirst_38 (by decide) (fun c12 => ?_) (fun c12 => ?_)
    · refine z_sub (lv' := [(0, .ref a)]) [0] rfl ?_
      exact z_back (fun h => h)
    · refine z_aload_n F 0 rfl rfl dX5_beAtFirst_41 ?_
      refine gf_X5_12 F hta dX5_beAtFirst_42 (fun ht13 => ?_)
      refine gf_X5_51 F ht13 dX5_beAtFirst_45 (fun ht14 => ?_)
      refine z_iload_n F 1 rfl rfl dX5_beAtFirst_48 ?_
      refine z_iload_n F 1 rfl rfl dX5_beAtFirst_49 ?_
      refine z_iconst (v := 1) F (by decide) dX5_beAtFirst_50 ?_
      refine z_iadd F dX5_beAtFirst_51 ?_
      refine z_iast F ht14 dX5_beAtFirst_52 ?_
      refine z_letg (fun g15 => ?_)
      refine z_iincl (lv' := fun v16 => [(1, .int v16), (0, .ref a)]) F 1 rfl (by decide) (by decide) dX5_beAtFirst_53 (fun _ => rfl) (fun v16 => ?_)
      refine z_goto (tgt := 30) F dX5_beAtFirst_56 (by decide) ?_
      refine z_sub (lv' := [(0, .ref a), (1, .int v16)]) [1, 0] rfl ?_
      exact z_back (fun h => h)
  · show zSim (fun q : Int32 × zG => q = (r, g')) (j_X5_beAtFirst_59 a x) (zAt E D (zA τ sz) (zQ E D zrV 0 0 sz τ τ r g') 2 (sz, τ, 0, 0) x 59 [(0, .ref a)] [])
    exact hj_X5_beAtFirst_59 x
theorem k_X5_beAtFirst {ρ : Type} {K : ρ → Prop} {E : zE} {D : zD} {A : Nat → Prop} {Q : State → Prop} {nL : Nat} {κ : zC} {g : zG} {pc : Nat} {lv : List (Nat × Value)} {st : List Value} {cc : ByteArray} {own : String} {ret : Option FieldType} (F : zF E D A cc own nL ret) {index : Nat} {h : Int32 → zG → Option ρ} {a : Nat}  (hR : 1 + 1 ≤ E.2.2.2.1.frames ∧ 8 + (2 + 11) + 26 ≤ E.2.2.2.1.locals) (hl : zTbl (.methodLink own index yX5_beAtFirst)) (hta : κ.2.1 a = some (.inr 5)) (hc : κ.2.2.1 ≤ E.2.2.2.1.cells ∧ κ.2.2.2 ≤ E.2.2.2.1.slots) (hW : (st.map fun v => v.category).sum ≤ 8) (hd : decode cc pc = .ok (.invokevirtual index, 3)) (kk : ∀ r g', zSim K (h r g') (zAt E D A Q nL κ g' (pc + 3) lv (st))) : zSim K (zb (f_X5_beAtFirst a g) h) (zAt E D A Q nL κ g pc lv (.ref a :: st)) :=
  z_callV F (n := 0) (As := []) (C := (RX5, TX5, 4)) ⟨q_108, q_2, by decide +kernel, rfl, rfl, hR.1, hR.2⟩ (c_X5_beAtFirst E.2.1 D κ.1 κ.2.1 g a hta) hl q_106 q_107 hta rfl rfl rfl hc hW hd kk _ rfl
theorem dX5_holeCount_0 : decode cX5_holeCount 0 = .ok (.iconst 0, 1) := by decide +kernel
theorem dX5_holeCount_1 : decode cX5_holeCount 1 = .ok (.istore_n 1, 1) := by decide +kernel
theorem dX5_holeCount_2 : decode cX5_holeCount 2 = .ok (.iconst 0, 1) := by decide +kernel
theorem dX5_holeCount_3 : decode cX5_holeCount 3 = .ok (.istore_n 2, 1) := by decide +kernel
theorem dX5_holeCount_4 : decode cX5_holeCount 4 = .ok (.iload_n 2, 1) := by decide +kernel
theorem dX5_holeCount_5 : decode cX5_holeCount 5 = .ok (.bipush 60, 2) := by decide +kernel
theorem dX5_holeCount_7 : decode cX5_holeCount 7 = .ok (.if_icmp .ge 21, 3) := by decide +kernel
theorem dX5_holeCount_10 : decode cX5_holeCount 10 = .ok (.iload_n 1, 1) := by decide +kernel
theorem dX5_holeCount_11 : decode cX5_holeCount 11 = .ok (.aload_n 0, 1) := by decide +kernel
theorem dX5_holeCount_12 : decode cX5_holeCount 12 = .ok (.getfield 29, 3) := by decide +kernel
theorem dX5_holeCount_15 : decode cX5_holeCount 15 = .ok (.iload_n 2, 1) := by decide +kernel
theorem dX5_holeCount_16 : decode cX5_holeCount 16 = .ok (.iaload, 1) := by decide +kernel
theorem dX5_holeCount_17 : decode cX5_holeCount 17 = .ok (.invokestatic 73, 3) := by decide +kernel
theorem dX5_holeCount_20 : decode cX5_holeCount 20 = .ok (.iadd, 1) := by decide +kernel
theorem dX5_holeCount_21 : decode cX5_holeCount 21 = .ok (.istore_n 1, 1) := by decide +kernel
theorem dX5_holeCount_22 : decode cX5_holeCount 22 = .ok (.iinc 2 1, 3) := by decide +kernel
theorem dX5_holeCount_25 : decode cX5_holeCount 25 = .ok (.goto (-21), 3) := by decide +kernel
theorem dX5_holeCount_28 : decode cX5_holeCount 28 = .ok (.iload_n 1, 1) := by decide +kernel
theorem dX5_holeCount_29 : decode cX5_holeCount 29 = .ok (.ireturn, 1) := by decide +kernel
def j_X5_holeCount_28 (a : Nat) (l1 : Int32) (g : zG) : Option (Int32 × zG) :=
  some ((l1, g))
def l_X5_holeCount_4 (a : Nat) (l1 : Int32) (l2 : Int32) (g : zG) : Option ((Int32 × Int32 × zG) ⊕ (Int32 × zG)) :=
  if 60 ≤ l2 then (some (.inr (l1, g))) else (zc (zin l2 60) (zb (f_J6_bitCount_0f7a4 (g.1 (g.2.1 a 3) l2.toNatClampNeg) g) (fun v3 g4 => zl (l1 + v3) (fun v5 => zl (l2 + 1) (fun v6 => some (.inl (v5, v6, g4)))))))
def f_X5_holeCount (a : Nat) (g : zG) : Option (Int32 × zG) :=
  zk (zw zN (fun s => l_X5_holeCount_4 a s.1 s.2.1 s.2.2) (0, 0, g)) (fun x => j_X5_holeCount_28 a x.1 x.2)
abbrev rm_X5_holeCount : Room := { frames := 1, cells := 0, slots := 0, locals := 20 }
set_option maxRecDepth 100000 in
set_option maxHeartbeats 4000000 in
theorem c_X5_holeCount (l : Launch) (D : zD) (sz : Nat) (τ : zT) (g : zG) (a : Nat) (hta : τ a = some (.inr 5)) : zCon l D yX5_holeCount cX5_holeCount 3 (some .int) rm_X5_holeCount 0 0 zrI [.ref a] sz τ g τ (f_X5_holeCount a g) := by
  refine zCon.of (by decide) (Nat.le_of_ble_eq_true rfl) (fun E r g' hl hR hsz hnm F => ?_)
  have F : zF E D (zA τ sz) cX5_holeCount "TypeChain$Rules" 3 (some .int) := F
  show zSim (fun q : Int32 × zG => q = (r, g')) (f_X5_holeCount a g) (zAt E D (zA τ sz) (zQ E D zrI 0 0 sz τ τ r g') 3 (sz, τ, 0, 0) g 0 [(0, .ref a)] [])
  have hj_X5_holeCount_28 : ∀ (l1_28 : Int32) (g_28 : zG), zSim (fun q : Int32 × zG => q = (r, g')) (j_X5_holeCount_28 a l1_28 g_28) (zAt E D (zA τ sz) (zQ E D zrI 0 0 sz τ τ r g') 3 (sz, τ, 0, 0) g_28 28 [(1, .int l1_28)] []) := by
    intro l1_28 g_28
    unfold j_X5_holeCount_28
    refine z_iload_n F 0 rfl rfl dX5_holeCount_28 ?_
    exact z_ireturn F rfl rfl rfl rfl (fun h => h) dX5_holeCount_29
  unfold f_X5_holeCount
  refine z_iconst (v := 0) F (by decide) dX5_holeCount_0 ?_
  refine z_istore_n (lv' := [(1, .int 0), (0, .ref a)]) F rfl (by decide) dX5_holeCount_1 rfl ?_
  refine z_iconst (v := 0) F (by decide) dX5_holeCount_2 ?_
  refine z_istore_n (lv' := [(2, .int 0), (1, .int 0), (0, .ref a)]) F rfl (by decide) dX5_holeCount_3 rfl ?_
  refine z_sub (lv' := [(0, .ref a), (1, .int 0), (2, .int 0)]) [2, 1, 0] rfl ?_
  refine z_loop (P := fun s : Int32 × Int32 × zG => zAt E D (zA τ sz) (zQ E D zrI 0 0 sz τ τ r g') 3 (sz, τ, 0, 0) s.2.2 4 [(0, .ref a), (1, .int s.1), (2, .int s.2.1)] []) (Px := fun x : Int32 × zG => zAt E D (zA τ sz) (zQ E D zrI 0 0 sz τ τ r g') 3 (sz, τ, 0, 0) x.2 28 [(1, .int x.1)] []) (0, 0, g) (fun s => ?_) (fun x => ?_)
  · obtain ⟨l1_4, l2_4, g_4⟩ := s
    show zSim (zKl (fun s : Int32 × Int32 × zG => zAt E D (zA τ sz) (zQ E D zrI 0 0 sz τ τ r g') 3 (sz, τ, 0, 0) s.2.2 4 [(0, .ref a), (1, .int s.1), (2, .int s.2.1)] []) (fun x : Int32 × zG => zAt E D (zA τ sz) (zQ E D zrI 0 0 sz τ τ r g') 3 (sz, τ, 0, 0) x.2 28 [(1, .int x.1)] [])) (l_X5_holeCount_4 a l1_4 l2_4 g_4) (zAt E D (zA τ sz) (zQ E D zrI 0 0 sz τ τ r g') 3 (sz, τ, 0, 0) g_4 4 [(0, .ref a), (1, .int l1_4), (2, .int l2_4)] [])
    unfold l_X5_holeCount_4
    refine z_iload_n F 2 rfl rfl dX5_holeCount_4 ?_
    refine z_bipush (v := 60) F (by decide) dX5_holeCount_5 ?_
    refine z_icmp_ge (tgt := 28) F dX5_holeCount_7 (by decide) (fun c1 => ?_) (fun c1 => ?_)
    · refine z_sub (lv' := [(1, .int l1_4)]) [1] rfl ?_
      exact z_back (fun h => h)
    · refine z_iload_n F 1 rfl rfl dX5_holeCount_10 ?_
      refine z_aload_n F 0 rfl rfl dX5_holeCount_11 ?_
      refine gf_X5_29 F hta dX5_holeCount_12 (fun ht2 => ?_)
      refine z_iload_n F 2 rfl rfl dX5_holeCount_15 ?_
      refine z_iald F ht2 dX5_holeCount_16 ?_
      refine k_J6_bitCount_0f7a4 F (by rw [hR]; exact ⟨by decide, by decide⟩) q_129  ⟨Nat.zero_le _, Nat.zero_le _⟩ (Nat.le_of_ble_eq_true rfl) dX5_holeCount_17 (fun v3 g4 => ?_)
      refine z_iadd F dX5_holeCount_20 ?_
      refine z_leti (fun v5 => ?_)
      refine z_istore_n (lv' := [(1, .int v5), (0, .ref a), (2, .int l2_4)]) F rfl (by decide) dX5_holeCount_21 rfl ?_
      refine z_iincl (lv' := fun v6 => [(2, .int v6), (1, .int v5), (0, .ref a)]) F 2 rfl (by decide) (by decide) dX5_holeCount_22 (fun _ => rfl) (fun v6 => ?_)
      refine z_goto (tgt := 4) F dX5_holeCount_25 (by decide) ?_
      refine z_sub (lv' := [(0, .ref a), (1, .int v5), (2, .int v6)]) [2, 1, 0] rfl ?_
      exact z_back (fun h => h)
  · show zSim (fun q : Int32 × zG => q = (r, g')) (j_X5_holeCount_28 a x.1 x.2) (zAt E D (zA τ sz) (zQ E D zrI 0 0 sz τ τ r g') 3 (sz, τ, 0, 0) x.2 28 [(1, .int x.1)] [])
    exact hj_X5_holeCount_28 x.1 x.2
theorem k_X5_holeCount {ρ : Type} {K : ρ → Prop} {E : zE} {D : zD} {A : Nat → Prop} {Q : State → Prop} {nL : Nat} {κ : zC} {g : zG} {pc : Nat} {lv : List (Nat × Value)} {st : List Value} {cc : ByteArray} {own : String} {ret : Option FieldType} (F : zF E D A cc own nL ret) {index : Nat} {h : Int32 → zG → Option ρ} {a : Nat}  (hR : 1 + 1 ≤ E.2.2.2.1.frames ∧ 8 + (3 + 11) + 20 ≤ E.2.2.2.1.locals) (hl : zTbl (.methodLink own index yX5_holeCount)) (hta : κ.2.1 a = some (.inr 5)) (hc : κ.2.2.1 ≤ E.2.2.2.1.cells ∧ κ.2.2.2 ≤ E.2.2.2.1.slots) (hW : (st.map fun v => v.category).sum ≤ 8) (hd : decode cc pc = .ok (.invokevirtual index, 3)) (kk : ∀ r g', zSim K (h r g') (zAt E D A Q nL κ g' (pc + 3) lv (.int r :: st))) : zSim K (zb (f_X5_holeCount a g) h) (zAt E D A Q nL κ g pc lv (.ref a :: st)) :=
  z_callV F (n := 0) (As := []) (C := (RX5, TX5, 4)) ⟨q_128, q_2, by decide +kernel, rfl, rfl, hR.1, hR.2⟩ (c_X5_holeCount E.2.1 D κ.1 κ.2.1 g a hta) hl q_126 q_127 hta rfl rfl rfl hc hW hd kk _ rfl
theorem dX5_rowsToHole_0 : decode cX5_rowsToHole 0 = .ok (.aload_n 0, 1) := by decide +kernel
theorem dX5_rowsToHole_1 : decode cX5_rowsToHole 1 = .ok (.getfield 25, 3) := by decide +kernel
theorem dX5_rowsToHole_4 : decode cX5_rowsToHole 4 = .ok (.bipush 7, 2) := by decide +kernel
theorem dX5_rowsToHole_6 : decode cX5_rowsToHole 6 = .ok (.iaload, 1) := by decide +kernel
theorem dX5_rowsToHole_7 : decode cX5_rowsToHole 7 = .ok (.istore_n 3, 1) := by decide +kernel
theorem dX5_rowsToHole_8 : decode cX5_rowsToHole 8 = .ok (.iload_n 1, 1) := by decide +kernel
theorem dX5_rowsToHole_9 : decode cX5_rowsToHole 9 = .ok (.istore 4, 2) := by decide +kernel
theorem dX5_rowsToHole_11 : decode cX5_rowsToHole 11 = .ok (.iconst 1, 1) := by decide +kernel
theorem dX5_rowsToHole_12 : decode cX5_rowsToHole 12 = .ok (.istore 5, 2) := by decide +kernel
theorem dX5_rowsToHole_14 : decode cX5_rowsToHole 14 = .ok (.iload 5, 2) := by decide +kernel
theorem dX5_rowsToHole_16 : decode cX5_rowsToHole 16 = .ok (.iload_n 3, 1) := by decide +kernel
theorem dX5_rowsToHole_17 : decode cX5_rowsToHole 17 = .ok (.if_icmp .gt 44, 3) := by decide +kernel
theorem dX5_rowsToHole_20 : decode cX5_rowsToHole 20 = .ok (.iload 4, 2) := by decide +kernel
theorem dX5_rowsToHole_22 : decode cX5_rowsToHole 22 = .ok (.iconst 1, 1) := by decide +kernel
theorem dX5_rowsToHole_23 : decode cX5_rowsToHole 23 = .ok (.iadd, 1) := by decide +kernel
theorem dX5_rowsToHole_24 : decode cX5_rowsToHole 24 = .ok (.iload_n 3, 1) := by decide +kernel
theorem dX5_rowsToHole_25 : decode cX5_rowsToHole 25 = .ok (.if_icmp .ge 10, 3) := by decide +kernel
theorem dX5_rowsToHole_28 : decode cX5_rowsToHole 28 = .ok (.iload 4, 2) := by decide +kernel
theorem dX5_rowsToHole_30 : decode cX5_rowsToHole 30 = .ok (.iconst 1, 1) := by decide +kernel
theorem dX5_rowsToHole_31 : decode cX5_rowsToHole 31 = .ok (.iadd, 1) := by decide +kernel
theorem dX5_rowsToHole_32 : decode cX5_rowsToHole 32 = .ok (.goto 4, 3) := by decide +kernel
theorem dX5_rowsToHole_35 : decode cX5_rowsToHole 35 = .ok (.iconst 0, 1) := by decide +kernel
theorem dX5_rowsToHole_36 : decode cX5_rowsToHole 36 = .ok (.istore 4, 2) := by decide +kernel
theorem dX5_rowsToHole_38 : decode cX5_rowsToHole 38 = .ok (.aload_n 0, 1) := by decide +kernel
theorem dX5_rowsToHole_39 : decode cX5_rowsToHole 39 = .ok (.getfield 29, 3) := by decide +kernel
theorem dX5_rowsToHole_42 : decode cX5_rowsToHole 42 = .ok (.iload 4, 2) := by decide +kernel
theorem dX5_rowsToHole_44 : decode cX5_rowsToHole 44 = .ok (.iaload, 1) := by decide +kernel
theorem dX5_rowsToHole_45 : decode cX5_rowsToHole 45 = .ok (.iload_n 2, 1) := by decide +kernel
theorem dX5_rowsToHole_46 : decode cX5_rowsToHole 46 = .ok (.ishr, 1) := by decide +kernel
theorem dX5_rowsToHole_47 : decode cX5_rowsToHole 47 = .ok (.iconst 1, 1) := by decide +kernel
theorem dX5_rowsToHole_48 : decode cX5_rowsToHole 48 = .ok (.iand, 1) := by decide +kernel
theorem dX5_rowsToHole_49 : decode cX5_rowsToHole 49 = .ok (.ifCond .eq 6, 3) := by decide +kernel
theorem dX5_rowsToHole_52 : decode cX5_rowsToHole 52 = .ok (.iload 5, 2) := by decide +kernel
theorem dX5_rowsToHole_54 : decode cX5_rowsToHole 54 = .ok (.ireturn, 1) := by decide +kernel
theorem dX5_rowsToHole_55 : decode cX5_rowsToHole 55 = .ok (.iinc 5 1, 3) := by decide +kernel
theorem dX5_rowsToHole_58 : decode cX5_rowsToHole 58 = .ok (.goto (-44), 3) := by decide +kernel
theorem dX5_rowsToHole_61 : decode cX5_rowsToHole 61 = .ok (.bipush (-4), 2) := by decide +kernel
theorem dX5_rowsToHole_63 : decode cX5_rowsToHole 63 = .ok (.ireturn, 1) := by decide +kernel
def j_X5_rowsToHole_52 (a : Nat) (l5 : Int32) (g : zG) : Option (Int32 × zG) :=
  some ((l5, g))
def j_X5_rowsToHole_36_14 (a : Nat) (l2 : Int32) (l3 : Int32) (l5 : Int32) (s0 : Int32) (g : zG) : Option ((Int32 × Int32) ⊕ ((Int32) ⊕ (Int32 × zG))) :=
  zc (zin s0 60) (if ((zshr (g.1 (g.2.1 a 3) s0.toNatClampNeg) l2) &&& 1) = 0 then (zl (l5 + 1) (fun v5 => some (.inl (s0, v5)))) else (some (.inr (.inl l5))))
def l_X5_rowsToHole_14 (a : Nat) (l2 : Int32) (l3 : Int32) (g : zG) (l4 : Int32) (l5 : Int32) : Option ((Int32 × Int32) ⊕ ((Int32) ⊕ (Int32 × zG))) :=
  if l3 < l5 then (some (.inr (.inr ((-4), g)))) else (if l3 ≤ (l4 + 1) then (j_X5_rowsToHole_36_14 a l2 l3 l5 0 g) else (j_X5_rowsToHole_36_14 a l2 l3 l5 (l4 + 1) g))
def f_X5_rowsToHole (a : Nat) (x1 : Int32) (x2 : Int32) (g : zG) : Option (Int32 × zG) :=
  zc (zin 7 8) (zl (g.1 (g.2.1 a 2) (7 : Int32).toNatClampNeg) (fun v2 => zk2 (zw zN (fun s => l_X5_rowsToHole_14 a x2 v2 g s.1 s.2) (x1, 1)) (fun x => j_X5_rowsToHole_52 a x g)))
abbrev rm_X5_rowsToHole : Room := { frames := 0, cells := 0, slots := 0, locals := 0 }
set_option maxRecDepth 100000 in
set_option maxHeartbeats 4000000 in
theorem c_X5_rowsToHole (l : Launch) (D : zD) (sz : Nat) (τ : zT) (g : zG) (a : Nat) (x1 : Int32) (x2 : Int32) (hta : τ a = some (.inr 5)) : zCon l D yX5_rowsToHole cX5_rowsToHole 6 (some .int) rm_X5_rowsToHole 0 0 zrI [.ref a, .int x1, .int x2] sz τ g τ (f_X5_rowsToHole a x1 x2 g) := by
  refine zCon.of (by decide) (Nat.le_of_ble_eq_true rfl) (fun E r g' hl hR hsz hnm F => ?_)
  have F : zF E D (zA τ sz) cX5_rowsToHole "TypeChain$Rules" 6 (some .int) := F
  show zSim (fun q : Int32 × zG => q = (r, g')) (f_X5_rowsToHole a x1 x2 g) (zAt E D (zA τ sz) (zQ E D zrI 0 0 sz τ τ r g') 6 (sz, τ, 0, 0) g 0 [(0, .ref a), (1, .int x1), (2, .int x2)] [])
  have hj_X5_rowsToHole_52 : ∀ (l5_52 : Int32) (g_52 : zG), zSim (fun q : Int32 × zG => q = (r, g')) (j_X5_rowsToHole_52 a l5_52 g_52) (zAt E D (zA τ sz) (zQ E D zrI 0 0 sz τ τ r g') 6 (sz, τ, 0, 0) g_52 52 [(5, .int l5_52)] []) := by
    intro l5_52 g_52
    unfold j_X5_rowsToHole_52
    refine z_iload F 0 rfl dX5_rowsToHole_52 ?_
    exact z_ireturn F rfl rfl rfl rfl (fun h => h) dX5_rowsToHole_54
  unfold f_X5_rowsToHole
  refine z_aload_n F 0 rfl rfl dX5_rowsToHole_0 ?_
  refine gf_X5_25 F hta dX5_rowsToHole_1 (fun ht1 => ?_)
  refine z_bipush (v := 7) F (by decide) dX5_rowsToHole_4 ?_
  refine z_iald F ht1 dX5_rowsToHole_6 ?_
  refine z_leti (fun v2 => ?_)
  refine z_istore_n (lv' := [(3, .int v2), (0, .ref a), (1, .int x1), (2, .int x2)]) F rfl (by decide) dX5_rowsToHole_7 rfl ?_
  refine z_iload_n F 2 rfl rfl dX5_rowsToHole_8 ?_
  refine z_istore (lv' := [(4, .int x1), (3, .int v2), (0, .ref a), (1, .int x1), (2, .int x2)]) F (by decide) dX5_rowsToHole_9 rfl ?_
  refine z_iconst (v := 1) F (by decide) dX5_rowsToHole_11 ?_
  refine z_istore (lv' := [(5, .int 1), (4, .int x1), (3, .int v2), (0, .ref a), (1, .int x1), (2, .int x2)]) F (by decide) dX5_rowsToHole_12 rfl ?_
  refine z_sub (lv' := [(0, .ref a), (2, .int x2), (3, .int v2), (4, .int x1), (5, .int 1)]) [3, 5, 2, 1, 0] rfl ?_
  refine z_loop2 (P := fun s : Int32 × Int32 => zAt E D (zA τ sz) (zQ E D zrI 0 0 sz τ τ r g') 6 (sz, τ, 0, 0) g 14 [(0, .ref a), (2, .int x2), (3, .int v2), (4, .int s.1), (5, .int s.2)] []) (Px := fun x : Int32 => zAt E D (zA τ sz) (zQ E D zrI 0 0 sz τ τ r g') 6 (sz, τ, 0, 0) g 52 [(5, .int x)] []) (x1, 1) (fun s => ?_) (fun x => ?_)
  · obtain ⟨l4_14, l5_14⟩ := s
    show zSim (zKl (fun s : Int32 × Int32 => zAt E D (zA τ sz) (zQ E D zrI 0 0 sz τ τ r g') 6 (sz, τ, 0, 0) g 14 [(0, .ref a), (2, .int x2), (3, .int v2), (4, .int s.1), (5, .int s.2)] []) (zKl (fun x : Int32 => zAt E D (zA τ sz) (zQ E D zrI 0 0 sz τ τ r g') 6 (sz, τ, 0, 0) g 52 [(5, .int x)] []) (fun q : Int32 × zG => q = (r, g')))) (l_X5_rowsToHole_14 a x2 v2 g l4_14 l5_14) (zAt E D (zA τ sz) (zQ E D zrI 0 0 sz τ τ r g') 6 (sz, τ, 0, 0) g 14 [(0, .ref a), (2, .int x2), (3, .int v2), (4, .int l4_14), (5, .int l5_14)] [])
    have hj_X5_rowsToHole_36_14 : ∀ (l5_36 : Int32) (s0_36 : Int32), zSim (zKl (fun s : Int32 × Int32 => zAt E D (zA τ sz) (zQ E D zrI 0 0 sz τ τ r g') 6 (sz, τ, 0, 0) g 14 [(0, .ref a), (2, .int x2), (3, .int v2), (4, .int s.1), (5, .int s.2)] []) (zKl (fun x : Int32 => zAt E D (zA τ sz) (zQ E D zrI 0 0 sz τ τ r g') 6 (sz, τ, 0, 0) g 52 [(5, .int x)] []) (fun q : Int32 × zG => q = (r, g')))) (j_X5_rowsToHole_36_14 a x2 v2 l5_36 s0_36 g) (zAt E D (zA τ sz) (zQ E D zrI 0 0 sz τ τ r g') 6 (sz, τ, 0, 0) g 36 [(0, .ref a), (2, .int x2), (3, .int v2), (5, .int l5_36)] [.int s0_36]) := by
      intro l5_36 s0_36
      unfold j_X5_rowsToHole_36_14
      refine z_istore (lv' := [(4, .int s0_36), (0, .ref a), (2, .int x2), (3, .int v2), (5, .int l5_36)]) F (by decide) dX5_rowsToHole_36 rfl ?_
      refine z_aload_n F 1 rfl rfl dX5_rowsToHole_38 ?_
      refine gf_X5_29 F hta dX5_rowsToHole_39 (fun ht3 => ?_)
      refine z_iload F 0 rfl dX5_rowsToHole_42 ?_
      refine z_iald F ht3 dX5_rowsToHole_44 ?_
      refine z_iload_n F 2 rfl rfl dX5_rowsToHole_45 ?_
      refine z_ishr F dX5_rowsToHole_46 ?_
      refine z_iconst (v := 1) F (by decide) dX5_rowsToHole_47 ?_
      refine z_iand F dX5_rowsToHole_48 ?_
      refine z_if_eq (tgt := 55) F dX5_rowsToHole_49 (by decide) (fun c4 => ?_) (fun c4 => ?_)
      · refine z_iincl (lv' := fun v5 => [(5, .int v5), (4, .int s0_36), (0, .ref a), (2, .int x2), (3, .int v2)]) F 4 rfl (by decide) (by decide) dX5_rowsToHole_55 (fun _ => rfl) (fun v5 => ?_)
        refine z_goto (tgt := 14) F dX5_rowsToHole_58 (by decide) ?_
        refine z_sub (lv' := [(0, .ref a), (2, .int x2), (3, .int v2), (4, .int s0_36), (5, .int v5)]) [2, 3, 4, 1, 0] rfl ?_
        exact z_back (fun h => h)
      · refine z_sub (lv' := [(5, .int l5_36)]) [4] rfl ?_
        exact z_back (fun h => h)
    unfold l_X5_rowsToHole_14
    refine z_iload F 4 rfl dX5_rowsToHole_14 ?_
    refine z_iload_n F 2 rfl rfl dX5_rowsToHole_16 ?_
    refine z_icmp_gt (tgt := 61) F dX5_rowsToHole_17 (by decide) (fun c6 => ?_) (fun c6 => ?_)
    · refine z_bipush (v := (-4)) F (by decide) dX5_rowsToHole_61 ?_
      exact z_ireturn F rfl rfl rfl rfl (fun h => h) dX5_rowsToHole_63
    · refine z_iload F 3 rfl dX5_rowsToHole_20 ?_
      refine z_iconst (v := 1) F (by decide) dX5_rowsToHole_22 ?_
      refine z_iadd F dX5_rowsToHole_23 ?_
      refine z_iload_n F 2 rfl rfl dX5_rowsToHole_24 ?_
      refine z_icmp_ge (tgt := 35) F dX5_rowsToHole_25 (by decide) (fun c7 => ?_) (fun c7 => ?_)
      · refine z_iconst (v := 0) F (by decide) dX5_rowsToHole_35 ?_
        refine z_sub (lv' := [(0, .ref a), (2, .int x2), (3, .int v2), (5, .int l5_14)]) [0, 1, 2, 4] rfl ?_
        exact hj_X5_rowsToHole_36_14 l5_14 0
      · refine z_iload F 3 rfl dX5_rowsToHole_28 ?_
        refine z_iconst (v := 1) F (by decide) dX5_rowsToHole_30 ?_
        refine z_iadd F dX5_rowsToHole_31 ?_
        refine z_goto (tgt := 36) F dX5_rowsToHole_32 (by decide) ?_
        refine z_sub (lv' := [(0, .ref a), (2, .int x2), (3, .int v2), (5, .int l5_14)]) [0, 1, 2, 4] rfl ?_
        exact hj_X5_rowsToHole_36_14 l5_14 (l4_14 + 1)
  · show zSim (fun q : Int32 × zG => q = (r, g')) (j_X5_rowsToHole_52 a x g) (zAt E D (zA τ sz) (zQ E D zrI 0 0 sz τ τ r g') 6 (sz, τ, 0, 0) g 52 [(5, .int x)] [])
    exact hj_X5_rowsToHole_52 x g
theorem k_X5_rowsToHole {ρ : Type} {K : ρ → Prop} {E : zE} {D : zD} {A : Nat → Prop} {Q : State → Prop} {nL : Nat} {κ : zC} {g : zG} {pc : Nat} {lv : List (Nat × Value)} {st : List Value} {cc : ByteArray} {own : String} {ret : Option FieldType} (F : zF E D A cc own nL ret) {index : Nat} {h : Int32 → zG → Option ρ} {a : Nat} {x1 : Int32} {x2 : Int32}  (hR : 0 + 1 ≤ E.2.2.2.1.frames ∧ 8 + (6 + 11) + 0 ≤ E.2.2.2.1.locals) (hl : zTbl (.methodLink own index yX5_rowsToHole)) (hta : κ.2.1 a = some (.inr 5)) (hc : κ.2.2.1 ≤ E.2.2.2.1.cells ∧ κ.2.2.2 ≤ E.2.2.2.1.slots) (hW : (st.map fun v => v.category).sum ≤ 8) (hd : decode cc pc = .ok (.invokevirtual index, 3)) (kk : ∀ r g', zSim K (h r g') (zAt E D A Q nL κ g' (pc + 3) lv (.int r :: st))) : zSim K (zb (f_X5_rowsToHole a x1 x2 g) h) (zAt E D A Q nL κ g pc lv (.int x2 :: .int x1 :: .ref a :: st)) :=
  z_callV F (n := 2) (As := [.int x1, .int x2]) (C := (RX5, TX5, 4)) ⟨q_736, q_2, by decide +kernel, rfl, rfl, hR.1, hR.2⟩ (c_X5_rowsToHole E.2.1 D κ.1 κ.2.1 g a x1 x2 hta) hl q_734 q_735 hta rfl rfl rfl hc hW hd kk _ rfl
theorem dX5_settle_0 : decode cX5_settle 0 = .ok (.aload_n 0, 1) := by decide +kernel
theorem dX5_settle_1 : decode cX5_settle 1 = .ok (.getfield 12, 3) := by decide +kernel
theorem dX5_settle_4 : decode cX5_settle 4 = .ok (.aload_n 0, 1) := by decide +kernel
theorem dX5_settle_5 : decode cX5_settle 5 = .ok (.getfield 25, 3) := by decide +kernel
theorem dX5_settle_8 : decode cX5_settle 8 = .ok (.iconst 1, 1) := by decide +kernel
theorem dX5_settle_9 : decode cX5_settle 9 = .ok (.iaload, 1) := by decide +kernel
theorem dX5_settle_10 : decode cX5_settle 10 = .ok (.putfield 63, 3) := by decide +kernel
theorem dX5_settle_13 : decode cX5_settle 13 = .ok (.aload_n 0, 1) := by decide +kernel
theorem dX5_settle_14 : decode cX5_settle 14 = .ok (.getfield 12, 3) := by decide +kernel
theorem dX5_settle_17 : decode cX5_settle 17 = .ok (.aload_n 0, 1) := by decide +kernel
theorem dX5_settle_18 : decode cX5_settle 18 = .ok (.getfield 25, 3) := by decide +kernel
theorem dX5_settle_21 : decode cX5_settle 21 = .ok (.iconst 2, 1) := by decide +kernel
theorem dX5_settle_22 : decode cX5_settle 22 = .ok (.iaload, 1) := by decide +kernel
theorem dX5_settle_23 : decode cX5_settle 23 = .ok (.putfield 66, 3) := by decide +kernel
theorem dX5_settle_26 : decode cX5_settle 26 = .ok (.aload_n 0, 1) := by decide +kernel
theorem dX5_settle_27 : decode cX5_settle 27 = .ok (.invokevirtual 69, 3) := by decide +kernel
theorem dX5_settle_30 : decode cX5_settle 30 = .ok (.ifCond .ne 10, 3) := by decide +kernel
theorem dX5_settle_33 : decode cX5_settle 33 = .ok (.aload_n 0, 1) := by decide +kernel
theorem dX5_settle_34 : decode cX5_settle 34 = .ok (.getfield 29, 3) := by decide +kernel
theorem dX5_settle_37 : decode cX5_settle 37 = .ok (.iconst 0, 1) := by decide +kernel
theorem dX5_settle_38 : decode cX5_settle 38 = .ok (.iconst 1, 1) := by decide +kernel
theorem dX5_settle_39 : decode cX5_settle 39 = .ok (.iastore, 1) := by decide +kernel
theorem dX5_settle_40 : decode cX5_settle 40 = .ok (.return_, 1) := by decide +kernel
def f_X5_settle (a : Nat) (g : zG) : Option (Int32 × zG) :=
  zc (zin 1 8) (zl (zsi g (g.2.1 a 0) 2 (g.1 (g.2.1 a 2) (1 : Int32).toNatClampNeg)) (fun g3 => zc (zin 2 8) (zl (zsi g3 (g3.2.1 a 0) 3 (g3.1 (g3.2.1 a 2) (2 : Int32).toNatClampNeg)) (fun g6 => zb (f_X5_holeCount a g6) (fun v7 g8 => if v7 = 0 then (zc (zin 0 60) (zl (zsi g8 (g8.2.1 a 3) (0 : Int32).toNatClampNeg 1) (fun g11 => some ((0, g11))))) else (some ((0, g8))))))))
abbrev rm_X5_settle : Room := { frames := 2, cells := 0, slots := 0, locals := 42 }
set_option maxRecDepth 100000 in
set_option maxHeartbeats 4000000 in
theorem c_X5_settle (l : Launch) (D : zD) (sz : Nat) (τ : zT) (g : zG) (a : Nat) (hta : τ a = some (.inr 5)) : zCon l D yX5_settle cX5_settle 1 none rm_X5_settle 0 0 zrV [.ref a] sz τ g τ (f_X5_settle a g) := by
  refine zCon.of (by decide) (Nat.le_of_ble_eq_true rfl) (fun E r g' hl hR hsz hnm F => ?_)
  have F : zF E D (zA τ sz) cX5_settle "TypeChain$Rules" 1 none := F
  show zSim (fun q : Int32 × zG => q = (r, g')) (f_X5_settle a g) (zAt E D (zA τ sz) (zQ E D zrV 0 0 sz τ τ r g') 1 (sz, τ, 0, 0) g 0 [(0, .ref a)] [])
  unfold f_X5_settle
  refine z_aload_n F 0 rfl rfl dX5_settle_0 ?_
  refine gf_X5_12 F hta dX5_settle_1 (fun ht1 => ?_)
  refine z_aload_n F 0 rfl rfl dX5_settle_4 ?_
  refine gf_X5_25 F hta dX5_settle_5 (fun ht2 => ?_)
  refine z_iconst (v := 1) F (by decide) dX5_settle_8 ?_
  refine z_iald F ht2 dX5_settle_9 ?_
  refine pf_X5_63 F ht1 dX5_settle_10 ?_
  refine z_letg (fun g3 => ?_)
  refine z_aload_n F 0 rfl rfl dX5_settle_13 ?_
  refine gf_X5_12 F hta dX5_settle_14 (fun ht4 => ?_)
  refine z_aload_n F 0 rfl rfl dX5_settle_17 ?_
  refine gf_X5_25 F hta dX5_settle_18 (fun ht5 => ?_)
  refine z_iconst (v := 2) F (by decide) dX5_settle_21 ?_
  refine z_iald F ht5 dX5_settle_22 ?_
  refine pf_X5_66 F ht4 dX5_settle_23 ?_
  refine z_letg (fun g6 => ?_)
  refine z_aload_n F 0 rfl rfl dX5_settle_26 ?_
  refine k_X5_holeCount F (by rw [hR]; exact ⟨by decide, by decide⟩) q_125 hta ⟨Nat.zero_le _, Nat.zero_le _⟩ (Nat.le_of_ble_eq_true rfl) dX5_settle_27 (fun v7 g8 => ?_)
  refine z_if_ne (tgt := 40) F dX5_settle_30 (by decide) (fun c9 => ?_) (fun c9 => ?_)
  · refine z_aload_n F 0 rfl rfl dX5_settle_33 ?_
    refine gf_X5_29 F hta dX5_settle_34 (fun ht10 => ?_)
    refine z_iconst (v := 0) F (by decide) dX5_settle_37 ?_
    refine z_iconst (v := 1) F (by decide) dX5_settle_38 ?_
    refine z_iast F ht10 dX5_settle_39 ?_
    refine z_letg (fun g11 => ?_)
    exact z_vreturn F rfl rfl rfl rfl (fun h => h) dX5_settle_40
  · exact z_vreturn F rfl rfl rfl rfl (fun h => h) dX5_settle_40
theorem k_X5_settle {ρ : Type} {K : ρ → Prop} {E : zE} {D : zD} {A : Nat → Prop} {Q : State → Prop} {nL : Nat} {κ : zC} {g : zG} {pc : Nat} {lv : List (Nat × Value)} {st : List Value} {cc : ByteArray} {own : String} {ret : Option FieldType} (F : zF E D A cc own nL ret) {index : Nat} {h : Int32 → zG → Option ρ} {a : Nat}  (hR : 2 + 1 ≤ E.2.2.2.1.frames ∧ 8 + (1 + 11) + 42 ≤ E.2.2.2.1.locals) (hl : zTbl (.methodLink own index yX5_settle)) (hta : κ.2.1 a = some (.inr 5)) (hc : κ.2.2.1 ≤ E.2.2.2.1.cells ∧ κ.2.2.2 ≤ E.2.2.2.1.slots) (hW : (st.map fun v => v.category).sum ≤ 8) (hd : decode cc pc = .ok (.invokevirtual index, 3)) (kk : ∀ r g', zSim K (h r g') (zAt E D A Q nL κ g' (pc + 3) lv (st))) : zSim K (zb (f_X5_settle a g) h) (zAt E D A Q nL κ g pc lv (.ref a :: st)) :=
  z_callV F (n := 0) (As := []) (C := (RX5, TX5, 4)) ⟨q_124, q_2, by decide +kernel, rfl, rfl, hR.1, hR.2⟩ (c_X5_settle E.2.1 D κ.1 κ.2.1 g a hta) hl q_122 q_123 hta rfl rfl rfl hc hW hd kk _ rfl
