theorem dX10_in_0 : decode cX10_in 0 = .ok (.lload_n 0, 1) := by decide +kernel
theorem dX10_in_1 : decode cX10_in 1 = .ok (.lload_n 2, 1) := by decide +kernel
theorem dX10_in_2 : decode cX10_in 2 = .ok (.lcmp, 1) := by decide +kernel
theorem dX10_in_3 : decode cX10_in 3 = .ok (.ifCond .lt 14, 3) := by decide +kernel
theorem dX10_in_6 : decode cX10_in 6 = .ok (.lload_n 0, 1) := by decide +kernel
theorem dX10_in_7 : decode cX10_in 7 = .ok (.lload 4, 2) := by decide +kernel
theorem dX10_in_9 : decode cX10_in 9 = .ok (.lcmp, 1) := by decide +kernel
theorem dX10_in_10 : decode cX10_in 10 = .ok (.ifCond .gt 7, 3) := by decide +kernel
theorem dX10_in_13 : decode cX10_in 13 = .ok (.iconst 1, 1) := by decide +kernel
theorem dX10_in_14 : decode cX10_in 14 = .ok (.goto 4, 3) := by decide +kernel
theorem dX10_in_17 : decode cX10_in 17 = .ok (.iconst 0, 1) := by decide +kernel
theorem dX10_in_18 : decode cX10_in 18 = .ok (.ireturn, 1) := by decide +kernel
def f_X10_in (x1 : Int64) (x2 : Int64) (x3 : Int64) (g : zG) : Option (Int32 × zG) :=
  if (lg_cmp x1 x2) < 0 then (some ((0, g))) else (if 0 < (lg_cmp x1 x3) then (some ((0, g))) else (some ((1, g))))
abbrev rm_X10_in : Room := { frames := 0, cells := 0, slots := 0, locals := 0 }
set_option maxRecDepth 100000 in
set_option maxHeartbeats 4000000 in
theorem c_X10_in (l : Launch) (D : zD) (sz : Nat) (τ : zT) (g : zG) (x1 : Int64) (x2 : Int64) (x3 : Int64) : zCon l D yX10_in cX10_in 6 (some .boolean) rm_X10_in 0 0 zrI [.long x1, .long x2, .long x3] sz τ g τ (f_X10_in x1 x2 x3 g) := by
  refine zCon.of (by decide) (Nat.le_of_ble_eq_true rfl) (fun E r g' hl hR hsz hnm F => ?_)
  have F : zF E D (zA τ sz) cX10_in "TypeChainModel" 6 (some .boolean) := F
  show zSim (fun q : Int32 × zG => q = (r, g')) (f_X10_in x1 x2 x3 g) (zAt E D (zA τ sz) (zQ E D zrI 0 0 sz τ τ r g') 6 (sz, τ, 0, 0) g 0 [(0, .long x1), (2, .long x2), (4, .long x3)] [])
  unfold f_X10_in
  refine z_lload_n F 0 rfl rfl dX10_in_0 ?_
  refine z_lload_n F 1 rfl rfl dX10_in_1 ?_
  refine z_lcmp F dX10_in_2 ?_
  refine z_if_lt (tgt := 17) F dX10_in_3 (by decide) (fun c1 => ?_) (fun c1 => ?_)
  · refine z_iconst (v := 0) F (by decide) dX10_in_17 ?_
    exact z_zreturn F rfl rfl rfl rfl rfl (fun h => h) dX10_in_18
  · refine z_lload_n F 0 rfl rfl dX10_in_6 ?_
    refine z_lload F 2 rfl dX10_in_7 ?_
    refine z_lcmp F dX10_in_9 ?_
    refine z_if_gt (tgt := 17) F dX10_in_10 (by decide) (fun c2 => ?_) (fun c2 => ?_)
    · refine z_iconst (v := 0) F (by decide) dX10_in_17 ?_
      exact z_zreturn F rfl rfl rfl rfl rfl (fun h => h) dX10_in_18
    · refine z_iconst (v := 1) F (by decide) dX10_in_13 ?_
      refine z_goto (tgt := 18) F dX10_in_14 (by decide) ?_
      exact z_zreturn F rfl rfl rfl rfl rfl (fun h => h) dX10_in_18
theorem k_X10_in {ρ : Type} {K : ρ → Prop} {E : zE} {D : zD} {A : Nat → Prop} {Q : State → Prop} {nL : Nat} {κ : zC} {g : zG} {pc : Nat} {lv : List (Nat × Value)} {st : List Value} {cc : ByteArray} {own : String} {ret : Option FieldType} (F : zF E D A cc own nL ret) {index : Nat} {h : Int32 → zG → Option ρ} {x1 : Int64} {x2 : Int64} {x3 : Int64}  (hR : 0 + 1 ≤ E.2.2.2.1.frames ∧ 8 + (6 + 11) + 0 ≤ E.2.2.2.1.locals) (hl : zTbl (.methodLink own index yX10_in)) (hc : κ.2.2.1 ≤ E.2.2.2.1.cells ∧ κ.2.2.2 ≤ E.2.2.2.1.slots) (hW : (st.map fun v => v.category).sum ≤ 8) (hd : decode cc pc = .ok (.invokestatic index, 3)) (kk : ∀ r g', zSim K (h r g') (zAt E D A Q nL κ g' (pc + 3) lv (.int r :: st))) : zSim K (zb (f_X10_in x1 x2 x3 g) h) (zAt E D A Q nL κ g pc lv (.long x3 :: .long x2 :: .long x1 :: st)) :=
  z_callS F (n := 3) (As := [.long x1, .long x2, .long x3]) ⟨q_1084, q_14, by decide +kernel, rfl, rfl, hR.1, hR.2⟩ (c_X10_in E.2.1 D κ.1 κ.2.1 g x1 x2 x3 ) hl q_1083 rfl hc hW hd kk _ rfl
theorem dX10_countOf_0 : decode cX10_countOf 0 = .ok (.iconst 0, 1) := by decide +kernel
theorem dX10_countOf_1 : decode cX10_countOf 1 = .ok (.istore_n 1, 1) := by decide +kernel
theorem dX10_countOf_2 : decode cX10_countOf 2 = .ok (.iconst 0, 1) := by decide +kernel
theorem dX10_countOf_3 : decode cX10_countOf 3 = .ok (.istore_n 2, 1) := by decide +kernel
theorem dX10_countOf_4 : decode cX10_countOf 4 = .ok (.iload_n 2, 1) := by decide +kernel
theorem dX10_countOf_5 : decode cX10_countOf 5 = .ok (.bipush 30, 2) := by decide +kernel
theorem dX10_countOf_7 : decode cX10_countOf 7 = .ok (.if_icmp .ge 17, 3) := by decide +kernel
theorem dX10_countOf_10 : decode cX10_countOf 10 = .ok (.iload_n 1, 1) := by decide +kernel
theorem dX10_countOf_11 : decode cX10_countOf 11 = .ok (.iload_n 0, 1) := by decide +kernel
theorem dX10_countOf_12 : decode cX10_countOf 12 = .ok (.iload_n 2, 1) := by decide +kernel
theorem dX10_countOf_13 : decode cX10_countOf 13 = .ok (.ishr, 1) := by decide +kernel
theorem dX10_countOf_14 : decode cX10_countOf 14 = .ok (.iconst 1, 1) := by decide +kernel
theorem dX10_countOf_15 : decode cX10_countOf 15 = .ok (.iand, 1) := by decide +kernel
theorem dX10_countOf_16 : decode cX10_countOf 16 = .ok (.iadd, 1) := by decide +kernel
theorem dX10_countOf_17 : decode cX10_countOf 17 = .ok (.istore_n 1, 1) := by decide +kernel
theorem dX10_countOf_18 : decode cX10_countOf 18 = .ok (.iinc 2 1, 3) := by decide +kernel
theorem dX10_countOf_21 : decode cX10_countOf 21 = .ok (.goto (-17), 3) := by decide +kernel
theorem dX10_countOf_24 : decode cX10_countOf 24 = .ok (.iload_n 1, 1) := by decide +kernel
theorem dX10_countOf_25 : decode cX10_countOf 25 = .ok (.ireturn, 1) := by decide +kernel
def j_X10_countOf_24 (l1 : Int32) (g : zG) : Option (Int32 × zG) :=
  some ((l1, g))
def l_X10_countOf_4 (l0 : Int32) (g : zG) (l1 : Int32) (l2 : Int32) : Option ((Int32 × Int32) ⊕ (Int32)) :=
  if 30 ≤ l2 then (some (.inr l1)) else (zl (l1 + ((zshr l0 l2) &&& 1)) (fun v2 => zl (l2 + 1) (fun v3 => some (.inl (v2, v3)))))
def f_X10_countOf (x1 : Int32) (g : zG) : Option (Int32 × zG) :=
  zk (zw zN (fun s => l_X10_countOf_4 x1 g s.1 s.2) (0, 0)) (fun x => j_X10_countOf_24 x g)
abbrev rm_X10_countOf : Room := { frames := 0, cells := 0, slots := 0, locals := 0 }
set_option maxRecDepth 100000 in
set_option maxHeartbeats 4000000 in
theorem c_X10_countOf (l : Launch) (D : zD) (sz : Nat) (τ : zT) (g : zG) (x1 : Int32) : zCon l D yX10_countOf cX10_countOf 3 (some .int) rm_X10_countOf 0 0 zrI [.int x1] sz τ g τ (f_X10_countOf x1 g) := by
  refine zCon.of (by decide) (Nat.le_of_ble_eq_true rfl) (fun E r g' hl hR hsz hnm F => ?_)
  have F : zF E D (zA τ sz) cX10_countOf "TypeChainModel" 3 (some .int) := F
  show zSim (fun q : Int32 × zG => q = (r, g')) (f_X10_countOf x1 g) (zAt E D (zA τ sz) (zQ E D zrI 0 0 sz τ τ r g') 3 (sz, τ, 0, 0) g 0 [(0, .int x1)] [])
  have hj_X10_countOf_24 : ∀ (l1_24 : Int32) (g_24 : zG), zSim (fun q : Int32 × zG => q = (r, g')) (j_X10_countOf_24 l1_24 g_24) (zAt E D (zA τ sz) (zQ E D zrI 0 0 sz τ τ r g') 3 (sz, τ, 0, 0) g_24 24 [(1, .int l1_24)] []) := by
    intro l1_24 g_24
    unfold j_X10_countOf_24
    refine z_iload_n F 0 rfl rfl dX10_countOf_24 ?_
    exact z_ireturn F rfl rfl rfl rfl (fun h => h) dX10_countOf_25
  unfold f_X10_countOf
  refine z_iconst (v := 0) F (by decide) dX10_countOf_0 ?_
  refine z_istore_n (lv' := [(1, .int 0), (0, .int x1)]) F rfl (by decide) dX10_countOf_1 rfl ?_
  refine z_iconst (v := 0) F (by decide) dX10_countOf_2 ?_
  refine z_istore_n (lv' := [(2, .int 0), (1, .int 0), (0, .int x1)]) F rfl (by decide) dX10_countOf_3 rfl ?_
  refine z_sub (lv' := [(0, .int x1), (1, .int 0), (2, .int 0)]) [2, 1, 0] rfl ?_
  refine z_loop (P := fun s : Int32 × Int32 => zAt E D (zA τ sz) (zQ E D zrI 0 0 sz τ τ r g') 3 (sz, τ, 0, 0) g 4 [(0, .int x1), (1, .int s.1), (2, .int s.2)] []) (Px := fun x : Int32 => zAt E D (zA τ sz) (zQ E D zrI 0 0 sz τ τ r g') 3 (sz, τ, 0, 0) g 24 [(1, .int x)] []) (0, 0) (fun s => ?_) (fun x => ?_)
  · obtain ⟨l1_4, l2_4⟩ := s
    show zSim (zKl (fun s : Int32 × Int32 => zAt E D (zA τ sz) (zQ E D zrI 0 0 sz τ τ r g') 3 (sz, τ, 0, 0) g 4 [(0, .int x1), (1, .int s.1), (2, .int s.2)] []) (fun x : Int32 => zAt E D (zA τ sz) (zQ E D zrI 0 0 sz τ τ r g') 3 (sz, τ, 0, 0) g 24 [(1, .int x)] [])) (l_X10_countOf_4 x1 g l1_4 l2_4) (zAt E D (zA τ sz) (zQ E D zrI 0 0 sz τ τ r g') 3 (sz, τ, 0, 0) g 4 [(0, .int x1), (1, .int l1_4), (2, .int l2_4)] [])
    unfold l_X10_countOf_4
    refine z_iload_n F 2 rfl rfl dX10_countOf_4 ?_
    refine z_bipush (v := 30) F (by decide) dX10_countOf_5 ?_
    refine z_icmp_ge (tgt := 24) F dX10_countOf_7 (by decide) (fun c1 => ?_) (fun c1 => ?_)
    · refine z_sub (lv' := [(1, .int l1_4)]) [1] rfl ?_
      exact z_back (fun h => h)
    · refine z_iload_n F 1 rfl rfl dX10_countOf_10 ?_
      refine z_iload_n F 0 rfl rfl dX10_countOf_11 ?_
      refine z_iload_n F 2 rfl rfl dX10_countOf_12 ?_
      refine z_ishr F dX10_countOf_13 ?_
      refine z_iconst (v := 1) F (by decide) dX10_countOf_14 ?_
      refine z_iand F dX10_countOf_15 ?_
      refine z_iadd F dX10_countOf_16 ?_
      refine z_leti (fun v2 => ?_)
      refine z_istore_n (lv' := [(1, .int v2), (0, .int x1), (2, .int l2_4)]) F rfl (by decide) dX10_countOf_17 rfl ?_
      refine z_iincl (lv' := fun v3 => [(2, .int v3), (1, .int v2), (0, .int x1)]) F 2 rfl (by decide) (by decide) dX10_countOf_18 (fun _ => rfl) (fun v3 => ?_)
      refine z_goto (tgt := 4) F dX10_countOf_21 (by decide) ?_
      refine z_sub (lv' := [(0, .int x1), (1, .int v2), (2, .int v3)]) [2, 1, 0] rfl ?_
      exact z_back (fun h => h)
  · show zSim (fun q : Int32 × zG => q = (r, g')) (j_X10_countOf_24 x g) (zAt E D (zA τ sz) (zQ E D zrI 0 0 sz τ τ r g') 3 (sz, τ, 0, 0) g 24 [(1, .int x)] [])
    exact hj_X10_countOf_24 x g
theorem k_X10_countOf {ρ : Type} {K : ρ → Prop} {E : zE} {D : zD} {A : Nat → Prop} {Q : State → Prop} {nL : Nat} {κ : zC} {g : zG} {pc : Nat} {lv : List (Nat × Value)} {st : List Value} {cc : ByteArray} {own : String} {ret : Option FieldType} (F : zF E D A cc own nL ret) {index : Nat} {h : Int32 → zG → Option ρ} {x1 : Int32}  (hR : 0 + 1 ≤ E.2.2.2.1.frames ∧ 8 + (3 + 11) + 0 ≤ E.2.2.2.1.locals) (hl : zTbl (.methodLink own index yX10_countOf)) (hc : κ.2.2.1 ≤ E.2.2.2.1.cells ∧ κ.2.2.2 ≤ E.2.2.2.1.slots) (hW : (st.map fun v => v.category).sum ≤ 8) (hd : decode cc pc = .ok (.invokestatic index, 3)) (kk : ∀ r g', zSim K (h r g') (zAt E D A Q nL κ g' (pc + 3) lv (.int r :: st))) : zSim K (zb (f_X10_countOf x1 g) h) (zAt E D A Q nL κ g pc lv (.int x1 :: st)) :=
  z_callS F (n := 1) (As := [.int x1]) ⟨q_1360, q_14, by decide +kernel, rfl, rfl, hR.1, hR.2⟩ (c_X10_countOf E.2.1 D κ.1 κ.2.1 g x1 ) hl q_1359 rfl hc hW hd kk _ rfl
theorem dX10_firstDraft_0 : decode cX10_firstDraft 0 = .ok (.aload_n 0, 1) := by decide +kernel
theorem dX10_firstDraft_1 : decode cX10_firstDraft 1 = .ok (.bipush 6, 2) := by decide +kernel
theorem dX10_firstDraft_3 : decode cX10_firstDraft 3 = .ok (.putfield 122, 3) := by decide +kernel
theorem dX10_firstDraft_6 : decode cX10_firstDraft 6 = .ok (.iconst 0, 1) := by decide +kernel
theorem dX10_firstDraft_7 : decode cX10_firstDraft 7 = .ok (.istore_n 1, 1) := by decide +kernel
theorem dX10_firstDraft_8 : decode cX10_firstDraft 8 = .ok (.iload_n 1, 1) := by decide +kernel
theorem dX10_firstDraft_9 : decode cX10_firstDraft 9 = .ok (.bipush 49, 2) := by decide +kernel
theorem dX10_firstDraft_11 : decode cX10_firstDraft 11 = .ok (.if_icmp .ge 28, 3) := by decide +kernel
theorem dX10_firstDraft_14 : decode cX10_firstDraft 14 = .ok (.aload_n 0, 1) := by decide +kernel
theorem dX10_firstDraft_15 : decode cX10_firstDraft 15 = .ok (.getfield 34, 3) := by decide +kernel
theorem dX10_firstDraft_18 : decode cX10_firstDraft 18 = .ok (.iload_n 1, 1) := by decide +kernel
theorem dX10_firstDraft_19 : decode cX10_firstDraft 19 = .ok (.iload_n 1, 1) := by decide +kernel
theorem dX10_firstDraft_20 : decode cX10_firstDraft 20 = .ok (.bipush 6, 2) := by decide +kernel
theorem dX10_firstDraft_22 : decode cX10_firstDraft 22 = .ok (.if_icmp .ge 9, 3) := by decide +kernel
theorem dX10_firstDraft_25 : decode cX10_firstDraft 25 = .ok (.iload_n 1, 1) := by decide +kernel
theorem dX10_firstDraft_26 : decode cX10_firstDraft 26 = .ok (.iconst 1, 1) := by decide +kernel
theorem dX10_firstDraft_27 : decode cX10_firstDraft 27 = .ok (.iadd, 1) := by decide +kernel
theorem dX10_firstDraft_28 : decode cX10_firstDraft 28 = .ok (.goto 4, 3) := by decide +kernel
theorem dX10_firstDraft_31 : decode cX10_firstDraft 31 = .ok (.iconst 0, 1) := by decide +kernel
theorem dX10_firstDraft_32 : decode cX10_firstDraft 32 = .ok (.iastore, 1) := by decide +kernel
theorem dX10_firstDraft_33 : decode cX10_firstDraft 33 = .ok (.iinc 1 1, 3) := by decide +kernel
theorem dX10_firstDraft_36 : decode cX10_firstDraft 36 = .ok (.goto (-28), 3) := by decide +kernel
theorem dX10_firstDraft_39 : decode cX10_firstDraft 39 = .ok (.iconst 0, 1) := by decide +kernel
theorem dX10_firstDraft_40 : decode cX10_firstDraft 40 = .ok (.istore_n 1, 1) := by decide +kernel
theorem dX10_firstDraft_41 : decode cX10_firstDraft 41 = .ok (.iload_n 1, 1) := by decide +kernel
theorem dX10_firstDraft_42 : decode cX10_firstDraft 42 = .ok (.bipush 8, 2) := by decide +kernel
theorem dX10_firstDraft_44 : decode cX10_firstDraft 44 = .ok (.if_icmp .ge 74, 3) := by decide +kernel
theorem dX10_firstDraft_47 : decode cX10_firstDraft 47 = .ok (.aload_n 0, 1) := by decide +kernel
theorem dX10_firstDraft_48 : decode cX10_firstDraft 48 = .ok (.getfield 37, 3) := by decide +kernel
theorem dX10_firstDraft_51 : decode cX10_firstDraft 51 = .ok (.iload_n 1, 1) := by decide +kernel
theorem dX10_firstDraft_52 : decode cX10_firstDraft 52 = .ok (.iload_n 1, 1) := by decide +kernel
theorem dX10_firstDraft_53 : decode cX10_firstDraft 53 = .ok (.iconst 1, 1) := by decide +kernel
theorem dX10_firstDraft_54 : decode cX10_firstDraft 54 = .ok (.if_icmp .ne 7, 3) := by decide +kernel
theorem dX10_firstDraft_57 : decode cX10_firstDraft 57 = .ok (.iconst 3, 1) := by decide +kernel
theorem dX10_firstDraft_58 : decode cX10_firstDraft 58 = .ok (.goto 53, 3) := by decide +kernel
theorem dX10_firstDraft_61 : decode cX10_firstDraft 61 = .ok (.iload_n 1, 1) := by decide +kernel
theorem dX10_firstDraft_62 : decode cX10_firstDraft 62 = .ok (.iconst 2, 1) := by decide +kernel
theorem dX10_firstDraft_63 : decode cX10_firstDraft 63 = .ok (.if_icmp .ne 7, 3) := by decide +kernel
theorem dX10_firstDraft_66 : decode cX10_firstDraft 66 = .ok (.iconst 2, 1) := by decide +kernel
theorem dX10_firstDraft_67 : decode cX10_firstDraft 67 = .ok (.goto 44, 3) := by decide +kernel
theorem dX10_firstDraft_70 : decode cX10_firstDraft 70 = .ok (.iload_n 1, 1) := by decide +kernel
theorem dX10_firstDraft_71 : decode cX10_firstDraft 71 = .ok (.iconst 3, 1) := by decide +kernel
theorem dX10_firstDraft_72 : decode cX10_firstDraft 72 = .ok (.if_icmp .ne 8, 3) := by decide +kernel
theorem dX10_firstDraft_75 : decode cX10_firstDraft 75 = .ok (.bipush 20, 2) := by decide +kernel
theorem dX10_firstDraft_77 : decode cX10_firstDraft 77 = .ok (.goto 34, 3) := by decide +kernel
theorem dX10_firstDraft_80 : decode cX10_firstDraft 80 = .ok (.iload_n 1, 1) := by decide +kernel
theorem dX10_firstDraft_81 : decode cX10_firstDraft 81 = .ok (.iconst 4, 1) := by decide +kernel
theorem dX10_firstDraft_82 : decode cX10_firstDraft 82 = .ok (.if_icmp .ne 8, 3) := by decide +kernel
theorem dX10_firstDraft_85 : decode cX10_firstDraft 85 = .ok (.bipush 40, 2) := by decide +kernel
theorem dX10_firstDraft_87 : decode cX10_firstDraft 87 = .ok (.goto 24, 3) := by decide +kernel
theorem dX10_firstDraft_90 : decode cX10_firstDraft 90 = .ok (.iload_n 1, 1) := by decide +kernel
theorem dX10_firstDraft_91 : decode cX10_firstDraft 91 = .ok (.iconst 5, 1) := by decide +kernel
theorem dX10_firstDraft_92 : decode cX10_firstDraft 92 = .ok (.if_icmp .ne 7, 3) := by decide +kernel
theorem dX10_firstDraft_95 : decode cX10_firstDraft 95 = .ok (.iconst 3, 1) := by decide +kernel
theorem dX10_firstDraft_96 : decode cX10_firstDraft 96 = .ok (.goto 15, 3) := by decide +kernel
theorem dX10_firstDraft_99 : decode cX10_firstDraft 99 = .ok (.iload_n 1, 1) := by decide +kernel
theorem dX10_firstDraft_100 : decode cX10_firstDraft 100 = .ok (.bipush 6, 2) := by decide +kernel
theorem dX10_firstDraft_102 : decode cX10_firstDraft 102 = .ok (.if_icmp .ne 7, 3) := by decide +kernel
theorem dX10_firstDraft_105 : decode cX10_firstDraft 105 = .ok (.iconst 2, 1) := by decide +kernel
theorem dX10_firstDraft_106 : decode cX10_firstDraft 106 = .ok (.goto 5, 3) := by decide +kernel
theorem dX10_firstDraft_109 : decode cX10_firstDraft 109 = .ok (.bipush 12, 2) := by decide +kernel
theorem dX10_firstDraft_111 : decode cX10_firstDraft 111 = .ok (.iastore, 1) := by decide +kernel
theorem dX10_firstDraft_112 : decode cX10_firstDraft 112 = .ok (.iinc 1 1, 3) := by decide +kernel
theorem dX10_firstDraft_115 : decode cX10_firstDraft 115 = .ok (.goto (-74), 3) := by decide +kernel
theorem dX10_firstDraft_118 : decode cX10_firstDraft 118 = .ok (.iconst 0, 1) := by decide +kernel
theorem dX10_firstDraft_119 : decode cX10_firstDraft 119 = .ok (.istore_n 1, 1) := by decide +kernel
theorem dX10_firstDraft_120 : decode cX10_firstDraft 120 = .ok (.iload_n 1, 1) := by decide +kernel
theorem dX10_firstDraft_121 : decode cX10_firstDraft 121 = .ok (.bipush 60, 2) := by decide +kernel
theorem dX10_firstDraft_123 : decode cX10_firstDraft 123 = .ok (.if_icmp .ge 16, 3) := by decide +kernel
theorem dX10_firstDraft_126 : decode cX10_firstDraft 126 = .ok (.aload_n 0, 1) := by decide +kernel
theorem dX10_firstDraft_127 : decode cX10_firstDraft 127 = .ok (.getfield 40, 3) := by decide +kernel
theorem dX10_firstDraft_130 : decode cX10_firstDraft 130 = .ok (.iload_n 1, 1) := by decide +kernel
theorem dX10_firstDraft_131 : decode cX10_firstDraft 131 = .ok (.iconst 0, 1) := by decide +kernel
theorem dX10_firstDraft_132 : decode cX10_firstDraft 132 = .ok (.iastore, 1) := by decide +kernel
theorem dX10_firstDraft_133 : decode cX10_firstDraft 133 = .ok (.iinc 1 1, 3) := by decide +kernel
theorem dX10_firstDraft_136 : decode cX10_firstDraft 136 = .ok (.goto (-16), 3) := by decide +kernel
theorem dX10_firstDraft_139 : decode cX10_firstDraft 139 = .ok (.iconst 0, 1) := by decide +kernel
theorem dX10_firstDraft_140 : decode cX10_firstDraft 140 = .ok (.istore_n 1, 1) := by decide +kernel
theorem dX10_firstDraft_141 : decode cX10_firstDraft 141 = .ok (.iload_n 1, 1) := by decide +kernel
theorem dX10_firstDraft_142 : decode cX10_firstDraft 142 = .ok (.bipush 13, 2) := by decide +kernel
theorem dX10_firstDraft_144 : decode cX10_firstDraft 144 = .ok (.if_icmp .ge 16, 3) := by decide +kernel
theorem dX10_firstDraft_147 : decode cX10_firstDraft 147 = .ok (.aload_n 0, 1) := by decide +kernel
theorem dX10_firstDraft_148 : decode cX10_firstDraft 148 = .ok (.getfield 58, 3) := by decide +kernel
theorem dX10_firstDraft_151 : decode cX10_firstDraft 151 = .ok (.iload_n 1, 1) := by decide +kernel
theorem dX10_firstDraft_152 : decode cX10_firstDraft 152 = .ok (.iconst 0, 1) := by decide +kernel
theorem dX10_firstDraft_153 : decode cX10_firstDraft 153 = .ok (.bastore, 1) := by decide +kernel
theorem dX10_firstDraft_154 : decode cX10_firstDraft 154 = .ok (.iinc 1 1, 3) := by decide +kernel
theorem dX10_firstDraft_157 : decode cX10_firstDraft 157 = .ok (.goto (-16), 3) := by decide +kernel
theorem dX10_firstDraft_160 : decode cX10_firstDraft 160 = .ok (.aload_n 0, 1) := by decide +kernel
theorem dX10_firstDraft_161 : decode cX10_firstDraft 161 = .ok (.iconst 0, 1) := by decide +kernel
theorem dX10_firstDraft_162 : decode cX10_firstDraft 162 = .ok (.putfield 126, 3) := by decide +kernel
theorem dX10_firstDraft_165 : decode cX10_firstDraft 165 = .ok (.aload_n 0, 1) := by decide +kernel
theorem dX10_firstDraft_166 : decode cX10_firstDraft 166 = .ok (.iconst 0, 1) := by decide +kernel
theorem dX10_firstDraft_167 : decode cX10_firstDraft 167 = .ok (.putfield 130, 3) := by decide +kernel
theorem dX10_firstDraft_170 : decode cX10_firstDraft 170 = .ok (.aload_n 0, 1) := by decide +kernel
theorem dX10_firstDraft_171 : decode cX10_firstDraft 171 = .ok (.iconst 0, 1) := by decide +kernel
theorem dX10_firstDraft_172 : decode cX10_firstDraft 172 = .ok (.putfield 133, 3) := by decide +kernel
theorem dX10_firstDraft_175 : decode cX10_firstDraft 175 = .ok (.aload_n 0, 1) := by decide +kernel
theorem dX10_firstDraft_176 : decode cX10_firstDraft 176 = .ok (.iconst 0, 1) := by decide +kernel
theorem dX10_firstDraft_177 : decode cX10_firstDraft 177 = .ok (.putfield 136, 3) := by decide +kernel
theorem dX10_firstDraft_180 : decode cX10_firstDraft 180 = .ok (.return_, 1) := by decide +kernel
def j_X10_firstDraft_160 (a : Nat)  (g : zG) : Option (Int32 × zG) :=
  zl (zsi g a 14 0) (fun g1 => zl (zsi g1 a 15 0) (fun g2 => zl (zsi g2 a 20 0) (fun g3 => zl (zsi g3 a 23 0) (fun g4 => some ((0, g4))))))
def l_X10_firstDraft_141 (a : Nat) (l1 : Int32) (g : zG) : Option ((Int32 × zG) ⊕ (zG)) :=
  if 13 ≤ l1 then (some (.inr g)) else (zc (zin l1 13) (zl (zsi g (g.2.1 a 22) l1.toNatClampNeg (vp_nar .boolean 0)) (fun g7 => zl (l1 + 1) (fun v8 => some (.inl (v8, g7))))))
def j_X10_firstDraft_139 (a : Nat)  (g : zG) : Option (Int32 × zG) :=
  zk (zw zN (fun s => l_X10_firstDraft_141 a s.1 s.2) (0, g)) (fun x => j_X10_firstDraft_160 a x)
def l_X10_firstDraft_120 (a : Nat) (l1 : Int32) (g : zG) : Option ((Int32 × zG) ⊕ (zG)) :=
  if 60 ≤ l1 then (some (.inr g)) else (zc (zin l1 60) (zl (zsi g (g.2.1 a 13) l1.toNatClampNeg 0) (fun g11 => zl (l1 + 1) (fun v12 => some (.inl (v12, g11))))))
def j_X10_firstDraft_118 (a : Nat)  (g : zG) : Option (Int32 × zG) :=
  zk (zw zN (fun s => l_X10_firstDraft_120 a s.1 s.2) (0, g)) (fun x => j_X10_firstDraft_139 a x)
def l_X10_firstDraft_41 (a : Nat) (l1 : Int32) (g : zG) : Option ((Int32 × zG) ⊕ (zG)) :=
  if 8 ≤ l1 then (some (.inr g)) else (if l1 = 1 then (zc (zin l1 8) (zl (zsi g (g.2.1 a 12) l1.toNatClampNeg 3) (fun g16 => zl (l1 + 1) (fun v17 => some (.inl (v17, g16)))))) else (if l1 = 2 then (zc (zin l1 8) (zl (zsi g (g.2.1 a 12) l1.toNatClampNeg 2) (fun g19 => zl (l1 + 1) (fun v20 => some (.inl (v20, g19)))))) else (if l1 = 3 then (zc (zin l1 8) (zl (zsi g (g.2.1 a 12) l1.toNatClampNeg 20) (fun g22 => zl (l1 + 1) (fun v23 => some (.inl (v23, g22)))))) else (if l1 = 4 then (zc (zin l1 8) (zl (zsi g (g.2.1 a 12) l1.toNatClampNeg 40) (fun g25 => zl (l1 + 1) (fun v26 => some (.inl (v26, g25)))))) else (if l1 = 5 then (zc (zin l1 8) (zl (zsi g (g.2.1 a 12) l1.toNatClampNeg 3) (fun g28 => zl (l1 + 1) (fun v29 => some (.inl (v29, g28)))))) else (if l1 = 6 then (zc (zin l1 8) (zl (zsi g (g.2.1 a 12) l1.toNatClampNeg 2) (fun g31 => zl (l1 + 1) (fun v32 => some (.inl (v32, g31)))))) else (zc (zin l1 8) (zl (zsi g (g.2.1 a 12) l1.toNatClampNeg 12) (fun g33 => zl (l1 + 1) (fun v34 => some (.inl (v34, g33))))))))))))
def j_X10_firstDraft_39 (a : Nat)  (g : zG) : Option (Int32 × zG) :=
  zk (zw zN (fun s => l_X10_firstDraft_41 a s.1 s.2) (0, g)) (fun x => j_X10_firstDraft_118 a x)
def l_X10_firstDraft_8 (a : Nat) (l1 : Int32) (g : zG) : Option ((Int32 × zG) ⊕ (zG)) :=
  if 49 ≤ l1 then (some (.inr g)) else (if 6 ≤ l1 then (zc (zin l1 49) (zl (zsi g (g.2.1 a 11) l1.toNatClampNeg 0) (fun g39 => zl (l1 + 1) (fun v40 => some (.inl (v40, g39)))))) else (zc (zin l1 49) (zl (zsi g (g.2.1 a 11) l1.toNatClampNeg (l1 + 1)) (fun g41 => zl (l1 + 1) (fun v42 => some (.inl (v42, g41)))))))
def f_X10_firstDraft (a : Nat) (g : zG) : Option (Int32 × zG) :=
  zl (zsi g a 10 6) (fun g35 => zk (zw zN (fun s => l_X10_firstDraft_8 a s.1 s.2) (0, g35)) (fun x => j_X10_firstDraft_39 a x))
abbrev rm_X10_firstDraft : Room := { frames := 0, cells := 0, slots := 0, locals := 0 }
set_option maxRecDepth 100000 in
set_option maxHeartbeats 4000000 in
theorem c_X10_firstDraft (l : Launch) (D : zD) (sz : Nat) (τ : zT) (g : zG) (a : Nat) (hta : τ a = some (.inr 10)) : zCon l D yX10_firstDraft cX10_firstDraft 2 none rm_X10_firstDraft 0 0 zrV [.ref a] sz τ g τ (f_X10_firstDraft a g) := by
  refine zCon.of (by decide) (Nat.le_of_ble_eq_true rfl) (fun E r g' hl hR hsz hnm F => ?_)
  have F : zF E D (zA τ sz) cX10_firstDraft "TypeChainModel" 2 none := F
  show zSim (fun q : Int32 × zG => q = (r, g')) (f_X10_firstDraft a g) (zAt E D (zA τ sz) (zQ E D zrV 0 0 sz τ τ r g') 2 (sz, τ, 0, 0) g 0 [(0, .ref a)] [])
  have hj_X10_firstDraft_160 : ∀  (g_160 : zG), zSim (fun q : Int32 × zG => q = (r, g')) (j_X10_firstDraft_160 a g_160) (zAt E D (zA τ sz) (zQ E D zrV 0 0 sz τ τ r g') 2 (sz, τ, 0, 0) g_160 160 [(0, .ref a)] []) := by
    intro g_160
    unfold j_X10_firstDraft_160
    refine z_aload_n F 0 rfl rfl dX10_firstDraft_160 ?_
    refine z_iconst (v := 0) F (by decide) dX10_firstDraft_161 ?_
    refine pf_X10_126 F hta (Or.inl rfl) dX10_firstDraft_162 ?_
    refine z_letg (fun g1 => ?_)
    refine z_aload_n F 0 rfl rfl dX10_firstDraft_165 ?_
    refine z_iconst (v := 0) F (by decide) dX10_firstDraft_166 ?_
    refine pf_X10_130 F hta dX10_firstDraft_167 ?_
    refine z_letg (fun g2 => ?_)
    refine z_aload_n F 0 rfl rfl dX10_firstDraft_170 ?_
    refine z_iconst (v := 0) F (by decide) dX10_firstDraft_171 ?_
    refine pf_X10_133 F hta dX10_firstDraft_172 ?_
    refine z_letg (fun g3 => ?_)
    refine z_aload_n F 0 rfl rfl dX10_firstDraft_175 ?_
    refine z_iconst (v := 0) F (by decide) dX10_firstDraft_176 ?_
    refine pf_X10_136 F hta dX10_firstDraft_177 ?_
    refine z_letg (fun g4 => ?_)
    exact z_vreturn F rfl rfl rfl rfl (fun h => h) dX10_firstDraft_180
  have hj_X10_firstDraft_139 : ∀  (g_139 : zG), zSim (fun q : Int32 × zG => q = (r, g')) (j_X10_firstDraft_139 a g_139) (zAt E D (zA τ sz) (zQ E D zrV 0 0 sz τ τ r g') 2 (sz, τ, 0, 0) g_139 139 [(0, .ref a)] []) := by
    intro g_139
    unfold j_X10_firstDraft_139
    refine z_iconst (v := 0) F (by decide) dX10_firstDraft_139 ?_
    refine z_istore_n (lv' := [(1, .int 0), (0, .ref a)]) F rfl (by decide) dX10_firstDraft_140 rfl ?_
    refine z_sub (lv' := [(0, .ref a), (1, .int 0)]) [1, 0] rfl ?_
    refine z_loop (P := fun s : Int32 × zG => zAt E D (zA τ sz) (zQ E D zrV 0 0 sz τ τ r g') 2 (sz, τ, 0, 0) s.2 141 [(0, .ref a), (1, .int s.1)] []) (Px := fun x : zG => zAt E D (zA τ sz) (zQ E D zrV 0 0 sz τ τ r g') 2 (sz, τ, 0, 0) x 160 [(0, .ref a)] []) (0, g_139) (fun s => ?_) (fun x => ?_)
    · obtain ⟨l1_141, g_141⟩ := s
      show zSim (zKl (fun s : Int32 × zG => zAt E D (zA τ sz) (zQ E D zrV 0 0 sz τ τ r g') 2 (sz, τ, 0, 0) s.2 141 [(0, .ref a), (1, .int s.1)] []) (fun x : zG => zAt E D (zA τ sz) (zQ E D zrV 0 0 sz τ τ r g') 2 (sz, τ, 0, 0) x 160 [(0, .ref a)] [])) (l_X10_firstDraft_141 a l1_141 g_141) (zAt E D (zA τ sz) (zQ E D zrV 0 0 sz τ τ r g') 2 (sz, τ, 0, 0) g_141 141 [(0, .ref a), (1, .int l1_141)] [])
      unfold l_X10_firstDraft_141
      refine z_iload_n F 1 rfl rfl dX10_firstDraft_141 ?_
      refine z_bipush (v := 13) F (by decide) dX10_firstDraft_142 ?_
      refine z_icmp_ge (tgt := 160) F dX10_firstDraft_144 (by decide) (fun c5 => ?_) (fun c5 => ?_)
      · refine z_sub (lv' := [(0, .ref a)]) [0] rfl ?_
        exact z_back (fun h => h)
      · refine z_aload_n F 0 rfl rfl dX10_firstDraft_147 ?_
        refine gf_X10_58 F hta dX10_firstDraft_148 (fun ht6 => ?_)
        refine z_iload_n F 1 rfl rfl dX10_firstDraft_151 ?_
        refine z_iconst (v := 0) F (by decide) dX10_firstDraft_152 ?_
        refine z_zast F ht6 dX10_firstDraft_153 ?_
        refine z_letg (fun g7 => ?_)
        refine z_iincl (lv' := fun v8 => [(1, .int v8), (0, .ref a)]) F 1 rfl (by decide) (by decide) dX10_firstDraft_154 (fun _ => rfl) (fun v8 => ?_)
        refine z_goto (tgt := 141) F dX10_firstDraft_157 (by decide) ?_
        refine z_sub (lv' := [(0, .ref a), (1, .int v8)]) [1, 0] rfl ?_
        exact z_back (fun h => h)
    · show zSim (fun q : Int32 × zG => q = (r, g')) (j_X10_firstDraft_160 a x) (zAt E D (zA τ sz) (zQ E D zrV 0 0 sz τ τ r g') 2 (sz, τ, 0, 0) x 160 [(0, .ref a)] [])
      exact hj_X10_firstDraft_160 x
  have hj_X10_firstDraft_118 : ∀  (g_118 : zG), zSim (fun q : Int32 × zG => q = (r, g')) (j_X10_firstDraft_118 a g_118) (zAt E D (zA τ sz) (zQ E D zrV 0 0 sz τ τ r g') 2 (sz, τ, 0, 0) g_118 118 [(0, .ref a)] []) := by
    intro g_118
    unfold j_X10_firstDraft_118
    refine z_iconst (v := 0) F (by decide) dX10_firstDraft_118 ?_
    refine z_istore_n (lv' := [(1, .int 0), (0, .ref a)]) F rfl (by decide) dX10_firstDraft_119 rfl ?_
    refine z_sub (lv' := [(0, .ref a), (1, .int 0)]) [1, 0] rfl ?_
    refine z_loop (P := fun s : Int32 × zG => zAt E D (zA τ sz) (zQ E D zrV 0 0 sz τ τ r g') 2 (sz, τ, 0, 0) s.2 120 [(0, .ref a), (1, .int s.1)] []) (Px := fun x : zG => zAt E D (zA τ sz) (zQ E D zrV 0 0 sz τ τ r g') 2 (sz, τ, 0, 0) x 139 [(0, .ref a)] []) (0, g_118) (fun s => ?_) (fun x => ?_)
    · obtain ⟨l1_120, g_120⟩ := s
      show zSim (zKl (fun s : Int32 × zG => zAt E D (zA τ sz) (zQ E D zrV 0 0 sz τ τ r g') 2 (sz, τ, 0, 0) s.2 120 [(0, .ref a), (1, .int s.1)] []) (fun x : zG => zAt E D (zA τ sz) (zQ E D zrV 0 0 sz τ τ r g') 2 (sz, τ, 0, 0) x 139 [(0, .ref a)] [])) (l_X10_firstDraft_120 a l1_120 g_120) (zAt E D (zA τ sz) (zQ E D zrV 0 0 sz τ τ r g') 2 (sz, τ, 0, 0) g_120 120 [(0, .ref a), (1, .int l1_120)] [])
      unfold l_X10_firstDraft_120
      refine z_iload_n F 1 rfl rfl dX10_firstDraft_120 ?_
      refine z_bipush (v := 60) F (by decide) dX10_firstDraft_121 ?_
      refine z_icmp_ge (tgt := 139) F dX10_firstDraft_123 (by decide) (fun c9 => ?_) (fun c9 => ?_)
      · refine z_sub (lv' := [(0, .ref a)]) [0] rfl ?_
        exact z_back (fun h => h)
      · refine z_aload_n F 0 rfl rfl dX10_firstDraft_126 ?_
        refine gf_X10_40 F hta dX10_firstDraft_127 (fun ht10 => ?_)
        refine z_iload_n F 1 rfl rfl dX10_firstDraft_130 ?_
        refine z_iconst (v := 0) F (by decide) dX10_firstDraft_131 ?_
        refine z_iast F ht10 dX10_firstDraft_132 ?_
        refine z_letg (fun g11 => ?_)
        refine z_iincl (lv' := fun v12 => [(1, .int v12), (0, .ref a)]) F 1 rfl (by decide) (by decide) dX10_firstDraft_133 (fun _ => rfl) (fun v12 => ?_)
        refine z_goto (tgt := 120) F dX10_firstDraft_136 (by decide) ?_
        refine z_sub (lv' := [(0, .ref a), (1, .int v12)]) [1, 0] rfl ?_
        exact z_back (fun h => h)
    · show zSim (fun q : Int32 × zG => q = (r, g')) (j_X10_firstDraft_139 a x) (zAt E D (zA τ sz) (zQ E D zrV 0 0 sz τ τ r g') 2 (sz, τ, 0, 0) x 139 [(0, .ref a)] [])
      exact hj_X10_firstDraft_139 x
  have hj_X10_firstDraft_39 : ∀  (g_39 : zG), zSim (fun q : Int32 × zG => q = (r, g')) (j_X10_firstDraft_39 a g_39) (zAt E D (zA τ sz) (zQ E D zrV 0 0 sz τ τ r g') 2 (sz, τ, 0, 0) g_39 39 [(0, .ref a)] []) := by
    intro g_39
    unfold j_X10_firstDraft_39
    refine z_iconst (v := 0) F (by decide) dX10_firstDraft_39 ?_
    refine z_istore_n (lv' := [(1, .int 0), (0, .ref a)]) F rfl (by decide) dX10_firstDraft_40 rfl ?_
    refine z_sub (lv' := [(0, .ref a), (1, .int 0)]) [1, 0] rfl ?_
    refine z_loop (P := fun s : Int32 × zG => zAt E D (zA τ sz) (zQ E D zrV 0 0 sz τ τ r g') 2 (sz, τ, 0, 0) s.2 41 [(0, .ref a), (1, .int s.1)] []) (Px := fun x : zG => zAt E D (zA τ sz) (zQ E D zrV 0 0 sz τ τ r g') 2 (sz, τ, 0, 0) x 118 [(0, .ref a)] []) (0, g_39) (fun s => ?_) (fun x => ?_)
    · obtain ⟨l1_41, g_41⟩ := s
      show zSim (zKl (fun s : Int32 × zG => zAt E D (zA τ sz) (zQ E D zrV 0 0 sz τ τ r g') 2 (sz, τ, 0, 0) s.2 41 [(0, .ref a), (1, .int s.1)] []) (fun x : zG => zAt E D (zA τ sz) (zQ E D zrV 0 0 sz τ τ r g') 2 (sz, τ, 0, 0) x 118 [(0, .ref a)] [])) (l_X10_firstDraft_41 a l1_41 g_41) (zAt E D (zA τ sz) (zQ E D zrV 0 0 sz τ τ r g') 2 (sz, τ, 0, 0) g_41 41 [(0, .ref a), (1, .int l1_41)] [])
      unfold l_X10_firstDraft_41
      refine z_iload_n F 1 rfl rfl dX10_firstDraft_41 ?_
      refine z_bipush (v := 8) F (by decide) dX10_firstDraft_42 ?_
      refine z_icmp_ge (tgt := 118) F dX10_firstDraft_44 (by decide) (fun c13 => ?_) (fun c13 => ?_)
      · refine z_sub (lv' := [(0, .ref a)]) [0] rfl ?_
        exact z_back (fun h => h)
      · refine z_aload_n F 0 rfl rfl dX10_firstDraft_47 ?_
        refine gf_X10_37 F hta dX10_firstDraft_48 (fun ht14 => ?_)
        refine z_iload_n F 1 rfl rfl dX10_firstDraft_51 ?_
        refine z_iload_n F 1 rfl rfl dX10_firstDraft_52 ?_
        refine z_iconst (v := 1) F (by decide) dX10_firstDraft_53 ?_
        refine z_icmp_ne (tgt := 61) F dX10_firstDraft_54 (by decide) (fun c15 => ?_) (fun c15 => ?_)
        · refine z_iconst (v := 3) F (by decide) dX10_firstDraft_57 ?_
          refine z_goto (tgt := 111) F dX10_firstDraft_58 (by decide) ?_
          refine z_iast F ht14 dX10_firstDraft_111 ?_
          refine z_letg (fun g16 => ?_)
          refine z_iincl (lv' := fun v17 => [(1, .int v17), (0, .ref a)]) F 1 rfl (by decide) (by decide) dX10_firstDraft_112 (fun _ => rfl) (fun v17 => ?_)
          refine z_goto (tgt := 41) F dX10_firstDraft_115 (by decide) ?_
          refine z_sub (lv' := [(0, .ref a), (1, .int v17)]) [1, 0] rfl ?_
          exact z_back (fun h => h)
        · refine z_iload_n F 1 rfl rfl dX10_firstDraft_61 ?_
          refine z_iconst (v := 2) F (by decide) dX10_firstDraft_62 ?_
          refine z_icmp_ne (tgt := 70) F dX10_firstDraft_63 (by decide) (fun c18 => ?_) (fun c18 => ?_)
          · refine z_iconst (v := 2) F (by decide) dX10_firstDraft_66 ?_
            refine z_goto (tgt := 111) F dX10_firstDraft_67 (by decide) ?_
            refine z_iast F ht14 dX10_firstDraft_111 ?_
            refine z_letg (fun g19 => ?_)
            refine z_iincl (lv' := fun v20 => [(1, .int v20), (0, .ref a)]) F 1 rfl (by decide) (by decide) dX10_firstDraft_112 (fun _ => rfl) (fun v20 => ?_)
            refine z_goto (tgt := 41) F dX10_firstDraft_115 (by decide) ?_
            refine z_sub (lv' := [(0, .ref a), (1, .int v20)]) [1, 0] rfl ?_
            exact z_back (fun h => h)
          · refine z_iload_n F 1 rfl rfl dX10_firstDraft_70 ?_
            refine z_iconst (v := 3) F (by decide) dX10_firstDraft_71 ?_
            refine z_icmp_ne (tgt := 80) F dX10_firstDraft_72 (by decide) (fun c21 => ?_) (fun c21 => ?_)
            · refine z_bipush (v := 20) F (by decide) dX10_firstDraft_75 ?_
              refine z_goto (tgt := 111) F dX10_firstDraft_77 (by decide) ?_
              refine z_iast F ht14 dX10_firstDraft_111 ?_
              refine z_letg (fun g22 => ?_)
              refine z_iincl (lv' := fun v23 => [(1, .int v23), (0, .ref a)]) F 1 rfl (by decide) (by decide) dX10_firstDraft_112 (fun _ => rfl) (fun v23 => ?_)
              refine z_goto (tgt := 41) F dX10_firstDraft_115 (by decide) ?_
              refine z_sub (lv' := [(0, .ref a), (1, .int v23)]) [1, 0] rfl ?_
              exact z_back (fun h => h)
            · refine z_iload_n F 1 rfl rfl dX10_firstDraft_80 ?_
              refine z_iconst (v := 4) F (by decide) dX10_firstDraft_81 ?_
              refine z_icmp_ne (tgt := 90) F dX10_firstDraft_82 (by decide) (fun c24 => ?_) (fun c24 => ?_)
              · refine z_bipush (v := 40) F (by decide) dX10_firstDraft_85 ?_
                refine z_goto (tgt := 111) F dX10_firstDraft_87 (by decide) ?_
                refine z_iast F ht14 dX10_firstDraft_111 ?_
                refine z_letg (fun g25 => ?_)
                refine z_iincl (lv' := fun v26 => [(1, .int v26), (0, .ref a)]) F 1 rfl (by decide) (by decide) dX10_firstDraft_112 (fun _ => rfl) (fun v26 => ?_)
                refine z_goto (tgt := 41) F dX10_firstDraft_115 (by decide) ?_
                refine z_sub (lv' := [(0, .ref a), (1, .int v26)]) [1, 0] rfl ?_
                exact z_back (fun h => h)
              · refine z_iload_n F 1 rfl rfl dX10_firstDraft_90 ?_
                refine z_iconst (v := 5) F (by decide) dX10_firstDraft_91 ?_
                refine z_icmp_ne (tgt := 99) F dX10_firstDraft_92 (by decide) (fun c27 => ?_) (fun c27 => ?_)
                · refine z_iconst (v := 3) F (by decide) dX10_firstDraft_95 ?_
                  refine z_goto (tgt := 111) F dX10_firstDraft_96 (by decide) ?_
                  refine z_iast F ht14 dX10_firstDraft_111 ?_
                  refine z_letg (fun g28 => ?_)
                  refine z_iincl (lv' := fun v29 => [(1, .int v29), (0, .ref a)]) F 1 rfl (by decide) (by decide) dX10_firstDraft_112 (fun _ => rfl) (fun v29 => ?_)
                  refine z_goto (tgt := 41) F dX10_firstDraft_115 (by decide) ?_
                  refine z_sub (lv' := [(0, .ref a), (1, .int v29)]) [1, 0] rfl ?_
                  exact z_back (fun h => h)
                · refine z_iload_n F 1 rfl rfl dX10_firstDraft_99 ?_
                  refine z_bipush (v := 6) F (by decide) dX10_firstDraft_100 ?_
                  refine z_icmp_ne (tgt := 109) F dX10_firstDraft_102 (by decide) (fun c30 => ?_) (fun c30 => ?_)
                  · refine z_iconst (v := 2) F (by decide) dX10_firstDraft_105 ?_
                    refine z_goto (tgt := 111) F dX10_firstDraft_106 (by decide) ?_
                    refine z_iast F ht14 dX10_firstDraft_111 ?_
                    refine z_letg (fun g31 => ?_)
                    refine z_iincl (lv' := fun v32 => [(1, .int v32), (0, .ref a)]) F 1 rfl (by decide) (by decide) dX10_firstDraft_112 (fun _ => rfl) (fun v32 => ?_)
                    refine z_goto (tgt := 41) F dX10_firstDraft_115 (by decide) ?_
                    refine z_sub (lv' := [(0, .ref a), (1, .int v32)]) [1, 0] rfl ?_
                    exact z_back (fun h => h)
                  · refine z_bipush (v := 12) F (by decide) dX10_firstDraft_109 ?_
                    refine z_iast F ht14 dX10_firstDraft_111 ?_
                    refine z_letg (fun g33 => ?_)
                    refine z_iincl (lv' := fun v34 => [(1, .int v34), (0, .ref a)]) F 1 rfl (by decide) (by decide) dX10_firstDraft_112 (fun _ => rfl) (fun v34 => ?_)
                    refine z_goto (tgt := 41) F dX10_firstDraft_115 (by decide) ?_
                    refine z_sub (lv' := [(0, .ref a), (1, .int v34)]) [1, 0] rfl ?_
                    exact z_back (fun h => h)
    · show zSim (fun q : Int32 × zG => q = (r, g')) (j_X10_firstDraft_118 a x) (zAt E D (zA τ sz) (zQ E D zrV 0 0 sz τ τ r g') 2 (sz, τ, 0, 0) x 118 [(0, .ref a)] [])
      exact hj_X10_firstDraft_118 x
  unfold f_X10_firstDraft
  refine z_aload_n F 0 rfl rfl dX10_firstDraft_0 ?_
  refine z_bipush (v := 6) F (by decide) dX10_firstDraft_1 ?_
  refine pf_X10_122 F hta dX10_firstDraft_3 ?_
  refine z_letg (fun g35 => ?_)
  refine z_iconst (v := 0) F (by decide) dX10_firstDraft_6 ?_
  refine z_istore_n (lv' := [(1, .int 0), (0, .ref a)]) F rfl (by decide) dX10_firstDraft_7 rfl ?_
  refine z_sub (lv' := [(0, .ref a), (1, .int 0)]) [1, 0] rfl ?_
  refine z_loop (P := fun s : Int32 × zG => zAt E D (zA τ sz) (zQ E D zrV 0 0 sz τ τ r g') 2 (sz, τ, 0, 0) s.2 8 [(0, .ref a), (1, .int s.1)] []) (Px := fun x : zG => zAt E D (zA τ sz) (zQ E D zrV 0 0 sz τ τ r g') 2 (sz, τ, 0, 0) x 39 [(0, .ref a)] []) (0, g35) (fun s => ?_) (fun x => ?_)
  · obtain ⟨l1_8, g_8⟩ := s
    show zSim (zKl (fun s : Int32 × zG => zAt E D (zA τ sz) (zQ E D zrV 0 0 sz τ τ r g') 2 (sz, τ, 0, 0) s.2 8 [(0, .ref a), (1, .int s.1)] []) (fun x : zG => zAt E D (zA τ sz) (zQ E D zrV 0 0 sz τ τ r g') 2 (sz, τ, 0, 0) x 39 [(0, .ref a)] [])) (l_X10_firstDraft_8 a l1_8 g_8) (zAt E D (zA τ sz) (zQ E D zrV 0 0 sz τ τ r g') 2 (sz, τ, 0, 0) g_8 8 [(0, .ref a), (1, .int l1_8)] [])
    unfold l_X10_firstDraft_8
    refine z_iload_n F 1 rfl rfl dX10_firstDraft_8 ?_
    refine z_bipush (v := 49) F (by decide) dX10_firstDraft_9 ?_
    refine z_icmp_ge (tgt := 39) F dX10_firstDraft_11 (by decide) (fun c36 => ?_) (fun c36 => ?_)
    · refine z_sub (lv' := [(0, .ref a)]) [0] rfl ?_
      exact z_back (fun h => h)
    · refine z_aload_n F 0 rfl rfl dX10_firstDraft_14 ?_
      refine gf_X10_34 F hta dX10_firstDraft_15 (fun ht37 => ?_)
      refine z_iload_n F 1 rfl rfl dX10_firstDraft_18 ?_
      refine z_iload_n F 1 rfl rfl dX10_firstDraft_19 ?_
      refine z_bipush (v := 6) F (by decide) dX10_firstDraft_20 ?_
      refine z_icmp_ge (tgt := 31) F dX10_firstDraft_22 (by decide) (fun c38 => ?_) (fun c38 => ?_)
      · refine z_iconst (v := 0) F (by decide) dX10_firstDraft_31 ?_
        refine z_iast F ht37 dX10_firstDraft_32 ?_
        refine z_letg (fun g39 => ?_)
        refine z_iincl (lv' := fun v40 => [(1, .int v40), (0, .ref a)]) F 1 rfl (by decide) (by decide) dX10_firstDraft_33 (fun _ => rfl) (fun v40 => ?_)
        refine z_goto (tgt := 8) F dX10_firstDraft_36 (by decide) ?_
        refine z_sub (lv' := [(0, .ref a), (1, .int v40)]) [1, 0] rfl ?_
        exact z_back (fun h => h)
      · refine z_iload_n F 1 rfl rfl dX10_firstDraft_25 ?_
        refine z_iconst (v := 1) F (by decide) dX10_firstDraft_26 ?_
        refine z_iadd F dX10_firstDraft_27 ?_
        refine z_goto (tgt := 32) F dX10_firstDraft_28 (by decide) ?_
        refine z_iast F ht37 dX10_firstDraft_32 ?_
        refine z_letg (fun g41 => ?_)
        refine z_iincl (lv' := fun v42 => [(1, .int v42), (0, .ref a)]) F 1 rfl (by decide) (by decide) dX10_firstDraft_33 (fun _ => rfl) (fun v42 => ?_)
        refine z_goto (tgt := 8) F dX10_firstDraft_36 (by decide) ?_
        refine z_sub (lv' := [(0, .ref a), (1, .int v42)]) [1, 0] rfl ?_
        exact z_back (fun h => h)
  · show zSim (fun q : Int32 × zG => q = (r, g')) (j_X10_firstDraft_39 a x) (zAt E D (zA τ sz) (zQ E D zrV 0 0 sz τ τ r g') 2 (sz, τ, 0, 0) x 39 [(0, .ref a)] [])
    exact hj_X10_firstDraft_39 x
theorem k_X10_firstDraft {ρ : Type} {K : ρ → Prop} {E : zE} {D : zD} {A : Nat → Prop} {Q : State → Prop} {nL : Nat} {κ : zC} {g : zG} {pc : Nat} {lv : List (Nat × Value)} {st : List Value} {cc : ByteArray} {own : String} {ret : Option FieldType} (F : zF E D A cc own nL ret) {index : Nat} {h : Int32 → zG → Option ρ} {a : Nat}  (hR : 0 + 1 ≤ E.2.2.2.1.frames ∧ 8 + (2 + 11) + 0 ≤ E.2.2.2.1.locals) (hl : zTbl (.methodLink own index yX10_firstDraft)) (hta : κ.2.1 a = some (.inr 10)) (hc : κ.2.2.1 ≤ E.2.2.2.1.cells ∧ κ.2.2.2 ≤ E.2.2.2.1.slots) (hW : (st.map fun v => v.category).sum ≤ 8) (hd : decode cc pc = .ok (.invokevirtual index, 3)) (kk : ∀ r g', zSim K (h r g') (zAt E D A Q nL κ g' (pc + 3) lv (st))) : zSim K (zb (f_X10_firstDraft a g) h) (zAt E D A Q nL κ g pc lv (.ref a :: st)) :=
  z_callV F (n := 0) (As := []) (C := (RX10, TX10, 61)) ⟨q_875, q_14, by decide +kernel, rfl, rfl, hR.1, hR.2⟩ (c_X10_firstDraft E.2.1 D κ.1 κ.2.1 g a hta) hl q_874 q_1389 hta rfl rfl rfl hc hW hd kk _ rfl
theorem dX10_feed_0 : decode cX10_feed 0 = .ok (.aload_n 0, 1) := by decide +kernel
theorem dX10_feed_1 : decode cX10_feed 1 = .ok (.getfield 160, 3) := by decide +kernel
theorem dX10_feed_4 : decode cX10_feed 4 = .ok (.bipush 8, 2) := by decide +kernel
theorem dX10_feed_6 : decode cX10_feed 6 = .ok (.iadd, 1) := by decide +kernel
theorem dX10_feed_7 : decode cX10_feed 7 = .ok (.sipush 240, 3) := by decide +kernel
theorem dX10_feed_10 : decode cX10_feed 10 = .ok (.if_icmp .le 6, 3) := by decide +kernel
theorem dX10_feed_13 : decode cX10_feed 13 = .ok (.bipush (-3), 2) := by decide +kernel
theorem dX10_feed_15 : decode cX10_feed 15 = .ok (.ireturn, 1) := by decide +kernel
theorem dX10_feed_16 : decode cX10_feed 16 = .ok (.bipush 56, 2) := by decide +kernel
theorem dX10_feed_18 : decode cX10_feed 18 = .ok (.istore_n 3, 1) := by decide +kernel
theorem dX10_feed_19 : decode cX10_feed 19 = .ok (.iload_n 3, 1) := by decide +kernel
theorem dX10_feed_20 : decode cX10_feed 20 = .ok (.ifCond .lt 36, 3) := by decide +kernel
theorem dX10_feed_23 : decode cX10_feed 23 = .ok (.aload_n 0, 1) := by decide +kernel
theorem dX10_feed_24 : decode cX10_feed 24 = .ok (.getfield 68, 3) := by decide +kernel
theorem dX10_feed_27 : decode cX10_feed 27 = .ok (.aload_n 0, 1) := by decide +kernel
theorem dX10_feed_28 : decode cX10_feed 28 = .ok (.getfield 160, 3) := by decide +kernel
theorem dX10_feed_31 : decode cX10_feed 31 = .ok (.lload_n 1, 1) := by decide +kernel
theorem dX10_feed_32 : decode cX10_feed 32 = .ok (.iload_n 3, 1) := by decide +kernel
theorem dX10_feed_33 : decode cX10_feed 33 = .ok (.lshr, 1) := by decide +kernel
theorem dX10_feed_34 : decode cX10_feed 34 = .ok (.ldc2_w 163, 3) := by decide +kernel
theorem dX10_feed_37 : decode cX10_feed 37 = .ok (.land, 1) := by decide +kernel
theorem dX10_feed_38 : decode cX10_feed 38 = .ok (.l2i, 1) := by decide +kernel
theorem dX10_feed_39 : decode cX10_feed 39 = .ok (.iastore, 1) := by decide +kernel
theorem dX10_feed_40 : decode cX10_feed 40 = .ok (.aload_n 0, 1) := by decide +kernel
theorem dX10_feed_41 : decode cX10_feed 41 = .ok (.dup, 1) := by decide +kernel
theorem dX10_feed_42 : decode cX10_feed 42 = .ok (.getfield 160, 3) := by decide +kernel
theorem dX10_feed_45 : decode cX10_feed 45 = .ok (.iconst 1, 1) := by decide +kernel
theorem dX10_feed_46 : decode cX10_feed 46 = .ok (.iadd, 1) := by decide +kernel
theorem dX10_feed_47 : decode cX10_feed 47 = .ok (.putfield 160, 3) := by decide +kernel
theorem dX10_feed_50 : decode cX10_feed 50 = .ok (.iinc 3 (-8), 3) := by decide +kernel
theorem dX10_feed_53 : decode cX10_feed 53 = .ok (.goto (-34), 3) := by decide +kernel
theorem dX10_feed_56 : decode cX10_feed 56 = .ok (.aload_n 0, 1) := by decide +kernel
theorem dX10_feed_57 : decode cX10_feed 57 = .ok (.getfield 160, 3) := by decide +kernel
theorem dX10_feed_60 : decode cX10_feed 60 = .ok (.ireturn, 1) := by decide +kernel
def j_X10_feed_56 (a : Nat)  (g : zG) : Option (Int32 × zG) :=
  some ((g.1 a 27, g))
def l_X10_feed_19 (a : Nat) (l1 : Int64) (l3 : Int32) (g : zG) : Option ((Int32 × zG) ⊕ (zG)) :=
  if l3 < 0 then (some (.inr g)) else (zc (zin (g.1 a 27) 240) (zl (zsi g (g.2.1 a 26) (g.1 a 27).toNatClampNeg (((zlshr l1 l3) &&& 255).toInt32)) (fun g4 => zl (zsi g4 a 27 ((g4.1 a 27) + 1)) (fun g5 => zl (l3 + (-8)) (fun v6 => some (.inl (v6, g5)))))))
def f_X10_feed (a : Nat) (x1 : Int64) (g : zG) : Option (Int32 × zG) :=
  if ((g.1 a 27) + 8) ≤ 240 then (zk (zw zN (fun s => l_X10_feed_19 a x1 s.1 s.2) (56, g)) (fun x => j_X10_feed_56 a x)) else (some (((-3), g)))
abbrev rm_X10_feed : Room := { frames := 0, cells := 0, slots := 0, locals := 0 }
set_option maxRecDepth 100000 in
set_option maxHeartbeats 4000000 in
theorem c_X10_feed (l : Launch) (D : zD) (sz : Nat) (τ : zT) (g : zG) (a : Nat) (x1 : Int64) (hta : τ a = some (.inr 10)) : zCon l D yX10_feed cX10_feed 4 (some .int) rm_X10_feed 0 0 zrI [.ref a, .long x1] sz τ g τ (f_X10_feed a x1 g) := by
  refine zCon.of (by decide) (Nat.le_of_ble_eq_true rfl) (fun E r g' hl hR hsz hnm F => ?_)
  have F : zF E D (zA τ sz) cX10_feed "TypeChainModel" 4 (some .int) := F
  show zSim (fun q : Int32 × zG => q = (r, g')) (f_X10_feed a x1 g) (zAt E D (zA τ sz) (zQ E D zrI 0 0 sz τ τ r g') 4 (sz, τ, 0, 0) g 0 [(0, .ref a), (1, .long x1)] [])
  have hj_X10_feed_56 : ∀  (g_56 : zG), zSim (fun q : Int32 × zG => q = (r, g')) (j_X10_feed_56 a g_56) (zAt E D (zA τ sz) (zQ E D zrI 0 0 sz τ τ r g') 4 (sz, τ, 0, 0) g_56 56 [(0, .ref a)] []) := by
    intro g_56
    unfold j_X10_feed_56
    refine z_aload_n F 0 rfl rfl dX10_feed_56 ?_
    refine gf_X10_160 F hta dX10_feed_57 ?_
    exact z_ireturn F rfl rfl rfl rfl (fun h => h) dX10_feed_60
  unfold f_X10_feed
  refine z_aload_n F 0 rfl rfl dX10_feed_0 ?_
  refine gf_X10_160 F hta dX10_feed_1 ?_
  refine z_bipush (v := 8) F (by decide) dX10_feed_4 ?_
  refine z_iadd F dX10_feed_6 ?_
  refine z_sipush (v := 240) F (by decide) dX10_feed_7 ?_
  refine z_icmp_le (tgt := 16) F dX10_feed_10 (by decide) (fun c1 => ?_) (fun c1 => ?_)
  · refine z_bipush (v := 56) F (by decide) dX10_feed_16 ?_
    refine z_istore_n (lv' := [(3, .int 56), (0, .ref a), (1, .long x1)]) F rfl (by decide) dX10_feed_18 rfl ?_
    refine z_sub (lv' := [(0, .ref a), (1, .long x1), (3, .int 56)]) [1, 2, 0] rfl ?_
    refine z_loop (P := fun s : Int32 × zG => zAt E D (zA τ sz) (zQ E D zrI 0 0 sz τ τ r g') 4 (sz, τ, 0, 0) s.2 19 [(0, .ref a), (1, .long x1), (3, .int s.1)] []) (Px := fun x : zG => zAt E D (zA τ sz) (zQ E D zrI 0 0 sz τ τ r g') 4 (sz, τ, 0, 0) x 56 [(0, .ref a)] []) (56, g) (fun s => ?_) (fun x => ?_)
    · obtain ⟨l3_19, g_19⟩ := s
      show zSim (zKl (fun s : Int32 × zG => zAt E D (zA τ sz) (zQ E D zrI 0 0 sz τ τ r g') 4 (sz, τ, 0, 0) s.2 19 [(0, .ref a), (1, .long x1), (3, .int s.1)] []) (fun x : zG => zAt E D (zA τ sz) (zQ E D zrI 0 0 sz τ τ r g') 4 (sz, τ, 0, 0) x 56 [(0, .ref a)] [])) (l_X10_feed_19 a x1 l3_19 g_19) (zAt E D (zA τ sz) (zQ E D zrI 0 0 sz τ τ r g') 4 (sz, τ, 0, 0) g_19 19 [(0, .ref a), (1, .long x1), (3, .int l3_19)] [])
      unfold l_X10_feed_19
      refine z_iload_n F 2 rfl rfl dX10_feed_19 ?_
      refine z_if_lt (tgt := 56) F dX10_feed_20 (by decide) (fun c2 => ?_) (fun c2 => ?_)
      · refine z_sub (lv' := [(0, .ref a)]) [0] rfl ?_
        exact z_back (fun h => h)
      · refine z_aload_n F 0 rfl rfl dX10_feed_23 ?_
        refine gf_X10_68 F hta dX10_feed_24 (fun ht3 => ?_)
        refine z_aload_n F 0 rfl rfl dX10_feed_27 ?_
        refine gf_X10_160 F hta dX10_feed_28 ?_
        refine z_lload_n F 1 rfl rfl dX10_feed_31 ?_
        refine z_iload_n F 2 rfl rfl dX10_feed_32 ?_
        refine z_lshr F dX10_feed_33 ?_
        refine z_ldc2 F q_1077 dX10_feed_34 ?_
        refine z_land F dX10_feed_37 ?_
        refine z_l2i F dX10_feed_38 ?_
        refine z_iast F ht3 dX10_feed_39 ?_
        refine z_letg (fun g4 => ?_)
        refine z_aload_n F 0 rfl rfl dX10_feed_40 ?_
        refine z_dup F rfl dX10_feed_41 ?_
        refine gf_X10_160 F hta dX10_feed_42 ?_
        refine z_iconst (v := 1) F (by decide) dX10_feed_45 ?_
        refine z_iadd F dX10_feed_46 ?_
        refine pf_X10_160 F hta dX10_feed_47 ?_
        refine z_letg (fun g5 => ?_)
        refine z_iincl (lv' := fun v6 => [(3, .int v6), (0, .ref a), (1, .long x1)]) F 2 rfl (by decide) (by decide) dX10_feed_50 (fun _ => rfl) (fun v6 => ?_)
        refine z_goto (tgt := 19) F dX10_feed_53 (by decide) ?_
        refine z_sub (lv' := [(0, .ref a), (1, .long x1), (3, .int v6)]) [1, 2, 0] rfl ?_
        exact z_back (fun h => h)
    · show zSim (fun q : Int32 × zG => q = (r, g')) (j_X10_feed_56 a x) (zAt E D (zA τ sz) (zQ E D zrI 0 0 sz τ τ r g') 4 (sz, τ, 0, 0) x 56 [(0, .ref a)] [])
      exact hj_X10_feed_56 x
  · refine z_bipush (v := (-3)) F (by decide) dX10_feed_13 ?_
    exact z_ireturn F rfl rfl rfl rfl (fun h => h) dX10_feed_15
theorem k_X10_feed {ρ : Type} {K : ρ → Prop} {E : zE} {D : zD} {A : Nat → Prop} {Q : State → Prop} {nL : Nat} {κ : zC} {g : zG} {pc : Nat} {lv : List (Nat × Value)} {st : List Value} {cc : ByteArray} {own : String} {ret : Option FieldType} (F : zF E D A cc own nL ret) {index : Nat} {h : Int32 → zG → Option ρ} {a : Nat} {x1 : Int64}  (hR : 0 + 1 ≤ E.2.2.2.1.frames ∧ 8 + (4 + 11) + 0 ≤ E.2.2.2.1.locals) (hl : zTbl (.methodLink own index yX10_feed)) (hta : κ.2.1 a = some (.inr 10)) (hc : κ.2.2.1 ≤ E.2.2.2.1.cells ∧ κ.2.2.2 ≤ E.2.2.2.1.slots) (hW : (st.map fun v => v.category).sum ≤ 8) (hd : decode cc pc = .ok (.invokevirtual index, 3)) (kk : ∀ r g', zSim K (h r g') (zAt E D A Q nL κ g' (pc + 3) lv (.int r :: st))) : zSim K (zb (f_X10_feed a x1 g) h) (zAt E D A Q nL κ g pc lv (.long x1 :: .ref a :: st)) :=
  z_callV F (n := 1) (As := [.long x1]) (C := (RX10, TX10, 61)) ⟨q_1076, q_14, by decide +kernel, rfl, rfl, hR.1, hR.2⟩ (c_X10_feed E.2.1 D κ.1 κ.2.1 g a x1 hta) hl q_1074 q_1075 hta rfl rfl rfl hc hW hd kk _ rfl
theorem dX10_end_0 : decode cX10_end 0 = .ok (.iload_n 1, 1) := by decide +kernel
theorem dX10_end_1 : decode cX10_end 1 = .ok (.i2l, 1) := by decide +kernel
theorem dX10_end_2 : decode cX10_end 2 = .ok (.lconst 0, 1) := by decide +kernel
theorem dX10_end_3 : decode cX10_end 3 = .ok (.aload_n 0, 1) := by decide +kernel
theorem dX10_end_4 : decode cX10_end 4 = .ok (.getfield 160, 3) := by decide +kernel
theorem dX10_end_7 : decode cX10_end 7 = .ok (.i2l, 1) := by decide +kernel
theorem dX10_end_8 : decode cX10_end 8 = .ok (.invokestatic 165, 3) := by decide +kernel
theorem dX10_end_11 : decode cX10_end 11 = .ok (.ifCond .ne 5, 3) := by decide +kernel
theorem dX10_end_14 : decode cX10_end 14 = .ok (.iconst (-1), 1) := by decide +kernel
theorem dX10_end_15 : decode cX10_end 15 = .ok (.ireturn, 1) := by decide +kernel
theorem dX10_end_16 : decode cX10_end 16 = .ok (.aload_n 0, 1) := by decide +kernel
theorem dX10_end_17 : decode cX10_end 17 = .ok (.getfield 160, 3) := by decide +kernel
theorem dX10_end_20 : decode cX10_end 20 = .ok (.istore_n 2, 1) := by decide +kernel
theorem dX10_end_21 : decode cX10_end 21 = .ok (.aload_n 0, 1) := by decide +kernel
theorem dX10_end_22 : decode cX10_end 22 = .ok (.iload_n 1, 1) := by decide +kernel
theorem dX10_end_23 : decode cX10_end 23 = .ok (.putfield 160, 3) := by decide +kernel
theorem dX10_end_26 : decode cX10_end 26 = .ok (.iload_n 2, 1) := by decide +kernel
theorem dX10_end_27 : decode cX10_end 27 = .ok (.ireturn, 1) := by decide +kernel
def f_X10_end (a : Nat) (x1 : Int32) (g : zG) : Option (Int32 × zG) :=
  zb (f_X10_in x1.toInt64 0 ((g.1 a 27).toInt64) g) (fun v1 g2 => if v1 = 0 then (some (((-1), g2))) else (zl (g2.1 a 27) (fun v4 => zl (zsi g2 a 27 x1) (fun g5 => some ((v4, g5))))))
abbrev rm_X10_end : Room := { frames := 1, cells := 0, slots := 0, locals := 25 }
set_option maxRecDepth 100000 in
set_option maxHeartbeats 4000000 in
theorem c_X10_end (l : Launch) (D : zD) (sz : Nat) (τ : zT) (g : zG) (a : Nat) (x1 : Int32) (hta : τ a = some (.inr 10)) : zCon l D yX10_end cX10_end 3 (some .int) rm_X10_end 0 0 zrI [.ref a, .int x1] sz τ g τ (f_X10_end a x1 g) := by
  refine zCon.of (by decide) (Nat.le_of_ble_eq_true rfl) (fun E r g' hl hR hsz hnm F => ?_)
  have F : zF E D (zA τ sz) cX10_end "TypeChainModel" 3 (some .int) := F
  show zSim (fun q : Int32 × zG => q = (r, g')) (f_X10_end a x1 g) (zAt E D (zA τ sz) (zQ E D zrI 0 0 sz τ τ r g') 3 (sz, τ, 0, 0) g 0 [(0, .ref a), (1, .int x1)] [])
  unfold f_X10_end
  refine z_iload_n F 1 rfl rfl dX10_end_0 ?_
  refine z_i2l F dX10_end_1 ?_
  refine z_lconst (v := 0) F (by decide) dX10_end_2 ?_
  refine z_aload_n F 0 rfl rfl dX10_end_3 ?_
  refine gf_X10_160 F hta dX10_end_4 ?_
  refine z_i2l F dX10_end_7 ?_
  refine k_X10_in F (by rw [hR]; exact ⟨by decide, by decide⟩) q_1082  ⟨Nat.zero_le _, Nat.zero_le _⟩ (Nat.le_of_ble_eq_true rfl) dX10_end_8 (fun v1 g2 => ?_)
  refine z_if_ne (tgt := 16) F dX10_end_11 (by decide) (fun c3 => ?_) (fun c3 => ?_)
  · refine z_iconst (v := (-1)) F (by decide) dX10_end_14 ?_
    exact z_ireturn F rfl rfl rfl rfl (fun h => h) dX10_end_15
  · refine z_aload_n F 0 rfl rfl dX10_end_16 ?_
    refine gf_X10_160 F hta dX10_end_17 ?_
    refine z_leti (fun v4 => ?_)
    refine z_istore_n (lv' := [(2, .int v4), (0, .ref a), (1, .int x1)]) F rfl (by decide) dX10_end_20 rfl ?_
    refine z_aload_n F 1 rfl rfl dX10_end_21 ?_
    refine z_iload_n F 2 rfl rfl dX10_end_22 ?_
    refine pf_X10_160 F hta dX10_end_23 ?_
    refine z_letg (fun g5 => ?_)
    refine z_iload_n F 0 rfl rfl dX10_end_26 ?_
    exact z_ireturn F rfl rfl rfl rfl (fun h => h) dX10_end_27
theorem k_X10_end {ρ : Type} {K : ρ → Prop} {E : zE} {D : zD} {A : Nat → Prop} {Q : State → Prop} {nL : Nat} {κ : zC} {g : zG} {pc : Nat} {lv : List (Nat × Value)} {st : List Value} {cc : ByteArray} {own : String} {ret : Option FieldType} (F : zF E D A cc own nL ret) {index : Nat} {h : Int32 → zG → Option ρ} {a : Nat} {x1 : Int32}  (hR : 1 + 1 ≤ E.2.2.2.1.frames ∧ 8 + (3 + 11) + 25 ≤ E.2.2.2.1.locals) (hl : zTbl (.methodLink own index yX10_end)) (hta : κ.2.1 a = some (.inr 10)) (hc : κ.2.2.1 ≤ E.2.2.2.1.cells ∧ κ.2.2.2 ≤ E.2.2.2.1.slots) (hW : (st.map fun v => v.category).sum ≤ 8) (hd : decode cc pc = .ok (.invokevirtual index, 3)) (kk : ∀ r g', zSim K (h r g') (zAt E D A Q nL κ g' (pc + 3) lv (.int r :: st))) : zSim K (zb (f_X10_end a x1 g) h) (zAt E D A Q nL κ g pc lv (.int x1 :: .ref a :: st)) :=
  z_callV F (n := 1) (As := [.int x1]) (C := (RX10, TX10, 61)) ⟨q_1081, q_14, by decide +kernel, rfl, rfl, hR.1, hR.2⟩ (c_X10_end E.2.1 D κ.1 κ.2.1 g a x1 hta) hl q_1079 q_1080 hta rfl rfl rfl hc hW hd kk _ rfl
theorem dX10_wants_0 : decode cX10_wants 0 = .ok (.iload_n 1, 1) := by decide +kernel
theorem dX10_wants_1 : decode cX10_wants 1 = .ok (.ifCond .ne 23, 3) := by decide +kernel
theorem dX10_wants_4 : decode cX10_wants 4 = .ok (.aload_n 0, 1) := by decide +kernel
theorem dX10_wants_5 : decode cX10_wants 5 = .ok (.getfield 169, 3) := by decide +kernel
theorem dX10_wants_8 : decode cX10_wants 8 = .ok (.ifCond .ne 16, 3) := by decide +kernel
theorem dX10_wants_11 : decode cX10_wants 11 = .ok (.aload_n 0, 1) := by decide +kernel
theorem dX10_wants_12 : decode cX10_wants 12 = .ok (.iload_n 2, 1) := by decide +kernel
theorem dX10_wants_13 : decode cX10_wants 13 = .ok (.putfield 169, 3) := by decide +kernel
theorem dX10_wants_16 : decode cX10_wants 16 = .ok (.aload_n 0, 1) := by decide +kernel
theorem dX10_wants_17 : decode cX10_wants 17 = .ok (.aload_n 0, 1) := by decide +kernel
theorem dX10_wants_18 : decode cX10_wants 18 = .ok (.getfield 172, 3) := by decide +kernel
theorem dX10_wants_21 : decode cX10_wants 21 = .ok (.putfield 175, 3) := by decide +kernel
theorem dX10_wants_24 : decode cX10_wants 24 = .ok (.return_, 1) := by decide +kernel
def f_X10_wants (a : Nat) (x1 : Int32) (x2 : Int32) (g : zG) : Option (Int32 × zG) :=
  if x1 = 0 then (if (g.1 a 32) = 0 then (zl (zsi g a 32 x2) (fun g3 => zl (zsi g3 a 33 (g3.1 a 29)) (fun g4 => some ((0, g4))))) else (some ((0, g)))) else (some ((0, g)))
abbrev rm_X10_wants : Room := { frames := 0, cells := 0, slots := 0, locals := 0 }
set_option maxRecDepth 100000 in
set_option maxHeartbeats 4000000 in
theorem c_X10_wants (l : Launch) (D : zD) (sz : Nat) (τ : zT) (g : zG) (a : Nat) (x1 : Int32) (x2 : Int32) (hta : τ a = some (.inr 10)) : zCon l D yX10_wants cX10_wants 3 none rm_X10_wants 0 0 zrV [.ref a, .int x1, .int x2] sz τ g τ (f_X10_wants a x1 x2 g) := by
  refine zCon.of (by decide) (Nat.le_of_ble_eq_true rfl) (fun E r g' hl hR hsz hnm F => ?_)
  have F : zF E D (zA τ sz) cX10_wants "TypeChainModel" 3 none := F
  show zSim (fun q : Int32 × zG => q = (r, g')) (f_X10_wants a x1 x2 g) (zAt E D (zA τ sz) (zQ E D zrV 0 0 sz τ τ r g') 3 (sz, τ, 0, 0) g 0 [(0, .ref a), (1, .int x1), (2, .int x2)] [])
  unfold f_X10_wants
  refine z_iload_n F 1 rfl rfl dX10_wants_0 ?_
  refine z_if_ne (tgt := 24) F dX10_wants_1 (by decide) (fun c1 => ?_) (fun c1 => ?_)
  · refine z_aload_n F 0 rfl rfl dX10_wants_4 ?_
    refine gf_X10_169 F hta dX10_wants_5 ?_
    refine z_if_ne (tgt := 24) F dX10_wants_8 (by decide) (fun c2 => ?_) (fun c2 => ?_)
    · refine z_aload_n F 0 rfl rfl dX10_wants_11 ?_
      refine z_iload_n F 2 rfl rfl dX10_wants_12 ?_
      refine pf_X10_169 F hta dX10_wants_13 ?_
      refine z_letg (fun g3 => ?_)
      refine z_aload_n F 0 rfl rfl dX10_wants_16 ?_
      refine z_aload_n F 0 rfl rfl dX10_wants_17 ?_
      refine gf_X10_172 F hta dX10_wants_18 ?_
      refine pf_X10_175 F hta dX10_wants_21 ?_
      refine z_letg (fun g4 => ?_)
      exact z_vreturn F rfl rfl rfl rfl (fun h => h) dX10_wants_24
    · exact z_vreturn F rfl rfl rfl rfl (fun h => h) dX10_wants_24
  · exact z_vreturn F rfl rfl rfl rfl (fun h => h) dX10_wants_24
theorem k_X10_wants {ρ : Type} {K : ρ → Prop} {E : zE} {D : zD} {A : Nat → Prop} {Q : State → Prop} {nL : Nat} {κ : zC} {g : zG} {pc : Nat} {lv : List (Nat × Value)} {st : List Value} {cc : ByteArray} {own : String} {ret : Option FieldType} (F : zF E D A cc own nL ret) {index : Nat} {h : Int32 → zG → Option ρ} {a : Nat} {x1 : Int32} {x2 : Int32}  (hR : 0 + 1 ≤ E.2.2.2.1.frames ∧ 8 + (3 + 11) + 0 ≤ E.2.2.2.1.locals) (hl : zTbl (.methodLink own index yX10_wants)) (hta : κ.2.1 a = some (.inr 10)) (hc : κ.2.2.1 ≤ E.2.2.2.1.cells ∧ κ.2.2.2 ≤ E.2.2.2.1.slots) (hW : (st.map fun v => v.category).sum ≤ 8) (hd : decode cc pc = .ok (.invokevirtual index, 3)) (kk : ∀ r g', zSim K (h r g') (zAt E D A Q nL κ g' (pc + 3) lv (st))) : zSim K (zb (f_X10_wants a x1 x2 g) h) (zAt E D A Q nL κ g pc lv (.int x2 :: .int x1 :: .ref a :: st)) :=
  z_callV F (n := 2) (As := [.int x1, .int x2]) (C := (RX10, TX10, 61)) ⟨q_1104, q_14, by decide +kernel, rfl, rfl, hR.1, hR.2⟩ (c_X10_wants E.2.1 D κ.1 κ.2.1 g a x1 x2 hta) hl q_1103 q_1395 hta rfl rfl rfl hc hW hd kk _ rfl
theorem dX10_look_0 : decode cX10_look 0 = .ok (.iload_n 1, 1) := by decide +kernel
theorem dX10_look_1 : decode cX10_look 1 = .ok (.aload_n 0, 1) := by decide +kernel
theorem dX10_look_2 : decode cX10_look 2 = .ok (.getfield 160, 3) := by decide +kernel
theorem dX10_look_5 : decode cX10_look 5 = .ok (.if_icmp .ge 12, 3) := by decide +kernel
theorem dX10_look_8 : decode cX10_look 8 = .ok (.aload_n 0, 1) := by decide +kernel
theorem dX10_look_9 : decode cX10_look 9 = .ok (.getfield 68, 3) := by decide +kernel
theorem dX10_look_12 : decode cX10_look 12 = .ok (.iload_n 1, 1) := by decide +kernel
theorem dX10_look_13 : decode cX10_look 13 = .ok (.iaload, 1) := by decide +kernel
theorem dX10_look_14 : decode cX10_look 14 = .ok (.goto 4, 3) := by decide +kernel
theorem dX10_look_17 : decode cX10_look 17 = .ok (.iconst (-1), 1) := by decide +kernel
theorem dX10_look_18 : decode cX10_look 18 = .ok (.ireturn, 1) := by decide +kernel
def f_X10_look (a : Nat) (x1 : Int32) (g : zG) : Option (Int32 × zG) :=
  if (g.1 a 27) ≤ x1 then (some (((-1), g))) else (zc (zin x1 240) (some ((g.1 (g.2.1 a 26) x1.toNatClampNeg, g))))
abbrev rm_X10_look : Room := { frames := 0, cells := 0, slots := 0, locals := 0 }
set_option maxRecDepth 100000 in
set_option maxHeartbeats 4000000 in
theorem c_X10_look (l : Launch) (D : zD) (sz : Nat) (τ : zT) (g : zG) (a : Nat) (x1 : Int32) (hta : τ a = some (.inr 10)) : zCon l D yX10_look cX10_look 2 (some .int) rm_X10_look 0 0 zrI [.ref a, .int x1] sz τ g τ (f_X10_look a x1 g) := by
  refine zCon.of (by decide) (Nat.le_of_ble_eq_true rfl) (fun E r g' hl hR hsz hnm F => ?_)
  have F : zF E D (zA τ sz) cX10_look "TypeChainModel" 2 (some .int) := F
  show zSim (fun q : Int32 × zG => q = (r, g')) (f_X10_look a x1 g) (zAt E D (zA τ sz) (zQ E D zrI 0 0 sz τ τ r g') 2 (sz, τ, 0, 0) g 0 [(0, .ref a), (1, .int x1)] [])
  unfold f_X10_look
  refine z_iload_n F 1 rfl rfl dX10_look_0 ?_
  refine z_aload_n F 0 rfl rfl dX10_look_1 ?_
  refine gf_X10_160 F hta dX10_look_2 ?_
  refine z_icmp_ge (tgt := 17) F dX10_look_5 (by decide) (fun c1 => ?_) (fun c1 => ?_)
  · refine z_iconst (v := (-1)) F (by decide) dX10_look_17 ?_
    exact z_ireturn F rfl rfl rfl rfl (fun h => h) dX10_look_18
  · refine z_aload_n F 0 rfl rfl dX10_look_8 ?_
    refine gf_X10_68 F hta dX10_look_9 (fun ht2 => ?_)
    refine z_iload_n F 1 rfl rfl dX10_look_12 ?_
    refine z_iald F ht2 dX10_look_13 ?_
    refine z_goto (tgt := 18) F dX10_look_14 (by decide) ?_
    exact z_ireturn F rfl rfl rfl rfl (fun h => h) dX10_look_18
theorem k_X10_look {ρ : Type} {K : ρ → Prop} {E : zE} {D : zD} {A : Nat → Prop} {Q : State → Prop} {nL : Nat} {κ : zC} {g : zG} {pc : Nat} {lv : List (Nat × Value)} {st : List Value} {cc : ByteArray} {own : String} {ret : Option FieldType} (F : zF E D A cc own nL ret) {index : Nat} {h : Int32 → zG → Option ρ} {a : Nat} {x1 : Int32}  (hR : 0 + 1 ≤ E.2.2.2.1.frames ∧ 8 + (2 + 11) + 0 ≤ E.2.2.2.1.locals) (hl : zTbl (.methodLink own index yX10_look)) (hta : κ.2.1 a = some (.inr 10)) (hc : κ.2.2.1 ≤ E.2.2.2.1.cells ∧ κ.2.2.2 ≤ E.2.2.2.1.slots) (hW : (st.map fun v => v.category).sum ≤ 8) (hd : decode cc pc = .ok (.invokevirtual index, 3)) (kk : ∀ r g', zSim K (h r g') (zAt E D A Q nL κ g' (pc + 3) lv (.int r :: st))) : zSim K (zb (f_X10_look a x1 g) h) (zAt E D A Q nL κ g pc lv (.int x1 :: .ref a :: st)) :=
  z_callV F (n := 1) (As := [.int x1]) (C := (RX10, TX10, 61)) ⟨q_1096, q_14, by decide +kernel, rfl, rfl, hR.1, hR.2⟩ (c_X10_look E.2.1 D κ.1 κ.2.1 g a x1 hta) hl q_1095 q_1394 hta rfl rfl rfl hc hW hd kk _ rfl
theorem dX10_is_0 : decode cX10_is 0 = .ok (.aload_n 0, 1) := by decide +kernel
theorem dX10_is_1 : decode cX10_is 1 = .ok (.getfield 178, 3) := by decide +kernel
theorem dX10_is_4 : decode cX10_is 4 = .ok (.aload_n 0, 1) := by decide +kernel
theorem dX10_is_5 : decode cX10_is 5 = .ok (.getfield 172, 3) := by decide +kernel
theorem dX10_is_8 : decode cX10_is 8 = .ok (.isub, 1) := by decide +kernel
theorem dX10_is_9 : decode cX10_is 9 = .ok (.iload_n 1, 1) := by decide +kernel
theorem dX10_is_10 : decode cX10_is 10 = .ok (.if_icmp .ne 73, 3) := by decide +kernel
theorem dX10_is_13 : decode cX10_is 13 = .ok (.aload_n 0, 1) := by decide +kernel
theorem dX10_is_14 : decode cX10_is 14 = .ok (.aload_n 0, 1) := by decide +kernel
theorem dX10_is_15 : decode cX10_is 15 = .ok (.getfield 172, 3) := by decide +kernel
theorem dX10_is_18 : decode cX10_is 18 = .ok (.invokevirtual 181, 3) := by decide +kernel
theorem dX10_is_21 : decode cX10_is 21 = .ok (.iload_n 2, 1) := by decide +kernel
theorem dX10_is_22 : decode cX10_is 22 = .ok (.if_icmp .ne 61, 3) := by decide +kernel
theorem dX10_is_25 : decode cX10_is 25 = .ok (.aload_n 0, 1) := by decide +kernel
theorem dX10_is_26 : decode cX10_is 26 = .ok (.aload_n 0, 1) := by decide +kernel
theorem dX10_is_27 : decode cX10_is 27 = .ok (.getfield 172, 3) := by decide +kernel
theorem dX10_is_30 : decode cX10_is 30 = .ok (.iconst 1, 1) := by decide +kernel
theorem dX10_is_31 : decode cX10_is 31 = .ok (.iadd, 1) := by decide +kernel
theorem dX10_is_32 : decode cX10_is 32 = .ok (.invokevirtual 181, 3) := by decide +kernel
theorem dX10_is_35 : decode cX10_is 35 = .ok (.iload_n 3, 1) := by decide +kernel
theorem dX10_is_36 : decode cX10_is 36 = .ok (.if_icmp .ne 47, 3) := by decide +kernel
theorem dX10_is_39 : decode cX10_is 39 = .ok (.iload_n 1, 1) := by decide +kernel
theorem dX10_is_40 : decode cX10_is 40 = .ok (.iconst 3, 1) := by decide +kernel
theorem dX10_is_41 : decode cX10_is 41 = .ok (.if_icmp .lt 18, 3) := by decide +kernel
theorem dX10_is_44 : decode cX10_is 44 = .ok (.aload_n 0, 1) := by decide +kernel
theorem dX10_is_45 : decode cX10_is 45 = .ok (.aload_n 0, 1) := by decide +kernel
theorem dX10_is_46 : decode cX10_is 46 = .ok (.getfield 172, 3) := by decide +kernel
theorem dX10_is_49 : decode cX10_is 49 = .ok (.iconst 2, 1) := by decide +kernel
theorem dX10_is_50 : decode cX10_is 50 = .ok (.iadd, 1) := by decide +kernel
theorem dX10_is_51 : decode cX10_is 51 = .ok (.invokevirtual 181, 3) := by decide +kernel
theorem dX10_is_54 : decode cX10_is 54 = .ok (.iload 4, 2) := by decide +kernel
theorem dX10_is_56 : decode cX10_is 56 = .ok (.if_icmp .ne 27, 3) := by decide +kernel
theorem dX10_is_59 : decode cX10_is 59 = .ok (.iload_n 1, 1) := by decide +kernel
theorem dX10_is_60 : decode cX10_is 60 = .ok (.iconst 4, 1) := by decide +kernel
theorem dX10_is_61 : decode cX10_is 61 = .ok (.if_icmp .lt 18, 3) := by decide +kernel
theorem dX10_is_64 : decode cX10_is 64 = .ok (.aload_n 0, 1) := by decide +kernel
theorem dX10_is_65 : decode cX10_is 65 = .ok (.aload_n 0, 1) := by decide +kernel
theorem dX10_is_66 : decode cX10_is 66 = .ok (.getfield 172, 3) := by decide +kernel
theorem dX10_is_69 : decode cX10_is 69 = .ok (.iconst 3, 1) := by decide +kernel
theorem dX10_is_70 : decode cX10_is 70 = .ok (.iadd, 1) := by decide +kernel
theorem dX10_is_71 : decode cX10_is 71 = .ok (.invokevirtual 181, 3) := by decide +kernel
theorem dX10_is_74 : decode cX10_is 74 = .ok (.iload 5, 2) := by decide +kernel
theorem dX10_is_76 : decode cX10_is 76 = .ok (.if_icmp .ne 7, 3) := by decide +kernel
theorem dX10_is_79 : decode cX10_is 79 = .ok (.iconst 1, 1) := by decide +kernel
theorem dX10_is_80 : decode cX10_is 80 = .ok (.goto 4, 3) := by decide +kernel
theorem dX10_is_83 : decode cX10_is 83 = .ok (.iconst 0, 1) := by decide +kernel
theorem dX10_is_84 : decode cX10_is 84 = .ok (.ireturn, 1) := by decide +kernel
def j_X10_is_59 (a : Nat) (l1 : Int32) (l5 : Int32) (g : zG) : Option (Int32 × zG) :=
  if l1 < 4 then (some ((1, g))) else (zb (f_X10_look a ((g.1 a 29) + 3) g) (fun v2 g3 => if v2 = l5 then (some ((1, g3))) else (some ((0, g3)))))
def f_X10_is (a : Nat) (x1 : Int32) (x2 : Int32) (x3 : Int32) (x4 : Int32) (x5 : Int32) (g : zG) : Option (Int32 × zG) :=
  if ((g.1 a 28) - (g.1 a 29)) = x1 then (zb (f_X10_look a (g.1 a 29) g) (fun v6 g7 => if v6 = x2 then (zb (f_X10_look a ((g7.1 a 29) + 1) g7) (fun v9 g10 => if v9 = x3 then (if x1 < 3 then (j_X10_is_59 a x1 x5 g10) else (zb (f_X10_look a ((g10.1 a 29) + 2) g10) (fun v13 g14 => if v13 = x4 then (j_X10_is_59 a x1 x5 g14) else (some ((0, g14)))))) else (some ((0, g10))))) else (some ((0, g7))))) else (some ((0, g)))
abbrev rm_X10_is : Room := { frames := 1, cells := 0, slots := 0, locals := 21 }
set_option maxRecDepth 100000 in
set_option maxHeartbeats 4000000 in
theorem c_X10_is (l : Launch) (D : zD) (sz : Nat) (τ : zT) (g : zG) (a : Nat) (x1 : Int32) (x2 : Int32) (x3 : Int32) (x4 : Int32) (x5 : Int32) (hta : τ a = some (.inr 10)) : zCon l D yX10_is cX10_is 6 (some .boolean) rm_X10_is 0 0 zrI [.ref a, .int x1, .int x2, .int x3, .int x4, .int x5] sz τ g τ (f_X10_is a x1 x2 x3 x4 x5 g) := by
  refine zCon.of (by decide) (Nat.le_of_ble_eq_true rfl) (fun E r g' hl hR hsz hnm F => ?_)
  have F : zF E D (zA τ sz) cX10_is "TypeChainModel" 6 (some .boolean) := F
  show zSim (fun q : Int32 × zG => q = (r, g')) (f_X10_is a x1 x2 x3 x4 x5 g) (zAt E D (zA τ sz) (zQ E D zrI 0 0 sz τ τ r g') 6 (sz, τ, 0, 0) g 0 [(0, .ref a), (1, .int x1), (2, .int x2), (3, .int x3), (4, .int x4), (5, .int x5)] [])
  have hj_X10_is_59 : ∀ (l1_59 : Int32) (l5_59 : Int32) (g_59 : zG), zSim (fun q : Int32 × zG => q = (r, g')) (j_X10_is_59 a l1_59 l5_59 g_59) (zAt E D (zA τ sz) (zQ E D zrI 0 0 sz τ τ r g') 6 (sz, τ, 0, 0) g_59 59 [(0, .ref a), (1, .int l1_59), (5, .int l5_59)] []) := by
    intro l1_59 l5_59 g_59
    unfold j_X10_is_59
    refine z_iload_n F 1 rfl rfl dX10_is_59 ?_
    refine z_iconst (v := 4) F (by decide) dX10_is_60 ?_
    refine z_icmp_lt (tgt := 79) F dX10_is_61 (by decide) (fun c1 => ?_) (fun c1 => ?_)
    · refine z_iconst (v := 1) F (by decide) dX10_is_79 ?_
      refine z_goto (tgt := 84) F dX10_is_80 (by decide) ?_
      exact z_zreturn F rfl rfl rfl rfl rfl (fun h => h) dX10_is_84
    · refine z_aload_n F 0 rfl rfl dX10_is_64 ?_
      refine z_aload_n F 0 rfl rfl dX10_is_65 ?_
      refine gf_X10_172 F hta dX10_is_66 ?_
      refine z_iconst (v := 3) F (by decide) dX10_is_69 ?_
      refine z_iadd F dX10_is_70 ?_
      refine k_X10_look F (by rw [hR]; exact ⟨by decide, by decide⟩) q_1093 hta ⟨Nat.zero_le _, Nat.zero_le _⟩ (Nat.le_of_ble_eq_true rfl) dX10_is_71 (fun v2 g3 => ?_)
      refine z_iload F 2 rfl dX10_is_74 ?_
      refine z_icmp_ne (tgt := 83) F dX10_is_76 (by decide) (fun c4 => ?_) (fun c4 => ?_)
      · refine z_iconst (v := 1) F (by decide) dX10_is_79 ?_
        refine z_goto (tgt := 84) F dX10_is_80 (by decide) ?_
        exact z_zreturn F rfl rfl rfl rfl rfl (fun h => h) dX10_is_84
      · refine z_iconst (v := 0) F (by decide) dX10_is_83 ?_
        exact z_zreturn F rfl rfl rfl rfl rfl (fun h => h) dX10_is_84
  unfold f_X10_is
  refine z_aload_n F 0 rfl rfl dX10_is_0 ?_
  refine gf_X10_178 F hta dX10_is_1 ?_
  refine z_aload_n F 0 rfl rfl dX10_is_4 ?_
  refine gf_X10_172 F hta dX10_is_5 ?_
  refine z_isub F dX10_is_8 ?_
  refine z_iload_n F 1 rfl rfl dX10_is_9 ?_
  refine z_icmp_ne (tgt := 83) F dX10_is_10 (by decide) (fun c5 => ?_) (fun c5 => ?_)
  · refine z_aload_n F 0 rfl rfl dX10_is_13 ?_
    refine z_aload_n F 0 rfl rfl dX10_is_14 ?_
    refine gf_X10_172 F hta dX10_is_15 ?_
    refine k_X10_look F (by rw [hR]; exact ⟨by decide, by decide⟩) q_1093 hta ⟨Nat.zero_le _, Nat.zero_le _⟩ (Nat.le_of_ble_eq_true rfl) dX10_is_18 (fun v6 g7 => ?_)
    refine z_iload_n F 2 rfl rfl dX10_is_21 ?_
    refine z_icmp_ne (tgt := 83) F dX10_is_22 (by decide) (fun c8 => ?_) (fun c8 => ?_)
    · refine z_aload_n F 0 rfl rfl dX10_is_25 ?_
      refine z_aload_n F 0 rfl rfl dX10_is_26 ?_
      refine gf_X10_172 F hta dX10_is_27 ?_
      refine z_iconst (v := 1) F (by decide) dX10_is_30 ?_
      refine z_iadd F dX10_is_31 ?_
      refine k_X10_look F (by rw [hR]; exact ⟨by decide, by decide⟩) q_1093 hta ⟨Nat.zero_le _, Nat.zero_le _⟩ (Nat.le_of_ble_eq_true rfl) dX10_is_32 (fun v9 g10 => ?_)
      refine z_iload_n F 3 rfl rfl dX10_is_35 ?_
      refine z_icmp_ne (tgt := 83) F dX10_is_36 (by decide) (fun c11 => ?_) (fun c11 => ?_)
      · refine z_iload_n F 1 rfl rfl dX10_is_39 ?_
        refine z_iconst (v := 3) F (by decide) dX10_is_40 ?_
        refine z_icmp_lt (tgt := 59) F dX10_is_41 (by decide) (fun c12 => ?_) (fun c12 => ?_)
        · refine z_sub (lv' := [(0, .ref a), (1, .int x1), (5, .int x5)]) [0, 1, 5] rfl ?_
          exact hj_X10_is_59 x1 x5 g10
        · refine z_aload_n F 0 rfl rfl dX10_is_44 ?_
          refine z_aload_n F 0 rfl rfl dX10_is_45 ?_
          refine gf_X10_172 F hta dX10_is_46 ?_
          refine z_iconst (v := 2) F (by decide) dX10_is_49 ?_
          refine z_iadd F dX10_is_50 ?_
          refine k_X10_look F (by rw [hR]; exact ⟨by decide, by decide⟩) q_1093 hta ⟨Nat.zero_le _, Nat.zero_le _⟩ (Nat.le_of_ble_eq_true rfl) dX10_is_51 (fun v13 g14 => ?_)
          refine z_iload F 4 rfl dX10_is_54 ?_
          refine z_icmp_ne (tgt := 83) F dX10_is_56 (by decide) (fun c15 => ?_) (fun c15 => ?_)
          · refine z_sub (lv' := [(0, .ref a), (1, .int x1), (5, .int x5)]) [0, 1, 5] rfl ?_
            exact hj_X10_is_59 x1 x5 g14
          · refine z_iconst (v := 0) F (by decide) dX10_is_83 ?_
            exact z_zreturn F rfl rfl rfl rfl rfl (fun h => h) dX10_is_84
      · refine z_iconst (v := 0) F (by decide) dX10_is_83 ?_
        exact z_zreturn F rfl rfl rfl rfl rfl (fun h => h) dX10_is_84
    · refine z_iconst (v := 0) F (by decide) dX10_is_83 ?_
      exact z_zreturn F rfl rfl rfl rfl rfl (fun h => h) dX10_is_84
  · refine z_iconst (v := 0) F (by decide) dX10_is_83 ?_
    exact z_zreturn F rfl rfl rfl rfl rfl (fun h => h) dX10_is_84
theorem k_X10_is {ρ : Type} {K : ρ → Prop} {E : zE} {D : zD} {A : Nat → Prop} {Q : State → Prop} {nL : Nat} {κ : zC} {g : zG} {pc : Nat} {lv : List (Nat × Value)} {st : List Value} {cc : ByteArray} {own : String} {ret : Option FieldType} (F : zF E D A cc own nL ret) {index : Nat} {h : Int32 → zG → Option ρ} {a : Nat} {x1 : Int32} {x2 : Int32} {x3 : Int32} {x4 : Int32} {x5 : Int32}  (hR : 1 + 1 ≤ E.2.2.2.1.frames ∧ 8 + (6 + 11) + 21 ≤ E.2.2.2.1.locals) (hl : zTbl (.methodLink own index yX10_is)) (hta : κ.2.1 a = some (.inr 10)) (hc : κ.2.2.1 ≤ E.2.2.2.1.cells ∧ κ.2.2.2 ≤ E.2.2.2.1.slots) (hW : (st.map fun v => v.category).sum ≤ 8) (hd : decode cc pc = .ok (.invokevirtual index, 3)) (kk : ∀ r g', zSim K (h r g') (zAt E D A Q nL κ g' (pc + 3) lv (.int r :: st))) : zSim K (zb (f_X10_is a x1 x2 x3 x4 x5 g) h) (zAt E D A Q nL κ g pc lv (.int x5 :: .int x4 :: .int x3 :: .int x2 :: .int x1 :: .ref a :: st)) :=
  z_callV F (n := 5) (As := [.int x1, .int x2, .int x3, .int x4, .int x5]) (C := (RX10, TX10, 61)) ⟨q_1116, q_14, by decide +kernel, rfl, rfl, hR.1, hR.2⟩ (c_X10_is E.2.1 D κ.1 κ.2.1 g a x1 x2 x3 x4 x5 hta) hl q_1115 q_1398 hta rfl rfl rfl hc hW hd kk _ rfl
theorem dX10_ends2_0 : decode cX10_ends2 0 = .ok (.aload_n 0, 1) := by decide +kernel
theorem dX10_ends2_1 : decode cX10_ends2 1 = .ok (.aload_n 0, 1) := by decide +kernel
theorem dX10_ends2_2 : decode cX10_ends2 2 = .ok (.getfield 172, 3) := by decide +kernel
theorem dX10_ends2_5 : decode cX10_ends2 5 = .ok (.iconst 4, 1) := by decide +kernel
theorem dX10_ends2_6 : decode cX10_ends2 6 = .ok (.iadd, 1) := by decide +kernel
theorem dX10_ends2_7 : decode cX10_ends2 7 = .ok (.invokevirtual 181, 3) := by decide +kernel
theorem dX10_ends2_10 : decode cX10_ends2 10 = .ok (.iload_n 1, 1) := by decide +kernel
theorem dX10_ends2_11 : decode cX10_ends2 11 = .ok (.if_icmp .ne 25, 3) := by decide +kernel
theorem dX10_ends2_14 : decode cX10_ends2 14 = .ok (.iload_n 2, 1) := by decide +kernel
theorem dX10_ends2_15 : decode cX10_ends2 15 = .ok (.ifCond .eq 17, 3) := by decide +kernel
theorem dX10_ends2_18 : decode cX10_ends2 18 = .ok (.aload_n 0, 1) := by decide +kernel
theorem dX10_ends2_19 : decode cX10_ends2 19 = .ok (.aload_n 0, 1) := by decide +kernel
theorem dX10_ends2_20 : decode cX10_ends2 20 = .ok (.getfield 172, 3) := by decide +kernel
theorem dX10_ends2_23 : decode cX10_ends2 23 = .ok (.iconst 5, 1) := by decide +kernel
theorem dX10_ends2_24 : decode cX10_ends2 24 = .ok (.iadd, 1) := by decide +kernel
theorem dX10_ends2_25 : decode cX10_ends2 25 = .ok (.invokevirtual 181, 3) := by decide +kernel
theorem dX10_ends2_28 : decode cX10_ends2 28 = .ok (.iload_n 2, 1) := by decide +kernel
theorem dX10_ends2_29 : decode cX10_ends2 29 = .ok (.if_icmp .ne 7, 3) := by decide +kernel
theorem dX10_ends2_32 : decode cX10_ends2 32 = .ok (.iconst 1, 1) := by decide +kernel
theorem dX10_ends2_33 : decode cX10_ends2 33 = .ok (.goto 4, 3) := by decide +kernel
theorem dX10_ends2_36 : decode cX10_ends2 36 = .ok (.iconst 0, 1) := by decide +kernel
theorem dX10_ends2_37 : decode cX10_ends2 37 = .ok (.ireturn, 1) := by decide +kernel
def f_X10_ends2 (a : Nat) (x1 : Int32) (x2 : Int32) (g : zG) : Option (Int32 × zG) :=
  zb (f_X10_look a ((g.1 a 29) + 4) g) (fun v1 g2 => if v1 = x1 then (if x2 = 0 then (some ((1, g2))) else (zb (f_X10_look a ((g2.1 a 29) + 5) g2) (fun v5 g6 => if v5 = x2 then (some ((1, g6))) else (some ((0, g6)))))) else (some ((0, g2))))
abbrev rm_X10_ends2 : Room := { frames := 1, cells := 0, slots := 0, locals := 21 }
set_option maxRecDepth 100000 in
set_option maxHeartbeats 4000000 in
theorem c_X10_ends2 (l : Launch) (D : zD) (sz : Nat) (τ : zT) (g : zG) (a : Nat) (x1 : Int32) (x2 : Int32) (hta : τ a = some (.inr 10)) : zCon l D yX10_ends2 cX10_ends2 3 (some .boolean) rm_X10_ends2 0 0 zrI [.ref a, .int x1, .int x2] sz τ g τ (f_X10_ends2 a x1 x2 g) := by
  refine zCon.of (by decide) (Nat.le_of_ble_eq_true rfl) (fun E r g' hl hR hsz hnm F => ?_)
  have F : zF E D (zA τ sz) cX10_ends2 "TypeChainModel" 3 (some .boolean) := F
  show zSim (fun q : Int32 × zG => q = (r, g')) (f_X10_ends2 a x1 x2 g) (zAt E D (zA τ sz) (zQ E D zrI 0 0 sz τ τ r g') 3 (sz, τ, 0, 0) g 0 [(0, .ref a), (1, .int x1), (2, .int x2)] [])
  unfold f_X10_ends2
  refine z_aload_n F 0 rfl rfl dX10_ends2_0 ?_
  refine z_aload_n F 0 rfl rfl dX10_ends2_1 ?_
  refine gf_X10_172 F hta dX10_ends2_2 ?_
  refine z_iconst (v := 4) F (by decide) dX10_ends2_5 ?_
  refine z_iadd F dX10_ends2_6 ?_
  refine k_X10_look F (by rw [hR]; exact ⟨by decide, by decide⟩) q_1093 hta ⟨Nat.zero_le _, Nat.zero_le _⟩ (Nat.le_of_ble_eq_true rfl) dX10_ends2_7 (fun v1 g2 => ?_)
  refine z_iload_n F 1 rfl rfl dX10_ends2_10 ?_
  refine z_icmp_ne (tgt := 36) F dX10_ends2_11 (by decide) (fun c3 => ?_) (fun c3 => ?_)
  · refine z_iload_n F 2 rfl rfl dX10_ends2_14 ?_
    refine z_if_eq (tgt := 32) F dX10_ends2_15 (by decide) (fun c4 => ?_) (fun c4 => ?_)
    · refine z_iconst (v := 1) F (by decide) dX10_ends2_32 ?_
      refine z_goto (tgt := 37) F dX10_ends2_33 (by decide) ?_
      exact z_zreturn F rfl rfl rfl rfl rfl (fun h => h) dX10_ends2_37
    · refine z_aload_n F 0 rfl rfl dX10_ends2_18 ?_
      refine z_aload_n F 0 rfl rfl dX10_ends2_19 ?_
      refine gf_X10_172 F hta dX10_ends2_20 ?_
      refine z_iconst (v := 5) F (by decide) dX10_ends2_23 ?_
      refine z_iadd F dX10_ends2_24 ?_
      refine k_X10_look F (by rw [hR]; exact ⟨by decide, by decide⟩) q_1093 hta ⟨Nat.zero_le _, Nat.zero_le _⟩ (Nat.le_of_ble_eq_true rfl) dX10_ends2_25 (fun v5 g6 => ?_)
      refine z_iload_n F 2 rfl rfl dX10_ends2_28 ?_
      refine z_icmp_ne (tgt := 36) F dX10_ends2_29 (by decide) (fun c7 => ?_) (fun c7 => ?_)
      · refine z_iconst (v := 1) F (by decide) dX10_ends2_32 ?_
        refine z_goto (tgt := 37) F dX10_ends2_33 (by decide) ?_
        exact z_zreturn F rfl rfl rfl rfl rfl (fun h => h) dX10_ends2_37
      · refine z_iconst (v := 0) F (by decide) dX10_ends2_36 ?_
        exact z_zreturn F rfl rfl rfl rfl rfl (fun h => h) dX10_ends2_37
  · refine z_iconst (v := 0) F (by decide) dX10_ends2_36 ?_
    exact z_zreturn F rfl rfl rfl rfl rfl (fun h => h) dX10_ends2_37
theorem k_X10_ends2 {ρ : Type} {K : ρ → Prop} {E : zE} {D : zD} {A : Nat → Prop} {Q : State → Prop} {nL : Nat} {κ : zC} {g : zG} {pc : Nat} {lv : List (Nat × Value)} {st : List Value} {cc : ByteArray} {own : String} {ret : Option FieldType} (F : zF E D A cc own nL ret) {index : Nat} {h : Int32 → zG → Option ρ} {a : Nat} {x1 : Int32} {x2 : Int32}  (hR : 1 + 1 ≤ E.2.2.2.1.frames ∧ 8 + (3 + 11) + 21 ≤ E.2.2.2.1.locals) (hl : zTbl (.methodLink own index yX10_ends2)) (hta : κ.2.1 a = some (.inr 10)) (hc : κ.2.2.1 ≤ E.2.2.2.1.cells ∧ κ.2.2.2 ≤ E.2.2.2.1.slots) (hW : (st.map fun v => v.category).sum ≤ 8) (hd : decode cc pc = .ok (.invokevirtual index, 3)) (kk : ∀ r g', zSim K (h r g') (zAt E D A Q nL κ g' (pc + 3) lv (.int r :: st))) : zSim K (zb (f_X10_ends2 a x1 x2 g) h) (zAt E D A Q nL κ g pc lv (.int x2 :: .int x1 :: .ref a :: st)) :=
  z_callV F (n := 2) (As := [.int x1, .int x2]) (C := (RX10, TX10, 61)) ⟨q_1120, q_14, by decide +kernel, rfl, rfl, hR.1, hR.2⟩ (c_X10_ends2 E.2.1 D κ.1 κ.2.1 g a x1 x2 hta) hl q_1119 q_1399 hta rfl rfl rfl hc hW hd kk _ rfl
theorem dX10_nameNow_0 : decode cX10_nameNow 0 = .ok (.aload_n 0, 1) := by decide +kernel
theorem dX10_nameNow_1 : decode cX10_nameNow 1 = .ok (.iconst 5, 1) := by decide +kernel
theorem dX10_nameNow_2 : decode cX10_nameNow 2 = .ok (.bipush 99, 2) := by decide +kernel
theorem dX10_nameNow_4 : decode cX10_nameNow 4 = .ok (.bipush 104, 2) := by decide +kernel
theorem dX10_nameNow_6 : decode cX10_nameNow 6 = .ok (.bipush 97, 2) := by decide +kernel
theorem dX10_nameNow_8 : decode cX10_nameNow 8 = .ok (.bipush 105, 2) := by decide +kernel
theorem dX10_nameNow_10 : decode cX10_nameNow 10 = .ok (.invokevirtual 185, 3) := by decide +kernel
theorem dX10_nameNow_13 : decode cX10_nameNow 13 = .ok (.ifCond .eq 15, 3) := by decide +kernel
theorem dX10_nameNow_16 : decode cX10_nameNow 16 = .ok (.aload_n 0, 1) := by decide +kernel
theorem dX10_nameNow_17 : decode cX10_nameNow 17 = .ok (.bipush 110, 2) := by decide +kernel
theorem dX10_nameNow_19 : decode cX10_nameNow 19 = .ok (.iconst 0, 1) := by decide +kernel
theorem dX10_nameNow_20 : decode cX10_nameNow 20 = .ok (.invokevirtual 189, 3) := by decide +kernel
theorem dX10_nameNow_23 : decode cX10_nameNow 23 = .ok (.ifCond .eq 5, 3) := by decide +kernel
theorem dX10_nameNow_26 : decode cX10_nameNow 26 = .ok (.iconst 0, 1) := by decide +kernel
theorem dX10_nameNow_27 : decode cX10_nameNow 27 = .ok (.ireturn, 1) := by decide +kernel
theorem dX10_nameNow_28 : decode cX10_nameNow 28 = .ok (.aload_n 0, 1) := by decide +kernel
theorem dX10_nameNow_29 : decode cX10_nameNow 29 = .ok (.iconst 5, 1) := by decide +kernel
theorem dX10_nameNow_30 : decode cX10_nameNow 30 = .ok (.bipush 112, 2) := by decide +kernel
theorem dX10_nameNow_32 : decode cX10_nameNow 32 = .ok (.bipush 105, 2) := by decide +kernel
theorem dX10_nameNow_34 : decode cX10_nameNow 34 = .ok (.bipush 116, 2) := by decide +kernel
theorem dX10_nameNow_36 : decode cX10_nameNow 36 = .ok (.bipush 99, 2) := by decide +kernel
theorem dX10_nameNow_38 : decode cX10_nameNow 38 = .ok (.invokevirtual 185, 3) := by decide +kernel
theorem dX10_nameNow_41 : decode cX10_nameNow 41 = .ok (.ifCond .eq 15, 3) := by decide +kernel
theorem dX10_nameNow_44 : decode cX10_nameNow 44 = .ok (.aload_n 0, 1) := by decide +kernel
theorem dX10_nameNow_45 : decode cX10_nameNow 45 = .ok (.bipush 104, 2) := by decide +kernel
theorem dX10_nameNow_47 : decode cX10_nameNow 47 = .ok (.iconst 0, 1) := by decide +kernel
theorem dX10_nameNow_48 : decode cX10_nameNow 48 = .ok (.invokevirtual 189, 3) := by decide +kernel
theorem dX10_nameNow_51 : decode cX10_nameNow 51 = .ok (.ifCond .eq 5, 3) := by decide +kernel
theorem dX10_nameNow_54 : decode cX10_nameNow 54 = .ok (.iconst 1, 1) := by decide +kernel
theorem dX10_nameNow_55 : decode cX10_nameNow 55 = .ok (.ireturn, 1) := by decide +kernel
theorem dX10_nameNow_56 : decode cX10_nameNow 56 = .ok (.aload_n 0, 1) := by decide +kernel
theorem dX10_nameNow_57 : decode cX10_nameNow 57 = .ok (.iconst 3, 1) := by decide +kernel
theorem dX10_nameNow_58 : decode cX10_nameNow 58 = .ok (.bipush 103, 2) := by decide +kernel
theorem dX10_nameNow_60 : decode cX10_nameNow 60 = .ok (.bipush 97, 2) := by decide +kernel
theorem dX10_nameNow_62 : decode cX10_nameNow 62 = .ok (.bipush 112, 2) := by decide +kernel
theorem dX10_nameNow_64 : decode cX10_nameNow 64 = .ok (.iconst 0, 1) := by decide +kernel
theorem dX10_nameNow_65 : decode cX10_nameNow 65 = .ok (.invokevirtual 185, 3) := by decide +kernel
theorem dX10_nameNow_68 : decode cX10_nameNow 68 = .ok (.ifCond .eq 5, 3) := by decide +kernel
theorem dX10_nameNow_71 : decode cX10_nameNow 71 = .ok (.iconst 2, 1) := by decide +kernel
theorem dX10_nameNow_72 : decode cX10_nameNow 72 = .ok (.ireturn, 1) := by decide +kernel
theorem dX10_nameNow_73 : decode cX10_nameNow 73 = .ok (.aload_n 0, 1) := by decide +kernel
theorem dX10_nameNow_74 : decode cX10_nameNow 74 = .ok (.bipush 7, 2) := by decide +kernel
theorem dX10_nameNow_76 : decode cX10_nameNow 76 = .ok (.bipush 99, 2) := by decide +kernel
theorem dX10_nameNow_78 : decode cX10_nameNow 78 = .ok (.bipush 111, 2) := by decide +kernel
theorem dX10_nameNow_80 : decode cX10_nameNow 80 = .ok (.bipush 108, 2) := by decide +kernel
theorem dX10_nameNow_82 : decode cX10_nameNow 82 = .ok (.bipush 117, 2) := by decide +kernel
theorem dX10_nameNow_84 : decode cX10_nameNow 84 = .ok (.invokevirtual 185, 3) := by decide +kernel
theorem dX10_nameNow_87 : decode cX10_nameNow 87 = .ok (.ifCond .eq 32, 3) := by decide +kernel
theorem dX10_nameNow_90 : decode cX10_nameNow 90 = .ok (.aload_n 0, 1) := by decide +kernel
theorem dX10_nameNow_91 : decode cX10_nameNow 91 = .ok (.bipush 109, 2) := by decide +kernel
theorem dX10_nameNow_93 : decode cX10_nameNow 93 = .ok (.bipush 110, 2) := by decide +kernel
theorem dX10_nameNow_95 : decode cX10_nameNow 95 = .ok (.invokevirtual 189, 3) := by decide +kernel
theorem dX10_nameNow_98 : decode cX10_nameNow 98 = .ok (.ifCond .eq 21, 3) := by decide +kernel
theorem dX10_nameNow_101 : decode cX10_nameNow 101 = .ok (.aload_n 0, 1) := by decide +kernel
theorem dX10_nameNow_102 : decode cX10_nameNow 102 = .ok (.aload_n 0, 1) := by decide +kernel
theorem dX10_nameNow_103 : decode cX10_nameNow 103 = .ok (.getfield 172, 3) := by decide +kernel
theorem dX10_nameNow_106 : decode cX10_nameNow 106 = .ok (.bipush 6, 2) := by decide +kernel
theorem dX10_nameNow_108 : decode cX10_nameNow 108 = .ok (.iadd, 1) := by decide +kernel
theorem dX10_nameNow_109 : decode cX10_nameNow 109 = .ok (.invokevirtual 181, 3) := by decide +kernel
theorem dX10_nameNow_112 : decode cX10_nameNow 112 = .ok (.bipush 115, 2) := by decide +kernel
theorem dX10_nameNow_114 : decode cX10_nameNow 114 = .ok (.if_icmp .ne 5, 3) := by decide +kernel
theorem dX10_nameNow_117 : decode cX10_nameNow 117 = .ok (.iconst 3, 1) := by decide +kernel
theorem dX10_nameNow_118 : decode cX10_nameNow 118 = .ok (.ireturn, 1) := by decide +kernel
theorem dX10_nameNow_119 : decode cX10_nameNow 119 = .ok (.aload_n 0, 1) := by decide +kernel
theorem dX10_nameNow_120 : decode cX10_nameNow 120 = .ok (.iconst 5, 1) := by decide +kernel
theorem dX10_nameNow_121 : decode cX10_nameNow 121 = .ok (.bipush 112, 2) := by decide +kernel
theorem dX10_nameNow_123 : decode cX10_nameNow 123 = .ok (.bipush 111, 2) := by decide +kernel
theorem dX10_nameNow_125 : decode cX10_nameNow 125 = .ok (.bipush 119, 2) := by decide +kernel
theorem dX10_nameNow_127 : decode cX10_nameNow 127 = .ok (.bipush 101, 2) := by decide +kernel
theorem dX10_nameNow_129 : decode cX10_nameNow 129 = .ok (.invokevirtual 185, 3) := by decide +kernel
theorem dX10_nameNow_132 : decode cX10_nameNow 132 = .ok (.ifCond .eq 15, 3) := by decide +kernel
theorem dX10_nameNow_135 : decode cX10_nameNow 135 = .ok (.aload_n 0, 1) := by decide +kernel
theorem dX10_nameNow_136 : decode cX10_nameNow 136 = .ok (.bipush 114, 2) := by decide +kernel
theorem dX10_nameNow_138 : decode cX10_nameNow 138 = .ok (.iconst 0, 1) := by decide +kernel
theorem dX10_nameNow_139 : decode cX10_nameNow 139 = .ok (.invokevirtual 189, 3) := by decide +kernel
theorem dX10_nameNow_142 : decode cX10_nameNow 142 = .ok (.ifCond .eq 5, 3) := by decide +kernel
theorem dX10_nameNow_145 : decode cX10_nameNow 145 = .ok (.iconst 4, 1) := by decide +kernel
theorem dX10_nameNow_146 : decode cX10_nameNow 146 = .ok (.ireturn, 1) := by decide +kernel
theorem dX10_nameNow_147 : decode cX10_nameNow 147 = .ok (.aload_n 0, 1) := by decide +kernel
theorem dX10_nameNow_148 : decode cX10_nameNow 148 = .ok (.iconst 5, 1) := by decide +kernel
theorem dX10_nameNow_149 : decode cX10_nameNow 149 = .ok (.bipush 115, 2) := by decide +kernel
theorem dX10_nameNow_151 : decode cX10_nameNow 151 = .ok (.bipush 116, 2) := by decide +kernel
theorem dX10_nameNow_153 : decode cX10_nameNow 153 = .ok (.bipush 97, 2) := by decide +kernel
theorem dX10_nameNow_155 : decode cX10_nameNow 155 = .ok (.bipush 114, 2) := by decide +kernel
theorem dX10_nameNow_157 : decode cX10_nameNow 157 = .ok (.invokevirtual 185, 3) := by decide +kernel
theorem dX10_nameNow_160 : decode cX10_nameNow 160 = .ok (.ifCond .eq 15, 3) := by decide +kernel
theorem dX10_nameNow_163 : decode cX10_nameNow 163 = .ok (.aload_n 0, 1) := by decide +kernel
theorem dX10_nameNow_164 : decode cX10_nameNow 164 = .ok (.bipush 116, 2) := by decide +kernel
theorem dX10_nameNow_166 : decode cX10_nameNow 166 = .ok (.iconst 0, 1) := by decide +kernel
theorem dX10_nameNow_167 : decode cX10_nameNow 167 = .ok (.invokevirtual 189, 3) := by decide +kernel
theorem dX10_nameNow_170 : decode cX10_nameNow 170 = .ok (.ifCond .eq 5, 3) := by decide +kernel
theorem dX10_nameNow_173 : decode cX10_nameNow 173 = .ok (.iconst 5, 1) := by decide +kernel
theorem dX10_nameNow_174 : decode cX10_nameNow 174 = .ok (.ireturn, 1) := by decide +kernel
theorem dX10_nameNow_175 : decode cX10_nameNow 175 = .ok (.aload_n 0, 1) := by decide +kernel
theorem dX10_nameNow_176 : decode cX10_nameNow 176 = .ok (.iconst 4, 1) := by decide +kernel
theorem dX10_nameNow_177 : decode cX10_nameNow 177 = .ok (.bipush 115, 2) := by decide +kernel
theorem dX10_nameNow_179 : decode cX10_nameNow 179 = .ok (.bipush 116, 2) := by decide +kernel
theorem dX10_nameNow_181 : decode cX10_nameNow 181 = .ok (.bipush 101, 2) := by decide +kernel
theorem dX10_nameNow_183 : decode cX10_nameNow 183 = .ok (.bipush 112, 2) := by decide +kernel
theorem dX10_nameNow_185 : decode cX10_nameNow 185 = .ok (.invokevirtual 185, 3) := by decide +kernel
theorem dX10_nameNow_188 : decode cX10_nameNow 188 = .ok (.ifCond .eq 6, 3) := by decide +kernel
theorem dX10_nameNow_191 : decode cX10_nameNow 191 = .ok (.bipush 6, 2) := by decide +kernel
theorem dX10_nameNow_193 : decode cX10_nameNow 193 = .ok (.ireturn, 1) := by decide +kernel
theorem dX10_nameNow_194 : decode cX10_nameNow 194 = .ok (.aload_n 0, 1) := by decide +kernel
theorem dX10_nameNow_195 : decode cX10_nameNow 195 = .ok (.iconst 4, 1) := by decide +kernel
theorem dX10_nameNow_196 : decode cX10_nameNow 196 = .ok (.bipush 114, 2) := by decide +kernel
theorem dX10_nameNow_198 : decode cX10_nameNow 198 = .ok (.bipush 111, 2) := by decide +kernel
theorem dX10_nameNow_200 : decode cX10_nameNow 200 = .ok (.bipush 119, 2) := by decide +kernel
theorem dX10_nameNow_202 : decode cX10_nameNow 202 = .ok (.bipush 115, 2) := by decide +kernel
theorem dX10_nameNow_204 : decode cX10_nameNow 204 = .ok (.invokevirtual 185, 3) := by decide +kernel
theorem dX10_nameNow_207 : decode cX10_nameNow 207 = .ok (.ifCond .eq 6, 3) := by decide +kernel
theorem dX10_nameNow_210 : decode cX10_nameNow 210 = .ok (.bipush 7, 2) := by decide +kernel
theorem dX10_nameNow_212 : decode cX10_nameNow 212 = .ok (.ireturn, 1) := by decide +kernel
theorem dX10_nameNow_213 : decode cX10_nameNow 213 = .ok (.aload_n 0, 1) := by decide +kernel
theorem dX10_nameNow_214 : decode cX10_nameNow 214 = .ok (.iconst 4, 1) := by decide +kernel
theorem dX10_nameNow_215 : decode cX10_nameNow 215 = .ok (.bipush 104, 2) := by decide +kernel
theorem dX10_nameNow_217 : decode cX10_nameNow 217 = .ok (.bipush 111, 2) := by decide +kernel
theorem dX10_nameNow_219 : decode cX10_nameNow 219 = .ok (.bipush 108, 2) := by decide +kernel
theorem dX10_nameNow_221 : decode cX10_nameNow 221 = .ok (.bipush 101, 2) := by decide +kernel
theorem dX10_nameNow_223 : decode cX10_nameNow 223 = .ok (.invokevirtual 185, 3) := by decide +kernel
theorem dX10_nameNow_226 : decode cX10_nameNow 226 = .ok (.ifCond .eq 6, 3) := by decide +kernel
theorem dX10_nameNow_229 : decode cX10_nameNow 229 = .ok (.bipush 8, 2) := by decide +kernel
theorem dX10_nameNow_231 : decode cX10_nameNow 231 = .ok (.ireturn, 1) := by decide +kernel
theorem dX10_nameNow_232 : decode cX10_nameNow 232 = .ok (.aload_n 0, 1) := by decide +kernel
theorem dX10_nameNow_233 : decode cX10_nameNow 233 = .ok (.iconst 3, 1) := by decide +kernel
theorem dX10_nameNow_234 : decode cX10_nameNow 234 = .ok (.bipush 112, 2) := by decide +kernel
theorem dX10_nameNow_236 : decode cX10_nameNow 236 = .ok (.bipush 117, 2) := by decide +kernel
theorem dX10_nameNow_238 : decode cX10_nameNow 238 = .ok (.bipush 116, 2) := by decide +kernel
theorem dX10_nameNow_240 : decode cX10_nameNow 240 = .ok (.iconst 0, 1) := by decide +kernel
theorem dX10_nameNow_241 : decode cX10_nameNow 241 = .ok (.invokevirtual 185, 3) := by decide +kernel
theorem dX10_nameNow_244 : decode cX10_nameNow 244 = .ok (.ifCond .eq 6, 3) := by decide +kernel
theorem dX10_nameNow_247 : decode cX10_nameNow 247 = .ok (.bipush 9, 2) := by decide +kernel
theorem dX10_nameNow_249 : decode cX10_nameNow 249 = .ok (.ireturn, 1) := by decide +kernel
theorem dX10_nameNow_250 : decode cX10_nameNow 250 = .ok (.aload_n 0, 1) := by decide +kernel
theorem dX10_nameNow_251 : decode cX10_nameNow 251 = .ok (.iconst 2, 1) := by decide +kernel
theorem dX10_nameNow_252 : decode cX10_nameNow 252 = .ok (.bipush 103, 2) := by decide +kernel
theorem dX10_nameNow_254 : decode cX10_nameNow 254 = .ok (.bipush 111, 2) := by decide +kernel
theorem dX10_nameNow_256 : decode cX10_nameNow 256 = .ok (.iconst 0, 1) := by decide +kernel
theorem dX10_nameNow_257 : decode cX10_nameNow 257 = .ok (.iconst 0, 1) := by decide +kernel
theorem dX10_nameNow_258 : decode cX10_nameNow 258 = .ok (.invokevirtual 185, 3) := by decide +kernel
theorem dX10_nameNow_261 : decode cX10_nameNow 261 = .ok (.ifCond .eq 6, 3) := by decide +kernel
theorem dX10_nameNow_264 : decode cX10_nameNow 264 = .ok (.bipush 10, 2) := by decide +kernel
theorem dX10_nameNow_266 : decode cX10_nameNow 266 = .ok (.ireturn, 1) := by decide +kernel
theorem dX10_nameNow_267 : decode cX10_nameNow 267 = .ok (.aload_n 0, 1) := by decide +kernel
theorem dX10_nameNow_268 : decode cX10_nameNow 268 = .ok (.iconst 5, 1) := by decide +kernel
theorem dX10_nameNow_269 : decode cX10_nameNow 269 = .ok (.bipush 115, 2) := by decide +kernel
theorem dX10_nameNow_271 : decode cX10_nameNow 271 = .ok (.bipush 112, 2) := by decide +kernel
theorem dX10_nameNow_273 : decode cX10_nameNow 273 = .ok (.bipush 97, 2) := by decide +kernel
theorem dX10_nameNow_275 : decode cX10_nameNow 275 = .ok (.bipush 99, 2) := by decide +kernel
theorem dX10_nameNow_277 : decode cX10_nameNow 277 = .ok (.invokevirtual 185, 3) := by decide +kernel
theorem dX10_nameNow_280 : decode cX10_nameNow 280 = .ok (.ifCond .eq 16, 3) := by decide +kernel
theorem dX10_nameNow_283 : decode cX10_nameNow 283 = .ok (.aload_n 0, 1) := by decide +kernel
theorem dX10_nameNow_284 : decode cX10_nameNow 284 = .ok (.bipush 101, 2) := by decide +kernel
theorem dX10_nameNow_286 : decode cX10_nameNow 286 = .ok (.iconst 0, 1) := by decide +kernel
theorem dX10_nameNow_287 : decode cX10_nameNow 287 = .ok (.invokevirtual 189, 3) := by decide +kernel
theorem dX10_nameNow_290 : decode cX10_nameNow 290 = .ok (.ifCond .eq 6, 3) := by decide +kernel
theorem dX10_nameNow_293 : decode cX10_nameNow 293 = .ok (.bipush 11, 2) := by decide +kernel
theorem dX10_nameNow_295 : decode cX10_nameNow 295 = .ok (.ireturn, 1) := by decide +kernel
theorem dX10_nameNow_296 : decode cX10_nameNow 296 = .ok (.aload_n 0, 1) := by decide +kernel
theorem dX10_nameNow_297 : decode cX10_nameNow 297 = .ok (.iconst 4, 1) := by decide +kernel
theorem dX10_nameNow_298 : decode cX10_nameNow 298 = .ok (.bipush 115, 2) := by decide +kernel
theorem dX10_nameNow_300 : decode cX10_nameNow 300 = .ok (.bipush 107, 2) := by decide +kernel
theorem dX10_nameNow_302 : decode cX10_nameNow 302 = .ok (.bipush 105, 2) := by decide +kernel
theorem dX10_nameNow_304 : decode cX10_nameNow 304 = .ok (.bipush 112, 2) := by decide +kernel
theorem dX10_nameNow_306 : decode cX10_nameNow 306 = .ok (.invokevirtual 185, 3) := by decide +kernel
theorem dX10_nameNow_309 : decode cX10_nameNow 309 = .ok (.ifCond .eq 8, 3) := by decide +kernel
theorem dX10_nameNow_312 : decode cX10_nameNow 312 = .ok (.bipush 12, 2) := by decide +kernel
theorem dX10_nameNow_314 : decode cX10_nameNow 314 = .ok (.goto 5, 3) := by decide +kernel
theorem dX10_nameNow_317 : decode cX10_nameNow 317 = .ok (.bipush (-4), 2) := by decide +kernel
theorem dX10_nameNow_319 : decode cX10_nameNow 319 = .ok (.ireturn, 1) := by decide +kernel
def j_X10_nameNow_296 (a : Nat)  (g : zG) : Option (Int32 × zG) :=
  zb (f_X10_is a 4 115 107 105 112 g) (fun v1 g2 => if v1 = 0 then (some (((-4), g2))) else (some ((12, g2))))
def j_X10_nameNow_175 (a : Nat)  (g : zG) : Option (Int32 × zG) :=
  zb (f_X10_is a 4 115 116 101 112 g) (fun v4 g5 => if v4 = 0 then (zb (f_X10_is a 4 114 111 119 115 g5) (fun v7 g8 => if v7 = 0 then (zb (f_X10_is a 4 104 111 108 101 g8) (fun v10 g11 => if v10 = 0 then (zb (f_X10_is a 3 112 117 116 0 g11) (fun v13 g14 => if v13 = 0 then (zb (f_X10_is a 2 103 111 0 0 g14) (fun v16 g17 => if v16 = 0 then (zb (f_X10_is a 5 115 112 97 99 g17) (fun v19 g20 => if v19 = 0 then (j_X10_nameNow_296 a g20) else (zb (f_X10_ends2 a 101 0 g20) (fun v22 g23 => if v22 = 0 then (j_X10_nameNow_296 a g23) else (some ((11, g23))))))) else (some ((10, g17))))) else (some ((9, g14))))) else (some ((8, g11))))) else (some ((7, g8))))) else (some ((6, g5))))
def j_X10_nameNow_147 (a : Nat)  (g : zG) : Option (Int32 × zG) :=
  zb (f_X10_is a 5 115 116 97 114 g) (fun v25 g26 => if v25 = 0 then (j_X10_nameNow_175 a g26) else (zb (f_X10_ends2 a 116 0 g26) (fun v28 g29 => if v28 = 0 then (j_X10_nameNow_175 a g29) else (some ((5, g29))))))
def j_X10_nameNow_119 (a : Nat)  (g : zG) : Option (Int32 × zG) :=
  zb (f_X10_is a 5 112 111 119 101 g) (fun v31 g32 => if v31 = 0 then (j_X10_nameNow_147 a g32) else (zb (f_X10_ends2 a 114 0 g32) (fun v34 g35 => if v34 = 0 then (j_X10_nameNow_147 a g35) else (some ((4, g35))))))
def j_X10_nameNow_56 (a : Nat)  (g : zG) : Option (Int32 × zG) :=
  zb (f_X10_is a 3 103 97 112 0 g) (fun v37 g38 => if v37 = 0 then (zb (f_X10_is a 7 99 111 108 117 g38) (fun v40 g41 => if v40 = 0 then (j_X10_nameNow_119 a g41) else (zb (f_X10_ends2 a 109 110 g41) (fun v43 g44 => if v43 = 0 then (j_X10_nameNow_119 a g44) else (zb (f_X10_look a ((g44.1 a 29) + 6) g44) (fun v46 g47 => if v46 = 115 then (some ((3, g47))) else (j_X10_nameNow_119 a g47))))))) else (some ((2, g38))))
def j_X10_nameNow_28 (a : Nat)  (g : zG) : Option (Int32 × zG) :=
  zb (f_X10_is a 5 112 105 116 99 g) (fun v49 g50 => if v49 = 0 then (j_X10_nameNow_56 a g50) else (zb (f_X10_ends2 a 104 0 g50) (fun v52 g53 => if v52 = 0 then (j_X10_nameNow_56 a g53) else (some ((1, g53))))))
def f_X10_nameNow (a : Nat) (g : zG) : Option (Int32 × zG) :=
  zb (f_X10_is a 5 99 104 97 105 g) (fun v55 g56 => if v55 = 0 then (j_X10_nameNow_28 a g56) else (zb (f_X10_ends2 a 110 0 g56) (fun v58 g59 => if v58 = 0 then (j_X10_nameNow_28 a g59) else (some ((0, g59))))))
abbrev rm_X10_nameNow : Room := { frames := 2, cells := 0, slots := 0, locals := 46 }
set_option maxRecDepth 100000 in
set_option maxHeartbeats 4000000 in
theorem c_X10_nameNow (l : Launch) (D : zD) (sz : Nat) (τ : zT) (g : zG) (a : Nat) (hta : τ a = some (.inr 10)) : zCon l D yX10_nameNow cX10_nameNow 1 (some .int) rm_X10_nameNow 0 0 zrI [.ref a] sz τ g τ (f_X10_nameNow a g) := by
  refine zCon.of (by decide) (Nat.le_of_ble_eq_true rfl) (fun E r g' hl hR hsz hnm F => ?_)
  have F : zF E D (zA τ sz) cX10_nameNow "TypeChainModel" 1 (some .int) := F
  show zSim (fun q : Int32 × zG => q = (r, g')) (f_X10_nameNow a g) (zAt E D (zA τ sz) (zQ E D zrI 0 0 sz τ τ r g') 1 (sz, τ, 0, 0) g 0 [(0, .ref a)] [])
  have hj_X10_nameNow_296 : ∀  (g_296 : zG), zSim (fun q : Int32 × zG => q = (r, g')) (j_X10_nameNow_296 a g_296) (zAt E D (zA τ sz) (zQ E D zrI 0 0 sz τ τ r g') 1 (sz, τ, 0, 0) g_296 296 [(0, .ref a)] []) := by
    intro g_296
    unfold j_X10_nameNow_296
    refine z_aload_n F 0 rfl rfl dX10_nameNow_296 ?_
    refine z_iconst (v := 4) F (by decide) dX10_nameNow_297 ?_
    refine z_bipush (v := 115) F (by decide) dX10_nameNow_298 ?_
    refine z_bipush (v := 107) F (by decide) dX10_nameNow_300 ?_
    refine z_bipush (v := 105) F (by decide) dX10_nameNow_302 ?_
    refine z_bipush (v := 112) F (by decide) dX10_nameNow_304 ?_
    refine k_X10_is F (by rw [hR]; exact ⟨by decide, by decide⟩) q_1113 hta ⟨Nat.zero_le _, Nat.zero_le _⟩ (Nat.le_of_ble_eq_true rfl) dX10_nameNow_306 (fun v1 g2 => ?_)
    refine z_if_eq (tgt := 317) F dX10_nameNow_309 (by decide) (fun c3 => ?_) (fun c3 => ?_)
    · refine z_bipush (v := (-4)) F (by decide) dX10_nameNow_317 ?_
      exact z_ireturn F rfl rfl rfl rfl (fun h => h) dX10_nameNow_319
    · refine z_bipush (v := 12) F (by decide) dX10_nameNow_312 ?_
      refine z_goto (tgt := 319) F dX10_nameNow_314 (by decide) ?_
      exact z_ireturn F rfl rfl rfl rfl (fun h => h) dX10_nameNow_319
  have hj_X10_nameNow_175 : ∀  (g_175 : zG), zSim (fun q : Int32 × zG => q = (r, g')) (j_X10_nameNow_175 a g_175) (zAt E D (zA τ sz) (zQ E D zrI 0 0 sz τ τ r g') 1 (sz, τ, 0, 0) g_175 175 [(0, .ref a)] []) := by
    intro g_175
    unfold j_X10_nameNow_175
    refine z_aload_n F 0 rfl rfl dX10_nameNow_175 ?_
    refine z_iconst (v := 4) F (by decide) dX10_nameNow_176 ?_
    refine z_bipush (v := 115) F (by decide) dX10_nameNow_177 ?_
    refine z_bipush (v := 116) F (by decide) dX10_nameNow_179 ?_
    refine z_bipush (v := 101) F (by decide) dX10_nameNow_181 ?_
    refine z_bipush (v := 112) F (by decide) dX10_nameNow_183 ?_
    refine k_X10_is F (by rw [hR]; exact ⟨by decide, by decide⟩) q_1113 hta ⟨Nat.zero_le _, Nat.zero_le _⟩ (Nat.le_of_ble_eq_true rfl) dX10_nameNow_185 (fun v4 g5 => ?_)
    refine z_if_eq (tgt := 194) F dX10_nameNow_188 (by decide) (fun c6 => ?_) (fun c6 => ?_)
    · refine z_aload_n F 0 rfl rfl dX10_nameNow_194 ?_
      refine z_iconst (v := 4) F (by decide) dX10_nameNow_195 ?_
      refine z_bipush (v := 114) F (by decide) dX10_nameNow_196 ?_
      refine z_bipush (v := 111) F (by decide) dX10_nameNow_198 ?_
      refine z_bipush (v := 119) F (by decide) dX10_nameNow_200 ?_
      refine z_bipush (v := 115) F (by decide) dX10_nameNow_202 ?_
      refine k_X10_is F (by rw [hR]; exact ⟨by decide, by decide⟩) q_1113 hta ⟨Nat.zero_le _, Nat.zero_le _⟩ (Nat.le_of_ble_eq_true rfl) dX10_nameNow_204 (fun v7 g8 => ?_)
      refine z_if_eq (tgt := 213) F dX10_nameNow_207 (by decide) (fun c9 => ?_) (fun c9 => ?_)
      · refine z_aload_n F 0 rfl rfl dX10_nameNow_213 ?_
        refine z_iconst (v := 4) F (by decide) dX10_nameNow_214 ?_
        refine z_bipush (v := 104) F (by decide) dX10_nameNow_215 ?_
        refine z_bipush (v := 111) F (by decide) dX10_nameNow_217 ?_
        refine z_bipush (v := 108) F (by decide) dX10_nameNow_219 ?_
        refine z_bipush (v := 101) F (by decide) dX10_nameNow_221 ?_
        refine k_X10_is F (by rw [hR]; exact ⟨by decide, by decide⟩) q_1113 hta ⟨Nat.zero_le _, Nat.zero_le _⟩ (Nat.le_of_ble_eq_true rfl) dX10_nameNow_223 (fun v10 g11 => ?_)
        refine z_if_eq (tgt := 232) F dX10_nameNow_226 (by decide) (fun c12 => ?_) (fun c12 => ?_)
        · refine z_aload_n F 0 rfl rfl dX10_nameNow_232 ?_
          refine z_iconst (v := 3) F (by decide) dX10_nameNow_233 ?_
          refine z_bipush (v := 112) F (by decide) dX10_nameNow_234 ?_
          refine z_bipush (v := 117) F (by decide) dX10_nameNow_236 ?_
          refine z_bipush (v := 116) F (by decide) dX10_nameNow_238 ?_
          refine z_iconst (v := 0) F (by decide) dX10_nameNow_240 ?_
          refine k_X10_is F (by rw [hR]; exact ⟨by decide, by decide⟩) q_1113 hta ⟨Nat.zero_le _, Nat.zero_le _⟩ (Nat.le_of_ble_eq_true rfl) dX10_nameNow_241 (fun v13 g14 => ?_)
          refine z_if_eq (tgt := 250) F dX10_nameNow_244 (by decide) (fun c15 => ?_) (fun c15 => ?_)
          · refine z_aload_n F 0 rfl rfl dX10_nameNow_250 ?_
            refine z_iconst (v := 2) F (by decide) dX10_nameNow_251 ?_
            refine z_bipush (v := 103) F (by decide) dX10_nameNow_252 ?_
            refine z_bipush (v := 111) F (by decide) dX10_nameNow_254 ?_
            refine z_iconst (v := 0) F (by decide) dX10_nameNow_256 ?_
            refine z_iconst (v := 0) F (by decide) dX10_nameNow_257 ?_
            refine k_X10_is F (by rw [hR]; exact ⟨by decide, by decide⟩) q_1113 hta ⟨Nat.zero_le _, Nat.zero_le _⟩ (Nat.le_of_ble_eq_true rfl) dX10_nameNow_258 (fun v16 g17 => ?_)
            refine z_if_eq (tgt := 267) F dX10_nameNow_261 (by decide) (fun c18 => ?_) (fun c18 => ?_)
            · refine z_aload_n F 0 rfl rfl dX10_nameNow_267 ?_
              refine z_iconst (v := 5) F (by decide) dX10_nameNow_268 ?_
              refine z_bipush (v := 115) F (by decide) dX10_nameNow_269 ?_
              refine z_bipush (v := 112) F (by decide) dX10_nameNow_271 ?_
              refine z_bipush (v := 97) F (by decide) dX10_nameNow_273 ?_
              refine z_bipush (v := 99) F (by decide) dX10_nameNow_275 ?_
              refine k_X10_is F (by rw [hR]; exact ⟨by decide, by decide⟩) q_1113 hta ⟨Nat.zero_le _, Nat.zero_le _⟩ (Nat.le_of_ble_eq_true rfl) dX10_nameNow_277 (fun v19 g20 => ?_)
              refine z_if_eq (tgt := 296) F dX10_nameNow_280 (by decide) (fun c21 => ?_) (fun c21 => ?_)
              · exact hj_X10_nameNow_296 g20
              · refine z_aload_n F 0 rfl rfl dX10_nameNow_283 ?_
                refine z_bipush (v := 101) F (by decide) dX10_nameNow_284 ?_
                refine z_iconst (v := 0) F (by decide) dX10_nameNow_286 ?_
                refine k_X10_ends2 F (by rw [hR]; exact ⟨by decide, by decide⟩) q_1117 hta ⟨Nat.zero_le _, Nat.zero_le _⟩ (Nat.le_of_ble_eq_true rfl) dX10_nameNow_287 (fun v22 g23 => ?_)
                refine z_if_eq (tgt := 296) F dX10_nameNow_290 (by decide) (fun c24 => ?_) (fun c24 => ?_)
                · exact hj_X10_nameNow_296 g23
                · refine z_bipush (v := 11) F (by decide) dX10_nameNow_293 ?_
                  exact z_ireturn F rfl rfl rfl rfl (fun h => h) dX10_nameNow_295
            · refine z_bipush (v := 10) F (by decide) dX10_nameNow_264 ?_
              exact z_ireturn F rfl rfl rfl rfl (fun h => h) dX10_nameNow_266
          · refine z_bipush (v := 9) F (by decide) dX10_nameNow_247 ?_
            exact z_ireturn F rfl rfl rfl rfl (fun h => h) dX10_nameNow_249
        · refine z_bipush (v := 8) F (by decide) dX10_nameNow_229 ?_
          exact z_ireturn F rfl rfl rfl rfl (fun h => h) dX10_nameNow_231
      · refine z_bipush (v := 7) F (by decide) dX10_nameNow_210 ?_
        exact z_ireturn F rfl rfl rfl rfl (fun h => h) dX10_nameNow_212
    · refine z_bipush (v := 6) F (by decide) dX10_nameNow_191 ?_
      exact z_ireturn F rfl rfl rfl rfl (fun h => h) dX10_nameNow_193
  have hj_X10_nameNow_147 : ∀  (g_147 : zG), zSim (fun q : Int32 × zG => q = (r, g')) (j_X10_nameNow_147 a g_147) (zAt E D (zA τ sz) (zQ E D zrI 0 0 sz τ τ r g') 1 (sz, τ, 0, 0) g_147 147 [(0, .ref a)] []) := by
    intro g_147
    unfold j_X10_nameNow_147
    refine z_aload_n F 0 rfl rfl dX10_nameNow_147 ?_
    refine z_iconst (v := 5) F (by decide) dX10_nameNow_148 ?_
    refine z_bipush (v := 115) F (by decide) dX10_nameNow_149 ?_
    refine z_bipush (v := 116) F (by decide) dX10_nameNow_151 ?_
    refine z_bipush (v := 97) F (by decide) dX10_nameNow_153 ?_
    refine z_bipush (v := 114) F (by decide) dX10_nameNow_155 ?_
    refine k_X10_is F (by rw [hR]; exact ⟨by decide, by decide⟩) q_1113 hta ⟨Nat.zero_le _, Nat.zero_le _⟩ (Nat.le_of_ble_eq_true rfl) dX10_nameNow_157 (fun v25 g26 => ?_)
    refine z_if_eq (tgt := 175) F dX10_nameNow_160 (by decide) (fun c27 => ?_) (fun c27 => ?_)
    · exact hj_X10_nameNow_175 g26
    · refine z_aload_n F 0 rfl rfl dX10_nameNow_163 ?_
      refine z_bipush (v := 116) F (by decide) dX10_nameNow_164 ?_
      refine z_iconst (v := 0) F (by decide) dX10_nameNow_166 ?_
      refine k_X10_ends2 F (by rw [hR]; exact ⟨by decide, by decide⟩) q_1117 hta ⟨Nat.zero_le _, Nat.zero_le _⟩ (Nat.le_of_ble_eq_true rfl) dX10_nameNow_167 (fun v28 g29 => ?_)
      refine z_if_eq (tgt := 175) F dX10_nameNow_170 (by decide) (fun c30 => ?_) (fun c30 => ?_)
      · exact hj_X10_nameNow_175 g29
      · refine z_iconst (v := 5) F (by decide) dX10_nameNow_173 ?_
        exact z_ireturn F rfl rfl rfl rfl (fun h => h) dX10_nameNow_174
  have hj_X10_nameNow_119 : ∀  (g_119 : zG), zSim (fun q : Int32 × zG => q = (r, g')) (j_X10_nameNow_119 a g_119) (zAt E D (zA τ sz) (zQ E D zrI 0 0 sz τ τ r g') 1 (sz, τ, 0, 0) g_119 119 [(0, .ref a)] []) := by
    intro g_119
    unfold j_X10_nameNow_119
    refine z_aload_n F 0 rfl rfl dX10_nameNow_119 ?_
    refine z_iconst (v := 5) F (by decide) dX10_nameNow_120 ?_
    refine z_bipush (v := 112) F (by decide) dX10_nameNow_121 ?_
    refine z_bipush (v := 111) F (by decide) dX10_nameNow_123 ?_
    refine z_bipush (v := 119) F (by decide) dX10_nameNow_125 ?_
    refine z_bipush (v := 101) F (by decide) dX10_nameNow_127 ?_
    refine k_X10_is F (by rw [hR]; exact ⟨by decide, by decide⟩) q_1113 hta ⟨Nat.zero_le _, Nat.zero_le _⟩ (Nat.le_of_ble_eq_true rfl) dX10_nameNow_129 (fun v31 g32 => ?_)
    refine z_if_eq (tgt := 147) F dX10_nameNow_132 (by decide) (fun c33 => ?_) (fun c33 => ?_)
    · exact hj_X10_nameNow_147 g32
    · refine z_aload_n F 0 rfl rfl dX10_nameNow_135 ?_
      refine z_bipush (v := 114) F (by decide) dX10_nameNow_136 ?_
      refine z_iconst (v := 0) F (by decide) dX10_nameNow_138 ?_
      refine k_X10_ends2 F (by rw [hR]; exact ⟨by decide, by decide⟩) q_1117 hta ⟨Nat.zero_le _, Nat.zero_le _⟩ (Nat.le_of_ble_eq_true rfl) dX10_nameNow_139 (fun v34 g35 => ?_)
      refine z_if_eq (tgt := 147) F dX10_nameNow_142 (by decide) (fun c36 => ?_) (fun c36 => ?_)
      · exact hj_X10_nameNow_147 g35
      · refine z_iconst (v := 4) F (by decide) dX10_nameNow_145 ?_
        exact z_ireturn F rfl rfl rfl rfl (fun h => h) dX10_nameNow_146
  have hj_X10_nameNow_56 : ∀  (g_56 : zG), zSim (fun q : Int32 × zG => q = (r, g')) (j_X10_nameNow_56 a g_56) (zAt E D (zA τ sz) (zQ E D zrI 0 0 sz τ τ r g') 1 (sz, τ, 0, 0) g_56 56 [(0, .ref a)] []) := by
    intro g_56
    unfold j_X10_nameNow_56
    refine z_aload_n F 0 rfl rfl dX10_nameNow_56 ?_
    refine z_iconst (v := 3) F (by decide) dX10_nameNow_57 ?_
    refine z_bipush (v := 103) F (by decide) dX10_nameNow_58 ?_
    refine z_bipush (v := 97) F (by decide) dX10_nameNow_60 ?_
    refine z_bipush (v := 112) F (by decide) dX10_nameNow_62 ?_
    refine z_iconst (v := 0) F (by decide) dX10_nameNow_64 ?_
    refine k_X10_is F (by rw [hR]; exact ⟨by decide, by decide⟩) q_1113 hta ⟨Nat.zero_le _, Nat.zero_le _⟩ (Nat.le_of_ble_eq_true rfl) dX10_nameNow_65 (fun v37 g38 => ?_)
    refine z_if_eq (tgt := 73) F dX10_nameNow_68 (by decide) (fun c39 => ?_) (fun c39 => ?_)
    · refine z_aload_n F 0 rfl rfl dX10_nameNow_73 ?_
      refine z_bipush (v := 7) F (by decide) dX10_nameNow_74 ?_
      refine z_bipush (v := 99) F (by decide) dX10_nameNow_76 ?_
      refine z_bipush (v := 111) F (by decide) dX10_nameNow_78 ?_
      refine z_bipush (v := 108) F (by decide) dX10_nameNow_80 ?_
      refine z_bipush (v := 117) F (by decide) dX10_nameNow_82 ?_
      refine k_X10_is F (by rw [hR]; exact ⟨by decide, by decide⟩) q_1113 hta ⟨Nat.zero_le _, Nat.zero_le _⟩ (Nat.le_of_ble_eq_true rfl) dX10_nameNow_84 (fun v40 g41 => ?_)
      refine z_if_eq (tgt := 119) F dX10_nameNow_87 (by decide) (fun c42 => ?_) (fun c42 => ?_)
      · exact hj_X10_nameNow_119 g41
      · refine z_aload_n F 0 rfl rfl dX10_nameNow_90 ?_
        refine z_bipush (v := 109) F (by decide) dX10_nameNow_91 ?_
        refine z_bipush (v := 110) F (by decide) dX10_nameNow_93 ?_
        refine k_X10_ends2 F (by rw [hR]; exact ⟨by decide, by decide⟩) q_1117 hta ⟨Nat.zero_le _, Nat.zero_le _⟩ (Nat.le_of_ble_eq_true rfl) dX10_nameNow_95 (fun v43 g44 => ?_)
        refine z_if_eq (tgt := 119) F dX10_nameNow_98 (by decide) (fun c45 => ?_) (fun c45 => ?_)
        · exact hj_X10_nameNow_119 g44
        · refine z_aload_n F 0 rfl rfl dX10_nameNow_101 ?_
          refine z_aload_n F 0 rfl rfl dX10_nameNow_102 ?_
          refine gf_X10_172 F hta dX10_nameNow_103 ?_
          refine z_bipush (v := 6) F (by decide) dX10_nameNow_106 ?_
          refine z_iadd F dX10_nameNow_108 ?_
          refine k_X10_look F (by rw [hR]; exact ⟨by decide, by decide⟩) q_1093 hta ⟨Nat.zero_le _, Nat.zero_le _⟩ (Nat.le_of_ble_eq_true rfl) dX10_nameNow_109 (fun v46 g47 => ?_)
          refine z_bipush (v := 115) F (by decide) dX10_nameNow_112 ?_
          refine z_icmp_ne (tgt := 119) F dX10_nameNow_114 (by decide) (fun c48 => ?_) (fun c48 => ?_)
          · refine z_iconst (v := 3) F (by decide) dX10_nameNow_117 ?_
            exact z_ireturn F rfl rfl rfl rfl (fun h => h) dX10_nameNow_118
          · exact hj_X10_nameNow_119 g47
    · refine z_iconst (v := 2) F (by decide) dX10_nameNow_71 ?_
      exact z_ireturn F rfl rfl rfl rfl (fun h => h) dX10_nameNow_72
  have hj_X10_nameNow_28 : ∀  (g_28 : zG), zSim (fun q : Int32 × zG => q = (r, g')) (j_X10_nameNow_28 a g_28) (zAt E D (zA τ sz) (zQ E D zrI 0 0 sz τ τ r g') 1 (sz, τ, 0, 0) g_28 28 [(0, .ref a)] []) := by
    intro g_28
    unfold j_X10_nameNow_28
    refine z_aload_n F 0 rfl rfl dX10_nameNow_28 ?_
    refine z_iconst (v := 5) F (by decide) dX10_nameNow_29 ?_
    refine z_bipush (v := 112) F (by decide) dX10_nameNow_30 ?_
    refine z_bipush (v := 105) F (by decide) dX10_nameNow_32 ?_
    refine z_bipush (v := 116) F (by decide) dX10_nameNow_34 ?_
    refine z_bipush (v := 99) F (by decide) dX10_nameNow_36 ?_
    refine k_X10_is F (by rw [hR]; exact ⟨by decide, by decide⟩) q_1113 hta ⟨Nat.zero_le _, Nat.zero_le _⟩ (Nat.le_of_ble_eq_true rfl) dX10_nameNow_38 (fun v49 g50 => ?_)
    refine z_if_eq (tgt := 56) F dX10_nameNow_41 (by decide) (fun c51 => ?_) (fun c51 => ?_)
    · exact hj_X10_nameNow_56 g50
    · refine z_aload_n F 0 rfl rfl dX10_nameNow_44 ?_
      refine z_bipush (v := 104) F (by decide) dX10_nameNow_45 ?_
      refine z_iconst (v := 0) F (by decide) dX10_nameNow_47 ?_
      refine k_X10_ends2 F (by rw [hR]; exact ⟨by decide, by decide⟩) q_1117 hta ⟨Nat.zero_le _, Nat.zero_le _⟩ (Nat.le_of_ble_eq_true rfl) dX10_nameNow_48 (fun v52 g53 => ?_)
      refine z_if_eq (tgt := 56) F dX10_nameNow_51 (by decide) (fun c54 => ?_) (fun c54 => ?_)
      · exact hj_X10_nameNow_56 g53
      · refine z_iconst (v := 1) F (by decide) dX10_nameNow_54 ?_
        exact z_ireturn F rfl rfl rfl rfl (fun h => h) dX10_nameNow_55
  unfold f_X10_nameNow
  refine z_aload_n F 0 rfl rfl dX10_nameNow_0 ?_
  refine z_iconst (v := 5) F (by decide) dX10_nameNow_1 ?_
  refine z_bipush (v := 99) F (by decide) dX10_nameNow_2 ?_
  refine z_bipush (v := 104) F (by decide) dX10_nameNow_4 ?_
  refine z_bipush (v := 97) F (by decide) dX10_nameNow_6 ?_
  refine z_bipush (v := 105) F (by decide) dX10_nameNow_8 ?_
  refine k_X10_is F (by rw [hR]; exact ⟨by decide, by decide⟩) q_1113 hta ⟨Nat.zero_le _, Nat.zero_le _⟩ (Nat.le_of_ble_eq_true rfl) dX10_nameNow_10 (fun v55 g56 => ?_)
  refine z_if_eq (tgt := 28) F dX10_nameNow_13 (by decide) (fun c57 => ?_) (fun c57 => ?_)
  · exact hj_X10_nameNow_28 g56
  · refine z_aload_n F 0 rfl rfl dX10_nameNow_16 ?_
    refine z_bipush (v := 110) F (by decide) dX10_nameNow_17 ?_
    refine z_iconst (v := 0) F (by decide) dX10_nameNow_19 ?_
    refine k_X10_ends2 F (by rw [hR]; exact ⟨by decide, by decide⟩) q_1117 hta ⟨Nat.zero_le _, Nat.zero_le _⟩ (Nat.le_of_ble_eq_true rfl) dX10_nameNow_20 (fun v58 g59 => ?_)
    refine z_if_eq (tgt := 28) F dX10_nameNow_23 (by decide) (fun c60 => ?_) (fun c60 => ?_)
    · exact hj_X10_nameNow_28 g59
    · refine z_iconst (v := 0) F (by decide) dX10_nameNow_26 ?_
      exact z_ireturn F rfl rfl rfl rfl (fun h => h) dX10_nameNow_27
theorem k_X10_nameNow {ρ : Type} {K : ρ → Prop} {E : zE} {D : zD} {A : Nat → Prop} {Q : State → Prop} {nL : Nat} {κ : zC} {g : zG} {pc : Nat} {lv : List (Nat × Value)} {st : List Value} {cc : ByteArray} {own : String} {ret : Option FieldType} (F : zF E D A cc own nL ret) {index : Nat} {h : Int32 → zG → Option ρ} {a : Nat}  (hR : 2 + 1 ≤ E.2.2.2.1.frames ∧ 8 + (1 + 11) + 46 ≤ E.2.2.2.1.locals) (hl : zTbl (.methodLink own index yX10_nameNow)) (hta : κ.2.1 a = some (.inr 10)) (hc : κ.2.2.1 ≤ E.2.2.2.1.cells ∧ κ.2.2.2 ≤ E.2.2.2.1.slots) (hW : (st.map fun v => v.category).sum ≤ 8) (hd : decode cc pc = .ok (.invokevirtual index, 3)) (kk : ∀ r g', zSim K (h r g') (zAt E D A Q nL κ g' (pc + 3) lv (.int r :: st))) : zSim K (zb (f_X10_nameNow a g) h) (zAt E D A Q nL κ g pc lv (.ref a :: st)) :=
  z_callV F (n := 0) (As := []) (C := (RX10, TX10, 61)) ⟨q_1112, q_14, by decide +kernel, rfl, rfl, hR.1, hR.2⟩ (c_X10_nameNow E.2.1 D κ.1 κ.2.1 g a hta) hl q_1111 q_1397 hta rfl rfl rfl hc hW hd kk _ rfl
theorem dX10_next_0 : decode cX10_next 0 = .ok (.aload_n 0, 1) := by decide +kernel
theorem dX10_next_1 : decode cX10_next 1 = .ok (.getfield 169, 3) := by decide +kernel
theorem dX10_next_4 : decode cX10_next 4 = .ok (.ifCond .le 4, 3) := by decide +kernel
theorem dX10_next_7 : decode cX10_next 7 = .ok (.return_, 1) := by decide +kernel
theorem dX10_next_8 : decode cX10_next 8 = .ok (.aload_n 0, 1) := by decide +kernel
theorem dX10_next_9 : decode cX10_next 9 = .ok (.aload_n 0, 1) := by decide +kernel
theorem dX10_next_10 : decode cX10_next 10 = .ok (.getfield 178, 3) := by decide +kernel
theorem dX10_next_13 : decode cX10_next 13 = .ok (.invokevirtual 181, 3) := by decide +kernel
theorem dX10_next_16 : decode cX10_next 16 = .ok (.bipush 32, 2) := by decide +kernel
theorem dX10_next_18 : decode cX10_next 18 = .ok (.if_icmp .ne 16, 3) := by decide +kernel
theorem dX10_next_21 : decode cX10_next 21 = .ok (.aload_n 0, 1) := by decide +kernel
theorem dX10_next_22 : decode cX10_next 22 = .ok (.dup, 1) := by decide +kernel
theorem dX10_next_23 : decode cX10_next 23 = .ok (.getfield 178, 3) := by decide +kernel
theorem dX10_next_26 : decode cX10_next 26 = .ok (.iconst 1, 1) := by decide +kernel
theorem dX10_next_27 : decode cX10_next 27 = .ok (.iadd, 1) := by decide +kernel
theorem dX10_next_28 : decode cX10_next 28 = .ok (.putfield 178, 3) := by decide +kernel
theorem dX10_next_31 : decode cX10_next 31 = .ok (.goto (-23), 3) := by decide +kernel
theorem dX10_next_34 : decode cX10_next 34 = .ok (.aload_n 0, 1) := by decide +kernel
theorem dX10_next_35 : decode cX10_next 35 = .ok (.aload_n 0, 1) := by decide +kernel
theorem dX10_next_36 : decode cX10_next 36 = .ok (.getfield 178, 3) := by decide +kernel
theorem dX10_next_39 : decode cX10_next 39 = .ok (.putfield 172, 3) := by decide +kernel
theorem dX10_next_42 : decode cX10_next 42 = .ok (.aload_n 0, 1) := by decide +kernel
theorem dX10_next_43 : decode cX10_next 43 = .ok (.aload_n 0, 1) := by decide +kernel
theorem dX10_next_44 : decode cX10_next 44 = .ok (.getfield 178, 3) := by decide +kernel
theorem dX10_next_47 : decode cX10_next 47 = .ok (.invokevirtual 181, 3) := by decide +kernel
theorem dX10_next_50 : decode cX10_next 50 = .ok (.istore_n 1, 1) := by decide +kernel
theorem dX10_next_51 : decode cX10_next 51 = .ok (.iload_n 1, 1) := by decide +kernel
theorem dX10_next_52 : decode cX10_next 52 = .ok (.ifCond .ge 11, 3) := by decide +kernel
theorem dX10_next_55 : decode cX10_next 55 = .ok (.aload_n 0, 1) := by decide +kernel
theorem dX10_next_56 : decode cX10_next 56 = .ok (.iconst 0, 1) := by decide +kernel
theorem dX10_next_57 : decode cX10_next 57 = .ok (.putfield 193, 3) := by decide +kernel
theorem dX10_next_60 : decode cX10_next 60 = .ok (.goto 230, 3) := by decide +kernel
theorem dX10_next_63 : decode cX10_next 63 = .ok (.iload_n 1, 1) := by decide +kernel
theorem dX10_next_64 : decode cX10_next 64 = .ok (.i2l, 1) := by decide +kernel
theorem dX10_next_65 : decode cX10_next 65 = .ok (.ldc2_w 196, 3) := by decide +kernel
theorem dX10_next_68 : decode cX10_next 68 = .ok (.ldc2_w 198, 3) := by decide +kernel
theorem dX10_next_71 : decode cX10_next 71 = .ok (.invokestatic 165, 3) := by decide +kernel
theorem dX10_next_74 : decode cX10_next 74 = .ok (.ifCond .eq 42, 3) := by decide +kernel
theorem dX10_next_77 : decode cX10_next 77 = .ok (.aload_n 0, 1) := by decide +kernel
theorem dX10_next_78 : decode cX10_next 78 = .ok (.iconst 1, 1) := by decide +kernel
theorem dX10_next_79 : decode cX10_next 79 = .ok (.putfield 193, 3) := by decide +kernel
theorem dX10_next_82 : decode cX10_next 82 = .ok (.aload_n 0, 1) := by decide +kernel
theorem dX10_next_83 : decode cX10_next 83 = .ok (.aload_n 0, 1) := by decide +kernel
theorem dX10_next_84 : decode cX10_next 84 = .ok (.getfield 178, 3) := by decide +kernel
theorem dX10_next_87 : decode cX10_next 87 = .ok (.invokevirtual 181, 3) := by decide +kernel
theorem dX10_next_90 : decode cX10_next 90 = .ok (.i2l, 1) := by decide +kernel
theorem dX10_next_91 : decode cX10_next 91 = .ok (.ldc2_w 196, 3) := by decide +kernel
theorem dX10_next_94 : decode cX10_next 94 = .ok (.ldc2_w 198, 3) := by decide +kernel
theorem dX10_next_97 : decode cX10_next 97 = .ok (.invokestatic 165, 3) := by decide +kernel
theorem dX10_next_100 : decode cX10_next 100 = .ok (.ifCond .eq 190, 3) := by decide +kernel
theorem dX10_next_103 : decode cX10_next 103 = .ok (.aload_n 0, 1) := by decide +kernel
theorem dX10_next_104 : decode cX10_next 104 = .ok (.dup, 1) := by decide +kernel
theorem dX10_next_105 : decode cX10_next 105 = .ok (.getfield 178, 3) := by decide +kernel
theorem dX10_next_108 : decode cX10_next 108 = .ok (.iconst 1, 1) := by decide +kernel
theorem dX10_next_109 : decode cX10_next 109 = .ok (.iadd, 1) := by decide +kernel
theorem dX10_next_110 : decode cX10_next 110 = .ok (.putfield 178, 3) := by decide +kernel
theorem dX10_next_113 : decode cX10_next 113 = .ok (.goto (-31), 3) := by decide +kernel
theorem dX10_next_116 : decode cX10_next 116 = .ok (.iload_n 1, 1) := by decide +kernel
theorem dX10_next_117 : decode cX10_next 117 = .ok (.i2l, 1) := by decide +kernel
theorem dX10_next_118 : decode cX10_next 118 = .ok (.ldc2_w 200, 3) := by decide +kernel
theorem dX10_next_121 : decode cX10_next 121 = .ok (.ldc2_w 202, 3) := by decide +kernel
theorem dX10_next_124 : decode cX10_next 124 = .ok (.invokestatic 165, 3) := by decide +kernel
theorem dX10_next_127 : decode cX10_next 127 = .ok (.ifCond .eq 116, 3) := by decide +kernel
theorem dX10_next_130 : decode cX10_next 130 = .ok (.aload_n 0, 1) := by decide +kernel
theorem dX10_next_131 : decode cX10_next 131 = .ok (.iconst 2, 1) := by decide +kernel
theorem dX10_next_132 : decode cX10_next 132 = .ok (.putfield 193, 3) := by decide +kernel
theorem dX10_next_135 : decode cX10_next 135 = .ok (.aload_n 0, 1) := by decide +kernel
theorem dX10_next_136 : decode cX10_next 136 = .ok (.iconst 0, 1) := by decide +kernel
theorem dX10_next_137 : decode cX10_next 137 = .ok (.putfield 204, 3) := by decide +kernel
theorem dX10_next_140 : decode cX10_next 140 = .ok (.aload_n 0, 1) := by decide +kernel
theorem dX10_next_141 : decode cX10_next 141 = .ok (.aload_n 0, 1) := by decide +kernel
theorem dX10_next_142 : decode cX10_next 142 = .ok (.getfield 178, 3) := by decide +kernel
theorem dX10_next_145 : decode cX10_next 145 = .ok (.invokevirtual 181, 3) := by decide +kernel
theorem dX10_next_148 : decode cX10_next 148 = .ok (.i2l, 1) := by decide +kernel
theorem dX10_next_149 : decode cX10_next 149 = .ok (.ldc2_w 200, 3) := by decide +kernel
theorem dX10_next_152 : decode cX10_next 152 = .ok (.ldc2_w 202, 3) := by decide +kernel
theorem dX10_next_155 : decode cX10_next 155 = .ok (.invokestatic 165, 3) := by decide +kernel
theorem dX10_next_158 : decode cX10_next 158 = .ok (.ifCond .eq 59, 3) := by decide +kernel
theorem dX10_next_161 : decode cX10_next 161 = .ok (.aload_n 0, 1) := by decide +kernel
theorem dX10_next_162 : decode cX10_next 162 = .ok (.aload_n 0, 1) := by decide +kernel
theorem dX10_next_163 : decode cX10_next 163 = .ok (.getfield 178, 3) := by decide +kernel
theorem dX10_next_166 : decode cX10_next 166 = .ok (.aload_n 0, 1) := by decide +kernel
theorem dX10_next_167 : decode cX10_next 167 = .ok (.getfield 172, 3) := by decide +kernel
theorem dX10_next_170 : decode cX10_next 170 = .ok (.isub, 1) := by decide +kernel
theorem dX10_next_171 : decode cX10_next 171 = .ok (.iconst 2, 1) := by decide +kernel
theorem dX10_next_172 : decode cX10_next 172 = .ok (.if_icmp .ge 25, 3) := by decide +kernel
theorem dX10_next_175 : decode cX10_next 175 = .ok (.bipush 10, 2) := by decide +kernel
theorem dX10_next_177 : decode cX10_next 177 = .ok (.aload_n 0, 1) := by decide +kernel
theorem dX10_next_178 : decode cX10_next 178 = .ok (.getfield 204, 3) := by decide +kernel
theorem dX10_next_181 : decode cX10_next 181 = .ok (.imul, 1) := by decide +kernel
theorem dX10_next_182 : decode cX10_next 182 = .ok (.aload_n 0, 1) := by decide +kernel
theorem dX10_next_183 : decode cX10_next 183 = .ok (.aload_n 0, 1) := by decide +kernel
theorem dX10_next_184 : decode cX10_next 184 = .ok (.getfield 178, 3) := by decide +kernel
theorem dX10_next_187 : decode cX10_next 187 = .ok (.invokevirtual 181, 3) := by decide +kernel
theorem dX10_next_190 : decode cX10_next 190 = .ok (.iadd, 1) := by decide +kernel
theorem dX10_next_191 : decode cX10_next 191 = .ok (.bipush 48, 2) := by decide +kernel
theorem dX10_next_193 : decode cX10_next 193 = .ok (.isub, 1) := by decide +kernel
theorem dX10_next_194 : decode cX10_next 194 = .ok (.goto 7, 3) := by decide +kernel
theorem dX10_next_197 : decode cX10_next 197 = .ok (.aload_n 0, 1) := by decide +kernel
theorem dX10_next_198 : decode cX10_next 198 = .ok (.getfield 204, 3) := by decide +kernel
theorem dX10_next_201 : decode cX10_next 201 = .ok (.putfield 204, 3) := by decide +kernel
theorem dX10_next_204 : decode cX10_next 204 = .ok (.aload_n 0, 1) := by decide +kernel
theorem dX10_next_205 : decode cX10_next 205 = .ok (.dup, 1) := by decide +kernel
theorem dX10_next_206 : decode cX10_next 206 = .ok (.getfield 178, 3) := by decide +kernel
theorem dX10_next_209 : decode cX10_next 209 = .ok (.iconst 1, 1) := by decide +kernel
theorem dX10_next_210 : decode cX10_next 210 = .ok (.iadd, 1) := by decide +kernel
theorem dX10_next_211 : decode cX10_next 211 = .ok (.putfield 178, 3) := by decide +kernel
theorem dX10_next_214 : decode cX10_next 214 = .ok (.goto (-74), 3) := by decide +kernel
theorem dX10_next_217 : decode cX10_next 217 = .ok (.aload_n 0, 1) := by decide +kernel
theorem dX10_next_218 : decode cX10_next 218 = .ok (.aload_n 0, 1) := by decide +kernel
theorem dX10_next_219 : decode cX10_next 219 = .ok (.getfield 178, 3) := by decide +kernel
theorem dX10_next_222 : decode cX10_next 222 = .ok (.aload_n 0, 1) := by decide +kernel
theorem dX10_next_223 : decode cX10_next 223 = .ok (.getfield 172, 3) := by decide +kernel
theorem dX10_next_226 : decode cX10_next 226 = .ok (.isub, 1) := by decide +kernel
theorem dX10_next_227 : decode cX10_next 227 = .ok (.iconst 2, 1) := by decide +kernel
theorem dX10_next_228 : decode cX10_next 228 = .ok (.if_icmp .gt 7, 3) := by decide +kernel
theorem dX10_next_231 : decode cX10_next 231 = .ok (.iconst 1, 1) := by decide +kernel
theorem dX10_next_232 : decode cX10_next 232 = .ok (.goto 4, 3) := by decide +kernel
theorem dX10_next_235 : decode cX10_next 235 = .ok (.iconst 0, 1) := by decide +kernel
theorem dX10_next_236 : decode cX10_next 236 = .ok (.iconst 1, 1) := by decide +kernel
theorem dX10_next_237 : decode cX10_next 237 = .ok (.invokevirtual 207, 3) := by decide +kernel
theorem dX10_next_240 : decode cX10_next 240 = .ok (.goto 50, 3) := by decide +kernel
theorem dX10_next_243 : decode cX10_next 243 = .ok (.aload_n 0, 1) := by decide +kernel
theorem dX10_next_244 : decode cX10_next 244 = .ok (.iload_n 1, 1) := by decide +kernel
theorem dX10_next_245 : decode cX10_next 245 = .ok (.bipush 44, 2) := by decide +kernel
theorem dX10_next_247 : decode cX10_next 247 = .ok (.if_icmp .ne 7, 3) := by decide +kernel
theorem dX10_next_250 : decode cX10_next 250 = .ok (.iconst 3, 1) := by decide +kernel
theorem dX10_next_251 : decode cX10_next 251 = .ok (.goto 4, 3) := by decide +kernel
theorem dX10_next_254 : decode cX10_next 254 = .ok (.iconst 4, 1) := by decide +kernel
theorem dX10_next_255 : decode cX10_next 255 = .ok (.putfield 193, 3) := by decide +kernel
theorem dX10_next_258 : decode cX10_next 258 = .ok (.aload_n 0, 1) := by decide +kernel
theorem dX10_next_259 : decode cX10_next 259 = .ok (.iload_n 1, 1) := by decide +kernel
theorem dX10_next_260 : decode cX10_next 260 = .ok (.bipush 44, 2) := by decide +kernel
theorem dX10_next_262 : decode cX10_next 262 = .ok (.if_icmp .eq 9, 3) := by decide +kernel
theorem dX10_next_265 : decode cX10_next 265 = .ok (.iload_n 1, 1) := by decide +kernel
theorem dX10_next_266 : decode cX10_next 266 = .ok (.bipush 59, 2) := by decide +kernel
theorem dX10_next_268 : decode cX10_next 268 = .ok (.if_icmp .ne 7, 3) := by decide +kernel
theorem dX10_next_271 : decode cX10_next 271 = .ok (.iconst 1, 1) := by decide +kernel
theorem dX10_next_272 : decode cX10_next 272 = .ok (.goto 4, 3) := by decide +kernel
theorem dX10_next_275 : decode cX10_next 275 = .ok (.iconst 0, 1) := by decide +kernel
theorem dX10_next_276 : decode cX10_next 276 = .ok (.iconst 1, 1) := by decide +kernel
theorem dX10_next_277 : decode cX10_next 277 = .ok (.invokevirtual 207, 3) := by decide +kernel
theorem dX10_next_280 : decode cX10_next 280 = .ok (.aload_n 0, 1) := by decide +kernel
theorem dX10_next_281 : decode cX10_next 281 = .ok (.dup, 1) := by decide +kernel
theorem dX10_next_282 : decode cX10_next 282 = .ok (.getfield 178, 3) := by decide +kernel
theorem dX10_next_285 : decode cX10_next 285 = .ok (.iconst 1, 1) := by decide +kernel
theorem dX10_next_286 : decode cX10_next 286 = .ok (.iadd, 1) := by decide +kernel
theorem dX10_next_287 : decode cX10_next 287 = .ok (.putfield 178, 3) := by decide +kernel
theorem dX10_next_290 : decode cX10_next 290 = .ok (.return_, 1) := by decide +kernel
def j_X10_next_290 (a : Nat)  (g : zG) : Option (Int32 × zG) :=
  some ((0, g))
def j_X10_next_276 (a : Nat) (s0 : Nat) (s1 : Int32) (g : zG) : Option (Int32 × zG) :=
  zb (f_X10_wants s0 s1 1 g) (fun v1 g2 => zl (zsi g2 a 28 ((g2.1 a 28) + 1)) (fun g3 => j_X10_next_290 a g3))
def j_X10_next_271 (a : Nat) (s0 : Nat) (g : zG) : Option (Int32 × zG) :=
  j_X10_next_276 a s0 1 g
def j_X10_next_255 (a : Nat) (l1 : Int32) (s0 : Nat) (s1 : Int32) (g : zG) : Option (Int32 × zG) :=
  zl (zsi g s0 30 s1) (fun g4 => if l1 = 44 then (j_X10_next_271 a a g4) else (if l1 = 59 then (j_X10_next_271 a a g4) else (j_X10_next_276 a a 0 g4)))
def j_X10_next_236 (a : Nat) (s0 : Nat) (s1 : Int32) (g : zG) : Option (Int32 × zG) :=
  zb (f_X10_wants s0 s1 1 g) (fun v7 g8 => j_X10_next_290 a g8)
def j_X10_next_217 (a : Nat)  (g : zG) : Option (Int32 × zG) :=
  if 2 < ((g.1 a 28) - (g.1 a 29)) then (j_X10_next_236 a a 0 g) else (j_X10_next_236 a a 1 g)
def l_X10_next_140 (a : Nat)  (g : zG) : Option ((zG) ⊕ (zG)) :=
  zb (f_X10_look a (g.1 a 28) g) (fun v23 g24 => zb (f_X10_in v23.toInt64 48 57 g24) (fun v25 g26 => if v25 = 0 then (some (.inr g26)) else (if 2 ≤ ((g26.1 a 28) - (g26.1 a 29)) then (zl (zsi g26 a 31 (g26.1 a 31)) (fun g29 => zl (zsi g29 a 28 ((g29.1 a 28) + 1)) (fun g30 => some (.inl g30)))) else (zb (f_X10_look a (g26.1 a 28) g26) (fun v31 g32 => zl (zsi g32 a 31 (((10 * (g26.1 a 31)) + v31) - 48)) (fun g33 => zl (zsi g33 a 28 ((g33.1 a 28) + 1)) (fun g34 => some (.inl g34))))))))
def l_X10_next_82 (a : Nat)  (g : zG) : Option ((zG) ⊕ (zG)) :=
  zb (f_X10_look a (g.1 a 28) g) (fun v36 g37 => zb (f_X10_in v36.toInt64 97 122 g37) (fun v38 g39 => if v38 = 0 then (some (.inr g39)) else (zl (zsi g39 a 28 ((g39.1 a 28) + 1)) (fun g41 => some (.inl g41)))))
def j_X10_next_34 (a : Nat)  (g : zG) : Option (Int32 × zG) :=
  zl (zsi g a 29 (g.1 a 28)) (fun g10 => zb (f_X10_look a (g10.1 a 28) g10) (fun v11 g12 => if 0 ≤ v11 then (zb (f_X10_in v11.toInt64 97 122 g12) (fun v14 g15 => if v14 = 0 then (zb (f_X10_in v11.toInt64 48 57 g15) (fun v17 g18 => if v17 = 0 then (if v11 = 44 then (j_X10_next_255 a v11 a 3 g18) else (j_X10_next_255 a v11 a 4 g18)) else (zl (zsi g18 a 30 2) (fun g21 => zl (zsi g21 a 31 0) (fun g22 => zk (zw zN (fun s => l_X10_next_140 a s) g22) (fun x => j_X10_next_217 a x)))))) else (zl (zsi g15 a 30 1) (fun g35 => zk (zw zN (fun s => l_X10_next_82 a s) g35) (fun x => j_X10_next_290 a x))))) else (zl (zsi g12 a 30 0) (fun g42 => j_X10_next_290 a g42))))
def l_X10_next_8 (a : Nat)  (g : zG) : Option ((zG) ⊕ (zG)) :=
  zb (f_X10_look a (g.1 a 28) g) (fun v44 g45 => if v44 = 32 then (zl (zsi g45 a 28 ((g45.1 a 28) + 1)) (fun g47 => some (.inl g47))) else (some (.inr g45)))
def f_X10_next (a : Nat) (g : zG) : Option (Int32 × zG) :=
  if (g.1 a 32) ≤ 0 then (zk (zw zN (fun s => l_X10_next_8 a s) g) (fun x => j_X10_next_34 a x)) else (some ((0, g)))
abbrev rm_X10_next : Room := { frames := 1, cells := 0, slots := 0, locals := 25 }
set_option maxRecDepth 100000 in
set_option maxHeartbeats 4000000 in
theorem c_X10_next (l : Launch) (D : zD) (sz : Nat) (τ : zT) (g : zG) (a : Nat) (hta : τ a = some (.inr 10)) : zCon l D yX10_next cX10_next 2 none rm_X10_next 0 0 zrV [.ref a] sz τ g τ (f_X10_next a g) := by
  refine zCon.of (by decide) (Nat.le_of_ble_eq_true rfl) (fun E r g' hl hR hsz hnm F => ?_)
  have F : zF E D (zA τ sz) cX10_next "TypeChainModel" 2 none := F
  show zSim (fun q : Int32 × zG => q = (r, g')) (f_X10_next a g) (zAt E D (zA τ sz) (zQ E D zrV 0 0 sz τ τ r g') 2 (sz, τ, 0, 0) g 0 [(0, .ref a)] [])
  have hj_X10_next_290 : ∀  (g_290 : zG), zSim (fun q : Int32 × zG => q = (r, g')) (j_X10_next_290 a g_290) (zAt E D (zA τ sz) (zQ E D zrV 0 0 sz τ τ r g') 2 (sz, τ, 0, 0) g_290 290 [] []) := by
    intro g_290
    unfold j_X10_next_290
    exact z_vreturn F rfl rfl rfl rfl (fun h => h) dX10_next_290
  have hj_X10_next_276 : ∀ (s0_276 : Nat) (s1_276 : Int32) (g_276 : zG), τ s0_276 = some (.inr 10) → zSim (fun q : Int32 × zG => q = (r, g')) (j_X10_next_276 a s0_276 s1_276 g_276) (zAt E D (zA τ sz) (zQ E D zrV 0 0 sz τ τ r g') 2 (sz, τ, 0, 0) g_276 276 [(0, .ref a)] [.int s1_276, .ref s0_276]) := by
    intro s0_276 s1_276 g_276 ht_s0_276
    unfold j_X10_next_276
    refine z_iconst (v := 1) F (by decide) dX10_next_276 ?_
    refine k_X10_wants F (by rw [hR]; exact ⟨by decide, by decide⟩) q_1101 ht_s0_276 ⟨Nat.zero_le _, Nat.zero_le _⟩ (Nat.le_of_ble_eq_true rfl) dX10_next_277 (fun v1 g2 => ?_)
    refine z_aload_n F 0 rfl rfl dX10_next_280 ?_
    refine z_dup F rfl dX10_next_281 ?_
    refine gf_X10_178 F hta dX10_next_282 ?_
    refine z_iconst (v := 1) F (by decide) dX10_next_285 ?_
    refine z_iadd F dX10_next_286 ?_
    refine pf_X10_178 F hta dX10_next_287 ?_
    refine z_letg (fun g3 => ?_)
    refine z_sub (lv' := []) [] rfl ?_
    exact hj_X10_next_290 g3
  have hj_X10_next_271 : ∀ (s0_271 : Nat) (g_271 : zG), τ s0_271 = some (.inr 10) → zSim (fun q : Int32 × zG => q = (r, g')) (j_X10_next_271 a s0_271 g_271) (zAt E D (zA τ sz) (zQ E D zrV 0 0 sz τ τ r g') 2 (sz, τ, 0, 0) g_271 271 [(0, .ref a)] [.ref s0_271]) := by
    intro s0_271 g_271 ht_s0_271
    unfold j_X10_next_271
    refine z_iconst (v := 1) F (by decide) dX10_next_271 ?_
    refine z_goto (tgt := 276) F dX10_next_272 (by decide) ?_
    exact hj_X10_next_276 s0_271 1 g_271 ht_s0_271
  have hj_X10_next_255 : ∀ (l1_255 : Int32) (s0_255 : Nat) (s1_255 : Int32) (g_255 : zG), τ s0_255 = some (.inr 10) → zSim (fun q : Int32 × zG => q = (r, g')) (j_X10_next_255 a l1_255 s0_255 s1_255 g_255) (zAt E D (zA τ sz) (zQ E D zrV 0 0 sz τ τ r g') 2 (sz, τ, 0, 0) g_255 255 [(0, .ref a), (1, .int l1_255)] [.int s1_255, .ref s0_255]) := by
    intro l1_255 s0_255 s1_255 g_255 ht_s0_255
    unfold j_X10_next_255
    refine pf_X10_193 F ht_s0_255 dX10_next_255 ?_
    refine z_letg (fun g4 => ?_)
    refine z_aload_n F 0 rfl rfl dX10_next_258 ?_
    refine z_iload_n F 1 rfl rfl dX10_next_259 ?_
    refine z_bipush (v := 44) F (by decide) dX10_next_260 ?_
    refine z_icmp_eq (tgt := 271) F dX10_next_262 (by decide) (fun c5 => ?_) (fun c5 => ?_)
    · refine z_sub (lv' := [(0, .ref a)]) [0] rfl ?_
      exact hj_X10_next_271 a g4 hta
    · refine z_iload_n F 1 rfl rfl dX10_next_265 ?_
      refine z_bipush (v := 59) F (by decide) dX10_next_266 ?_
      refine z_icmp_ne (tgt := 275) F dX10_next_268 (by decide) (fun c6 => ?_) (fun c6 => ?_)
      · refine z_sub (lv' := [(0, .ref a)]) [0] rfl ?_
        exact hj_X10_next_271 a g4 hta
      · refine z_iconst (v := 0) F (by decide) dX10_next_275 ?_
        refine z_sub (lv' := [(0, .ref a)]) [0] rfl ?_
        exact hj_X10_next_276 a 0 g4 hta
  have hj_X10_next_236 : ∀ (s0_236 : Nat) (s1_236 : Int32) (g_236 : zG), τ s0_236 = some (.inr 10) → zSim (fun q : Int32 × zG => q = (r, g')) (j_X10_next_236 a s0_236 s1_236 g_236) (zAt E D (zA τ sz) (zQ E D zrV 0 0 sz τ τ r g') 2 (sz, τ, 0, 0) g_236 236 [] [.int s1_236, .ref s0_236]) := by
    intro s0_236 s1_236 g_236 ht_s0_236
    unfold j_X10_next_236
    refine z_iconst (v := 1) F (by decide) dX10_next_236 ?_
    refine k_X10_wants F (by rw [hR]; exact ⟨by decide, by decide⟩) q_1101 ht_s0_236 ⟨Nat.zero_le _, Nat.zero_le _⟩ (Nat.le_of_ble_eq_true rfl) dX10_next_237 (fun v7 g8 => ?_)
    refine z_goto (tgt := 290) F dX10_next_240 (by decide) ?_
    exact hj_X10_next_290 g8
  have hj_X10_next_217 : ∀  (g_217 : zG), zSim (fun q : Int32 × zG => q = (r, g')) (j_X10_next_217 a g_217) (zAt E D (zA τ sz) (zQ E D zrV 0 0 sz τ τ r g') 2 (sz, τ, 0, 0) g_217 217 [(0, .ref a)] []) := by
    intro g_217
    unfold j_X10_next_217
    refine z_aload_n F 0 rfl rfl dX10_next_217 ?_
    refine z_aload_n F 0 rfl rfl dX10_next_218 ?_
    refine gf_X10_178 F hta dX10_next_219 ?_
    refine z_aload_n F 0 rfl rfl dX10_next_222 ?_
    refine gf_X10_172 F hta dX10_next_223 ?_
    refine z_isub F dX10_next_226 ?_
    refine z_iconst (v := 2) F (by decide) dX10_next_227 ?_
    refine z_icmp_gt (tgt := 235) F dX10_next_228 (by decide) (fun c9 => ?_) (fun c9 => ?_)
    · refine z_iconst (v := 0) F (by decide) dX10_next_235 ?_
      refine z_sub (lv' := []) [] rfl ?_
      exact hj_X10_next_236 a 0 g_217 hta
    · refine z_iconst (v := 1) F (by decide) dX10_next_231 ?_
      refine z_goto (tgt := 236) F dX10_next_232 (by decide) ?_
      refine z_sub (lv' := []) [] rfl ?_
      exact hj_X10_next_236 a 1 g_217 hta
  have hj_X10_next_34 : ∀  (g_34 : zG), zSim (fun q : Int32 × zG => q = (r, g')) (j_X10_next_34 a g_34) (zAt E D (zA τ sz) (zQ E D zrV 0 0 sz τ τ r g') 2 (sz, τ, 0, 0) g_34 34 [(0, .ref a)] []) := by
    intro g_34
    unfold j_X10_next_34
    refine z_aload_n F 0 rfl rfl dX10_next_34 ?_
    refine z_aload_n F 0 rfl rfl dX10_next_35 ?_
    refine gf_X10_178 F hta dX10_next_36 ?_
    refine pf_X10_172 F hta dX10_next_39 ?_
    refine z_letg (fun g10 => ?_)
    refine z_aload_n F 0 rfl rfl dX10_next_42 ?_
    refine z_aload_n F 0 rfl rfl dX10_next_43 ?_
    refine gf_X10_178 F hta dX10_next_44 ?_
    refine k_X10_look F (by rw [hR]; exact ⟨by decide, by decide⟩) q_1093 hta ⟨Nat.zero_le _, Nat.zero_le _⟩ (Nat.le_of_ble_eq_true rfl) dX10_next_47 (fun v11 g12 => ?_)
    refine z_istore_n (lv' := [(1, .int v11), (0, .ref a)]) F rfl (by decide) dX10_next_50 rfl ?_
    refine z_iload_n F 0 rfl rfl dX10_next_51 ?_
    refine z_if_ge (tgt := 63) F dX10_next_52 (by decide) (fun c13 => ?_) (fun c13 => ?_)
    · refine z_iload_n F 0 rfl rfl dX10_next_63 ?_
      refine z_i2l F dX10_next_64 ?_
      refine z_ldc2 F q_1097 dX10_next_65 ?_
      refine z_ldc2 F q_1098 dX10_next_68 ?_
      refine k_X10_in F (by rw [hR]; exact ⟨by decide, by decide⟩) q_1082  ⟨Nat.zero_le _, Nat.zero_le _⟩ (Nat.le_of_ble_eq_true rfl) dX10_next_71 (fun v14 g15 => ?_)
      refine z_if_eq (tgt := 116) F dX10_next_74 (by decide) (fun c16 => ?_) (fun c16 => ?_)
      · refine z_iload_n F 0 rfl rfl dX10_next_116 ?_
        refine z_i2l F dX10_next_117 ?_
        refine z_ldc2 F q_1099 dX10_next_118 ?_
        refine z_ldc2 F q_1100 dX10_next_121 ?_
        refine k_X10_in F (by rw [hR]; exact ⟨by decide, by decide⟩) q_1082  ⟨Nat.zero_le _, Nat.zero_le _⟩ (Nat.le_of_ble_eq_true rfl) dX10_next_124 (fun v17 g18 => ?_)
        refine z_if_eq (tgt := 243) F dX10_next_127 (by decide) (fun c19 => ?_) (fun c19 => ?_)
        · refine z_aload_n F 1 rfl rfl dX10_next_243 ?_
          refine z_iload_n F 0 rfl rfl dX10_next_244 ?_
          refine z_bipush (v := 44) F (by decide) dX10_next_245 ?_
          refine z_icmp_ne (tgt := 254) F dX10_next_247 (by decide) (fun c20 => ?_) (fun c20 => ?_)
          · refine z_iconst (v := 3) F (by decide) dX10_next_250 ?_
            refine z_goto (tgt := 255) F dX10_next_251 (by decide) ?_
            refine z_sub (lv' := [(0, .ref a), (1, .int v11)]) [1, 0] rfl ?_
            exact hj_X10_next_255 v11 a 3 g18 hta
          · refine z_iconst (v := 4) F (by decide) dX10_next_254 ?_
            refine z_sub (lv' := [(0, .ref a), (1, .int v11)]) [1, 0] rfl ?_
            exact hj_X10_next_255 v11 a 4 g18 hta
        · refine z_aload_n F 1 rfl rfl dX10_next_130 ?_
          refine z_iconst (v := 2) F (by decide) dX10_next_131 ?_
          refine pf_X10_193 F hta dX10_next_132 ?_
          refine z_letg (fun g21 => ?_)
          refine z_aload_n F 1 rfl rfl dX10_next_135 ?_
          refine z_iconst (v := 0) F (by decide) dX10_next_136 ?_
          refine pf_X10_204 F hta dX10_next_137 ?_
          refine z_letg (fun g22 => ?_)
          refine z_sub (lv' := [(0, .ref a)]) [1] rfl ?_
          refine z_loop (P := fun s : zG => zAt E D (zA τ sz) (zQ E D zrV 0 0 sz τ τ r g') 2 (sz, τ, 0, 0) s 140 [(0, .ref a)] []) (Px := fun x : zG => zAt E D (zA τ sz) (zQ E D zrV 0 0 sz τ τ r g') 2 (sz, τ, 0, 0) x 217 [(0, .ref a)] []) g22 (fun s => ?_) (fun x => ?_)
          · generalize s = g_140
            show zSim (zKl (fun s : zG => zAt E D (zA τ sz) (zQ E D zrV 0 0 sz τ τ r g') 2 (sz, τ, 0, 0) s 140 [(0, .ref a)] []) (fun x : zG => zAt E D (zA τ sz) (zQ E D zrV 0 0 sz τ τ r g') 2 (sz, τ, 0, 0) x 217 [(0, .ref a)] [])) (l_X10_next_140 a g_140) (zAt E D (zA τ sz) (zQ E D zrV 0 0 sz τ τ r g') 2 (sz, τ, 0, 0) g_140 140 [(0, .ref a)] [])
            unfold l_X10_next_140
            refine z_aload_n F 0 rfl rfl dX10_next_140 ?_
            refine z_aload_n F 0 rfl rfl dX10_next_141 ?_
            refine gf_X10_178 F hta dX10_next_142 ?_
            refine k_X10_look F (by rw [hR]; exact ⟨by decide, by decide⟩) q_1093 hta ⟨Nat.zero_le _, Nat.zero_le _⟩ (Nat.le_of_ble_eq_true rfl) dX10_next_145 (fun v23 g24 => ?_)
            refine z_i2l F dX10_next_148 ?_
            refine z_ldc2 F q_1099 dX10_next_149 ?_
            refine z_ldc2 F q_1100 dX10_next_152 ?_
            refine k_X10_in F (by rw [hR]; exact ⟨by decide, by decide⟩) q_1082  ⟨Nat.zero_le _, Nat.zero_le _⟩ (Nat.le_of_ble_eq_true rfl) dX10_next_155 (fun v25 g26 => ?_)
            refine z_if_eq (tgt := 217) F dX10_next_158 (by decide) (fun c27 => ?_) (fun c27 => ?_)
            · exact z_back (fun h => h)
            · refine z_aload_n F 0 rfl rfl dX10_next_161 ?_
              refine z_aload_n F 0 rfl rfl dX10_next_162 ?_
              refine gf_X10_178 F hta dX10_next_163 ?_
              refine z_aload_n F 0 rfl rfl dX10_next_166 ?_
              refine gf_X10_172 F hta dX10_next_167 ?_
              refine z_isub F dX10_next_170 ?_
              refine z_iconst (v := 2) F (by decide) dX10_next_171 ?_
              refine z_icmp_ge (tgt := 197) F dX10_next_172 (by decide) (fun c28 => ?_) (fun c28 => ?_)
              · refine z_aload_n F 0 rfl rfl dX10_next_197 ?_
                refine gf_X10_204 F hta dX10_next_198 ?_
                refine pf_X10_204 F hta dX10_next_201 ?_
                refine z_letg (fun g29 => ?_)
                refine z_aload_n F 0 rfl rfl dX10_next_204 ?_
                refine z_dup F rfl dX10_next_205 ?_
                refine gf_X10_178 F hta dX10_next_206 ?_
                refine z_iconst (v := 1) F (by decide) dX10_next_209 ?_
                refine z_iadd F dX10_next_210 ?_
                refine pf_X10_178 F hta dX10_next_211 ?_
                refine z_letg (fun g30 => ?_)
                refine z_goto (tgt := 140) F dX10_next_214 (by decide) ?_
                exact z_back (fun h => h)
              · refine z_bipush (v := 10) F (by decide) dX10_next_175 ?_
                refine z_aload_n F 0 rfl rfl dX10_next_177 ?_
                refine gf_X10_204 F hta dX10_next_178 ?_
                refine z_imul F dX10_next_181 ?_
                refine z_aload_n F 0 rfl rfl dX10_next_182 ?_
                refine z_aload_n F 0 rfl rfl dX10_next_183 ?_
                refine gf_X10_178 F hta dX10_next_184 ?_
                refine k_X10_look F (by rw [hR]; exact ⟨by decide, by decide⟩) q_1093 hta ⟨Nat.zero_le _, Nat.zero_le _⟩ (Nat.le_of_ble_eq_true rfl) dX10_next_187 (fun v31 g32 => ?_)
                refine z_iadd F dX10_next_190 ?_
                refine z_bipush (v := 48) F (by decide) dX10_next_191 ?_
                refine z_isub F dX10_next_193 ?_
                refine z_goto (tgt := 201) F dX10_next_194 (by decide) ?_
                refine pf_X10_204 F hta dX10_next_201 ?_
                refine z_letg (fun g33 => ?_)
                refine z_aload_n F 0 rfl rfl dX10_next_204 ?_
                refine z_dup F rfl dX10_next_205 ?_
                refine gf_X10_178 F hta dX10_next_206 ?_
                refine z_iconst (v := 1) F (by decide) dX10_next_209 ?_
                refine z_iadd F dX10_next_210 ?_
                refine pf_X10_178 F hta dX10_next_211 ?_
                refine z_letg (fun g34 => ?_)
                refine z_goto (tgt := 140) F dX10_next_214 (by decide) ?_
                exact z_back (fun h => h)
          · show zSim (fun q : Int32 × zG => q = (r, g')) (j_X10_next_217 a x) (zAt E D (zA τ sz) (zQ E D zrV 0 0 sz τ τ r g') 2 (sz, τ, 0, 0) x 217 [(0, .ref a)] [])
            exact hj_X10_next_217 x
      · refine z_aload_n F 1 rfl rfl dX10_next_77 ?_
        refine z_iconst (v := 1) F (by decide) dX10_next_78 ?_
        refine pf_X10_193 F hta dX10_next_79 ?_
        refine z_letg (fun g35 => ?_)
        refine z_sub (lv' := [(0, .ref a)]) [1] rfl ?_
        refine z_loop (P := fun s : zG => zAt E D (zA τ sz) (zQ E D zrV 0 0 sz τ τ r g') 2 (sz, τ, 0, 0) s 82 [(0, .ref a)] []) (Px := fun x : zG => zAt E D (zA τ sz) (zQ E D zrV 0 0 sz τ τ r g') 2 (sz, τ, 0, 0) x 290 [] []) g35 (fun s => ?_) (fun x => ?_)
        · generalize s = g_82
          show zSim (zKl (fun s : zG => zAt E D (zA τ sz) (zQ E D zrV 0 0 sz τ τ r g') 2 (sz, τ, 0, 0) s 82 [(0, .ref a)] []) (fun x : zG => zAt E D (zA τ sz) (zQ E D zrV 0 0 sz τ τ r g') 2 (sz, τ, 0, 0) x 290 [] [])) (l_X10_next_82 a g_82) (zAt E D (zA τ sz) (zQ E D zrV 0 0 sz τ τ r g') 2 (sz, τ, 0, 0) g_82 82 [(0, .ref a)] [])
          unfold l_X10_next_82
          refine z_aload_n F 0 rfl rfl dX10_next_82 ?_
          refine z_aload_n F 0 rfl rfl dX10_next_83 ?_
          refine gf_X10_178 F hta dX10_next_84 ?_
          refine k_X10_look F (by rw [hR]; exact ⟨by decide, by decide⟩) q_1093 hta ⟨Nat.zero_le _, Nat.zero_le _⟩ (Nat.le_of_ble_eq_true rfl) dX10_next_87 (fun v36 g37 => ?_)
          refine z_i2l F dX10_next_90 ?_
          refine z_ldc2 F q_1097 dX10_next_91 ?_
          refine z_ldc2 F q_1098 dX10_next_94 ?_
          refine k_X10_in F (by rw [hR]; exact ⟨by decide, by decide⟩) q_1082  ⟨Nat.zero_le _, Nat.zero_le _⟩ (Nat.le_of_ble_eq_true rfl) dX10_next_97 (fun v38 g39 => ?_)
          refine z_if_eq (tgt := 290) F dX10_next_100 (by decide) (fun c40 => ?_) (fun c40 => ?_)
          · refine z_sub (lv' := []) [] rfl ?_
            exact z_back (fun h => h)
          · refine z_aload_n F 0 rfl rfl dX10_next_103 ?_
            refine z_dup F rfl dX10_next_104 ?_
            refine gf_X10_178 F hta dX10_next_105 ?_
            refine z_iconst (v := 1) F (by decide) dX10_next_108 ?_
            refine z_iadd F dX10_next_109 ?_
            refine pf_X10_178 F hta dX10_next_110 ?_
            refine z_letg (fun g41 => ?_)
            refine z_goto (tgt := 82) F dX10_next_113 (by decide) ?_
            exact z_back (fun h => h)
        · show zSim (fun q : Int32 × zG => q = (r, g')) (j_X10_next_290 a x) (zAt E D (zA τ sz) (zQ E D zrV 0 0 sz τ τ r g') 2 (sz, τ, 0, 0) x 290 [] [])
          exact hj_X10_next_290 x
    · refine z_aload_n F 1 rfl rfl dX10_next_55 ?_
      refine z_iconst (v := 0) F (by decide) dX10_next_56 ?_
      refine pf_X10_193 F hta dX10_next_57 ?_
      refine z_letg (fun g42 => ?_)
      refine z_goto (tgt := 290) F dX10_next_60 (by decide) ?_
      refine z_sub (lv' := []) [] rfl ?_
      exact hj_X10_next_290 g42
  unfold f_X10_next
  refine z_aload_n F 0 rfl rfl dX10_next_0 ?_
  refine gf_X10_169 F hta dX10_next_1 ?_
  refine z_if_le (tgt := 8) F dX10_next_4 (by decide) (fun c43 => ?_) (fun c43 => ?_)
  · refine z_loop (P := fun s : zG => zAt E D (zA τ sz) (zQ E D zrV 0 0 sz τ τ r g') 2 (sz, τ, 0, 0) s 8 [(0, .ref a)] []) (Px := fun x : zG => zAt E D (zA τ sz) (zQ E D zrV 0 0 sz τ τ r g') 2 (sz, τ, 0, 0) x 34 [(0, .ref a)] []) g (fun s => ?_) (fun x => ?_)
    · generalize s = g_8
      show zSim (zKl (fun s : zG => zAt E D (zA τ sz) (zQ E D zrV 0 0 sz τ τ r g') 2 (sz, τ, 0, 0) s 8 [(0, .ref a)] []) (fun x : zG => zAt E D (zA τ sz) (zQ E D zrV 0 0 sz τ τ r g') 2 (sz, τ, 0, 0) x 34 [(0, .ref a)] [])) (l_X10_next_8 a g_8) (zAt E D (zA τ sz) (zQ E D zrV 0 0 sz τ τ r g') 2 (sz, τ, 0, 0) g_8 8 [(0, .ref a)] [])
      unfold l_X10_next_8
      refine z_aload_n F 0 rfl rfl dX10_next_8 ?_
      refine z_aload_n F 0 rfl rfl dX10_next_9 ?_
      refine gf_X10_178 F hta dX10_next_10 ?_
      refine k_X10_look F (by rw [hR]; exact ⟨by decide, by decide⟩) q_1093 hta ⟨Nat.zero_le _, Nat.zero_le _⟩ (Nat.le_of_ble_eq_true rfl) dX10_next_13 (fun v44 g45 => ?_)
      refine z_bipush (v := 32) F (by decide) dX10_next_16 ?_
      refine z_icmp_ne (tgt := 34) F dX10_next_18 (by decide) (fun c46 => ?_) (fun c46 => ?_)
      · refine z_aload_n F 0 rfl rfl dX10_next_21 ?_
        refine z_dup F rfl dX10_next_22 ?_
        refine gf_X10_178 F hta dX10_next_23 ?_
        refine z_iconst (v := 1) F (by decide) dX10_next_26 ?_
        refine z_iadd F dX10_next_27 ?_
        refine pf_X10_178 F hta dX10_next_28 ?_
        refine z_letg (fun g47 => ?_)
        refine z_goto (tgt := 8) F dX10_next_31 (by decide) ?_
        exact z_back (fun h => h)
      · exact z_back (fun h => h)
    · show zSim (fun q : Int32 × zG => q = (r, g')) (j_X10_next_34 a x) (zAt E D (zA τ sz) (zQ E D zrV 0 0 sz τ τ r g') 2 (sz, τ, 0, 0) x 34 [(0, .ref a)] [])
      exact hj_X10_next_34 x
  · exact z_vreturn F rfl rfl rfl rfl (fun h => h) dX10_next_7
theorem k_X10_next {ρ : Type} {K : ρ → Prop} {E : zE} {D : zD} {A : Nat → Prop} {Q : State → Prop} {nL : Nat} {κ : zC} {g : zG} {pc : Nat} {lv : List (Nat × Value)} {st : List Value} {cc : ByteArray} {own : String} {ret : Option FieldType} (F : zF E D A cc own nL ret) {index : Nat} {h : Int32 → zG → Option ρ} {a : Nat}  (hR : 1 + 1 ≤ E.2.2.2.1.frames ∧ 8 + (2 + 11) + 25 ≤ E.2.2.2.1.locals) (hl : zTbl (.methodLink own index yX10_next)) (hta : κ.2.1 a = some (.inr 10)) (hc : κ.2.2.1 ≤ E.2.2.2.1.cells ∧ κ.2.2.2 ≤ E.2.2.2.1.slots) (hW : (st.map fun v => v.category).sum ≤ 8) (hd : decode cc pc = .ok (.invokevirtual index, 3)) (kk : ∀ r g', zSim K (h r g') (zAt E D A Q nL κ g' (pc + 3) lv (st))) : zSim K (zb (f_X10_next a g) h) (zAt E D A Q nL κ g pc lv (.ref a :: st)) :=
  z_callV F (n := 0) (As := []) (C := (RX10, TX10, 61)) ⟨q_1092, q_14, by decide +kernel, rfl, rfl, hR.1, hR.2⟩ (c_X10_next E.2.1 D κ.1 κ.2.1 g a hta) hl q_1091 q_1393 hta rfl rfl rfl hc hW hd kk _ rfl
theorem dX10_readNumber_0 : decode cX10_readNumber 0 = .ok (.aload_n 0, 1) := by decide +kernel
theorem dX10_readNumber_1 : decode cX10_readNumber 1 = .ok (.getfield 169, 3) := by decide +kernel
theorem dX10_readNumber_4 : decode cX10_readNumber 4 = .ok (.ifCond .ne 21, 3) := by decide +kernel
theorem dX10_readNumber_7 : decode cX10_readNumber 7 = .ok (.aload_n 0, 1) := by decide +kernel
theorem dX10_readNumber_8 : decode cX10_readNumber 8 = .ok (.aload_n 0, 1) := by decide +kernel
theorem dX10_readNumber_9 : decode cX10_readNumber 9 = .ok (.getfield 193, 3) := by decide +kernel
theorem dX10_readNumber_12 : decode cX10_readNumber 12 = .ok (.iconst 2, 1) := by decide +kernel
theorem dX10_readNumber_13 : decode cX10_readNumber 13 = .ok (.if_icmp .ne 7, 3) := by decide +kernel
theorem dX10_readNumber_16 : decode cX10_readNumber 16 = .ok (.iconst 1, 1) := by decide +kernel
theorem dX10_readNumber_17 : decode cX10_readNumber 17 = .ok (.goto 4, 3) := by decide +kernel
theorem dX10_readNumber_20 : decode cX10_readNumber 20 = .ok (.iconst 0, 1) := by decide +kernel
theorem dX10_readNumber_21 : decode cX10_readNumber 21 = .ok (.iconst 2, 1) := by decide +kernel
theorem dX10_readNumber_22 : decode cX10_readNumber 22 = .ok (.invokevirtual 207, 3) := by decide +kernel
theorem dX10_readNumber_25 : decode cX10_readNumber 25 = .ok (.aload_n 0, 1) := by decide +kernel
theorem dX10_readNumber_26 : decode cX10_readNumber 26 = .ok (.getfield 169, 3) := by decide +kernel
theorem dX10_readNumber_29 : decode cX10_readNumber 29 = .ok (.ifCond .ne 20, 3) := by decide +kernel
theorem dX10_readNumber_32 : decode cX10_readNumber 32 = .ok (.aload_n 0, 1) := by decide +kernel
theorem dX10_readNumber_33 : decode cX10_readNumber 33 = .ok (.aload_n 0, 1) := by decide +kernel
theorem dX10_readNumber_34 : decode cX10_readNumber 34 = .ok (.getfield 204, 3) := by decide +kernel
theorem dX10_readNumber_37 : decode cX10_readNumber 37 = .ok (.i2l, 1) := by decide +kernel
theorem dX10_readNumber_38 : decode cX10_readNumber 38 = .ok (.iload_n 1, 1) := by decide +kernel
theorem dX10_readNumber_39 : decode cX10_readNumber 39 = .ok (.i2l, 1) := by decide +kernel
theorem dX10_readNumber_40 : decode cX10_readNumber 40 = .ok (.iload_n 2, 1) := by decide +kernel
theorem dX10_readNumber_41 : decode cX10_readNumber 41 = .ok (.i2l, 1) := by decide +kernel
theorem dX10_readNumber_42 : decode cX10_readNumber 42 = .ok (.invokestatic 165, 3) := by decide +kernel
theorem dX10_readNumber_45 : decode cX10_readNumber 45 = .ok (.iconst 3, 1) := by decide +kernel
theorem dX10_readNumber_46 : decode cX10_readNumber 46 = .ok (.invokevirtual 207, 3) := by decide +kernel
theorem dX10_readNumber_49 : decode cX10_readNumber 49 = .ok (.aload_n 0, 1) := by decide +kernel
theorem dX10_readNumber_50 : decode cX10_readNumber 50 = .ok (.getfield 204, 3) := by decide +kernel
theorem dX10_readNumber_53 : decode cX10_readNumber 53 = .ok (.istore_n 3, 1) := by decide +kernel
theorem dX10_readNumber_54 : decode cX10_readNumber 54 = .ok (.aload_n 0, 1) := by decide +kernel
theorem dX10_readNumber_55 : decode cX10_readNumber 55 = .ok (.invokevirtual 211, 3) := by decide +kernel
theorem dX10_readNumber_58 : decode cX10_readNumber 58 = .ok (.iload_n 3, 1) := by decide +kernel
theorem dX10_readNumber_59 : decode cX10_readNumber 59 = .ok (.ireturn, 1) := by decide +kernel
def j_X10_readNumber_49 (a : Nat)  (g : zG) : Option (Int32 × zG) :=
  zl (g.1 a 31) (fun v1 => zb (f_X10_next a g) (fun v2 g3 => some ((v1, g3))))
def j_X10_readNumber_25 (a : Nat) (l1 : Int32) (l2 : Int32) (g : zG) : Option (Int32 × zG) :=
  if (g.1 a 32) = 0 then (zb (f_X10_in ((g.1 a 31).toInt64) l1.toInt64 l2.toInt64 g) (fun v5 g6 => zb (f_X10_wants a v5 3 g6) (fun v7 g8 => j_X10_readNumber_49 a g8))) else (j_X10_readNumber_49 a g)
def j_X10_readNumber_21 (a : Nat) (l1 : Int32) (l2 : Int32) (s0 : Nat) (s1 : Int32) (g : zG) : Option (Int32 × zG) :=
  zb (f_X10_wants s0 s1 2 g) (fun v9 g10 => j_X10_readNumber_25 a l1 l2 g10)
def f_X10_readNumber (a : Nat) (x1 : Int32) (x2 : Int32) (g : zG) : Option (Int32 × zG) :=
  if (g.1 a 32) = 0 then (if (g.1 a 30) = 2 then (j_X10_readNumber_21 a x1 x2 a 1 g) else (j_X10_readNumber_21 a x1 x2 a 0 g)) else (j_X10_readNumber_25 a x1 x2 g)
abbrev rm_X10_readNumber : Room := { frames := 2, cells := 0, slots := 0, locals := 46 }
set_option maxRecDepth 100000 in
set_option maxHeartbeats 4000000 in
theorem c_X10_readNumber (l : Launch) (D : zD) (sz : Nat) (τ : zT) (g : zG) (a : Nat) (x1 : Int32) (x2 : Int32) (hta : τ a = some (.inr 10)) : zCon l D yX10_readNumber cX10_readNumber 4 (some .int) rm_X10_readNumber 0 0 zrI [.ref a, .int x1, .int x2] sz τ g τ (f_X10_readNumber a x1 x2 g) := by
  refine zCon.of (by decide) (Nat.le_of_ble_eq_true rfl) (fun E r g' hl hR hsz hnm F => ?_)
  have F : zF E D (zA τ sz) cX10_readNumber "TypeChainModel" 4 (some .int) := F
  show zSim (fun q : Int32 × zG => q = (r, g')) (f_X10_readNumber a x1 x2 g) (zAt E D (zA τ sz) (zQ E D zrI 0 0 sz τ τ r g') 4 (sz, τ, 0, 0) g 0 [(0, .ref a), (1, .int x1), (2, .int x2)] [])
  have hj_X10_readNumber_49 : ∀  (g_49 : zG), zSim (fun q : Int32 × zG => q = (r, g')) (j_X10_readNumber_49 a g_49) (zAt E D (zA τ sz) (zQ E D zrI 0 0 sz τ τ r g') 4 (sz, τ, 0, 0) g_49 49 [(0, .ref a)] []) := by
    intro g_49
    unfold j_X10_readNumber_49
    refine z_aload_n F 0 rfl rfl dX10_readNumber_49 ?_
    refine gf_X10_204 F hta dX10_readNumber_50 ?_
    refine z_leti (fun v1 => ?_)
    refine z_istore_n (lv' := [(3, .int v1), (0, .ref a)]) F rfl (by decide) dX10_readNumber_53 rfl ?_
    refine z_aload_n F 1 rfl rfl dX10_readNumber_54 ?_
    refine k_X10_next F (by rw [hR]; exact ⟨by decide, by decide⟩) q_1089 hta ⟨Nat.zero_le _, Nat.zero_le _⟩ (Nat.le_of_ble_eq_true rfl) dX10_readNumber_55 (fun v2 g3 => ?_)
    refine z_iload_n F 0 rfl rfl dX10_readNumber_58 ?_
    exact z_ireturn F rfl rfl rfl rfl (fun h => h) dX10_readNumber_59
  have hj_X10_readNumber_25 : ∀ (l1_25 : Int32) (l2_25 : Int32) (g_25 : zG), zSim (fun q : Int32 × zG => q = (r, g')) (j_X10_readNumber_25 a l1_25 l2_25 g_25) (zAt E D (zA τ sz) (zQ E D zrI 0 0 sz τ τ r g') 4 (sz, τ, 0, 0) g_25 25 [(0, .ref a), (1, .int l1_25), (2, .int l2_25)] []) := by
    intro l1_25 l2_25 g_25
    unfold j_X10_readNumber_25
    refine z_aload_n F 0 rfl rfl dX10_readNumber_25 ?_
    refine gf_X10_169 F hta dX10_readNumber_26 ?_
    refine z_if_ne (tgt := 49) F dX10_readNumber_29 (by decide) (fun c4 => ?_) (fun c4 => ?_)
    · refine z_aload_n F 0 rfl rfl dX10_readNumber_32 ?_
      refine z_aload_n F 0 rfl rfl dX10_readNumber_33 ?_
      refine gf_X10_204 F hta dX10_readNumber_34 ?_
      refine z_i2l F dX10_readNumber_37 ?_
      refine z_iload_n F 1 rfl rfl dX10_readNumber_38 ?_
      refine z_i2l F dX10_readNumber_39 ?_
      refine z_iload_n F 2 rfl rfl dX10_readNumber_40 ?_
      refine z_i2l F dX10_readNumber_41 ?_
      refine k_X10_in F (by rw [hR]; exact ⟨by decide, by decide⟩) q_1082  ⟨Nat.zero_le _, Nat.zero_le _⟩ (Nat.le_of_ble_eq_true rfl) dX10_readNumber_42 (fun v5 g6 => ?_)
      refine z_iconst (v := 3) F (by decide) dX10_readNumber_45 ?_
      refine k_X10_wants F (by rw [hR]; exact ⟨by decide, by decide⟩) q_1101 hta ⟨Nat.zero_le _, Nat.zero_le _⟩ (Nat.le_of_ble_eq_true rfl) dX10_readNumber_46 (fun v7 g8 => ?_)
      refine z_sub (lv' := [(0, .ref a)]) [0] rfl ?_
      exact hj_X10_readNumber_49 g8
    · refine z_sub (lv' := [(0, .ref a)]) [0] rfl ?_
      exact hj_X10_readNumber_49 g_25
  have hj_X10_readNumber_21 : ∀ (l1_21 : Int32) (l2_21 : Int32) (s0_21 : Nat) (s1_21 : Int32) (g_21 : zG), τ s0_21 = some (.inr 10) → zSim (fun q : Int32 × zG => q = (r, g')) (j_X10_readNumber_21 a l1_21 l2_21 s0_21 s1_21 g_21) (zAt E D (zA τ sz) (zQ E D zrI 0 0 sz τ τ r g') 4 (sz, τ, 0, 0) g_21 21 [(0, .ref a), (1, .int l1_21), (2, .int l2_21)] [.int s1_21, .ref s0_21]) := by
    intro l1_21 l2_21 s0_21 s1_21 g_21 ht_s0_21
    unfold j_X10_readNumber_21
    refine z_iconst (v := 2) F (by decide) dX10_readNumber_21 ?_
    refine k_X10_wants F (by rw [hR]; exact ⟨by decide, by decide⟩) q_1101 ht_s0_21 ⟨Nat.zero_le _, Nat.zero_le _⟩ (Nat.le_of_ble_eq_true rfl) dX10_readNumber_22 (fun v9 g10 => ?_)
    exact hj_X10_readNumber_25 l1_21 l2_21 g10
  unfold f_X10_readNumber
  refine z_aload_n F 0 rfl rfl dX10_readNumber_0 ?_
  refine gf_X10_169 F hta dX10_readNumber_1 ?_
  refine z_if_ne (tgt := 25) F dX10_readNumber_4 (by decide) (fun c11 => ?_) (fun c11 => ?_)
  · refine z_aload_n F 0 rfl rfl dX10_readNumber_7 ?_
    refine z_aload_n F 0 rfl rfl dX10_readNumber_8 ?_
    refine gf_X10_193 F hta dX10_readNumber_9 ?_
    refine z_iconst (v := 2) F (by decide) dX10_readNumber_12 ?_
    refine z_icmp_ne (tgt := 20) F dX10_readNumber_13 (by decide) (fun c12 => ?_) (fun c12 => ?_)
    · refine z_iconst (v := 1) F (by decide) dX10_readNumber_16 ?_
      refine z_goto (tgt := 21) F dX10_readNumber_17 (by decide) ?_
      exact hj_X10_readNumber_21 x1 x2 a 1 g hta
    · refine z_iconst (v := 0) F (by decide) dX10_readNumber_20 ?_
      exact hj_X10_readNumber_21 x1 x2 a 0 g hta
  · exact hj_X10_readNumber_25 x1 x2 g
theorem k_X10_readNumber {ρ : Type} {K : ρ → Prop} {E : zE} {D : zD} {A : Nat → Prop} {Q : State → Prop} {nL : Nat} {κ : zC} {g : zG} {pc : Nat} {lv : List (Nat × Value)} {st : List Value} {cc : ByteArray} {own : String} {ret : Option FieldType} (F : zF E D A cc own nL ret) {index : Nat} {h : Int32 → zG → Option ρ} {a : Nat} {x1 : Int32} {x2 : Int32}  (hR : 2 + 1 ≤ E.2.2.2.1.frames ∧ 8 + (4 + 11) + 46 ≤ E.2.2.2.1.locals) (hl : zTbl (.methodLink own index yX10_readNumber)) (hta : κ.2.1 a = some (.inr 10)) (hc : κ.2.2.1 ≤ E.2.2.2.1.cells ∧ κ.2.2.2 ≤ E.2.2.2.1.slots) (hW : (st.map fun v => v.category).sum ≤ 8) (hd : decode cc pc = .ok (.invokevirtual index, 3)) (kk : ∀ r g', zSim K (h r g') (zAt E D A Q nL κ g' (pc + 3) lv (.int r :: st))) : zSim K (zb (f_X10_readNumber a x1 x2 g) h) (zAt E D A Q nL κ g pc lv (.int x2 :: .int x1 :: .ref a :: st)) :=
  z_callV F (n := 2) (As := [.int x1, .int x2]) (C := (RX10, TX10, 61)) ⟨q_1139, q_14, by decide +kernel, rfl, rfl, hR.1, hR.2⟩ (c_X10_readNumber E.2.1 D κ.1 κ.2.1 g a x1 x2 hta) hl q_1138 q_1402 hta rfl rfl rfl hc hW hd kk _ rfl
theorem dX10_toLetters_0 : decode cX10_toLetters 0 = .ok (.aload_n 0, 1) := by decide +kernel
theorem dX10_toLetters_1 : decode cX10_toLetters 1 = .ok (.getfield 169, 3) := by decide +kernel
theorem dX10_toLetters_4 : decode cX10_toLetters 4 = .ok (.ifCond .ne 21, 3) := by decide +kernel
theorem dX10_toLetters_7 : decode cX10_toLetters 7 = .ok (.aload_n 0, 1) := by decide +kernel
theorem dX10_toLetters_8 : decode cX10_toLetters 8 = .ok (.aload_n 0, 1) := by decide +kernel
theorem dX10_toLetters_9 : decode cX10_toLetters 9 = .ok (.getfield 193, 3) := by decide +kernel
theorem dX10_toLetters_12 : decode cX10_toLetters 12 = .ok (.iconst 3, 1) := by decide +kernel
theorem dX10_toLetters_13 : decode cX10_toLetters 13 = .ok (.if_icmp .ne 7, 3) := by decide +kernel
theorem dX10_toLetters_16 : decode cX10_toLetters 16 = .ok (.iconst 1, 1) := by decide +kernel
theorem dX10_toLetters_17 : decode cX10_toLetters 17 = .ok (.goto 4, 3) := by decide +kernel
theorem dX10_toLetters_20 : decode cX10_toLetters 20 = .ok (.iconst 0, 1) := by decide +kernel
theorem dX10_toLetters_21 : decode cX10_toLetters 21 = .ok (.iconst 2, 1) := by decide +kernel
theorem dX10_toLetters_22 : decode cX10_toLetters 22 = .ok (.invokevirtual 207, 3) := by decide +kernel
theorem dX10_toLetters_25 : decode cX10_toLetters 25 = .ok (.aload_n 0, 1) := by decide +kernel
theorem dX10_toLetters_26 : decode cX10_toLetters 26 = .ok (.invokevirtual 211, 3) := by decide +kernel
theorem dX10_toLetters_29 : decode cX10_toLetters 29 = .ok (.aload_n 0, 1) := by decide +kernel
theorem dX10_toLetters_30 : decode cX10_toLetters 30 = .ok (.getfield 169, 3) := by decide +kernel
theorem dX10_toLetters_33 : decode cX10_toLetters 33 = .ok (.ifCond .ne 21, 3) := by decide +kernel
theorem dX10_toLetters_36 : decode cX10_toLetters 36 = .ok (.aload_n 0, 1) := by decide +kernel
theorem dX10_toLetters_37 : decode cX10_toLetters 37 = .ok (.aload_n 0, 1) := by decide +kernel
theorem dX10_toLetters_38 : decode cX10_toLetters 38 = .ok (.getfield 193, 3) := by decide +kernel
theorem dX10_toLetters_41 : decode cX10_toLetters 41 = .ok (.iconst 1, 1) := by decide +kernel
theorem dX10_toLetters_42 : decode cX10_toLetters 42 = .ok (.if_icmp .ne 7, 3) := by decide +kernel
theorem dX10_toLetters_45 : decode cX10_toLetters 45 = .ok (.iconst 1, 1) := by decide +kernel
theorem dX10_toLetters_46 : decode cX10_toLetters 46 = .ok (.goto 4, 3) := by decide +kernel
theorem dX10_toLetters_49 : decode cX10_toLetters 49 = .ok (.iconst 0, 1) := by decide +kernel
theorem dX10_toLetters_50 : decode cX10_toLetters 50 = .ok (.iconst 2, 1) := by decide +kernel
theorem dX10_toLetters_51 : decode cX10_toLetters 51 = .ok (.invokevirtual 207, 3) := by decide +kernel
theorem dX10_toLetters_54 : decode cX10_toLetters 54 = .ok (.return_, 1) := by decide +kernel
def j_X10_toLetters_50 (a : Nat) (s0 : Nat) (s1 : Int32) (g : zG) : Option (Int32 × zG) :=
  zb (f_X10_wants s0 s1 2 g) (fun v1 g2 => some ((0, g2)))
def j_X10_toLetters_25 (a : Nat)  (g : zG) : Option (Int32 × zG) :=
  zb (f_X10_next a g) (fun v3 g4 => if (g4.1 a 32) = 0 then (if (g4.1 a 30) = 1 then (j_X10_toLetters_50 a a 1 g4) else (j_X10_toLetters_50 a a 0 g4)) else (some ((0, g4))))
def j_X10_toLetters_21 (a : Nat) (s0 : Nat) (s1 : Int32) (g : zG) : Option (Int32 × zG) :=
  zb (f_X10_wants s0 s1 2 g) (fun v7 g8 => j_X10_toLetters_25 a g8)
def f_X10_toLetters (a : Nat) (g : zG) : Option (Int32 × zG) :=
  if (g.1 a 32) = 0 then (if (g.1 a 30) = 3 then (j_X10_toLetters_21 a a 1 g) else (j_X10_toLetters_21 a a 0 g)) else (j_X10_toLetters_25 a g)
abbrev rm_X10_toLetters : Room := { frames := 2, cells := 0, slots := 0, locals := 46 }
set_option maxRecDepth 100000 in
set_option maxHeartbeats 4000000 in
theorem c_X10_toLetters (l : Launch) (D : zD) (sz : Nat) (τ : zT) (g : zG) (a : Nat) (hta : τ a = some (.inr 10)) : zCon l D yX10_toLetters cX10_toLetters 1 none rm_X10_toLetters 0 0 zrV [.ref a] sz τ g τ (f_X10_toLetters a g) := by
  refine zCon.of (by decide) (Nat.le_of_ble_eq_true rfl) (fun E r g' hl hR hsz hnm F => ?_)
  have F : zF E D (zA τ sz) cX10_toLetters "TypeChainModel" 1 none := F
  show zSim (fun q : Int32 × zG => q = (r, g')) (f_X10_toLetters a g) (zAt E D (zA τ sz) (zQ E D zrV 0 0 sz τ τ r g') 1 (sz, τ, 0, 0) g 0 [(0, .ref a)] [])
  have hj_X10_toLetters_50 : ∀ (s0_50 : Nat) (s1_50 : Int32) (g_50 : zG), τ s0_50 = some (.inr 10) → zSim (fun q : Int32 × zG => q = (r, g')) (j_X10_toLetters_50 a s0_50 s1_50 g_50) (zAt E D (zA τ sz) (zQ E D zrV 0 0 sz τ τ r g') 1 (sz, τ, 0, 0) g_50 50 [] [.int s1_50, .ref s0_50]) := by
    intro s0_50 s1_50 g_50 ht_s0_50
    unfold j_X10_toLetters_50
    refine z_iconst (v := 2) F (by decide) dX10_toLetters_50 ?_
    refine k_X10_wants F (by rw [hR]; exact ⟨by decide, by decide⟩) q_1101 ht_s0_50 ⟨Nat.zero_le _, Nat.zero_le _⟩ (Nat.le_of_ble_eq_true rfl) dX10_toLetters_51 (fun v1 g2 => ?_)
    exact z_vreturn F rfl rfl rfl rfl (fun h => h) dX10_toLetters_54
  have hj_X10_toLetters_25 : ∀  (g_25 : zG), zSim (fun q : Int32 × zG => q = (r, g')) (j_X10_toLetters_25 a g_25) (zAt E D (zA τ sz) (zQ E D zrV 0 0 sz τ τ r g') 1 (sz, τ, 0, 0) g_25 25 [(0, .ref a)] []) := by
    intro g_25
    unfold j_X10_toLetters_25
    refine z_aload_n F 0 rfl rfl dX10_toLetters_25 ?_
    refine k_X10_next F (by rw [hR]; exact ⟨by decide, by decide⟩) q_1089 hta ⟨Nat.zero_le _, Nat.zero_le _⟩ (Nat.le_of_ble_eq_true rfl) dX10_toLetters_26 (fun v3 g4 => ?_)
    refine z_aload_n F 0 rfl rfl dX10_toLetters_29 ?_
    refine gf_X10_169 F hta dX10_toLetters_30 ?_
    refine z_if_ne (tgt := 54) F dX10_toLetters_33 (by decide) (fun c5 => ?_) (fun c5 => ?_)
    · refine z_aload_n F 0 rfl rfl dX10_toLetters_36 ?_
      refine z_aload_n F 0 rfl rfl dX10_toLetters_37 ?_
      refine gf_X10_193 F hta dX10_toLetters_38 ?_
      refine z_iconst (v := 1) F (by decide) dX10_toLetters_41 ?_
      refine z_icmp_ne (tgt := 49) F dX10_toLetters_42 (by decide) (fun c6 => ?_) (fun c6 => ?_)
      · refine z_iconst (v := 1) F (by decide) dX10_toLetters_45 ?_
        refine z_goto (tgt := 50) F dX10_toLetters_46 (by decide) ?_
        refine z_sub (lv' := []) [] rfl ?_
        exact hj_X10_toLetters_50 a 1 g4 hta
      · refine z_iconst (v := 0) F (by decide) dX10_toLetters_49 ?_
        refine z_sub (lv' := []) [] rfl ?_
        exact hj_X10_toLetters_50 a 0 g4 hta
    · exact z_vreturn F rfl rfl rfl rfl (fun h => h) dX10_toLetters_54
  have hj_X10_toLetters_21 : ∀ (s0_21 : Nat) (s1_21 : Int32) (g_21 : zG), τ s0_21 = some (.inr 10) → zSim (fun q : Int32 × zG => q = (r, g')) (j_X10_toLetters_21 a s0_21 s1_21 g_21) (zAt E D (zA τ sz) (zQ E D zrV 0 0 sz τ τ r g') 1 (sz, τ, 0, 0) g_21 21 [(0, .ref a)] [.int s1_21, .ref s0_21]) := by
    intro s0_21 s1_21 g_21 ht_s0_21
    unfold j_X10_toLetters_21
    refine z_iconst (v := 2) F (by decide) dX10_toLetters_21 ?_
    refine k_X10_wants F (by rw [hR]; exact ⟨by decide, by decide⟩) q_1101 ht_s0_21 ⟨Nat.zero_le _, Nat.zero_le _⟩ (Nat.le_of_ble_eq_true rfl) dX10_toLetters_22 (fun v7 g8 => ?_)
    exact hj_X10_toLetters_25 g8
  unfold f_X10_toLetters
  refine z_aload_n F 0 rfl rfl dX10_toLetters_0 ?_
  refine gf_X10_169 F hta dX10_toLetters_1 ?_
  refine z_if_ne (tgt := 25) F dX10_toLetters_4 (by decide) (fun c9 => ?_) (fun c9 => ?_)
  · refine z_aload_n F 0 rfl rfl dX10_toLetters_7 ?_
    refine z_aload_n F 0 rfl rfl dX10_toLetters_8 ?_
    refine gf_X10_193 F hta dX10_toLetters_9 ?_
    refine z_iconst (v := 3) F (by decide) dX10_toLetters_12 ?_
    refine z_icmp_ne (tgt := 20) F dX10_toLetters_13 (by decide) (fun c10 => ?_) (fun c10 => ?_)
    · refine z_iconst (v := 1) F (by decide) dX10_toLetters_16 ?_
      refine z_goto (tgt := 21) F dX10_toLetters_17 (by decide) ?_
      exact hj_X10_toLetters_21 a 1 g hta
    · refine z_iconst (v := 0) F (by decide) dX10_toLetters_20 ?_
      exact hj_X10_toLetters_21 a 0 g hta
  · exact hj_X10_toLetters_25 g
theorem k_X10_toLetters {ρ : Type} {K : ρ → Prop} {E : zE} {D : zD} {A : Nat → Prop} {Q : State → Prop} {nL : Nat} {κ : zC} {g : zG} {pc : Nat} {lv : List (Nat × Value)} {st : List Value} {cc : ByteArray} {own : String} {ret : Option FieldType} (F : zF E D A cc own nL ret) {index : Nat} {h : Int32 → zG → Option ρ} {a : Nat}  (hR : 2 + 1 ≤ E.2.2.2.1.frames ∧ 8 + (1 + 11) + 46 ≤ E.2.2.2.1.locals) (hl : zTbl (.methodLink own index yX10_toLetters)) (hta : κ.2.1 a = some (.inr 10)) (hc : κ.2.2.1 ≤ E.2.2.2.1.cells ∧ κ.2.2.2 ≤ E.2.2.2.1.slots) (hW : (st.map fun v => v.category).sum ≤ 8) (hd : decode cc pc = .ok (.invokevirtual index, 3)) (kk : ∀ r g', zSim K (h r g') (zAt E D A Q nL κ g' (pc + 3) lv (st))) : zSim K (zb (f_X10_toLetters a g) h) (zAt E D A Q nL κ g pc lv (.ref a :: st)) :=
  z_callV F (n := 0) (As := []) (C := (RX10, TX10, 61)) ⟨q_1128, q_14, by decide +kernel, rfl, rfl, hR.1, hR.2⟩ (c_X10_toLetters E.2.1 D κ.1 κ.2.1 g a hta) hl q_1127 q_1401 hta rfl rfl rfl hc hW hd kk _ rfl
theorem dX10_readChain_0 : decode cX10_readChain 0 = .ok (.aload_n 0, 1) := by decide +kernel
theorem dX10_readChain_1 : decode cX10_readChain 1 = .ok (.invokevirtual 214, 3) := by decide +kernel
theorem dX10_readChain_4 : decode cX10_readChain 4 = .ok (.aload_n 0, 1) := by decide +kernel
theorem dX10_readChain_5 : decode cX10_readChain 5 = .ok (.getfield 178, 3) := by decide +kernel
theorem dX10_readChain_8 : decode cX10_readChain 8 = .ok (.aload_n 0, 1) := by decide +kernel
theorem dX10_readChain_9 : decode cX10_readChain 9 = .ok (.getfield 172, 3) := by decide +kernel
theorem dX10_readChain_12 : decode cX10_readChain 12 = .ok (.isub, 1) := by decide +kernel
theorem dX10_readChain_13 : decode cX10_readChain 13 = .ok (.istore_n 1, 1) := by decide +kernel
theorem dX10_readChain_14 : decode cX10_readChain 14 = .ok (.aload_n 0, 1) := by decide +kernel
theorem dX10_readChain_15 : decode cX10_readChain 15 = .ok (.getfield 169, 3) := by decide +kernel
theorem dX10_readChain_18 : decode cX10_readChain 18 = .ok (.ifCond .ne 19, 3) := by decide +kernel
theorem dX10_readChain_21 : decode cX10_readChain 21 = .ok (.aload_n 0, 1) := by decide +kernel
theorem dX10_readChain_22 : decode cX10_readChain 22 = .ok (.iload_n 1, 1) := by decide +kernel
theorem dX10_readChain_23 : decode cX10_readChain 23 = .ok (.i2l, 1) := by decide +kernel
theorem dX10_readChain_24 : decode cX10_readChain 24 = .ok (.ldc2_w 217, 3) := by decide +kernel
theorem dX10_readChain_27 : decode cX10_readChain 27 = .ok (.ldc2_w 200, 3) := by decide +kernel
theorem dX10_readChain_30 : decode cX10_readChain 30 = .ok (.invokestatic 165, 3) := by decide +kernel
theorem dX10_readChain_33 : decode cX10_readChain 33 = .ok (.iconst 3, 1) := by decide +kernel
theorem dX10_readChain_34 : decode cX10_readChain 34 = .ok (.invokevirtual 207, 3) := by decide +kernel
theorem dX10_readChain_37 : decode cX10_readChain 37 = .ok (.iconst 0, 1) := by decide +kernel
theorem dX10_readChain_38 : decode cX10_readChain 38 = .ok (.istore_n 2, 1) := by decide +kernel
theorem dX10_readChain_39 : decode cX10_readChain 39 = .ok (.iload_n 2, 1) := by decide +kernel
theorem dX10_readChain_40 : decode cX10_readChain 40 = .ok (.iload_n 1, 1) := by decide +kernel
theorem dX10_readChain_41 : decode cX10_readChain 41 = .ok (.if_icmp .ge 42, 3) := by decide +kernel
theorem dX10_readChain_44 : decode cX10_readChain 44 = .ok (.aload_n 0, 1) := by decide +kernel
theorem dX10_readChain_45 : decode cX10_readChain 45 = .ok (.getfield 169, 3) := by decide +kernel
theorem dX10_readChain_48 : decode cX10_readChain 48 = .ok (.ifCond .ne 35, 3) := by decide +kernel
theorem dX10_readChain_51 : decode cX10_readChain 51 = .ok (.aload_n 0, 1) := by decide +kernel
theorem dX10_readChain_52 : decode cX10_readChain 52 = .ok (.getfield 34, 3) := by decide +kernel
theorem dX10_readChain_55 : decode cX10_readChain 55 = .ok (.iload_n 2, 1) := by decide +kernel
theorem dX10_readChain_56 : decode cX10_readChain 56 = .ok (.aload_n 0, 1) := by decide +kernel
theorem dX10_readChain_57 : decode cX10_readChain 57 = .ok (.aload_n 0, 1) := by decide +kernel
theorem dX10_readChain_58 : decode cX10_readChain 58 = .ok (.getfield 172, 3) := by decide +kernel
theorem dX10_readChain_61 : decode cX10_readChain 61 = .ok (.iload_n 2, 1) := by decide +kernel
theorem dX10_readChain_62 : decode cX10_readChain 62 = .ok (.iadd, 1) := by decide +kernel
theorem dX10_readChain_63 : decode cX10_readChain 63 = .ok (.invokevirtual 181, 3) := by decide +kernel
theorem dX10_readChain_66 : decode cX10_readChain 66 = .ok (.bipush 97, 2) := by decide +kernel
theorem dX10_readChain_68 : decode cX10_readChain 68 = .ok (.isub, 1) := by decide +kernel
theorem dX10_readChain_69 : decode cX10_readChain 69 = .ok (.iconst 1, 1) := by decide +kernel
theorem dX10_readChain_70 : decode cX10_readChain 70 = .ok (.iadd, 1) := by decide +kernel
theorem dX10_readChain_71 : decode cX10_readChain 71 = .ok (.iastore, 1) := by decide +kernel
theorem dX10_readChain_72 : decode cX10_readChain 72 = .ok (.aload_n 0, 1) := by decide +kernel
theorem dX10_readChain_73 : decode cX10_readChain 73 = .ok (.iload_n 1, 1) := by decide +kernel
theorem dX10_readChain_74 : decode cX10_readChain 74 = .ok (.putfield 122, 3) := by decide +kernel
theorem dX10_readChain_77 : decode cX10_readChain 77 = .ok (.iinc 2 1, 3) := by decide +kernel
theorem dX10_readChain_80 : decode cX10_readChain 80 = .ok (.goto (-41), 3) := by decide +kernel
theorem dX10_readChain_83 : decode cX10_readChain 83 = .ok (.aload_n 0, 1) := by decide +kernel
theorem dX10_readChain_84 : decode cX10_readChain 84 = .ok (.invokevirtual 211, 3) := by decide +kernel
theorem dX10_readChain_87 : decode cX10_readChain 87 = .ok (.return_, 1) := by decide +kernel
def j_X10_readChain_83 (a : Nat)  (g : zG) : Option (Int32 × zG) :=
  zb (f_X10_next a g) (fun v1 g2 => some ((0, g2)))
def l_X10_readChain_39 (a : Nat) (l1 : Int32) (l2 : Int32) (g : zG) : Option ((Int32 × zG) ⊕ (zG)) :=
  if l1 ≤ l2 then (some (.inr g)) else (if (g.1 a 32) = 0 then (zb (f_X10_look a ((g.1 a 29) + l2) g) (fun v6 g7 => zc (zin l2 49) (zl (zsi g7 (g.2.1 a 11) l2.toNatClampNeg ((v6 - 97) + 1)) (fun g8 => zl (zsi g8 a 10 l1) (fun g9 => zl (l2 + 1) (fun v10 => some (.inl (v10, g9)))))))) else (some (.inr g)))
def j_X10_readChain_37 (a : Nat) (l1 : Int32) (g : zG) : Option (Int32 × zG) :=
  zk (zw zN (fun s => l_X10_readChain_39 a l1 s.1 s.2) (0, g)) (fun x => j_X10_readChain_83 a x)
def f_X10_readChain (a : Nat) (g : zG) : Option (Int32 × zG) :=
  zb (f_X10_toLetters a g) (fun v11 g12 => zl ((g12.1 a 28) - (g12.1 a 29)) (fun v13 => if (g12.1 a 32) = 0 then (zb (f_X10_in v13.toInt64 2 48 g12) (fun v15 g16 => zb (f_X10_wants a v15 3 g16) (fun v17 g18 => j_X10_readChain_37 a v13 g18))) else (j_X10_readChain_37 a v13 g12)))
abbrev rm_X10_readChain : Room := { frames := 3, cells := 0, slots := 0, locals := 66 }
set_option maxRecDepth 100000 in
set_option maxHeartbeats 4000000 in
theorem c_X10_readChain (l : Launch) (D : zD) (sz : Nat) (τ : zT) (g : zG) (a : Nat) (hta : τ a = some (.inr 10)) : zCon l D yX10_readChain cX10_readChain 3 none rm_X10_readChain 0 0 zrV [.ref a] sz τ g τ (f_X10_readChain a g) := by
  refine zCon.of (by decide) (Nat.le_of_ble_eq_true rfl) (fun E r g' hl hR hsz hnm F => ?_)
  have F : zF E D (zA τ sz) cX10_readChain "TypeChainModel" 3 none := F
  show zSim (fun q : Int32 × zG => q = (r, g')) (f_X10_readChain a g) (zAt E D (zA τ sz) (zQ E D zrV 0 0 sz τ τ r g') 3 (sz, τ, 0, 0) g 0 [(0, .ref a)] [])
  have hj_X10_readChain_83 : ∀  (g_83 : zG), zSim (fun q : Int32 × zG => q = (r, g')) (j_X10_readChain_83 a g_83) (zAt E D (zA τ sz) (zQ E D zrV 0 0 sz τ τ r g') 3 (sz, τ, 0, 0) g_83 83 [(0, .ref a)] []) := by
    intro g_83
    unfold j_X10_readChain_83
    refine z_aload_n F 0 rfl rfl dX10_readChain_83 ?_
    refine k_X10_next F (by rw [hR]; exact ⟨by decide, by decide⟩) q_1089 hta ⟨Nat.zero_le _, Nat.zero_le _⟩ (Nat.le_of_ble_eq_true rfl) dX10_readChain_84 (fun v1 g2 => ?_)
    exact z_vreturn F rfl rfl rfl rfl (fun h => h) dX10_readChain_87
  have hj_X10_readChain_37 : ∀ (l1_37 : Int32) (g_37 : zG), zSim (fun q : Int32 × zG => q = (r, g')) (j_X10_readChain_37 a l1_37 g_37) (zAt E D (zA τ sz) (zQ E D zrV 0 0 sz τ τ r g') 3 (sz, τ, 0, 0) g_37 37 [(0, .ref a), (1, .int l1_37)] []) := by
    intro l1_37 g_37
    unfold j_X10_readChain_37
    refine z_iconst (v := 0) F (by decide) dX10_readChain_37 ?_
    refine z_istore_n (lv' := [(2, .int 0), (0, .ref a), (1, .int l1_37)]) F rfl (by decide) dX10_readChain_38 rfl ?_
    refine z_sub (lv' := [(0, .ref a), (1, .int l1_37), (2, .int 0)]) [1, 2, 0] rfl ?_
    refine z_loop (P := fun s : Int32 × zG => zAt E D (zA τ sz) (zQ E D zrV 0 0 sz τ τ r g') 3 (sz, τ, 0, 0) s.2 39 [(0, .ref a), (1, .int l1_37), (2, .int s.1)] []) (Px := fun x : zG => zAt E D (zA τ sz) (zQ E D zrV 0 0 sz τ τ r g') 3 (sz, τ, 0, 0) x 83 [(0, .ref a)] []) (0, g_37) (fun s => ?_) (fun x => ?_)
    · obtain ⟨l2_39, g_39⟩ := s
      show zSim (zKl (fun s : Int32 × zG => zAt E D (zA τ sz) (zQ E D zrV 0 0 sz τ τ r g') 3 (sz, τ, 0, 0) s.2 39 [(0, .ref a), (1, .int l1_37), (2, .int s.1)] []) (fun x : zG => zAt E D (zA τ sz) (zQ E D zrV 0 0 sz τ τ r g') 3 (sz, τ, 0, 0) x 83 [(0, .ref a)] [])) (l_X10_readChain_39 a l1_37 l2_39 g_39) (zAt E D (zA τ sz) (zQ E D zrV 0 0 sz τ τ r g') 3 (sz, τ, 0, 0) g_39 39 [(0, .ref a), (1, .int l1_37), (2, .int l2_39)] [])
      unfold l_X10_readChain_39
      refine z_iload_n F 2 rfl rfl dX10_readChain_39 ?_
      refine z_iload_n F 1 rfl rfl dX10_readChain_40 ?_
      refine z_icmp_ge (tgt := 83) F dX10_readChain_41 (by decide) (fun c3 => ?_) (fun c3 => ?_)
      · refine z_sub (lv' := [(0, .ref a)]) [0] rfl ?_
        exact z_back (fun h => h)
      · refine z_aload_n F 0 rfl rfl dX10_readChain_44 ?_
        refine gf_X10_169 F hta dX10_readChain_45 ?_
        refine z_if_ne (tgt := 83) F dX10_readChain_48 (by decide) (fun c4 => ?_) (fun c4 => ?_)
        · refine z_aload_n F 0 rfl rfl dX10_readChain_51 ?_
          refine gf_X10_34 F hta dX10_readChain_52 (fun ht5 => ?_)
          refine z_iload_n F 2 rfl rfl dX10_readChain_55 ?_
          refine z_aload_n F 0 rfl rfl dX10_readChain_56 ?_
          refine z_aload_n F 0 rfl rfl dX10_readChain_57 ?_
          refine gf_X10_172 F hta dX10_readChain_58 ?_
          refine z_iload_n F 2 rfl rfl dX10_readChain_61 ?_
          refine z_iadd F dX10_readChain_62 ?_
          refine k_X10_look F (by rw [hR]; exact ⟨by decide, by decide⟩) q_1093 hta ⟨Nat.zero_le _, Nat.zero_le _⟩ (Nat.le_of_ble_eq_true rfl) dX10_readChain_63 (fun v6 g7 => ?_)
          refine z_bipush (v := 97) F (by decide) dX10_readChain_66 ?_
          refine z_isub F dX10_readChain_68 ?_
          refine z_iconst (v := 1) F (by decide) dX10_readChain_69 ?_
          refine z_iadd F dX10_readChain_70 ?_
          refine z_iast F ht5 dX10_readChain_71 ?_
          refine z_letg (fun g8 => ?_)
          refine z_aload_n F 0 rfl rfl dX10_readChain_72 ?_
          refine z_iload_n F 1 rfl rfl dX10_readChain_73 ?_
          refine pf_X10_122 F hta dX10_readChain_74 ?_
          refine z_letg (fun g9 => ?_)
          refine z_iincl (lv' := fun v10 => [(2, .int v10), (0, .ref a), (1, .int l1_37)]) F 2 rfl (by decide) (by decide) dX10_readChain_77 (fun _ => rfl) (fun v10 => ?_)
          refine z_goto (tgt := 39) F dX10_readChain_80 (by decide) ?_
          refine z_sub (lv' := [(0, .ref a), (1, .int l1_37), (2, .int v10)]) [1, 2, 0] rfl ?_
          exact z_back (fun h => h)
        · refine z_sub (lv' := [(0, .ref a)]) [0] rfl ?_
          exact z_back (fun h => h)
    · show zSim (fun q : Int32 × zG => q = (r, g')) (j_X10_readChain_83 a x) (zAt E D (zA τ sz) (zQ E D zrV 0 0 sz τ τ r g') 3 (sz, τ, 0, 0) x 83 [(0, .ref a)] [])
      exact hj_X10_readChain_83 x
  unfold f_X10_readChain
  refine z_aload_n F 0 rfl rfl dX10_readChain_0 ?_
  refine k_X10_toLetters F (by rw [hR]; exact ⟨by decide, by decide⟩) q_1125 hta ⟨Nat.zero_le _, Nat.zero_le _⟩ (Nat.le_of_ble_eq_true rfl) dX10_readChain_1 (fun v11 g12 => ?_)
  refine z_aload_n F 0 rfl rfl dX10_readChain_4 ?_
  refine gf_X10_178 F hta dX10_readChain_5 ?_
  refine z_aload_n F 0 rfl rfl dX10_readChain_8 ?_
  refine gf_X10_172 F hta dX10_readChain_9 ?_
  refine z_isub F dX10_readChain_12 ?_
  refine z_leti (fun v13 => ?_)
  refine z_istore_n (lv' := [(1, .int v13), (0, .ref a)]) F rfl (by decide) dX10_readChain_13 rfl ?_
  refine z_aload_n F 1 rfl rfl dX10_readChain_14 ?_
  refine gf_X10_169 F hta dX10_readChain_15 ?_
  refine z_if_ne (tgt := 37) F dX10_readChain_18 (by decide) (fun c14 => ?_) (fun c14 => ?_)
  · refine z_aload_n F 1 rfl rfl dX10_readChain_21 ?_
    refine z_iload_n F 0 rfl rfl dX10_readChain_22 ?_
    refine z_i2l F dX10_readChain_23 ?_
    refine z_ldc2 F q_1129 dX10_readChain_24 ?_
    refine z_ldc2 F q_1099 dX10_readChain_27 ?_
    refine k_X10_in F (by rw [hR]; exact ⟨by decide, by decide⟩) q_1082  ⟨Nat.zero_le _, Nat.zero_le _⟩ (Nat.le_of_ble_eq_true rfl) dX10_readChain_30 (fun v15 g16 => ?_)
    refine z_iconst (v := 3) F (by decide) dX10_readChain_33 ?_
    refine k_X10_wants F (by rw [hR]; exact ⟨by decide, by decide⟩) q_1101 hta ⟨Nat.zero_le _, Nat.zero_le _⟩ (Nat.le_of_ble_eq_true rfl) dX10_readChain_34 (fun v17 g18 => ?_)
    refine z_sub (lv' := [(0, .ref a), (1, .int v13)]) [1, 0] rfl ?_
    exact hj_X10_readChain_37 v13 g18
  · refine z_sub (lv' := [(0, .ref a), (1, .int v13)]) [1, 0] rfl ?_
    exact hj_X10_readChain_37 v13 g12
theorem k_X10_readChain {ρ : Type} {K : ρ → Prop} {E : zE} {D : zD} {A : Nat → Prop} {Q : State → Prop} {nL : Nat} {κ : zC} {g : zG} {pc : Nat} {lv : List (Nat × Value)} {st : List Value} {cc : ByteArray} {own : String} {ret : Option FieldType} (F : zF E D A cc own nL ret) {index : Nat} {h : Int32 → zG → Option ρ} {a : Nat}  (hR : 3 + 1 ≤ E.2.2.2.1.frames ∧ 8 + (3 + 11) + 66 ≤ E.2.2.2.1.locals) (hl : zTbl (.methodLink own index yX10_readChain)) (hta : κ.2.1 a = some (.inr 10)) (hc : κ.2.2.1 ≤ E.2.2.2.1.cells ∧ κ.2.2.2 ≤ E.2.2.2.1.slots) (hW : (st.map fun v => v.category).sum ≤ 8) (hd : decode cc pc = .ok (.invokevirtual index, 3)) (kk : ∀ r g', zSim K (h r g') (zAt E D A Q nL κ g' (pc + 3) lv (st))) : zSim K (zb (f_X10_readChain a g) h) (zAt E D A Q nL κ g pc lv (.ref a :: st)) :=
  z_callV F (n := 0) (As := []) (C := (RX10, TX10, 61)) ⟨q_1124, q_14, by decide +kernel, rfl, rfl, hR.1, hR.2⟩ (c_X10_readChain E.2.1 D κ.1 κ.2.1 g a hta) hl q_1123 q_1400 hta rfl rfl rfl hc hW hd kk _ rfl
theorem dX10_asksLater_0 : decode cX10_asksLater 0 = .ok (.aload_n 0, 1) := by decide +kernel
theorem dX10_asksLater_1 : decode cX10_asksLater 1 = .ok (.getfield 169, 3) := by decide +kernel
theorem dX10_asksLater_4 : decode cX10_asksLater 4 = .ok (.ifCond .ne 33, 3) := by decide +kernel
theorem dX10_asksLater_7 : decode cX10_asksLater 7 = .ok (.aload_n 0, 1) := by decide +kernel
theorem dX10_asksLater_8 : decode cX10_asksLater 8 = .ok (.getfield 62, 3) := by decide +kernel
theorem dX10_asksLater_11 : decode cX10_asksLater 11 = .ok (.aload_n 0, 1) := by decide +kernel
theorem dX10_asksLater_12 : decode cX10_asksLater 12 = .ok (.getfield 136, 3) := by decide +kernel
theorem dX10_asksLater_15 : decode cX10_asksLater 15 = .ok (.iload_n 1, 1) := by decide +kernel
theorem dX10_asksLater_16 : decode cX10_asksLater 16 = .ok (.iastore, 1) := by decide +kernel
theorem dX10_asksLater_17 : decode cX10_asksLater 17 = .ok (.aload_n 0, 1) := by decide +kernel
theorem dX10_asksLater_18 : decode cX10_asksLater 18 = .ok (.getfield 65, 3) := by decide +kernel
theorem dX10_asksLater_21 : decode cX10_asksLater 21 = .ok (.aload_n 0, 1) := by decide +kernel
theorem dX10_asksLater_22 : decode cX10_asksLater 22 = .ok (.getfield 136, 3) := by decide +kernel
theorem dX10_asksLater_25 : decode cX10_asksLater 25 = .ok (.iload_n 2, 1) := by decide +kernel
theorem dX10_asksLater_26 : decode cX10_asksLater 26 = .ok (.iastore, 1) := by decide +kernel
theorem dX10_asksLater_27 : decode cX10_asksLater 27 = .ok (.aload_n 0, 1) := by decide +kernel
theorem dX10_asksLater_28 : decode cX10_asksLater 28 = .ok (.dup, 1) := by decide +kernel
theorem dX10_asksLater_29 : decode cX10_asksLater 29 = .ok (.getfield 136, 3) := by decide +kernel
theorem dX10_asksLater_32 : decode cX10_asksLater 32 = .ok (.iconst 1, 1) := by decide +kernel
theorem dX10_asksLater_33 : decode cX10_asksLater 33 = .ok (.iadd, 1) := by decide +kernel
theorem dX10_asksLater_34 : decode cX10_asksLater 34 = .ok (.putfield 136, 3) := by decide +kernel
theorem dX10_asksLater_37 : decode cX10_asksLater 37 = .ok (.return_, 1) := by decide +kernel
def f_X10_asksLater (a : Nat) (x1 : Int32) (x2 : Int32) (g : zG) : Option (Int32 × zG) :=
  if (g.1 a 32) = 0 then (zc (zin (g.1 a 23) 64) (zl (zsi g (g.2.1 a 24) (g.1 a 23).toNatClampNeg x1) (fun g3 => zc (zin (g3.1 a 23) 64) (zl (zsi g3 (g3.2.1 a 25) (g3.1 a 23).toNatClampNeg x2) (fun g5 => zl (zsi g5 a 23 ((g5.1 a 23) + 1)) (fun g6 => some ((0, g6)))))))) else (some ((0, g)))
abbrev rm_X10_asksLater : Room := { frames := 0, cells := 0, slots := 0, locals := 0 }
set_option maxRecDepth 100000 in
set_option maxHeartbeats 4000000 in
theorem c_X10_asksLater (l : Launch) (D : zD) (sz : Nat) (τ : zT) (g : zG) (a : Nat) (x1 : Int32) (x2 : Int32) (hta : τ a = some (.inr 10)) : zCon l D yX10_asksLater cX10_asksLater 3 none rm_X10_asksLater 0 0 zrV [.ref a, .int x1, .int x2] sz τ g τ (f_X10_asksLater a x1 x2 g) := by
  refine zCon.of (by decide) (Nat.le_of_ble_eq_true rfl) (fun E r g' hl hR hsz hnm F => ?_)
  have F : zF E D (zA τ sz) cX10_asksLater "TypeChainModel" 3 none := F
  show zSim (fun q : Int32 × zG => q = (r, g')) (f_X10_asksLater a x1 x2 g) (zAt E D (zA τ sz) (zQ E D zrV 0 0 sz τ τ r g') 3 (sz, τ, 0, 0) g 0 [(0, .ref a), (1, .int x1), (2, .int x2)] [])
  unfold f_X10_asksLater
  refine z_aload_n F 0 rfl rfl dX10_asksLater_0 ?_
  refine gf_X10_169 F hta dX10_asksLater_1 ?_
  refine z_if_ne (tgt := 37) F dX10_asksLater_4 (by decide) (fun c1 => ?_) (fun c1 => ?_)
  · refine z_aload_n F 0 rfl rfl dX10_asksLater_7 ?_
    refine gf_X10_62 F hta dX10_asksLater_8 (fun ht2 => ?_)
    refine z_aload_n F 0 rfl rfl dX10_asksLater_11 ?_
    refine gf_X10_136 F hta dX10_asksLater_12 ?_
    refine z_iload_n F 1 rfl rfl dX10_asksLater_15 ?_
    refine z_iast F ht2 dX10_asksLater_16 ?_
    refine z_letg (fun g3 => ?_)
    refine z_aload_n F 0 rfl rfl dX10_asksLater_17 ?_
    refine gf_X10_65 F hta dX10_asksLater_18 (fun ht4 => ?_)
    refine z_aload_n F 0 rfl rfl dX10_asksLater_21 ?_
    refine gf_X10_136 F hta dX10_asksLater_22 ?_
    refine z_iload_n F 2 rfl rfl dX10_asksLater_25 ?_
    refine z_iast F ht4 dX10_asksLater_26 ?_
    refine z_letg (fun g5 => ?_)
    refine z_aload_n F 0 rfl rfl dX10_asksLater_27 ?_
    refine z_dup F rfl dX10_asksLater_28 ?_
    refine gf_X10_136 F hta dX10_asksLater_29 ?_
    refine z_iconst (v := 1) F (by decide) dX10_asksLater_32 ?_
    refine z_iadd F dX10_asksLater_33 ?_
    refine pf_X10_136 F hta dX10_asksLater_34 ?_
    refine z_letg (fun g6 => ?_)
    exact z_vreturn F rfl rfl rfl rfl (fun h => h) dX10_asksLater_37
  · exact z_vreturn F rfl rfl rfl rfl (fun h => h) dX10_asksLater_37
theorem k_X10_asksLater {ρ : Type} {K : ρ → Prop} {E : zE} {D : zD} {A : Nat → Prop} {Q : State → Prop} {nL : Nat} {κ : zC} {g : zG} {pc : Nat} {lv : List (Nat × Value)} {st : List Value} {cc : ByteArray} {own : String} {ret : Option FieldType} (F : zF E D A cc own nL ret) {index : Nat} {h : Int32 → zG → Option ρ} {a : Nat} {x1 : Int32} {x2 : Int32}  (hR : 0 + 1 ≤ E.2.2.2.1.frames ∧ 8 + (3 + 11) + 0 ≤ E.2.2.2.1.locals) (hl : zTbl (.methodLink own index yX10_asksLater)) (hta : κ.2.1 a = some (.inr 10)) (hc : κ.2.2.1 ≤ E.2.2.2.1.cells ∧ κ.2.2.2 ≤ E.2.2.2.1.slots) (hW : (st.map fun v => v.category).sum ≤ 8) (hd : decode cc pc = .ok (.invokevirtual index, 3)) (kk : ∀ r g', zSim K (h r g') (zAt E D A Q nL κ g' (pc + 3) lv (st))) : zSim K (zb (f_X10_asksLater a x1 x2 g) h) (zAt E D A Q nL κ g pc lv (.int x2 :: .int x1 :: .ref a :: st)) :=
  z_callV F (n := 2) (As := [.int x1, .int x2]) (C := (RX10, TX10, 61)) ⟨q_1147, q_14, by decide +kernel, rfl, rfl, hR.1, hR.2⟩ (c_X10_asksLater E.2.1 D κ.1 κ.2.1 g a x1 x2 hta) hl q_1146 q_1404 hta rfl rfl rfl hc hW hd kk _ rfl
theorem dX10_readHole_0 : decode cX10_readHole 0 = .ok (.aload_n 0, 1) := by decide +kernel
theorem dX10_readHole_1 : decode cX10_readHole 1 = .ok (.getfield 172, 3) := by decide +kernel
theorem dX10_readHole_4 : decode cX10_readHole 4 = .ok (.istore_n 1, 1) := by decide +kernel
theorem dX10_readHole_5 : decode cX10_readHole 5 = .ok (.aload_n 0, 1) := by decide +kernel
theorem dX10_readHole_6 : decode cX10_readHole 6 = .ok (.iconst 0, 1) := by decide +kernel
theorem dX10_readHole_7 : decode cX10_readHole 7 = .ok (.bipush 59, 2) := by decide +kernel
theorem dX10_readHole_9 : decode cX10_readHole 9 = .ok (.invokevirtual 219, 3) := by decide +kernel
theorem dX10_readHole_12 : decode cX10_readHole 12 = .ok (.istore_n 2, 1) := by decide +kernel
theorem dX10_readHole_13 : decode cX10_readHole 13 = .ok (.aload_n 0, 1) := by decide +kernel
theorem dX10_readHole_14 : decode cX10_readHole 14 = .ok (.iconst 0, 1) := by decide +kernel
theorem dX10_readHole_15 : decode cX10_readHole 15 = .ok (.bipush 7, 2) := by decide +kernel
theorem dX10_readHole_17 : decode cX10_readHole 17 = .ok (.invokevirtual 219, 3) := by decide +kernel
theorem dX10_readHole_20 : decode cX10_readHole 20 = .ok (.istore_n 3, 1) := by decide +kernel
theorem dX10_readHole_21 : decode cX10_readHole 21 = .ok (.aload_n 0, 1) := by decide +kernel
theorem dX10_readHole_22 : decode cX10_readHole 22 = .ok (.getfield 169, 3) := by decide +kernel
theorem dX10_readHole_25 : decode cX10_readHole 25 = .ok (.ifCond .ne 20, 3) := by decide +kernel
theorem dX10_readHole_28 : decode cX10_readHole 28 = .ok (.aload_n 0, 1) := by decide +kernel
theorem dX10_readHole_29 : decode cX10_readHole 29 = .ok (.getfield 40, 3) := by decide +kernel
theorem dX10_readHole_32 : decode cX10_readHole 32 = .ok (.iload_n 2, 1) := by decide +kernel
theorem dX10_readHole_33 : decode cX10_readHole 33 = .ok (.dup2, 1) := by decide +kernel
theorem dX10_readHole_34 : decode cX10_readHole 34 = .ok (.iaload, 1) := by decide +kernel
theorem dX10_readHole_35 : decode cX10_readHole 35 = .ok (.iconst 1, 1) := by decide +kernel
theorem dX10_readHole_36 : decode cX10_readHole 36 = .ok (.iload_n 3, 1) := by decide +kernel
theorem dX10_readHole_37 : decode cX10_readHole 37 = .ok (.ishl, 1) := by decide +kernel
theorem dX10_readHole_38 : decode cX10_readHole 38 = .ok (.ior, 1) := by decide +kernel
theorem dX10_readHole_39 : decode cX10_readHole 39 = .ok (.iastore, 1) := by decide +kernel
theorem dX10_readHole_40 : decode cX10_readHole 40 = .ok (.aload_n 0, 1) := by decide +kernel
theorem dX10_readHole_41 : decode cX10_readHole 41 = .ok (.iconst 1, 1) := by decide +kernel
theorem dX10_readHole_42 : decode cX10_readHole 42 = .ok (.putfield 126, 3) := by decide +kernel
theorem dX10_readHole_45 : decode cX10_readHole 45 = .ok (.aload_n 0, 1) := by decide +kernel
theorem dX10_readHole_46 : decode cX10_readHole 46 = .ok (.iload_n 2, 1) := by decide +kernel
theorem dX10_readHole_47 : decode cX10_readHole 47 = .ok (.iload_n 1, 1) := by decide +kernel
theorem dX10_readHole_48 : decode cX10_readHole 48 = .ok (.invokevirtual 223, 3) := by decide +kernel
theorem dX10_readHole_51 : decode cX10_readHole 51 = .ok (.return_, 1) := by decide +kernel
def j_X10_readHole_45 (a : Nat) (l1 : Int32) (l2 : Int32) (g : zG) : Option (Int32 × zG) :=
  zb (f_X10_asksLater a l2 l1 g) (fun v1 g2 => some ((0, g2)))
def f_X10_readHole (a : Nat) (g : zG) : Option (Int32 × zG) :=
  zl (g.1 a 29) (fun v3 => zb (f_X10_readNumber a 0 59 g) (fun v4 g5 => zb (f_X10_readNumber a 0 7 g5) (fun v6 g7 => if (g7.1 a 32) = 0 then (zc (zin v4 60) (zc (zin v4 60) (zl (zsi g7 (g7.2.1 a 13) v4.toNatClampNeg ((g7.1 (g7.2.1 a 13) v4.toNatClampNeg) ||| (zshl 1 v6))) (fun g10 => zl (zsi g10 a 14 1) (fun g11 => j_X10_readHole_45 a v3 v4 g11))))) else (j_X10_readHole_45 a v3 v4 g7))))
abbrev rm_X10_readHole : Room := { frames := 3, cells := 0, slots := 0, locals := 69 }
set_option maxRecDepth 100000 in
set_option maxHeartbeats 4000000 in
theorem c_X10_readHole (l : Launch) (D : zD) (sz : Nat) (τ : zT) (g : zG) (a : Nat) (hta : τ a = some (.inr 10)) : zCon l D yX10_readHole cX10_readHole 4 none rm_X10_readHole 0 0 zrV [.ref a] sz τ g τ (f_X10_readHole a g) := by
  refine zCon.of (by decide) (Nat.le_of_ble_eq_true rfl) (fun E r g' hl hR hsz hnm F => ?_)
  have F : zF E D (zA τ sz) cX10_readHole "TypeChainModel" 4 none := F
  show zSim (fun q : Int32 × zG => q = (r, g')) (f_X10_readHole a g) (zAt E D (zA τ sz) (zQ E D zrV 0 0 sz τ τ r g') 4 (sz, τ, 0, 0) g 0 [(0, .ref a)] [])
  have hj_X10_readHole_45 : ∀ (l1_45 : Int32) (l2_45 : Int32) (g_45 : zG), zSim (fun q : Int32 × zG => q = (r, g')) (j_X10_readHole_45 a l1_45 l2_45 g_45) (zAt E D (zA τ sz) (zQ E D zrV 0 0 sz τ τ r g') 4 (sz, τ, 0, 0) g_45 45 [(0, .ref a), (1, .int l1_45), (2, .int l2_45)] []) := by
    intro l1_45 l2_45 g_45
    unfold j_X10_readHole_45
    refine z_aload_n F 0 rfl rfl dX10_readHole_45 ?_
    refine z_iload_n F 2 rfl rfl dX10_readHole_46 ?_
    refine z_iload_n F 1 rfl rfl dX10_readHole_47 ?_
    refine k_X10_asksLater F (by rw [hR]; exact ⟨by decide, by decide⟩) q_1144 hta ⟨Nat.zero_le _, Nat.zero_le _⟩ (Nat.le_of_ble_eq_true rfl) dX10_readHole_48 (fun v1 g2 => ?_)
    exact z_vreturn F rfl rfl rfl rfl (fun h => h) dX10_readHole_51
  unfold f_X10_readHole
  refine z_aload_n F 0 rfl rfl dX10_readHole_0 ?_
  refine gf_X10_172 F hta dX10_readHole_1 ?_
  refine z_leti (fun v3 => ?_)
  refine z_istore_n (lv' := [(1, .int v3), (0, .ref a)]) F rfl (by decide) dX10_readHole_4 rfl ?_
  refine z_aload_n F 1 rfl rfl dX10_readHole_5 ?_
  refine z_iconst (v := 0) F (by decide) dX10_readHole_6 ?_
  refine z_bipush (v := 59) F (by decide) dX10_readHole_7 ?_
  refine k_X10_readNumber F (by rw [hR]; exact ⟨by decide, by decide⟩) q_1136 hta ⟨Nat.zero_le _, Nat.zero_le _⟩ (Nat.le_of_ble_eq_true rfl) dX10_readHole_9 (fun v4 g5 => ?_)
  refine z_istore_n (lv' := [(2, .int v4), (1, .int v3), (0, .ref a)]) F rfl (by decide) dX10_readHole_12 rfl ?_
  refine z_aload_n F 2 rfl rfl dX10_readHole_13 ?_
  refine z_iconst (v := 0) F (by decide) dX10_readHole_14 ?_
  refine z_bipush (v := 7) F (by decide) dX10_readHole_15 ?_
  refine k_X10_readNumber F (by rw [hR]; exact ⟨by decide, by decide⟩) q_1136 hta ⟨Nat.zero_le _, Nat.zero_le _⟩ (Nat.le_of_ble_eq_true rfl) dX10_readHole_17 (fun v6 g7 => ?_)
  refine z_istore_n (lv' := [(3, .int v6), (2, .int v4), (1, .int v3), (0, .ref a)]) F rfl (by decide) dX10_readHole_20 rfl ?_
  refine z_aload_n F 3 rfl rfl dX10_readHole_21 ?_
  refine gf_X10_169 F hta dX10_readHole_22 ?_
  refine z_if_ne (tgt := 45) F dX10_readHole_25 (by decide) (fun c8 => ?_) (fun c8 => ?_)
  · refine z_aload_n F 3 rfl rfl dX10_readHole_28 ?_
    refine gf_X10_40 F hta dX10_readHole_29 (fun ht9 => ?_)
    refine z_iload_n F 1 rfl rfl dX10_readHole_32 ?_
    refine z_dup2 F rfl rfl dX10_readHole_33 ?_
    refine z_iald F ht9 dX10_readHole_34 ?_
    refine z_iconst (v := 1) F (by decide) dX10_readHole_35 ?_
    refine z_iload_n F 0 rfl rfl dX10_readHole_36 ?_
    refine z_ishl F dX10_readHole_37 ?_
    refine z_ior F dX10_readHole_38 ?_
    refine z_iast F ht9 dX10_readHole_39 ?_
    refine z_letg (fun g10 => ?_)
    refine z_aload_n F 3 rfl rfl dX10_readHole_40 ?_
    refine z_iconst (v := 1) F (by decide) dX10_readHole_41 ?_
    refine pf_X10_126 F hta (Or.inr rfl) dX10_readHole_42 ?_
    refine z_letg (fun g11 => ?_)
    refine z_sub (lv' := [(0, .ref a), (1, .int v3), (2, .int v4)]) [3, 2, 1] rfl ?_
    exact hj_X10_readHole_45 v3 v4 g11
  · refine z_sub (lv' := [(0, .ref a), (1, .int v3), (2, .int v4)]) [3, 2, 1] rfl ?_
    exact hj_X10_readHole_45 v3 v4 g7
theorem k_X10_readHole {ρ : Type} {K : ρ → Prop} {E : zE} {D : zD} {A : Nat → Prop} {Q : State → Prop} {nL : Nat} {κ : zC} {g : zG} {pc : Nat} {lv : List (Nat × Value)} {st : List Value} {cc : ByteArray} {own : String} {ret : Option FieldType} (F : zF E D A cc own nL ret) {index : Nat} {h : Int32 → zG → Option ρ} {a : Nat}  (hR : 3 + 1 ≤ E.2.2.2.1.frames ∧ 8 + (4 + 11) + 69 ≤ E.2.2.2.1.locals) (hl : zTbl (.methodLink own index yX10_readHole)) (hta : κ.2.1 a = some (.inr 10)) (hc : κ.2.2.1 ≤ E.2.2.2.1.cells ∧ κ.2.2.2 ≤ E.2.2.2.1.slots) (hW : (st.map fun v => v.category).sum ≤ 8) (hd : decode cc pc = .ok (.invokevirtual index, 3)) (kk : ∀ r g', zSim K (h r g') (zAt E D A Q nL κ g' (pc + 3) lv (st))) : zSim K (zb (f_X10_readHole a g) h) (zAt E D A Q nL κ g pc lv (.ref a :: st)) :=
  z_callV F (n := 0) (As := []) (C := (RX10, TX10, 61)) ⟨q_1143, q_14, by decide +kernel, rfl, rfl, hR.1, hR.2⟩ (c_X10_readHole E.2.1 D κ.1 κ.2.1 g a hta) hl q_1142 q_1403 hta rfl rfl rfl hc hW hd kk _ rfl
theorem dX10_readOrder_0 : decode cX10_readOrder 0 = .ok (.iconst 0, 1) := by decide +kernel
theorem dX10_readOrder_1 : decode cX10_readOrder 1 = .ok (.istore_n 2, 1) := by decide +kernel
theorem dX10_readOrder_2 : decode cX10_readOrder 2 = .ok (.iconst 0, 1) := by decide +kernel
theorem dX10_readOrder_3 : decode cX10_readOrder 3 = .ok (.istore_n 3, 1) := by decide +kernel
theorem dX10_readOrder_4 : decode cX10_readOrder 4 = .ok (.aload_n 0, 1) := by decide +kernel
theorem dX10_readOrder_5 : decode cX10_readOrder 5 = .ok (.getfield 133, 3) := by decide +kernel
theorem dX10_readOrder_8 : decode cX10_readOrder 8 = .ok (.istore 4, 2) := by decide +kernel
theorem dX10_readOrder_10 : decode cX10_readOrder 10 = .ok (.iload_n 1, 1) := by decide +kernel
theorem dX10_readOrder_11 : decode cX10_readOrder 11 = .ok (.bipush 9, 2) := by decide +kernel
theorem dX10_readOrder_13 : decode cX10_readOrder 13 = .ok (.if_icmp .ne 109, 3) := by decide +kernel
theorem dX10_readOrder_16 : decode cX10_readOrder 16 = .ok (.aload_n 0, 1) := by decide +kernel
theorem dX10_readOrder_17 : decode cX10_readOrder 17 = .ok (.invokevirtual 214, 3) := by decide +kernel
theorem dX10_readOrder_20 : decode cX10_readOrder 20 = .ok (.aload_n 0, 1) := by decide +kernel
theorem dX10_readOrder_21 : decode cX10_readOrder 21 = .ok (.getfield 169, 3) := by decide +kernel
theorem dX10_readOrder_24 : decode cX10_readOrder 24 = .ok (.ifCond .ne 15, 3) := by decide +kernel
theorem dX10_readOrder_27 : decode cX10_readOrder 27 = .ok (.aload_n 0, 1) := by decide +kernel
theorem dX10_readOrder_28 : decode cX10_readOrder 28 = .ok (.getfield 178, 3) := by decide +kernel
theorem dX10_readOrder_31 : decode cX10_readOrder 31 = .ok (.aload_n 0, 1) := by decide +kernel
theorem dX10_readOrder_32 : decode cX10_readOrder 32 = .ok (.getfield 172, 3) := by decide +kernel
theorem dX10_readOrder_35 : decode cX10_readOrder 35 = .ok (.isub, 1) := by decide +kernel
theorem dX10_readOrder_36 : decode cX10_readOrder 36 = .ok (.goto 4, 3) := by decide +kernel
theorem dX10_readOrder_39 : decode cX10_readOrder 39 = .ok (.iconst 0, 1) := by decide +kernel
theorem dX10_readOrder_40 : decode cX10_readOrder 40 = .ok (.istore_n 3, 1) := by decide +kernel
theorem dX10_readOrder_41 : decode cX10_readOrder 41 = .ok (.iconst 0, 1) := by decide +kernel
theorem dX10_readOrder_42 : decode cX10_readOrder 42 = .ok (.istore 5, 2) := by decide +kernel
theorem dX10_readOrder_44 : decode cX10_readOrder 44 = .ok (.iload 5, 2) := by decide +kernel
theorem dX10_readOrder_46 : decode cX10_readOrder 46 = .ok (.iload_n 3, 1) := by decide +kernel
theorem dX10_readOrder_47 : decode cX10_readOrder 47 = .ok (.if_icmp .ge 44, 3) := by decide +kernel
theorem dX10_readOrder_50 : decode cX10_readOrder 50 = .ok (.aload_n 0, 1) := by decide +kernel
theorem dX10_readOrder_51 : decode cX10_readOrder 51 = .ok (.getfield 55, 3) := by decide +kernel
theorem dX10_readOrder_54 : decode cX10_readOrder 54 = .ok (.aload_n 0, 1) := by decide +kernel
theorem dX10_readOrder_55 : decode cX10_readOrder 55 = .ok (.getfield 133, 3) := by decide +kernel
theorem dX10_readOrder_58 : decode cX10_readOrder 58 = .ok (.aload_n 0, 1) := by decide +kernel
theorem dX10_readOrder_59 : decode cX10_readOrder 59 = .ok (.aload_n 0, 1) := by decide +kernel
theorem dX10_readOrder_60 : decode cX10_readOrder 60 = .ok (.getfield 172, 3) := by decide +kernel
theorem dX10_readOrder_63 : decode cX10_readOrder 63 = .ok (.iload 5, 2) := by decide +kernel
theorem dX10_readOrder_65 : decode cX10_readOrder 65 = .ok (.iadd, 1) := by decide +kernel
theorem dX10_readOrder_66 : decode cX10_readOrder 66 = .ok (.invokevirtual 181, 3) := by decide +kernel
theorem dX10_readOrder_69 : decode cX10_readOrder 69 = .ok (.bipush 97, 2) := by decide +kernel
theorem dX10_readOrder_71 : decode cX10_readOrder 71 = .ok (.isub, 1) := by decide +kernel
theorem dX10_readOrder_72 : decode cX10_readOrder 72 = .ok (.iconst 1, 1) := by decide +kernel
theorem dX10_readOrder_73 : decode cX10_readOrder 73 = .ok (.iadd, 1) := by decide +kernel
theorem dX10_readOrder_74 : decode cX10_readOrder 74 = .ok (.iastore, 1) := by decide +kernel
theorem dX10_readOrder_75 : decode cX10_readOrder 75 = .ok (.aload_n 0, 1) := by decide +kernel
theorem dX10_readOrder_76 : decode cX10_readOrder 76 = .ok (.dup, 1) := by decide +kernel
theorem dX10_readOrder_77 : decode cX10_readOrder 77 = .ok (.getfield 133, 3) := by decide +kernel
theorem dX10_readOrder_80 : decode cX10_readOrder 80 = .ok (.iconst 1, 1) := by decide +kernel
theorem dX10_readOrder_81 : decode cX10_readOrder 81 = .ok (.iadd, 1) := by decide +kernel
theorem dX10_readOrder_82 : decode cX10_readOrder 82 = .ok (.putfield 133, 3) := by decide +kernel
theorem dX10_readOrder_85 : decode cX10_readOrder 85 = .ok (.iinc 5 1, 3) := by decide +kernel
theorem dX10_readOrder_88 : decode cX10_readOrder 88 = .ok (.goto (-44), 3) := by decide +kernel
theorem dX10_readOrder_91 : decode cX10_readOrder 91 = .ok (.aload_n 0, 1) := by decide +kernel
theorem dX10_readOrder_92 : decode cX10_readOrder 92 = .ok (.invokevirtual 211, 3) := by decide +kernel
theorem dX10_readOrder_95 : decode cX10_readOrder 95 = .ok (.aload_n 0, 1) := by decide +kernel
theorem dX10_readOrder_96 : decode cX10_readOrder 96 = .ok (.getfield 172, 3) := by decide +kernel
theorem dX10_readOrder_99 : decode cX10_readOrder 99 = .ok (.istore 5, 2) := by decide +kernel
theorem dX10_readOrder_101 : decode cX10_readOrder 101 = .ok (.aload_n 0, 1) := by decide +kernel
theorem dX10_readOrder_102 : decode cX10_readOrder 102 = .ok (.iconst 0, 1) := by decide +kernel
theorem dX10_readOrder_103 : decode cX10_readOrder 103 = .ok (.bipush 39, 2) := by decide +kernel
theorem dX10_readOrder_105 : decode cX10_readOrder 105 = .ok (.invokevirtual 219, 3) := by decide +kernel
theorem dX10_readOrder_108 : decode cX10_readOrder 108 = .ok (.istore_n 2, 1) := by decide +kernel
theorem dX10_readOrder_109 : decode cX10_readOrder 109 = .ok (.aload_n 0, 1) := by decide +kernel
theorem dX10_readOrder_110 : decode cX10_readOrder 110 = .ok (.iload_n 2, 1) := by decide +kernel
theorem dX10_readOrder_111 : decode cX10_readOrder 111 = .ok (.ineg, 1) := by decide +kernel
theorem dX10_readOrder_112 : decode cX10_readOrder 112 = .ok (.iload_n 3, 1) := by decide +kernel
theorem dX10_readOrder_113 : decode cX10_readOrder 113 = .ok (.isub, 1) := by decide +kernel
theorem dX10_readOrder_114 : decode cX10_readOrder 114 = .ok (.iload 5, 2) := by decide +kernel
theorem dX10_readOrder_116 : decode cX10_readOrder 116 = .ok (.invokevirtual 223, 3) := by decide +kernel
theorem dX10_readOrder_119 : decode cX10_readOrder 119 = .ok (.goto 28, 3) := by decide +kernel
theorem dX10_readOrder_122 : decode cX10_readOrder 122 = .ok (.iload_n 1, 1) := by decide +kernel
theorem dX10_readOrder_123 : decode cX10_readOrder 123 = .ok (.bipush 10, 2) := by decide +kernel
theorem dX10_readOrder_125 : decode cX10_readOrder 125 = .ok (.if_icmp .eq 22, 3) := by decide +kernel
theorem dX10_readOrder_128 : decode cX10_readOrder 128 = .ok (.aload_n 0, 1) := by decide +kernel
theorem dX10_readOrder_129 : decode cX10_readOrder 129 = .ok (.iconst 0, 1) := by decide +kernel
theorem dX10_readOrder_130 : decode cX10_readOrder 130 = .ok (.iload_n 1, 1) := by decide +kernel
theorem dX10_readOrder_131 : decode cX10_readOrder 131 = .ok (.bipush 11, 2) := by decide +kernel
theorem dX10_readOrder_133 : decode cX10_readOrder 133 = .ok (.if_icmp .ne 8, 3) := by decide +kernel
theorem dX10_readOrder_136 : decode cX10_readOrder 136 = .ok (.bipush 9, 2) := by decide +kernel
theorem dX10_readOrder_138 : decode cX10_readOrder 138 = .ok (.goto 5, 3) := by decide +kernel
theorem dX10_readOrder_141 : decode cX10_readOrder 141 = .ok (.bipush 7, 2) := by decide +kernel
theorem dX10_readOrder_143 : decode cX10_readOrder 143 = .ok (.invokevirtual 219, 3) := by decide +kernel
theorem dX10_readOrder_146 : decode cX10_readOrder 146 = .ok (.istore_n 2, 1) := by decide +kernel
theorem dX10_readOrder_147 : decode cX10_readOrder 147 = .ok (.aload_n 0, 1) := by decide +kernel
theorem dX10_readOrder_148 : decode cX10_readOrder 148 = .ok (.getfield 169, 3) := by decide +kernel
theorem dX10_readOrder_151 : decode cX10_readOrder 151 = .ok (.ifCond .ne 57, 3) := by decide +kernel
theorem dX10_readOrder_154 : decode cX10_readOrder 154 = .ok (.aload_n 0, 1) := by decide +kernel
theorem dX10_readOrder_155 : decode cX10_readOrder 155 = .ok (.getfield 43, 3) := by decide +kernel
theorem dX10_readOrder_158 : decode cX10_readOrder 158 = .ok (.aload_n 0, 1) := by decide +kernel
theorem dX10_readOrder_159 : decode cX10_readOrder 159 = .ok (.getfield 130, 3) := by decide +kernel
theorem dX10_readOrder_162 : decode cX10_readOrder 162 = .ok (.iload_n 1, 1) := by decide +kernel
theorem dX10_readOrder_163 : decode cX10_readOrder 163 = .ok (.bipush 9, 2) := by decide +kernel
theorem dX10_readOrder_165 : decode cX10_readOrder 165 = .ok (.isub, 1) := by decide +kernel
theorem dX10_readOrder_166 : decode cX10_readOrder 166 = .ok (.iastore, 1) := by decide +kernel
theorem dX10_readOrder_167 : decode cX10_readOrder 167 = .ok (.aload_n 0, 1) := by decide +kernel
theorem dX10_readOrder_168 : decode cX10_readOrder 168 = .ok (.getfield 46, 3) := by decide +kernel
theorem dX10_readOrder_171 : decode cX10_readOrder 171 = .ok (.aload_n 0, 1) := by decide +kernel
theorem dX10_readOrder_172 : decode cX10_readOrder 172 = .ok (.getfield 130, 3) := by decide +kernel
theorem dX10_readOrder_175 : decode cX10_readOrder 175 = .ok (.iload_n 2, 1) := by decide +kernel
theorem dX10_readOrder_176 : decode cX10_readOrder 176 = .ok (.iastore, 1) := by decide +kernel
theorem dX10_readOrder_177 : decode cX10_readOrder 177 = .ok (.aload_n 0, 1) := by decide +kernel
theorem dX10_readOrder_178 : decode cX10_readOrder 178 = .ok (.getfield 49, 3) := by decide +kernel
theorem dX10_readOrder_181 : decode cX10_readOrder 181 = .ok (.aload_n 0, 1) := by decide +kernel
theorem dX10_readOrder_182 : decode cX10_readOrder 182 = .ok (.getfield 130, 3) := by decide +kernel
theorem dX10_readOrder_185 : decode cX10_readOrder 185 = .ok (.iload 4, 2) := by decide +kernel
theorem dX10_readOrder_187 : decode cX10_readOrder 187 = .ok (.iastore, 1) := by decide +kernel
theorem dX10_readOrder_188 : decode cX10_readOrder 188 = .ok (.aload_n 0, 1) := by decide +kernel
theorem dX10_readOrder_189 : decode cX10_readOrder 189 = .ok (.getfield 52, 3) := by decide +kernel
theorem dX10_readOrder_192 : decode cX10_readOrder 192 = .ok (.aload_n 0, 1) := by decide +kernel
theorem dX10_readOrder_193 : decode cX10_readOrder 193 = .ok (.getfield 130, 3) := by decide +kernel
theorem dX10_readOrder_196 : decode cX10_readOrder 196 = .ok (.iload_n 3, 1) := by decide +kernel
theorem dX10_readOrder_197 : decode cX10_readOrder 197 = .ok (.iastore, 1) := by decide +kernel
theorem dX10_readOrder_198 : decode cX10_readOrder 198 = .ok (.aload_n 0, 1) := by decide +kernel
theorem dX10_readOrder_199 : decode cX10_readOrder 199 = .ok (.dup, 1) := by decide +kernel
theorem dX10_readOrder_200 : decode cX10_readOrder 200 = .ok (.getfield 130, 3) := by decide +kernel
theorem dX10_readOrder_203 : decode cX10_readOrder 203 = .ok (.iconst 1, 1) := by decide +kernel
theorem dX10_readOrder_204 : decode cX10_readOrder 204 = .ok (.iadd, 1) := by decide +kernel
theorem dX10_readOrder_205 : decode cX10_readOrder 205 = .ok (.putfield 130, 3) := by decide +kernel
theorem dX10_readOrder_208 : decode cX10_readOrder 208 = .ok (.return_, 1) := by decide +kernel
def j_X10_readOrder_147 (a : Nat) (l1 : Int32) (l2 : Int32) (l3 : Int32) (l4 : Int32) (g : zG) : Option (Int32 × zG) :=
  if (g.1 a 32) = 0 then (zc (zin (g.1 a 15) 24) (zl (zsi g (g.2.1 a 16) (g.1 a 15).toNatClampNeg (l1 - 9)) (fun g3 => zc (zin (g3.1 a 15) 24) (zl (zsi g3 (g3.2.1 a 17) (g3.1 a 15).toNatClampNeg l2) (fun g5 => zc (zin (g5.1 a 15) 24) (zl (zsi g5 (g5.2.1 a 18) (g5.1 a 15).toNatClampNeg l4) (fun g7 => zc (zin (g7.1 a 15) 24) (zl (zsi g7 (g7.2.1 a 19) (g7.1 a 15).toNatClampNeg l3) (fun g9 => zl (zsi g9 a 15 ((g9.1 a 15) + 1)) (fun g10 => some ((0, g10)))))))))))) else (some ((0, g)))
def j_X10_readOrder_143 (a : Nat) (l1 : Int32) (l3 : Int32) (l4 : Int32) (s0 : Nat) (s1 : Int32) (s2 : Int32) (g : zG) : Option (Int32 × zG) :=
  zb (f_X10_readNumber s0 s1 s2 g) (fun v11 g12 => j_X10_readOrder_147 a l1 v11 l3 l4 g12)
def j_X10_readOrder_91 (a : Nat) (l1 : Int32) (l3 : Int32) (l4 : Int32) (g : zG) : Option (Int32 × zG) :=
  zb (f_X10_next a g) (fun v13 g14 => zl (g14.1 a 29) (fun v15 => zb (f_X10_readNumber a 0 39 g14) (fun v16 g17 => zb (f_X10_asksLater a ((-v16) - l3) v15 g17) (fun v18 g19 => j_X10_readOrder_147 a l1 v16 l3 l4 g19))))
def l_X10_readOrder_44 (a : Nat) (l1 : Int32) (l3 : Int32) (l4 : Int32) (l5 : Int32) (g : zG) : Option ((Int32 × zG) ⊕ (zG)) :=
  if l3 ≤ l5 then (some (.inr g)) else (zb (f_X10_look a ((g.1 a 29) + l5) g) (fun v22 g23 => zc (zin (g.1 a 20) 240) (zl (zsi g23 (g.2.1 a 21) (g.1 a 20).toNatClampNeg ((v22 - 97) + 1)) (fun g24 => zl (zsi g24 a 20 ((g24.1 a 20) + 1)) (fun g25 => zl (l5 + 1) (fun v26 => some (.inl (v26, g25))))))))
def j_X10_readOrder_40 (a : Nat) (l1 : Int32) (l4 : Int32) (s0 : Int32) (g : zG) : Option (Int32 × zG) :=
  zk (zw zN (fun s => l_X10_readOrder_44 a l1 s0 l4 s.1 s.2) (0, g)) (fun x => j_X10_readOrder_91 a l1 s0 l4 x)
def f_X10_readOrder (a : Nat) (x1 : Int32) (g : zG) : Option (Int32 × zG) :=
  zl (g.1 a 20) (fun v27 => if x1 = 9 then (zb (f_X10_toLetters a g) (fun v29 g30 => if (g30.1 a 32) = 0 then (j_X10_readOrder_40 a x1 v27 ((g30.1 a 28) - (g30.1 a 29)) g30) else (j_X10_readOrder_40 a x1 v27 0 g30))) else (if x1 = 10 then (j_X10_readOrder_147 a x1 0 0 v27 g) else (if x1 = 11 then (j_X10_readOrder_143 a x1 0 v27 a 0 9 g) else (j_X10_readOrder_143 a x1 0 v27 a 0 7 g))))
abbrev rm_X10_readOrder : Room := { frames := 3, cells := 0, slots := 0, locals := 69 }
set_option maxRecDepth 100000 in
set_option maxHeartbeats 4000000 in
theorem c_X10_readOrder (l : Launch) (D : zD) (sz : Nat) (τ : zT) (g : zG) (a : Nat) (x1 : Int32) (hta : τ a = some (.inr 10)) : zCon l D yX10_readOrder cX10_readOrder 6 none rm_X10_readOrder 0 0 zrV [.ref a, .int x1] sz τ g τ (f_X10_readOrder a x1 g) := by
  refine zCon.of (by decide) (Nat.le_of_ble_eq_true rfl) (fun E r g' hl hR hsz hnm F => ?_)
  have F : zF E D (zA τ sz) cX10_readOrder "TypeChainModel" 6 none := F
  show zSim (fun q : Int32 × zG => q = (r, g')) (f_X10_readOrder a x1 g) (zAt E D (zA τ sz) (zQ E D zrV 0 0 sz τ τ r g') 6 (sz, τ, 0, 0) g 0 [(0, .ref a), (1, .int x1)] [])
  have hj_X10_readOrder_147 : ∀ (l1_147 : Int32) (l2_147 : Int32) (l3_147 : Int32) (l4_147 : Int32) (g_147 : zG), zSim (fun q : Int32 × zG => q = (r, g')) (j_X10_readOrder_147 a l1_147 l2_147 l3_147 l4_147 g_147) (zAt E D (zA τ sz) (zQ E D zrV 0 0 sz τ τ r g') 6 (sz, τ, 0, 0) g_147 147 [(0, .ref a), (1, .int l1_147), (2, .int l2_147), (3, .int l3_147), (4, .int l4_147)] []) := by
    intro l1_147 l2_147 l3_147 l4_147 g_147
    unfold j_X10_readOrder_147
    refine z_aload_n F 0 rfl rfl dX10_readOrder_147 ?_
    refine gf_X10_169 F hta dX10_readOrder_148 ?_
    refine z_if_ne (tgt := 208) F dX10_readOrder_151 (by decide) (fun c1 => ?_) (fun c1 => ?_)
    · refine z_aload_n F 0 rfl rfl dX10_readOrder_154 ?_
      refine gf_X10_43 F hta dX10_readOrder_155 (fun ht2 => ?_)
      refine z_aload_n F 0 rfl rfl dX10_readOrder_158 ?_
      refine gf_X10_130 F hta dX10_readOrder_159 ?_
      refine z_iload_n F 1 rfl rfl dX10_readOrder_162 ?_
      refine z_bipush (v := 9) F (by decide) dX10_readOrder_163 ?_
      refine z_isub F dX10_readOrder_165 ?_
      refine z_iast F ht2 dX10_readOrder_166 ?_
      refine z_letg (fun g3 => ?_)
      refine z_aload_n F 0 rfl rfl dX10_readOrder_167 ?_
      refine gf_X10_46 F hta dX10_readOrder_168 (fun ht4 => ?_)
      refine z_aload_n F 0 rfl rfl dX10_readOrder_171 ?_
      refine gf_X10_130 F hta dX10_readOrder_172 ?_
      refine z_iload_n F 2 rfl rfl dX10_readOrder_175 ?_
      refine z_iast F ht4 dX10_readOrder_176 ?_
      refine z_letg (fun g5 => ?_)
      refine z_aload_n F 0 rfl rfl dX10_readOrder_177 ?_
      refine gf_X10_49 F hta dX10_readOrder_178 (fun ht6 => ?_)
      refine z_aload_n F 0 rfl rfl dX10_readOrder_181 ?_
      refine gf_X10_130 F hta dX10_readOrder_182 ?_
      refine z_iload F 4 rfl dX10_readOrder_185 ?_
      refine z_iast F ht6 dX10_readOrder_187 ?_
      refine z_letg (fun g7 => ?_)
      refine z_aload_n F 0 rfl rfl dX10_readOrder_188 ?_
      refine gf_X10_52 F hta dX10_readOrder_189 (fun ht8 => ?_)
      refine z_aload_n F 0 rfl rfl dX10_readOrder_192 ?_
      refine gf_X10_130 F hta dX10_readOrder_193 ?_
      refine z_iload_n F 3 rfl rfl dX10_readOrder_196 ?_
      refine z_iast F ht8 dX10_readOrder_197 ?_
      refine z_letg (fun g9 => ?_)
      refine z_aload_n F 0 rfl rfl dX10_readOrder_198 ?_
      refine z_dup F rfl dX10_readOrder_199 ?_
      refine gf_X10_130 F hta dX10_readOrder_200 ?_
      refine z_iconst (v := 1) F (by decide) dX10_readOrder_203 ?_
      refine z_iadd F dX10_readOrder_204 ?_
      refine pf_X10_130 F hta dX10_readOrder_205 ?_
      refine z_letg (fun g10 => ?_)
      exact z_vreturn F rfl rfl rfl rfl (fun h => h) dX10_readOrder_208
    · exact z_vreturn F rfl rfl rfl rfl (fun h => h) dX10_readOrder_208
  have hj_X10_readOrder_143 : ∀ (l1_143 : Int32) (l3_143 : Int32) (l4_143 : Int32) (s0_143 : Nat) (s1_143 : Int32) (s2_143 : Int32) (g_143 : zG), τ s0_143 = some (.inr 10) → zSim (fun q : Int32 × zG => q = (r, g')) (j_X10_readOrder_143 a l1_143 l3_143 l4_143 s0_143 s1_143 s2_143 g_143) (zAt E D (zA τ sz) (zQ E D zrV 0 0 sz τ τ r g') 6 (sz, τ, 0, 0) g_143 143 [(0, .ref a), (1, .int l1_143), (3, .int l3_143), (4, .int l4_143)] [.int s2_143, .int s1_143, .ref s0_143]) := by
    intro l1_143 l3_143 l4_143 s0_143 s1_143 s2_143 g_143 ht_s0_143
    unfold j_X10_readOrder_143
    refine k_X10_readNumber F (by rw [hR]; exact ⟨by decide, by decide⟩) q_1136 ht_s0_143 ⟨Nat.zero_le _, Nat.zero_le _⟩ (Nat.le_of_ble_eq_true rfl) dX10_readOrder_143 (fun v11 g12 => ?_)
    refine z_istore_n (lv' := [(2, .int v11), (0, .ref a), (1, .int l1_143), (3, .int l3_143), (4, .int l4_143)]) F rfl (by decide) dX10_readOrder_146 rfl ?_
    refine z_sub (lv' := [(0, .ref a), (1, .int l1_143), (2, .int v11), (3, .int l3_143), (4, .int l4_143)]) [1, 2, 0, 3, 4] rfl ?_
    exact hj_X10_readOrder_147 l1_143 v11 l3_143 l4_143 g12
  have hj_X10_readOrder_91 : ∀ (l1_91 : Int32) (l3_91 : Int32) (l4_91 : Int32) (g_91 : zG), zSim (fun q : Int32 × zG => q = (r, g')) (j_X10_readOrder_91 a l1_91 l3_91 l4_91 g_91) (zAt E D (zA τ sz) (zQ E D zrV 0 0 sz τ τ r g') 6 (sz, τ, 0, 0) g_91 91 [(0, .ref a), (1, .int l1_91), (3, .int l3_91), (4, .int l4_91)] []) := by
    intro l1_91 l3_91 l4_91 g_91
    unfold j_X10_readOrder_91
    refine z_aload_n F 0 rfl rfl dX10_readOrder_91 ?_
    refine k_X10_next F (by rw [hR]; exact ⟨by decide, by decide⟩) q_1089 hta ⟨Nat.zero_le _, Nat.zero_le _⟩ (Nat.le_of_ble_eq_true rfl) dX10_readOrder_92 (fun v13 g14 => ?_)
    refine z_aload_n F 0 rfl rfl dX10_readOrder_95 ?_
    refine gf_X10_172 F hta dX10_readOrder_96 ?_
    refine z_leti (fun v15 => ?_)
    refine z_istore (lv' := [(5, .int v15), (0, .ref a), (1, .int l1_91), (3, .int l3_91), (4, .int l4_91)]) F (by decide) dX10_readOrder_99 rfl ?_
    refine z_aload_n F 1 rfl rfl dX10_readOrder_101 ?_
    refine z_iconst (v := 0) F (by decide) dX10_readOrder_102 ?_
    refine z_bipush (v := 39) F (by decide) dX10_readOrder_103 ?_
    refine k_X10_readNumber F (by rw [hR]; exact ⟨by decide, by decide⟩) q_1136 hta ⟨Nat.zero_le _, Nat.zero_le _⟩ (Nat.le_of_ble_eq_true rfl) dX10_readOrder_105 (fun v16 g17 => ?_)
    refine z_istore_n (lv' := [(2, .int v16), (5, .int v15), (0, .ref a), (1, .int l1_91), (3, .int l3_91), (4, .int l4_91)]) F rfl (by decide) dX10_readOrder_108 rfl ?_
    refine z_aload_n F 2 rfl rfl dX10_readOrder_109 ?_
    refine z_iload_n F 0 rfl rfl dX10_readOrder_110 ?_
    refine z_ineg F dX10_readOrder_111 ?_
    refine z_iload_n F 4 rfl rfl dX10_readOrder_112 ?_
    refine z_isub F dX10_readOrder_113 ?_
    refine z_iload F 1 rfl dX10_readOrder_114 ?_
    refine k_X10_asksLater F (by rw [hR]; exact ⟨by decide, by decide⟩) q_1144 hta ⟨Nat.zero_le _, Nat.zero_le _⟩ (Nat.le_of_ble_eq_true rfl) dX10_readOrder_116 (fun v18 g19 => ?_)
    refine z_goto (tgt := 147) F dX10_readOrder_119 (by decide) ?_
    refine z_sub (lv' := [(0, .ref a), (1, .int l1_91), (2, .int v16), (3, .int l3_91), (4, .int l4_91)]) [2, 3, 0, 4, 5] rfl ?_
    exact hj_X10_readOrder_147 l1_91 v16 l3_91 l4_91 g19
  have hj_X10_readOrder_40 : ∀ (l1_40 : Int32) (l4_40 : Int32) (s0_40 : Int32) (g_40 : zG), zSim (fun q : Int32 × zG => q = (r, g')) (j_X10_readOrder_40 a l1_40 l4_40 s0_40 g_40) (zAt E D (zA τ sz) (zQ E D zrV 0 0 sz τ τ r g') 6 (sz, τ, 0, 0) g_40 40 [(0, .ref a), (1, .int l1_40), (4, .int l4_40)] [.int s0_40]) := by
    intro l1_40 l4_40 s0_40 g_40
    unfold j_X10_readOrder_40
    refine z_istore_n (lv' := [(3, .int s0_40), (0, .ref a), (1, .int l1_40), (4, .int l4_40)]) F rfl (by decide) dX10_readOrder_40 rfl ?_
    refine z_iconst (v := 0) F (by decide) dX10_readOrder_41 ?_
    refine z_istore (lv' := [(5, .int 0), (3, .int s0_40), (0, .ref a), (1, .int l1_40), (4, .int l4_40)]) F (by decide) dX10_readOrder_42 rfl ?_
    refine z_sub (lv' := [(0, .ref a), (1, .int l1_40), (3, .int s0_40), (4, .int l4_40), (5, .int 0)]) [2, 3, 1, 4, 0] rfl ?_
    refine z_loop (P := fun s : Int32 × zG => zAt E D (zA τ sz) (zQ E D zrV 0 0 sz τ τ r g') 6 (sz, τ, 0, 0) s.2 44 [(0, .ref a), (1, .int l1_40), (3, .int s0_40), (4, .int l4_40), (5, .int s.1)] []) (Px := fun x : zG => zAt E D (zA τ sz) (zQ E D zrV 0 0 sz τ τ r g') 6 (sz, τ, 0, 0) x 91 [(0, .ref a), (1, .int l1_40), (3, .int s0_40), (4, .int l4_40)] []) (0, g_40) (fun s => ?_) (fun x => ?_)
    · obtain ⟨l5_44, g_44⟩ := s
      show zSim (zKl (fun s : Int32 × zG => zAt E D (zA τ sz) (zQ E D zrV 0 0 sz τ τ r g') 6 (sz, τ, 0, 0) s.2 44 [(0, .ref a), (1, .int l1_40), (3, .int s0_40), (4, .int l4_40), (5, .int s.1)] []) (fun x : zG => zAt E D (zA τ sz) (zQ E D zrV 0 0 sz τ τ r g') 6 (sz, τ, 0, 0) x 91 [(0, .ref a), (1, .int l1_40), (3, .int s0_40), (4, .int l4_40)] [])) (l_X10_readOrder_44 a l1_40 s0_40 l4_40 l5_44 g_44) (zAt E D (zA τ sz) (zQ E D zrV 0 0 sz τ τ r g') 6 (sz, τ, 0, 0) g_44 44 [(0, .ref a), (1, .int l1_40), (3, .int s0_40), (4, .int l4_40), (5, .int l5_44)] [])
      unfold l_X10_readOrder_44
      refine z_iload F 4 rfl dX10_readOrder_44 ?_
      refine z_iload_n F 2 rfl rfl dX10_readOrder_46 ?_
      refine z_icmp_ge (tgt := 91) F dX10_readOrder_47 (by decide) (fun c20 => ?_) (fun c20 => ?_)
      · refine z_sub (lv' := [(0, .ref a), (1, .int l1_40), (3, .int s0_40), (4, .int l4_40)]) [0, 1, 2, 3] rfl ?_
        exact z_back (fun h => h)
      · refine z_aload_n F 0 rfl rfl dX10_readOrder_50 ?_
        refine gf_X10_55 F hta dX10_readOrder_51 (fun ht21 => ?_)
        refine z_aload_n F 0 rfl rfl dX10_readOrder_54 ?_
        refine gf_X10_133 F hta dX10_readOrder_55 ?_
        refine z_aload_n F 0 rfl rfl dX10_readOrder_58 ?_
        refine z_aload_n F 0 rfl rfl dX10_readOrder_59 ?_
        refine gf_X10_172 F hta dX10_readOrder_60 ?_
        refine z_iload F 4 rfl dX10_readOrder_63 ?_
        refine z_iadd F dX10_readOrder_65 ?_
        refine k_X10_look F (by rw [hR]; exact ⟨by decide, by decide⟩) q_1093 hta ⟨Nat.zero_le _, Nat.zero_le _⟩ (Nat.le_of_ble_eq_true rfl) dX10_readOrder_66 (fun v22 g23 => ?_)
        refine z_bipush (v := 97) F (by decide) dX10_readOrder_69 ?_
        refine z_isub F dX10_readOrder_71 ?_
        refine z_iconst (v := 1) F (by decide) dX10_readOrder_72 ?_
        refine z_iadd F dX10_readOrder_73 ?_
        refine z_iast F ht21 dX10_readOrder_74 ?_
        refine z_letg (fun g24 => ?_)
        refine z_aload_n F 0 rfl rfl dX10_readOrder_75 ?_
        refine z_dup F rfl dX10_readOrder_76 ?_
        refine gf_X10_133 F hta dX10_readOrder_77 ?_
        refine z_iconst (v := 1) F (by decide) dX10_readOrder_80 ?_
        refine z_iadd F dX10_readOrder_81 ?_
        refine pf_X10_133 F hta dX10_readOrder_82 ?_
        refine z_letg (fun g25 => ?_)
        refine z_iincl (lv' := fun v26 => [(5, .int v26), (0, .ref a), (1, .int l1_40), (3, .int s0_40), (4, .int l4_40)]) F 4 rfl (by decide) (by decide) dX10_readOrder_85 (fun _ => rfl) (fun v26 => ?_)
        refine z_goto (tgt := 44) F dX10_readOrder_88 (by decide) ?_
        refine z_sub (lv' := [(0, .ref a), (1, .int l1_40), (3, .int s0_40), (4, .int l4_40), (5, .int v26)]) [1, 2, 3, 4, 0] rfl ?_
        exact z_back (fun h => h)
    · show zSim (fun q : Int32 × zG => q = (r, g')) (j_X10_readOrder_91 a l1_40 s0_40 l4_40 x) (zAt E D (zA τ sz) (zQ E D zrV 0 0 sz τ τ r g') 6 (sz, τ, 0, 0) x 91 [(0, .ref a), (1, .int l1_40), (3, .int s0_40), (4, .int l4_40)] [])
      exact hj_X10_readOrder_91 l1_40 s0_40 l4_40 x
  unfold f_X10_readOrder
  refine z_iconst (v := 0) F (by decide) dX10_readOrder_0 ?_
  refine z_istore_n (lv' := [(2, .int 0), (0, .ref a), (1, .int x1)]) F rfl (by decide) dX10_readOrder_1 rfl ?_
  refine z_iconst (v := 0) F (by decide) dX10_readOrder_2 ?_
  refine z_istore_n (lv' := [(3, .int 0), (2, .int 0), (0, .ref a), (1, .int x1)]) F rfl (by decide) dX10_readOrder_3 rfl ?_
  refine z_aload_n F 2 rfl rfl dX10_readOrder_4 ?_
  refine gf_X10_133 F hta dX10_readOrder_5 ?_
  refine z_leti (fun v27 => ?_)
  refine z_istore (lv' := [(4, .int v27), (3, .int 0), (2, .int 0), (0, .ref a), (1, .int x1)]) F (by decide) dX10_readOrder_8 rfl ?_
  refine z_iload_n F 4 rfl rfl dX10_readOrder_10 ?_
  refine z_bipush (v := 9) F (by decide) dX10_readOrder_11 ?_
  refine z_icmp_ne (tgt := 122) F dX10_readOrder_13 (by decide) (fun c28 => ?_) (fun c28 => ?_)
  · refine z_aload_n F 3 rfl rfl dX10_readOrder_16 ?_
    refine k_X10_toLetters F (by rw [hR]; exact ⟨by decide, by decide⟩) q_1125 hta ⟨Nat.zero_le _, Nat.zero_le _⟩ (Nat.le_of_ble_eq_true rfl) dX10_readOrder_17 (fun v29 g30 => ?_)
    refine z_aload_n F 3 rfl rfl dX10_readOrder_20 ?_
    refine gf_X10_169 F hta dX10_readOrder_21 ?_
    refine z_if_ne (tgt := 39) F dX10_readOrder_24 (by decide) (fun c31 => ?_) (fun c31 => ?_)
    · refine z_aload_n F 3 rfl rfl dX10_readOrder_27 ?_
      refine gf_X10_178 F hta dX10_readOrder_28 ?_
      refine z_aload_n F 3 rfl rfl dX10_readOrder_31 ?_
      refine gf_X10_172 F hta dX10_readOrder_32 ?_
      refine z_isub F dX10_readOrder_35 ?_
      refine z_goto (tgt := 40) F dX10_readOrder_36 (by decide) ?_
      refine z_sub (lv' := [(0, .ref a), (1, .int x1), (4, .int v27)]) [3, 4, 0] rfl ?_
      exact hj_X10_readOrder_40 x1 v27 ((g30.1 a 28) - (g30.1 a 29)) g30
    · refine z_iconst (v := 0) F (by decide) dX10_readOrder_39 ?_
      refine z_sub (lv' := [(0, .ref a), (1, .int x1), (4, .int v27)]) [3, 4, 0] rfl ?_
      exact hj_X10_readOrder_40 x1 v27 0 g30
  · refine z_iload_n F 4 rfl rfl dX10_readOrder_122 ?_
    refine z_bipush (v := 10) F (by decide) dX10_readOrder_123 ?_
    refine z_icmp_eq (tgt := 147) F dX10_readOrder_125 (by decide) (fun c32 => ?_) (fun c32 => ?_)
    · refine z_sub (lv' := [(0, .ref a), (1, .int x1), (2, .int 0), (3, .int 0), (4, .int v27)]) [3, 4, 2, 1, 0] rfl ?_
      exact hj_X10_readOrder_147 x1 0 0 v27 g
    · refine z_aload_n F 3 rfl rfl dX10_readOrder_128 ?_
      refine z_iconst (v := 0) F (by decide) dX10_readOrder_129 ?_
      refine z_iload_n F 4 rfl rfl dX10_readOrder_130 ?_
      refine z_bipush (v := 11) F (by decide) dX10_readOrder_131 ?_
      refine z_icmp_ne (tgt := 141) F dX10_readOrder_133 (by decide) (fun c33 => ?_) (fun c33 => ?_)
      · refine z_bipush (v := 9) F (by decide) dX10_readOrder_136 ?_
        refine z_goto (tgt := 143) F dX10_readOrder_138 (by decide) ?_
        refine z_sub (lv' := [(0, .ref a), (1, .int x1), (3, .int 0), (4, .int v27)]) [3, 4, 1, 0] rfl ?_
        exact hj_X10_readOrder_143 x1 0 v27 a 0 9 g hta
      · refine z_bipush (v := 7) F (by decide) dX10_readOrder_141 ?_
        refine z_sub (lv' := [(0, .ref a), (1, .int x1), (3, .int 0), (4, .int v27)]) [3, 4, 1, 0] rfl ?_
        exact hj_X10_readOrder_143 x1 0 v27 a 0 7 g hta
theorem k_X10_readOrder {ρ : Type} {K : ρ → Prop} {E : zE} {D : zD} {A : Nat → Prop} {Q : State → Prop} {nL : Nat} {κ : zC} {g : zG} {pc : Nat} {lv : List (Nat × Value)} {st : List Value} {cc : ByteArray} {own : String} {ret : Option FieldType} (F : zF E D A cc own nL ret) {index : Nat} {h : Int32 → zG → Option ρ} {a : Nat} {x1 : Int32}  (hR : 3 + 1 ≤ E.2.2.2.1.frames ∧ 8 + (6 + 11) + 69 ≤ E.2.2.2.1.locals) (hl : zTbl (.methodLink own index yX10_readOrder)) (hta : κ.2.1 a = some (.inr 10)) (hc : κ.2.2.1 ≤ E.2.2.2.1.cells ∧ κ.2.2.2 ≤ E.2.2.2.1.slots) (hW : (st.map fun v => v.category).sum ≤ 8) (hd : decode cc pc = .ok (.invokevirtual index, 3)) (kk : ∀ r g', zSim K (h r g') (zAt E D A Q nL κ g' (pc + 3) lv (st))) : zSim K (zb (f_X10_readOrder a x1 g) h) (zAt E D A Q nL κ g pc lv (.int x1 :: .ref a :: st)) :=
  z_callV F (n := 1) (As := [.int x1]) (C := (RX10, TX10, 61)) ⟨q_1151, q_14, by decide +kernel, rfl, rfl, hR.1, hR.2⟩ (c_X10_readOrder E.2.1 D κ.1 κ.2.1 g a x1 hta) hl q_1150 q_1405 hta rfl rfl rfl hc hW hd kk _ rfl
theorem dX10_least_0 : decode cX10_least 0 = .ok (.iload_n 0, 1) := by decide +kernel
theorem dX10_least_1 : decode cX10_least 1 = .ok (.iconst 1, 1) := by decide +kernel
theorem dX10_least_2 : decode cX10_least 2 = .ok (.if_icmp .ne 7, 3) := by decide +kernel
theorem dX10_least_5 : decode cX10_least 5 = .ok (.iconst 2, 1) := by decide +kernel
theorem dX10_least_6 : decode cX10_least 6 = .ok (.goto 13, 3) := by decide +kernel
theorem dX10_least_9 : decode cX10_least 9 = .ok (.iload_n 0, 1) := by decide +kernel
theorem dX10_least_10 : decode cX10_least 10 = .ok (.iconst 5, 1) := by decide +kernel
theorem dX10_least_11 : decode cX10_least 11 = .ok (.if_icmp .ne 7, 3) := by decide +kernel
theorem dX10_least_14 : decode cX10_least 14 = .ok (.iconst 0, 1) := by decide +kernel
theorem dX10_least_15 : decode cX10_least 15 = .ok (.goto 4, 3) := by decide +kernel
theorem dX10_least_18 : decode cX10_least 18 = .ok (.iconst 1, 1) := by decide +kernel
theorem dX10_least_19 : decode cX10_least 19 = .ok (.ireturn, 1) := by decide +kernel
def f_X10_least (x1 : Int32) (g : zG) : Option (Int32 × zG) :=
  if x1 = 1 then (some ((2, g))) else (if x1 = 5 then (some ((0, g))) else (some ((1, g))))
abbrev rm_X10_least : Room := { frames := 0, cells := 0, slots := 0, locals := 0 }
set_option maxRecDepth 100000 in
set_option maxHeartbeats 4000000 in
theorem c_X10_least (l : Launch) (D : zD) (sz : Nat) (τ : zT) (g : zG) (x1 : Int32) : zCon l D yX10_least cX10_least 1 (some .int) rm_X10_least 0 0 zrI [.int x1] sz τ g τ (f_X10_least x1 g) := by
  refine zCon.of (by decide) (Nat.le_of_ble_eq_true rfl) (fun E r g' hl hR hsz hnm F => ?_)
  have F : zF E D (zA τ sz) cX10_least "TypeChainModel" 1 (some .int) := F
  show zSim (fun q : Int32 × zG => q = (r, g')) (f_X10_least x1 g) (zAt E D (zA τ sz) (zQ E D zrI 0 0 sz τ τ r g') 1 (sz, τ, 0, 0) g 0 [(0, .int x1)] [])
  unfold f_X10_least
  refine z_iload_n F 0 rfl rfl dX10_least_0 ?_
  refine z_iconst (v := 1) F (by decide) dX10_least_1 ?_
  refine z_icmp_ne (tgt := 9) F dX10_least_2 (by decide) (fun c1 => ?_) (fun c1 => ?_)
  · refine z_iconst (v := 2) F (by decide) dX10_least_5 ?_
    refine z_goto (tgt := 19) F dX10_least_6 (by decide) ?_
    exact z_ireturn F rfl rfl rfl rfl (fun h => h) dX10_least_19
  · refine z_iload_n F 0 rfl rfl dX10_least_9 ?_
    refine z_iconst (v := 5) F (by decide) dX10_least_10 ?_
    refine z_icmp_ne (tgt := 18) F dX10_least_11 (by decide) (fun c2 => ?_) (fun c2 => ?_)
    · refine z_iconst (v := 0) F (by decide) dX10_least_14 ?_
      refine z_goto (tgt := 19) F dX10_least_15 (by decide) ?_
      exact z_ireturn F rfl rfl rfl rfl (fun h => h) dX10_least_19
    · refine z_iconst (v := 1) F (by decide) dX10_least_18 ?_
      exact z_ireturn F rfl rfl rfl rfl (fun h => h) dX10_least_19
theorem k_X10_least {ρ : Type} {K : ρ → Prop} {E : zE} {D : zD} {A : Nat → Prop} {Q : State → Prop} {nL : Nat} {κ : zC} {g : zG} {pc : Nat} {lv : List (Nat × Value)} {st : List Value} {cc : ByteArray} {own : String} {ret : Option FieldType} (F : zF E D A cc own nL ret) {index : Nat} {h : Int32 → zG → Option ρ} {x1 : Int32}  (hR : 0 + 1 ≤ E.2.2.2.1.frames ∧ 8 + (1 + 11) + 0 ≤ E.2.2.2.1.locals) (hl : zTbl (.methodLink own index yX10_least)) (hc : κ.2.2.1 ≤ E.2.2.2.1.cells ∧ κ.2.2.2 ≤ E.2.2.2.1.slots) (hW : (st.map fun v => v.category).sum ≤ 8) (hd : decode cc pc = .ok (.invokestatic index, 3)) (kk : ∀ r g', zSim K (h r g') (zAt E D A Q nL κ g' (pc + 3) lv (.int r :: st))) : zSim K (zb (f_X10_least x1 g) h) (zAt E D A Q nL κ g pc lv (.int x1 :: st)) :=
  z_callS F (n := 1) (As := [.int x1]) ⟨q_1132, q_14, by decide +kernel, rfl, rfl, hR.1, hR.2⟩ (c_X10_least E.2.1 D κ.1 κ.2.1 g x1 ) hl q_1131 rfl hc hW hd kk _ rfl
theorem dX10_most_0 : decode cX10_most 0 = .ok (.iload_n 0, 1) := by decide +kernel
theorem dX10_most_1 : decode cX10_most 1 = .ok (.iconst 1, 1) := by decide +kernel
theorem dX10_most_2 : decode cX10_most 2 = .ok (.if_icmp .eq 8, 3) := by decide +kernel
theorem dX10_most_5 : decode cX10_most 5 = .ok (.iload_n 0, 1) := by decide +kernel
theorem dX10_most_6 : decode cX10_most 6 = .ok (.iconst 2, 1) := by decide +kernel
theorem dX10_most_7 : decode cX10_most 7 = .ok (.if_icmp .ne 8, 3) := by decide +kernel
theorem dX10_most_10 : decode cX10_most 10 = .ok (.bipush 6, 2) := by decide +kernel
theorem dX10_most_12 : decode cX10_most 12 = .ok (.goto 31, 3) := by decide +kernel
theorem dX10_most_15 : decode cX10_most 15 = .ok (.iload_n 0, 1) := by decide +kernel
theorem dX10_most_16 : decode cX10_most 16 = .ok (.iconst 3, 1) := by decide +kernel
theorem dX10_most_17 : decode cX10_most 17 = .ok (.if_icmp .eq 8, 3) := by decide +kernel
theorem dX10_most_20 : decode cX10_most 20 = .ok (.iload_n 0, 1) := by decide +kernel
theorem dX10_most_21 : decode cX10_most 21 = .ok (.iconst 4, 1) := by decide +kernel
theorem dX10_most_22 : decode cX10_most 22 = .ok (.if_icmp .ne 8, 3) := by decide +kernel
theorem dX10_most_25 : decode cX10_most 25 = .ok (.bipush 40, 2) := by decide +kernel
theorem dX10_most_27 : decode cX10_most 27 = .ok (.goto 16, 3) := by decide +kernel
theorem dX10_most_30 : decode cX10_most 30 = .ok (.iload_n 0, 1) := by decide +kernel
theorem dX10_most_31 : decode cX10_most 31 = .ok (.bipush 7, 2) := by decide +kernel
theorem dX10_most_33 : decode cX10_most 33 = .ok (.if_icmp .ne 8, 3) := by decide +kernel
theorem dX10_most_36 : decode cX10_most 36 = .ok (.bipush 60, 2) := by decide +kernel
theorem dX10_most_38 : decode cX10_most 38 = .ok (.goto 5, 3) := by decide +kernel
theorem dX10_most_41 : decode cX10_most 41 = .ok (.bipush 20, 2) := by decide +kernel
theorem dX10_most_43 : decode cX10_most 43 = .ok (.ireturn, 1) := by decide +kernel
def f_X10_most (x1 : Int32) (g : zG) : Option (Int32 × zG) :=
  if x1 = 1 then (some ((6, g))) else (if x1 = 2 then (some ((6, g))) else (if x1 = 3 then (some ((40, g))) else (if x1 = 4 then (some ((40, g))) else (if x1 = 7 then (some ((60, g))) else (some ((20, g)))))))
abbrev rm_X10_most : Room := { frames := 0, cells := 0, slots := 0, locals := 0 }
set_option maxRecDepth 100000 in
set_option maxHeartbeats 4000000 in
theorem c_X10_most (l : Launch) (D : zD) (sz : Nat) (τ : zT) (g : zG) (x1 : Int32) : zCon l D yX10_most cX10_most 1 (some .int) rm_X10_most 0 0 zrI [.int x1] sz τ g τ (f_X10_most x1 g) := by
  refine zCon.of (by decide) (Nat.le_of_ble_eq_true rfl) (fun E r g' hl hR hsz hnm F => ?_)
  have F : zF E D (zA τ sz) cX10_most "TypeChainModel" 1 (some .int) := F
  show zSim (fun q : Int32 × zG => q = (r, g')) (f_X10_most x1 g) (zAt E D (zA τ sz) (zQ E D zrI 0 0 sz τ τ r g') 1 (sz, τ, 0, 0) g 0 [(0, .int x1)] [])
  unfold f_X10_most
  refine z_iload_n F 0 rfl rfl dX10_most_0 ?_
  refine z_iconst (v := 1) F (by decide) dX10_most_1 ?_
  refine z_icmp_eq (tgt := 10) F dX10_most_2 (by decide) (fun c1 => ?_) (fun c1 => ?_)
  · refine z_bipush (v := 6) F (by decide) dX10_most_10 ?_
    refine z_goto (tgt := 43) F dX10_most_12 (by decide) ?_
    exact z_ireturn F rfl rfl rfl rfl (fun h => h) dX10_most_43
  · refine z_iload_n F 0 rfl rfl dX10_most_5 ?_
    refine z_iconst (v := 2) F (by decide) dX10_most_6 ?_
    refine z_icmp_ne (tgt := 15) F dX10_most_7 (by decide) (fun c2 => ?_) (fun c2 => ?_)
    · refine z_bipush (v := 6) F (by decide) dX10_most_10 ?_
      refine z_goto (tgt := 43) F dX10_most_12 (by decide) ?_
      exact z_ireturn F rfl rfl rfl rfl (fun h => h) dX10_most_43
    · refine z_iload_n F 0 rfl rfl dX10_most_15 ?_
      refine z_iconst (v := 3) F (by decide) dX10_most_16 ?_
      refine z_icmp_eq (tgt := 25) F dX10_most_17 (by decide) (fun c3 => ?_) (fun c3 => ?_)
      · refine z_bipush (v := 40) F (by decide) dX10_most_25 ?_
        refine z_goto (tgt := 43) F dX10_most_27 (by decide) ?_
        exact z_ireturn F rfl rfl rfl rfl (fun h => h) dX10_most_43
      · refine z_iload_n F 0 rfl rfl dX10_most_20 ?_
        refine z_iconst (v := 4) F (by decide) dX10_most_21 ?_
        refine z_icmp_ne (tgt := 30) F dX10_most_22 (by decide) (fun c4 => ?_) (fun c4 => ?_)
        · refine z_bipush (v := 40) F (by decide) dX10_most_25 ?_
          refine z_goto (tgt := 43) F dX10_most_27 (by decide) ?_
          exact z_ireturn F rfl rfl rfl rfl (fun h => h) dX10_most_43
        · refine z_iload_n F 0 rfl rfl dX10_most_30 ?_
          refine z_bipush (v := 7) F (by decide) dX10_most_31 ?_
          refine z_icmp_ne (tgt := 41) F dX10_most_33 (by decide) (fun c5 => ?_) (fun c5 => ?_)
          · refine z_bipush (v := 60) F (by decide) dX10_most_36 ?_
            refine z_goto (tgt := 43) F dX10_most_38 (by decide) ?_
            exact z_ireturn F rfl rfl rfl rfl (fun h => h) dX10_most_43
          · refine z_bipush (v := 20) F (by decide) dX10_most_41 ?_
            exact z_ireturn F rfl rfl rfl rfl (fun h => h) dX10_most_43
theorem k_X10_most {ρ : Type} {K : ρ → Prop} {E : zE} {D : zD} {A : Nat → Prop} {Q : State → Prop} {nL : Nat} {κ : zC} {g : zG} {pc : Nat} {lv : List (Nat × Value)} {st : List Value} {cc : ByteArray} {own : String} {ret : Option FieldType} (F : zF E D A cc own nL ret) {index : Nat} {h : Int32 → zG → Option ρ} {x1 : Int32}  (hR : 0 + 1 ≤ E.2.2.2.1.frames ∧ 8 + (1 + 11) + 0 ≤ E.2.2.2.1.locals) (hl : zTbl (.methodLink own index yX10_most)) (hc : κ.2.2.1 ≤ E.2.2.2.1.cells ∧ κ.2.2.2 ≤ E.2.2.2.1.slots) (hW : (st.map fun v => v.category).sum ≤ 8) (hd : decode cc pc = .ok (.invokestatic index, 3)) (kk : ∀ r g', zSim K (h r g') (zAt E D A Q nL κ g' (pc + 3) lv (.int r :: st))) : zSim K (zb (f_X10_most x1 g) h) (zAt E D A Q nL κ g pc lv (.int x1 :: st)) :=
  z_callS F (n := 1) (As := [.int x1]) ⟨q_1135, q_14, by decide +kernel, rfl, rfl, hR.1, hR.2⟩ (c_X10_most E.2.1 D κ.1 κ.2.1 g x1 ) hl q_1134 rfl hc hW hd kk _ rfl
theorem dX10_readLine_0 : decode cX10_readLine 0 = .ok (.aload_n 0, 1) := by decide +kernel
theorem dX10_readLine_1 : decode cX10_readLine 1 = .ok (.getfield 193, 3) := by decide +kernel
theorem dX10_readLine_4 : decode cX10_readLine 4 = .ok (.iconst 1, 1) := by decide +kernel
theorem dX10_readLine_5 : decode cX10_readLine 5 = .ok (.if_icmp .ne 10, 3) := by decide +kernel
theorem dX10_readLine_8 : decode cX10_readLine 8 = .ok (.aload_n 0, 1) := by decide +kernel
theorem dX10_readLine_9 : decode cX10_readLine 9 = .ok (.invokevirtual 227, 3) := by decide +kernel
theorem dX10_readLine_12 : decode cX10_readLine 12 = .ok (.goto 5, 3) := by decide +kernel
theorem dX10_readLine_15 : decode cX10_readLine 15 = .ok (.bipush (-4), 2) := by decide +kernel
theorem dX10_readLine_17 : decode cX10_readLine 17 = .ok (.istore_n 1, 1) := by decide +kernel
theorem dX10_readLine_18 : decode cX10_readLine 18 = .ok (.aload_n 0, 1) := by decide +kernel
theorem dX10_readLine_19 : decode cX10_readLine 19 = .ok (.iload_n 1, 1) := by decide +kernel
theorem dX10_readLine_20 : decode cX10_readLine 20 = .ok (.bipush (-4), 2) := by decide +kernel
theorem dX10_readLine_22 : decode cX10_readLine 22 = .ok (.if_icmp .eq 7, 3) := by decide +kernel
theorem dX10_readLine_25 : decode cX10_readLine 25 = .ok (.iconst 1, 1) := by decide +kernel
theorem dX10_readLine_26 : decode cX10_readLine 26 = .ok (.goto 4, 3) := by decide +kernel
theorem dX10_readLine_29 : decode cX10_readLine 29 = .ok (.iconst 0, 1) := by decide +kernel
theorem dX10_readLine_30 : decode cX10_readLine 30 = .ok (.iconst 2, 1) := by decide +kernel
theorem dX10_readLine_31 : decode cX10_readLine 31 = .ok (.invokevirtual 207, 3) := by decide +kernel
theorem dX10_readLine_34 : decode cX10_readLine 34 = .ok (.aload_n 0, 1) := by decide +kernel
theorem dX10_readLine_35 : decode cX10_readLine 35 = .ok (.getfield 169, 3) := by decide +kernel
theorem dX10_readLine_38 : decode cX10_readLine 38 = .ok (.ifCond .le 4, 3) := by decide +kernel
theorem dX10_readLine_41 : decode cX10_readLine 41 = .ok (.return_, 1) := by decide +kernel
theorem dX10_readLine_42 : decode cX10_readLine 42 = .ok (.aload_n 0, 1) := by decide +kernel
theorem dX10_readLine_43 : decode cX10_readLine 43 = .ok (.iload_n 1, 1) := by decide +kernel
theorem dX10_readLine_44 : decode cX10_readLine 44 = .ok (.bipush 8, 2) := by decide +kernel
theorem dX10_readLine_46 : decode cX10_readLine 46 = .ok (.if_icmp .ge 12, 3) := by decide +kernel
theorem dX10_readLine_49 : decode cX10_readLine 49 = .ok (.aload_n 0, 1) := by decide +kernel
theorem dX10_readLine_50 : decode cX10_readLine 50 = .ok (.getfield 58, 3) := by decide +kernel
theorem dX10_readLine_53 : decode cX10_readLine 53 = .ok (.iload_n 1, 1) := by decide +kernel
theorem dX10_readLine_54 : decode cX10_readLine 54 = .ok (.baload, 1) := by decide +kernel
theorem dX10_readLine_55 : decode cX10_readLine 55 = .ok (.ifCond .ne 7, 3) := by decide +kernel
theorem dX10_readLine_58 : decode cX10_readLine 58 = .ok (.iconst 1, 1) := by decide +kernel
theorem dX10_readLine_59 : decode cX10_readLine 59 = .ok (.goto 4, 3) := by decide +kernel
theorem dX10_readLine_62 : decode cX10_readLine 62 = .ok (.iconst 0, 1) := by decide +kernel
theorem dX10_readLine_63 : decode cX10_readLine 63 = .ok (.iconst 4, 1) := by decide +kernel
theorem dX10_readLine_64 : decode cX10_readLine 64 = .ok (.invokevirtual 207, 3) := by decide +kernel
theorem dX10_readLine_67 : decode cX10_readLine 67 = .ok (.aload_n 0, 1) := by decide +kernel
theorem dX10_readLine_68 : decode cX10_readLine 68 = .ok (.iload_n 1, 1) := by decide +kernel
theorem dX10_readLine_69 : decode cX10_readLine 69 = .ok (.bipush 9, 2) := by decide +kernel
theorem dX10_readLine_71 : decode cX10_readLine 71 = .ok (.if_icmp .lt 12, 3) := by decide +kernel
theorem dX10_readLine_74 : decode cX10_readLine 74 = .ok (.aload_n 0, 1) := by decide +kernel
theorem dX10_readLine_75 : decode cX10_readLine 75 = .ok (.getfield 130, 3) := by decide +kernel
theorem dX10_readLine_78 : decode cX10_readLine 78 = .ok (.bipush 24, 2) := by decide +kernel
theorem dX10_readLine_80 : decode cX10_readLine 80 = .ok (.if_icmp .ge 7, 3) := by decide +kernel
theorem dX10_readLine_83 : decode cX10_readLine 83 = .ok (.iconst 1, 1) := by decide +kernel
theorem dX10_readLine_84 : decode cX10_readLine 84 = .ok (.goto 4, 3) := by decide +kernel
theorem dX10_readLine_87 : decode cX10_readLine 87 = .ok (.iconst 0, 1) := by decide +kernel
theorem dX10_readLine_88 : decode cX10_readLine 88 = .ok (.iconst 5, 1) := by decide +kernel
theorem dX10_readLine_89 : decode cX10_readLine 89 = .ok (.invokevirtual 207, 3) := by decide +kernel
theorem dX10_readLine_92 : decode cX10_readLine 92 = .ok (.aload_n 0, 1) := by decide +kernel
theorem dX10_readLine_93 : decode cX10_readLine 93 = .ok (.getfield 58, 3) := by decide +kernel
theorem dX10_readLine_96 : decode cX10_readLine 96 = .ok (.iload_n 1, 1) := by decide +kernel
theorem dX10_readLine_97 : decode cX10_readLine 97 = .ok (.iconst 1, 1) := by decide +kernel
theorem dX10_readLine_98 : decode cX10_readLine 98 = .ok (.bastore, 1) := by decide +kernel
theorem dX10_readLine_99 : decode cX10_readLine 99 = .ok (.aload_n 0, 1) := by decide +kernel
theorem dX10_readLine_100 : decode cX10_readLine 100 = .ok (.invokevirtual 211, 3) := by decide +kernel
theorem dX10_readLine_103 : decode cX10_readLine 103 = .ok (.iload_n 1, 1) := by decide +kernel
theorem dX10_readLine_104 : decode cX10_readLine 104 = .ok (.ifCond .ne 10, 3) := by decide +kernel
theorem dX10_readLine_107 : decode cX10_readLine 107 = .ok (.aload_n 0, 1) := by decide +kernel
theorem dX10_readLine_108 : decode cX10_readLine 108 = .ok (.invokevirtual 231, 3) := by decide +kernel
theorem dX10_readLine_111 : decode cX10_readLine 111 = .ok (.goto 48, 3) := by decide +kernel
theorem dX10_readLine_114 : decode cX10_readLine 114 = .ok (.iload_n 1, 1) := by decide +kernel
theorem dX10_readLine_115 : decode cX10_readLine 115 = .ok (.bipush 8, 2) := by decide +kernel
theorem dX10_readLine_117 : decode cX10_readLine 117 = .ok (.if_icmp .ge 24, 3) := by decide +kernel
theorem dX10_readLine_120 : decode cX10_readLine 120 = .ok (.aload_n 0, 1) := by decide +kernel
theorem dX10_readLine_121 : decode cX10_readLine 121 = .ok (.getfield 37, 3) := by decide +kernel
theorem dX10_readLine_124 : decode cX10_readLine 124 = .ok (.iload_n 1, 1) := by decide +kernel
theorem dX10_readLine_125 : decode cX10_readLine 125 = .ok (.aload_n 0, 1) := by decide +kernel
theorem dX10_readLine_126 : decode cX10_readLine 126 = .ok (.iload_n 1, 1) := by decide +kernel
theorem dX10_readLine_127 : decode cX10_readLine 127 = .ok (.invokestatic 234, 3) := by decide +kernel
theorem dX10_readLine_130 : decode cX10_readLine 130 = .ok (.iload_n 1, 1) := by decide +kernel
theorem dX10_readLine_131 : decode cX10_readLine 131 = .ok (.invokestatic 237, 3) := by decide +kernel
theorem dX10_readLine_134 : decode cX10_readLine 134 = .ok (.invokevirtual 219, 3) := by decide +kernel
theorem dX10_readLine_137 : decode cX10_readLine 137 = .ok (.iastore, 1) := by decide +kernel
theorem dX10_readLine_138 : decode cX10_readLine 138 = .ok (.goto 21, 3) := by decide +kernel
theorem dX10_readLine_141 : decode cX10_readLine 141 = .ok (.iload_n 1, 1) := by decide +kernel
theorem dX10_readLine_142 : decode cX10_readLine 142 = .ok (.bipush 8, 2) := by decide +kernel
theorem dX10_readLine_144 : decode cX10_readLine 144 = .ok (.if_icmp .ne 10, 3) := by decide +kernel
theorem dX10_readLine_147 : decode cX10_readLine 147 = .ok (.aload_n 0, 1) := by decide +kernel
theorem dX10_readLine_148 : decode cX10_readLine 148 = .ok (.invokevirtual 240, 3) := by decide +kernel
theorem dX10_readLine_151 : decode cX10_readLine 151 = .ok (.goto 8, 3) := by decide +kernel
theorem dX10_readLine_154 : decode cX10_readLine 154 = .ok (.aload_n 0, 1) := by decide +kernel
theorem dX10_readLine_155 : decode cX10_readLine 155 = .ok (.iload_n 1, 1) := by decide +kernel
theorem dX10_readLine_156 : decode cX10_readLine 156 = .ok (.invokevirtual 243, 3) := by decide +kernel
theorem dX10_readLine_159 : decode cX10_readLine 159 = .ok (.aload_n 0, 1) := by decide +kernel
theorem dX10_readLine_160 : decode cX10_readLine 160 = .ok (.getfield 169, 3) := by decide +kernel
theorem dX10_readLine_163 : decode cX10_readLine 163 = .ok (.ifCond .ne 21, 3) := by decide +kernel
theorem dX10_readLine_166 : decode cX10_readLine 166 = .ok (.aload_n 0, 1) := by decide +kernel
theorem dX10_readLine_167 : decode cX10_readLine 167 = .ok (.aload_n 0, 1) := by decide +kernel
theorem dX10_readLine_168 : decode cX10_readLine 168 = .ok (.getfield 193, 3) := by decide +kernel
theorem dX10_readLine_171 : decode cX10_readLine 171 = .ok (.iconst 4, 1) := by decide +kernel
theorem dX10_readLine_172 : decode cX10_readLine 172 = .ok (.if_icmp .ne 7, 3) := by decide +kernel
theorem dX10_readLine_175 : decode cX10_readLine 175 = .ok (.iconst 1, 1) := by decide +kernel
theorem dX10_readLine_176 : decode cX10_readLine 176 = .ok (.goto 4, 3) := by decide +kernel
theorem dX10_readLine_179 : decode cX10_readLine 179 = .ok (.iconst 0, 1) := by decide +kernel
theorem dX10_readLine_180 : decode cX10_readLine 180 = .ok (.iconst 2, 1) := by decide +kernel
theorem dX10_readLine_181 : decode cX10_readLine 181 = .ok (.invokevirtual 207, 3) := by decide +kernel
theorem dX10_readLine_184 : decode cX10_readLine 184 = .ok (.aload_n 0, 1) := by decide +kernel
theorem dX10_readLine_185 : decode cX10_readLine 185 = .ok (.invokevirtual 211, 3) := by decide +kernel
theorem dX10_readLine_188 : decode cX10_readLine 188 = .ok (.return_, 1) := by decide +kernel
def j_X10_readLine_184 (a : Nat)  (g : zG) : Option (Int32 × zG) :=
  zb (f_X10_next a g) (fun v1 g2 => some ((0, g2)))
def j_X10_readLine_180 (a : Nat) (s0 : Nat) (s1 : Int32) (g : zG) : Option (Int32 × zG) :=
  zb (f_X10_wants s0 s1 2 g) (fun v3 g4 => j_X10_readLine_184 a g4)
def j_X10_readLine_159 (a : Nat)  (g : zG) : Option (Int32 × zG) :=
  if (g.1 a 32) = 0 then (if (g.1 a 30) = 4 then (j_X10_readLine_180 a a 1 g) else (j_X10_readLine_180 a a 0 g)) else (j_X10_readLine_184 a g)
def j_X10_readLine_88 (a : Nat) (l1 : Int32) (s0 : Nat) (s1 : Int32) (g : zG) : Option (Int32 × zG) :=
  zb (f_X10_wants s0 s1 5 g) (fun v7 g8 => zc (zin l1 13) (zl (zsi g8 (g8.2.1 a 22) l1.toNatClampNeg (vp_nar .boolean 1)) (fun g10 => zb (f_X10_next a g10) (fun v11 g12 => if l1 = 0 then (zb (f_X10_readChain a g12) (fun v14 g15 => j_X10_readLine_159 a g15)) else (if 8 ≤ l1 then (if l1 = 8 then (zb (f_X10_readHole a g12) (fun v18 g19 => j_X10_readLine_159 a g19)) else (zb (f_X10_readOrder a l1 g12) (fun v20 g21 => j_X10_readLine_159 a g21))) else (zb (f_X10_least l1 g12) (fun v23 g24 => zb (f_X10_most l1 g24) (fun v25 g26 => zb (f_X10_readNumber a v23 v25 g26) (fun v27 g28 => zc (zin l1 8) (zl (zsi g28 (g12.2.1 a 12) l1.toNatClampNeg v27) (fun g29 => j_X10_readLine_159 a g29)))))))))))
def j_X10_readLine_83 (a : Nat) (l1 : Int32) (s0 : Nat) (g : zG) : Option (Int32 × zG) :=
  j_X10_readLine_88 a l1 s0 1 g
def j_X10_readLine_63 (a : Nat) (l1 : Int32) (s0 : Nat) (s1 : Int32) (g : zG) : Option (Int32 × zG) :=
  zb (f_X10_wants s0 s1 4 g) (fun v30 g31 => if l1 < 9 then (j_X10_readLine_83 a l1 a g31) else (if 24 ≤ (g31.1 a 15) then (j_X10_readLine_88 a l1 a 0 g31) else (j_X10_readLine_83 a l1 a g31)))
def j_X10_readLine_58 (a : Nat) (l1 : Int32) (s0 : Nat) (g : zG) : Option (Int32 × zG) :=
  j_X10_readLine_63 a l1 s0 1 g
def j_X10_readLine_30 (a : Nat) (l1 : Int32) (s0 : Nat) (s1 : Int32) (g : zG) : Option (Int32 × zG) :=
  zb (f_X10_wants s0 s1 2 g) (fun v34 g35 => if (g35.1 a 32) ≤ 0 then (if 8 ≤ l1 then (j_X10_readLine_58 a l1 a g35) else (zc (zin l1 13) (if (g35.1 (g35.2.1 a 22) l1.toNatClampNeg) = 0 then (j_X10_readLine_58 a l1 a g35) else (j_X10_readLine_63 a l1 a 0 g35)))) else (some ((0, g35))))
def j_X10_readLine_17 (a : Nat) (s0 : Int32) (g : zG) : Option (Int32 × zG) :=
  if s0 = (-4) then (j_X10_readLine_30 a s0 a 0 g) else (j_X10_readLine_30 a s0 a 1 g)
def f_X10_readLine (a : Nat) (g : zG) : Option (Int32 × zG) :=
  if (g.1 a 30) = 1 then (zb (f_X10_nameNow a g) (fun v42 g43 => j_X10_readLine_17 a v42 g43)) else (j_X10_readLine_17 a (-4) g)
abbrev rm_X10_readLine : Room := { frames := 4, cells := 0, slots := 0, locals := 94 }
set_option maxRecDepth 100000 in
set_option maxHeartbeats 4000000 in
theorem c_X10_readLine (l : Launch) (D : zD) (sz : Nat) (τ : zT) (g : zG) (a : Nat) (hta : τ a = some (.inr 10)) : zCon l D yX10_readLine cX10_readLine 2 none rm_X10_readLine 0 0 zrV [.ref a] sz τ g τ (f_X10_readLine a g) := by
  refine zCon.of (by decide) (Nat.le_of_ble_eq_true rfl) (fun E r g' hl hR hsz hnm F => ?_)
  have F : zF E D (zA τ sz) cX10_readLine "TypeChainModel" 2 none := F
  show zSim (fun q : Int32 × zG => q = (r, g')) (f_X10_readLine a g) (zAt E D (zA τ sz) (zQ E D zrV 0 0 sz τ τ r g') 2 (sz, τ, 0, 0) g 0 [(0, .ref a)] [])
  have hj_X10_readLine_184 : ∀  (g_184 : zG), zSim (fun q : Int32 × zG => q = (r, g')) (j_X10_readLine_184 a g_184) (zAt E D (zA τ sz) (zQ E D zrV 0 0 sz τ τ r g') 2 (sz, τ, 0, 0) g_184 184 [(0, .ref a)] []) := by
    intro g_184
    unfold j_X10_readLine_184
    refine z_aload_n F 0 rfl rfl dX10_readLine_184 ?_
    refine k_X10_next F (by rw [hR]; exact ⟨by decide, by decide⟩) q_1089 hta ⟨Nat.zero_le _, Nat.zero_le _⟩ (Nat.le_of_ble_eq_true rfl) dX10_readLine_185 (fun v1 g2 => ?_)
    exact z_vreturn F rfl rfl rfl rfl (fun h => h) dX10_readLine_188
  have hj_X10_readLine_180 : ∀ (s0_180 : Nat) (s1_180 : Int32) (g_180 : zG), τ s0_180 = some (.inr 10) → zSim (fun q : Int32 × zG => q = (r, g')) (j_X10_readLine_180 a s0_180 s1_180 g_180) (zAt E D (zA τ sz) (zQ E D zrV 0 0 sz τ τ r g') 2 (sz, τ, 0, 0) g_180 180 [(0, .ref a)] [.int s1_180, .ref s0_180]) := by
    intro s0_180 s1_180 g_180 ht_s0_180
    unfold j_X10_readLine_180
    refine z_iconst (v := 2) F (by decide) dX10_readLine_180 ?_
    refine k_X10_wants F (by rw [hR]; exact ⟨by decide, by decide⟩) q_1101 ht_s0_180 ⟨Nat.zero_le _, Nat.zero_le _⟩ (Nat.le_of_ble_eq_true rfl) dX10_readLine_181 (fun v3 g4 => ?_)
    exact hj_X10_readLine_184 g4
  have hj_X10_readLine_159 : ∀  (g_159 : zG), zSim (fun q : Int32 × zG => q = (r, g')) (j_X10_readLine_159 a g_159) (zAt E D (zA τ sz) (zQ E D zrV 0 0 sz τ τ r g') 2 (sz, τ, 0, 0) g_159 159 [(0, .ref a)] []) := by
    intro g_159
    unfold j_X10_readLine_159
    refine z_aload_n F 0 rfl rfl dX10_readLine_159 ?_
    refine gf_X10_169 F hta dX10_readLine_160 ?_
    refine z_if_ne (tgt := 184) F dX10_readLine_163 (by decide) (fun c5 => ?_) (fun c5 => ?_)
    · refine z_aload_n F 0 rfl rfl dX10_readLine_166 ?_
      refine z_aload_n F 0 rfl rfl dX10_readLine_167 ?_
      refine gf_X10_193 F hta dX10_readLine_168 ?_
      refine z_iconst (v := 4) F (by decide) dX10_readLine_171 ?_
      refine z_icmp_ne (tgt := 179) F dX10_readLine_172 (by decide) (fun c6 => ?_) (fun c6 => ?_)
      · refine z_iconst (v := 1) F (by decide) dX10_readLine_175 ?_
        refine z_goto (tgt := 180) F dX10_readLine_176 (by decide) ?_
        exact hj_X10_readLine_180 a 1 g_159 hta
      · refine z_iconst (v := 0) F (by decide) dX10_readLine_179 ?_
        exact hj_X10_readLine_180 a 0 g_159 hta
    · exact hj_X10_readLine_184 g_159
  have hj_X10_readLine_88 : ∀ (l1_88 : Int32) (s0_88 : Nat) (s1_88 : Int32) (g_88 : zG), τ s0_88 = some (.inr 10) → zSim (fun q : Int32 × zG => q = (r, g')) (j_X10_readLine_88 a l1_88 s0_88 s1_88 g_88) (zAt E D (zA τ sz) (zQ E D zrV 0 0 sz τ τ r g') 2 (sz, τ, 0, 0) g_88 88 [(0, .ref a), (1, .int l1_88)] [.int s1_88, .ref s0_88]) := by
    intro l1_88 s0_88 s1_88 g_88 ht_s0_88
    unfold j_X10_readLine_88
    refine z_iconst (v := 5) F (by decide) dX10_readLine_88 ?_
    refine k_X10_wants F (by rw [hR]; exact ⟨by decide, by decide⟩) q_1101 ht_s0_88 ⟨Nat.zero_le _, Nat.zero_le _⟩ (Nat.le_of_ble_eq_true rfl) dX10_readLine_89 (fun v7 g8 => ?_)
    refine z_aload_n F 0 rfl rfl dX10_readLine_92 ?_
    refine gf_X10_58 F hta dX10_readLine_93 (fun ht9 => ?_)
    refine z_iload_n F 1 rfl rfl dX10_readLine_96 ?_
    refine z_iconst (v := 1) F (by decide) dX10_readLine_97 ?_
    refine z_zast F ht9 dX10_readLine_98 ?_
    refine z_letg (fun g10 => ?_)
    refine z_aload_n F 0 rfl rfl dX10_readLine_99 ?_
    refine k_X10_next F (by rw [hR]; exact ⟨by decide, by decide⟩) q_1089 hta ⟨Nat.zero_le _, Nat.zero_le _⟩ (Nat.le_of_ble_eq_true rfl) dX10_readLine_100 (fun v11 g12 => ?_)
    refine z_iload_n F 1 rfl rfl dX10_readLine_103 ?_
    refine z_if_ne (tgt := 114) F dX10_readLine_104 (by decide) (fun c13 => ?_) (fun c13 => ?_)
    · refine z_aload_n F 0 rfl rfl dX10_readLine_107 ?_
      refine k_X10_readChain F (by rw [hR]; exact ⟨by decide, by decide⟩) q_1121 hta ⟨Nat.zero_le _, Nat.zero_le _⟩ (Nat.le_of_ble_eq_true rfl) dX10_readLine_108 (fun v14 g15 => ?_)
      refine z_goto (tgt := 159) F dX10_readLine_111 (by decide) ?_
      refine z_sub (lv' := [(0, .ref a)]) [0] rfl ?_
      exact hj_X10_readLine_159 g15
    · refine z_iload_n F 1 rfl rfl dX10_readLine_114 ?_
      refine z_bipush (v := 8) F (by decide) dX10_readLine_115 ?_
      refine z_icmp_ge (tgt := 141) F dX10_readLine_117 (by decide) (fun c16 => ?_) (fun c16 => ?_)
      · refine z_iload_n F 1 rfl rfl dX10_readLine_141 ?_
        refine z_bipush (v := 8) F (by decide) dX10_readLine_142 ?_
        refine z_icmp_ne (tgt := 154) F dX10_readLine_144 (by decide) (fun c17 => ?_) (fun c17 => ?_)
        · refine z_aload_n F 0 rfl rfl dX10_readLine_147 ?_
          refine k_X10_readHole F (by rw [hR]; exact ⟨by decide, by decide⟩) q_1140 hta ⟨Nat.zero_le _, Nat.zero_le _⟩ (Nat.le_of_ble_eq_true rfl) dX10_readLine_148 (fun v18 g19 => ?_)
          refine z_goto (tgt := 159) F dX10_readLine_151 (by decide) ?_
          refine z_sub (lv' := [(0, .ref a)]) [0] rfl ?_
          exact hj_X10_readLine_159 g19
        · refine z_aload_n F 0 rfl rfl dX10_readLine_154 ?_
          refine z_iload_n F 1 rfl rfl dX10_readLine_155 ?_
          refine k_X10_readOrder F (by rw [hR]; exact ⟨by decide, by decide⟩) q_1148 hta ⟨Nat.zero_le _, Nat.zero_le _⟩ (Nat.le_of_ble_eq_true rfl) dX10_readLine_156 (fun v20 g21 => ?_)
          refine z_sub (lv' := [(0, .ref a)]) [0] rfl ?_
          exact hj_X10_readLine_159 g21
      · refine z_aload_n F 0 rfl rfl dX10_readLine_120 ?_
        refine gf_X10_37 F hta dX10_readLine_121 (fun ht22 => ?_)
        refine z_iload_n F 1 rfl rfl dX10_readLine_124 ?_
        refine z_aload_n F 0 rfl rfl dX10_readLine_125 ?_
        refine z_iload_n F 1 rfl rfl dX10_readLine_126 ?_
        refine k_X10_least F (by rw [hR]; exact ⟨by decide, by decide⟩) q_1130  ⟨Nat.zero_le _, Nat.zero_le _⟩ (Nat.le_of_ble_eq_true rfl) dX10_readLine_127 (fun v23 g24 => ?_)
        refine z_iload_n F 1 rfl rfl dX10_readLine_130 ?_
        refine k_X10_most F (by rw [hR]; exact ⟨by decide, by decide⟩) q_1133  ⟨Nat.zero_le _, Nat.zero_le _⟩ (Nat.le_of_ble_eq_true rfl) dX10_readLine_131 (fun v25 g26 => ?_)
        refine k_X10_readNumber F (by rw [hR]; exact ⟨by decide, by decide⟩) q_1136 hta ⟨Nat.zero_le _, Nat.zero_le _⟩ (Nat.le_of_ble_eq_true rfl) dX10_readLine_134 (fun v27 g28 => ?_)
        refine z_iast F ht22 dX10_readLine_137 ?_
        refine z_letg (fun g29 => ?_)
        refine z_goto (tgt := 159) F dX10_readLine_138 (by decide) ?_
        refine z_sub (lv' := [(0, .ref a)]) [0] rfl ?_
        exact hj_X10_readLine_159 g29
  have hj_X10_readLine_83 : ∀ (l1_83 : Int32) (s0_83 : Nat) (g_83 : zG), τ s0_83 = some (.inr 10) → zSim (fun q : Int32 × zG => q = (r, g')) (j_X10_readLine_83 a l1_83 s0_83 g_83) (zAt E D (zA τ sz) (zQ E D zrV 0 0 sz τ τ r g') 2 (sz, τ, 0, 0) g_83 83 [(0, .ref a), (1, .int l1_83)] [.ref s0_83]) := by
    intro l1_83 s0_83 g_83 ht_s0_83
    unfold j_X10_readLine_83
    refine z_iconst (v := 1) F (by decide) dX10_readLine_83 ?_
    refine z_goto (tgt := 88) F dX10_readLine_84 (by decide) ?_
    exact hj_X10_readLine_88 l1_83 s0_83 1 g_83 ht_s0_83
  have hj_X10_readLine_63 : ∀ (l1_63 : Int32) (s0_63 : Nat) (s1_63 : Int32) (g_63 : zG), τ s0_63 = some (.inr 10) → zSim (fun q : Int32 × zG => q = (r, g')) (j_X10_readLine_63 a l1_63 s0_63 s1_63 g_63) (zAt E D (zA τ sz) (zQ E D zrV 0 0 sz τ τ r g') 2 (sz, τ, 0, 0) g_63 63 [(0, .ref a), (1, .int l1_63)] [.int s1_63, .ref s0_63]) := by
    intro l1_63 s0_63 s1_63 g_63 ht_s0_63
    unfold j_X10_readLine_63
    refine z_iconst (v := 4) F (by decide) dX10_readLine_63 ?_
    refine k_X10_wants F (by rw [hR]; exact ⟨by decide, by decide⟩) q_1101 ht_s0_63 ⟨Nat.zero_le _, Nat.zero_le _⟩ (Nat.le_of_ble_eq_true rfl) dX10_readLine_64 (fun v30 g31 => ?_)
    refine z_aload_n F 0 rfl rfl dX10_readLine_67 ?_
    refine z_iload_n F 1 rfl rfl dX10_readLine_68 ?_
    refine z_bipush (v := 9) F (by decide) dX10_readLine_69 ?_
    refine z_icmp_lt (tgt := 83) F dX10_readLine_71 (by decide) (fun c32 => ?_) (fun c32 => ?_)
    · exact hj_X10_readLine_83 l1_63 a g31 hta
    · refine z_aload_n F 0 rfl rfl dX10_readLine_74 ?_
      refine gf_X10_130 F hta dX10_readLine_75 ?_
      refine z_bipush (v := 24) F (by decide) dX10_readLine_78 ?_
      refine z_icmp_ge (tgt := 87) F dX10_readLine_80 (by decide) (fun c33 => ?_) (fun c33 => ?_)
      · refine z_iconst (v := 0) F (by decide) dX10_readLine_87 ?_
        exact hj_X10_readLine_88 l1_63 a 0 g31 hta
      · exact hj_X10_readLine_83 l1_63 a g31 hta
  have hj_X10_readLine_58 : ∀ (l1_58 : Int32) (s0_58 : Nat) (g_58 : zG), τ s0_58 = some (.inr 10) → zSim (fun q : Int32 × zG => q = (r, g')) (j_X10_readLine_58 a l1_58 s0_58 g_58) (zAt E D (zA τ sz) (zQ E D zrV 0 0 sz τ τ r g') 2 (sz, τ, 0, 0) g_58 58 [(0, .ref a), (1, .int l1_58)] [.ref s0_58]) := by
    intro l1_58 s0_58 g_58 ht_s0_58
    unfold j_X10_readLine_58
    refine z_iconst (v := 1) F (by decide) dX10_readLine_58 ?_
    refine z_goto (tgt := 63) F dX10_readLine_59 (by decide) ?_
    exact hj_X10_readLine_63 l1_58 s0_58 1 g_58 ht_s0_58
  have hj_X10_readLine_30 : ∀ (l1_30 : Int32) (s0_30 : Nat) (s1_30 : Int32) (g_30 : zG), τ s0_30 = some (.inr 10) → zSim (fun q : Int32 × zG => q = (r, g')) (j_X10_readLine_30 a l1_30 s0_30 s1_30 g_30) (zAt E D (zA τ sz) (zQ E D zrV 0 0 sz τ τ r g') 2 (sz, τ, 0, 0) g_30 30 [(0, .ref a), (1, .int l1_30)] [.int s1_30, .ref s0_30]) := by
    intro l1_30 s0_30 s1_30 g_30 ht_s0_30
    unfold j_X10_readLine_30
    refine z_iconst (v := 2) F (by decide) dX10_readLine_30 ?_
    refine k_X10_wants F (by rw [hR]; exact ⟨by decide, by decide⟩) q_1101 ht_s0_30 ⟨Nat.zero_le _, Nat.zero_le _⟩ (Nat.le_of_ble_eq_true rfl) dX10_readLine_31 (fun v34 g35 => ?_)
    refine z_aload_n F 0 rfl rfl dX10_readLine_34 ?_
    refine gf_X10_169 F hta dX10_readLine_35 ?_
    refine z_if_le (tgt := 42) F dX10_readLine_38 (by decide) (fun c36 => ?_) (fun c36 => ?_)
    · refine z_aload_n F 0 rfl rfl dX10_readLine_42 ?_
      refine z_iload_n F 1 rfl rfl dX10_readLine_43 ?_
      refine z_bipush (v := 8) F (by decide) dX10_readLine_44 ?_
      refine z_icmp_ge (tgt := 58) F dX10_readLine_46 (by decide) (fun c37 => ?_) (fun c37 => ?_)
      · exact hj_X10_readLine_58 l1_30 a g35 hta
      · refine z_aload_n F 0 rfl rfl dX10_readLine_49 ?_
        refine gf_X10_58 F hta dX10_readLine_50 (fun ht38 => ?_)
        refine z_iload_n F 1 rfl rfl dX10_readLine_53 ?_
        refine z_zald F ht38 dX10_readLine_54 ?_
        refine z_if_ne (tgt := 62) F dX10_readLine_55 (by decide) (fun c39 => ?_) (fun c39 => ?_)
        · exact hj_X10_readLine_58 l1_30 a g35 hta
        · refine z_iconst (v := 0) F (by decide) dX10_readLine_62 ?_
          exact hj_X10_readLine_63 l1_30 a 0 g35 hta
    · exact z_vreturn F rfl rfl rfl rfl (fun h => h) dX10_readLine_41
  have hj_X10_readLine_17 : ∀ (s0_17 : Int32) (g_17 : zG), zSim (fun q : Int32 × zG => q = (r, g')) (j_X10_readLine_17 a s0_17 g_17) (zAt E D (zA τ sz) (zQ E D zrV 0 0 sz τ τ r g') 2 (sz, τ, 0, 0) g_17 17 [(0, .ref a)] [.int s0_17]) := by
    intro s0_17 g_17
    unfold j_X10_readLine_17
    refine z_istore_n (lv' := [(1, .int s0_17), (0, .ref a)]) F rfl (by decide) dX10_readLine_17 rfl ?_
    refine z_aload_n F 1 rfl rfl dX10_readLine_18 ?_
    refine z_iload_n F 0 rfl rfl dX10_readLine_19 ?_
    refine z_bipush (v := (-4)) F (by decide) dX10_readLine_20 ?_
    refine z_icmp_eq (tgt := 29) F dX10_readLine_22 (by decide) (fun c40 => ?_) (fun c40 => ?_)
    · refine z_iconst (v := 0) F (by decide) dX10_readLine_29 ?_
      refine z_sub (lv' := [(0, .ref a), (1, .int s0_17)]) [1, 0] rfl ?_
      exact hj_X10_readLine_30 s0_17 a 0 g_17 hta
    · refine z_iconst (v := 1) F (by decide) dX10_readLine_25 ?_
      refine z_goto (tgt := 30) F dX10_readLine_26 (by decide) ?_
      refine z_sub (lv' := [(0, .ref a), (1, .int s0_17)]) [1, 0] rfl ?_
      exact hj_X10_readLine_30 s0_17 a 1 g_17 hta
  unfold f_X10_readLine
  refine z_aload_n F 0 rfl rfl dX10_readLine_0 ?_
  refine gf_X10_193 F hta dX10_readLine_1 ?_
  refine z_iconst (v := 1) F (by decide) dX10_readLine_4 ?_
  refine z_icmp_ne (tgt := 15) F dX10_readLine_5 (by decide) (fun c41 => ?_) (fun c41 => ?_)
  · refine z_aload_n F 0 rfl rfl dX10_readLine_8 ?_
    refine k_X10_nameNow F (by rw [hR]; exact ⟨by decide, by decide⟩) q_1109 hta ⟨Nat.zero_le _, Nat.zero_le _⟩ (Nat.le_of_ble_eq_true rfl) dX10_readLine_9 (fun v42 g43 => ?_)
    refine z_goto (tgt := 17) F dX10_readLine_12 (by decide) ?_
    exact hj_X10_readLine_17 v42 g43
  · refine z_bipush (v := (-4)) F (by decide) dX10_readLine_15 ?_
    exact hj_X10_readLine_17 (-4) g
theorem k_X10_readLine {ρ : Type} {K : ρ → Prop} {E : zE} {D : zD} {A : Nat → Prop} {Q : State → Prop} {nL : Nat} {κ : zC} {g : zG} {pc : Nat} {lv : List (Nat × Value)} {st : List Value} {cc : ByteArray} {own : String} {ret : Option FieldType} (F : zF E D A cc own nL ret) {index : Nat} {h : Int32 → zG → Option ρ} {a : Nat}  (hR : 4 + 1 ≤ E.2.2.2.1.frames ∧ 8 + (2 + 11) + 94 ≤ E.2.2.2.1.locals) (hl : zTbl (.methodLink own index yX10_readLine)) (hta : κ.2.1 a = some (.inr 10)) (hc : κ.2.2.1 ≤ E.2.2.2.1.cells ∧ κ.2.2.2 ≤ E.2.2.2.1.slots) (hW : (st.map fun v => v.category).sum ≤ 8) (hd : decode cc pc = .ok (.invokevirtual index, 3)) (kk : ∀ r g', zSim K (h r g') (zAt E D A Q nL κ g' (pc + 3) lv (st))) : zSim K (zb (f_X10_readLine a g) h) (zAt E D A Q nL κ g pc lv (.ref a :: st)) :=
  z_callV F (n := 0) (As := []) (C := (RX10, TX10, 61)) ⟨q_1108, q_14, by decide +kernel, rfl, rfl, hR.1, hR.2⟩ (c_X10_readLine E.2.1 D κ.1 κ.2.1 g a hta) hl q_1107 q_1396 hta rfl rfl rfl hc hW hd kk _ rfl
theorem dX10_fault_0 : decode cX10_fault 0 = .ok (.aload_n 0, 1) := by decide +kernel
theorem dX10_fault_1 : decode cX10_fault 1 = .ok (.getfield 169, 3) := by decide +kernel
theorem dX10_fault_4 : decode cX10_fault 4 = .ok (.ireturn, 1) := by decide +kernel
def f_X10_fault (a : Nat) (g : zG) : Option (Int32 × zG) :=
  some ((g.1 a 32, g))
abbrev rm_X10_fault : Room := { frames := 0, cells := 0, slots := 0, locals := 0 }
set_option maxRecDepth 100000 in
set_option maxHeartbeats 4000000 in
theorem c_X10_fault (l : Launch) (D : zD) (sz : Nat) (τ : zT) (g : zG) (a : Nat) (hta : τ a = some (.inr 10)) : zCon l D yX10_fault cX10_fault 1 (some .int) rm_X10_fault 0 0 zrI [.ref a] sz τ g τ (f_X10_fault a g) := by
  refine zCon.of (by decide) (Nat.le_of_ble_eq_true rfl) (fun E r g' hl hR hsz hnm F => ?_)
  have F : zF E D (zA τ sz) cX10_fault "TypeChainModel" 1 (some .int) := F
  show zSim (fun q : Int32 × zG => q = (r, g')) (f_X10_fault a g) (zAt E D (zA τ sz) (zQ E D zrI 0 0 sz τ τ r g') 1 (sz, τ, 0, 0) g 0 [(0, .ref a)] [])
  unfold f_X10_fault
  refine z_aload_n F 0 rfl rfl dX10_fault_0 ?_
  refine gf_X10_169 F hta dX10_fault_1 ?_
  exact z_ireturn F rfl rfl rfl rfl (fun h => h) dX10_fault_4
theorem k_X10_fault {ρ : Type} {K : ρ → Prop} {E : zE} {D : zD} {A : Nat → Prop} {Q : State → Prop} {nL : Nat} {κ : zC} {g : zG} {pc : Nat} {lv : List (Nat × Value)} {st : List Value} {cc : ByteArray} {own : String} {ret : Option FieldType} (F : zF E D A cc own nL ret) {index : Nat} {h : Int32 → zG → Option ρ} {a : Nat}  (hR : 0 + 1 ≤ E.2.2.2.1.frames ∧ 8 + (1 + 11) + 0 ≤ E.2.2.2.1.locals) (hl : zTbl (.methodLink own index yX10_fault)) (hta : κ.2.1 a = some (.inr 10)) (hc : κ.2.2.1 ≤ E.2.2.2.1.cells ∧ κ.2.2.2 ≤ E.2.2.2.1.slots) (hW : (st.map fun v => v.category).sum ≤ 8) (hd : decode cc pc = .ok (.invokevirtual index, 3)) (kk : ∀ r g', zSim K (h r g') (zAt E D A Q nL κ g' (pc + 3) lv (.int r :: st))) : zSim K (zb (f_X10_fault a g) h) (zAt E D A Q nL κ g pc lv (.ref a :: st)) :=
  z_callV F (n := 0) (As := []) (C := (RX10, TX10, 61)) ⟨q_1155, q_14, by decide +kernel, rfl, rfl, hR.1, hR.2⟩ (c_X10_fault E.2.1 D κ.1 κ.2.1 g a hta) hl q_1153 q_1154 hta rfl rfl rfl hc hW hd kk _ rfl
theorem dX10_rule_0 : decode cX10_rule 0 = .ok (.iload_n 1, 1) := by decide +kernel
theorem dX10_rule_1 : decode cX10_rule 1 = .ok (.i2l, 1) := by decide +kernel
theorem dX10_rule_2 : decode cX10_rule 2 = .ok (.lconst 0, 1) := by decide +kernel
theorem dX10_rule_3 : decode cX10_rule 3 = .ok (.ldc2_w 250, 3) := by decide +kernel
theorem dX10_rule_6 : decode cX10_rule 6 = .ok (.invokestatic 165, 3) := by decide +kernel
theorem dX10_rule_9 : decode cX10_rule 9 = .ok (.ifCond .ne 7, 3) := by decide +kernel
theorem dX10_rule_12 : decode cX10_rule 12 = .ok (.iconst (-1), 1) := by decide +kernel
theorem dX10_rule_13 : decode cX10_rule 13 = .ok (.goto 33, 3) := by decide +kernel
theorem dX10_rule_16 : decode cX10_rule 16 = .ok (.iload_n 1, 1) := by decide +kernel
theorem dX10_rule_17 : decode cX10_rule 17 = .ok (.ifCond .ne 10, 3) := by decide +kernel
theorem dX10_rule_20 : decode cX10_rule 20 = .ok (.aload_n 0, 1) := by decide +kernel
theorem dX10_rule_21 : decode cX10_rule 21 = .ok (.getfield 139, 3) := by decide +kernel
theorem dX10_rule_24 : decode cX10_rule 24 = .ok (.goto 22, 3) := by decide +kernel
theorem dX10_rule_27 : decode cX10_rule 27 = .ok (.iload_n 1, 1) := by decide +kernel
theorem dX10_rule_28 : decode cX10_rule 28 = .ok (.bipush 8, 2) := by decide +kernel
theorem dX10_rule_30 : decode cX10_rule 30 = .ok (.if_icmp .ne 10, 3) := by decide +kernel
theorem dX10_rule_33 : decode cX10_rule 33 = .ok (.aload_n 0, 1) := by decide +kernel
theorem dX10_rule_34 : decode cX10_rule 34 = .ok (.getfield 142, 3) := by decide +kernel
theorem dX10_rule_37 : decode cX10_rule 37 = .ok (.goto 9, 3) := by decide +kernel
theorem dX10_rule_40 : decode cX10_rule 40 = .ok (.aload_n 0, 1) := by decide +kernel
theorem dX10_rule_41 : decode cX10_rule 41 = .ok (.getfield 13, 3) := by decide +kernel
theorem dX10_rule_44 : decode cX10_rule 44 = .ok (.iload_n 1, 1) := by decide +kernel
theorem dX10_rule_45 : decode cX10_rule 45 = .ok (.iaload, 1) := by decide +kernel
theorem dX10_rule_46 : decode cX10_rule 46 = .ok (.ireturn, 1) := by decide +kernel
def f_X10_rule (a : Nat) (x1 : Int32) (g : zG) : Option (Int32 × zG) :=
  zb (f_X10_in x1.toInt64 0 8 g) (fun v1 g2 => if v1 = 0 then (some (((-1), g2))) else (if x1 = 0 then (some ((g2.1 a 0, g2))) else (if x1 = 8 then (some ((g2.1 a 4, g2))) else (zc (zin x1 8) (some ((g2.1 (g2.2.1 a 2) x1.toNatClampNeg, g2)))))))
abbrev rm_X10_rule : Room := { frames := 1, cells := 0, slots := 0, locals := 25 }
set_option maxRecDepth 100000 in
set_option maxHeartbeats 4000000 in
theorem c_X10_rule (l : Launch) (D : zD) (sz : Nat) (τ : zT) (g : zG) (a : Nat) (x1 : Int32) (hta : τ a = some (.inr 10)) : zCon l D yX10_rule cX10_rule 2 (some .int) rm_X10_rule 0 0 zrI [.ref a, .int x1] sz τ g τ (f_X10_rule a x1 g) := by
  refine zCon.of (by decide) (Nat.le_of_ble_eq_true rfl) (fun E r g' hl hR hsz hnm F => ?_)
  have F : zF E D (zA τ sz) cX10_rule "TypeChainModel" 2 (some .int) := F
  show zSim (fun q : Int32 × zG => q = (r, g')) (f_X10_rule a x1 g) (zAt E D (zA τ sz) (zQ E D zrI 0 0 sz τ τ r g') 2 (sz, τ, 0, 0) g 0 [(0, .ref a), (1, .int x1)] [])
  unfold f_X10_rule
  refine z_iload_n F 1 rfl rfl dX10_rule_0 ?_
  refine z_i2l F dX10_rule_1 ?_
  refine z_lconst (v := 0) F (by decide) dX10_rule_2 ?_
  refine z_ldc2 F q_1160 dX10_rule_3 ?_
  refine k_X10_in F (by rw [hR]; exact ⟨by decide, by decide⟩) q_1082  ⟨Nat.zero_le _, Nat.zero_le _⟩ (Nat.le_of_ble_eq_true rfl) dX10_rule_6 (fun v1 g2 => ?_)
  refine z_if_ne (tgt := 16) F dX10_rule_9 (by decide) (fun c3 => ?_) (fun c3 => ?_)
  · refine z_iconst (v := (-1)) F (by decide) dX10_rule_12 ?_
    refine z_goto (tgt := 46) F dX10_rule_13 (by decide) ?_
    exact z_ireturn F rfl rfl rfl rfl (fun h => h) dX10_rule_46
  · refine z_iload_n F 1 rfl rfl dX10_rule_16 ?_
    refine z_if_ne (tgt := 27) F dX10_rule_17 (by decide) (fun c4 => ?_) (fun c4 => ?_)
    · refine z_aload_n F 0 rfl rfl dX10_rule_20 ?_
      refine gf_X10_139 F hta dX10_rule_21 ?_
      refine z_goto (tgt := 46) F dX10_rule_24 (by decide) ?_
      exact z_ireturn F rfl rfl rfl rfl (fun h => h) dX10_rule_46
    · refine z_iload_n F 1 rfl rfl dX10_rule_27 ?_
      refine z_bipush (v := 8) F (by decide) dX10_rule_28 ?_
      refine z_icmp_ne (tgt := 40) F dX10_rule_30 (by decide) (fun c5 => ?_) (fun c5 => ?_)
      · refine z_aload_n F 0 rfl rfl dX10_rule_33 ?_
        refine gf_X10_142 F hta dX10_rule_34 ?_
        refine z_goto (tgt := 46) F dX10_rule_37 (by decide) ?_
        exact z_ireturn F rfl rfl rfl rfl (fun h => h) dX10_rule_46
      · refine z_aload_n F 0 rfl rfl dX10_rule_40 ?_
        refine gf_X10_13 F hta dX10_rule_41 (fun ht6 => ?_)
        refine z_iload_n F 1 rfl rfl dX10_rule_44 ?_
        refine z_iald F ht6 dX10_rule_45 ?_
        exact z_ireturn F rfl rfl rfl rfl (fun h => h) dX10_rule_46
theorem k_X10_rule {ρ : Type} {K : ρ → Prop} {E : zE} {D : zD} {A : Nat → Prop} {Q : State → Prop} {nL : Nat} {κ : zC} {g : zG} {pc : Nat} {lv : List (Nat × Value)} {st : List Value} {cc : ByteArray} {own : String} {ret : Option FieldType} (F : zF E D A cc own nL ret) {index : Nat} {h : Int32 → zG → Option ρ} {a : Nat} {x1 : Int32}  (hR : 1 + 1 ≤ E.2.2.2.1.frames ∧ 8 + (2 + 11) + 25 ≤ E.2.2.2.1.locals) (hl : zTbl (.methodLink own index yX10_rule)) (hta : κ.2.1 a = some (.inr 10)) (hc : κ.2.2.1 ≤ E.2.2.2.1.cells ∧ κ.2.2.2 ≤ E.2.2.2.1.slots) (hW : (st.map fun v => v.category).sum ≤ 8) (hd : decode cc pc = .ok (.invokevirtual index, 3)) (kk : ∀ r g', zSim K (h r g') (zAt E D A Q nL κ g' (pc + 3) lv (.int r :: st))) : zSim K (zb (f_X10_rule a x1 g) h) (zAt E D A Q nL κ g pc lv (.int x1 :: .ref a :: st)) :=
  z_callV F (n := 1) (As := [.int x1]) (C := (RX10, TX10, 61)) ⟨q_1159, q_14, by decide +kernel, rfl, rfl, hR.1, hR.2⟩ (c_X10_rule E.2.1 D κ.1 κ.2.1 g a x1 hta) hl q_1157 q_1158 hta rfl rfl rfl hc hW hd kk _ rfl
theorem dX10_slug_0 : decode cX10_slug 0 = .ok (.iload_n 1, 1) := by decide +kernel
theorem dX10_slug_1 : decode cX10_slug 1 = .ok (.i2l, 1) := by decide +kernel
theorem dX10_slug_2 : decode cX10_slug 2 = .ok (.lconst 0, 1) := by decide +kernel
theorem dX10_slug_3 : decode cX10_slug 3 = .ok (.aload_n 0, 1) := by decide +kernel
theorem dX10_slug_4 : decode cX10_slug 4 = .ok (.getfield 139, 3) := by decide +kernel
theorem dX10_slug_7 : decode cX10_slug 7 = .ok (.iconst 1, 1) := by decide +kernel
theorem dX10_slug_8 : decode cX10_slug 8 = .ok (.isub, 1) := by decide +kernel
theorem dX10_slug_9 : decode cX10_slug 9 = .ok (.i2l, 1) := by decide +kernel
theorem dX10_slug_10 : decode cX10_slug 10 = .ok (.invokestatic 165, 3) := by decide +kernel
theorem dX10_slug_13 : decode cX10_slug 13 = .ok (.ifCond .eq 12, 3) := by decide +kernel
theorem dX10_slug_16 : decode cX10_slug 16 = .ok (.aload_n 0, 1) := by decide +kernel
theorem dX10_slug_17 : decode cX10_slug 17 = .ok (.getfield 7, 3) := by decide +kernel
theorem dX10_slug_20 : decode cX10_slug 20 = .ok (.iload_n 1, 1) := by decide +kernel
theorem dX10_slug_21 : decode cX10_slug 21 = .ok (.iaload, 1) := by decide +kernel
theorem dX10_slug_22 : decode cX10_slug 22 = .ok (.goto 4, 3) := by decide +kernel
theorem dX10_slug_25 : decode cX10_slug 25 = .ok (.iconst (-1), 1) := by decide +kernel
theorem dX10_slug_26 : decode cX10_slug 26 = .ok (.ireturn, 1) := by decide +kernel
def f_X10_slug (a : Nat) (x1 : Int32) (g : zG) : Option (Int32 × zG) :=
  zb (f_X10_in x1.toInt64 0 (((g.1 a 0) - 1).toInt64) g) (fun v1 g2 => if v1 = 0 then (some (((-1), g2))) else (zc (zin x1 49) (some ((g2.1 (g2.2.1 a 1) x1.toNatClampNeg, g2)))))
abbrev rm_X10_slug : Room := { frames := 1, cells := 0, slots := 0, locals := 25 }
set_option maxRecDepth 100000 in
set_option maxHeartbeats 4000000 in
theorem c_X10_slug (l : Launch) (D : zD) (sz : Nat) (τ : zT) (g : zG) (a : Nat) (x1 : Int32) (hta : τ a = some (.inr 10)) : zCon l D yX10_slug cX10_slug 2 (some .int) rm_X10_slug 0 0 zrI [.ref a, .int x1] sz τ g τ (f_X10_slug a x1 g) := by
  refine zCon.of (by decide) (Nat.le_of_ble_eq_true rfl) (fun E r g' hl hR hsz hnm F => ?_)
  have F : zF E D (zA τ sz) cX10_slug "TypeChainModel" 2 (some .int) := F
  show zSim (fun q : Int32 × zG => q = (r, g')) (f_X10_slug a x1 g) (zAt E D (zA τ sz) (zQ E D zrI 0 0 sz τ τ r g') 2 (sz, τ, 0, 0) g 0 [(0, .ref a), (1, .int x1)] [])
  unfold f_X10_slug
  refine z_iload_n F 1 rfl rfl dX10_slug_0 ?_
  refine z_i2l F dX10_slug_1 ?_
  refine z_lconst (v := 0) F (by decide) dX10_slug_2 ?_
  refine z_aload_n F 0 rfl rfl dX10_slug_3 ?_
  refine gf_X10_139 F hta dX10_slug_4 ?_
  refine z_iconst (v := 1) F (by decide) dX10_slug_7 ?_
  refine z_isub F dX10_slug_8 ?_
  refine z_i2l F dX10_slug_9 ?_
  refine k_X10_in F (by rw [hR]; exact ⟨by decide, by decide⟩) q_1082  ⟨Nat.zero_le _, Nat.zero_le _⟩ (Nat.le_of_ble_eq_true rfl) dX10_slug_10 (fun v1 g2 => ?_)
  refine z_if_eq (tgt := 25) F dX10_slug_13 (by decide) (fun c3 => ?_) (fun c3 => ?_)
  · refine z_iconst (v := (-1)) F (by decide) dX10_slug_25 ?_
    exact z_ireturn F rfl rfl rfl rfl (fun h => h) dX10_slug_26
  · refine z_aload_n F 0 rfl rfl dX10_slug_16 ?_
    refine gf_X10_7 F hta dX10_slug_17 (fun ht4 => ?_)
    refine z_iload_n F 1 rfl rfl dX10_slug_20 ?_
    refine z_iald F ht4 dX10_slug_21 ?_
    refine z_goto (tgt := 26) F dX10_slug_22 (by decide) ?_
    exact z_ireturn F rfl rfl rfl rfl (fun h => h) dX10_slug_26
theorem k_X10_slug {ρ : Type} {K : ρ → Prop} {E : zE} {D : zD} {A : Nat → Prop} {Q : State → Prop} {nL : Nat} {κ : zC} {g : zG} {pc : Nat} {lv : List (Nat × Value)} {st : List Value} {cc : ByteArray} {own : String} {ret : Option FieldType} (F : zF E D A cc own nL ret) {index : Nat} {h : Int32 → zG → Option ρ} {a : Nat} {x1 : Int32}  (hR : 1 + 1 ≤ E.2.2.2.1.frames ∧ 8 + (2 + 11) + 25 ≤ E.2.2.2.1.locals) (hl : zTbl (.methodLink own index yX10_slug)) (hta : κ.2.1 a = some (.inr 10)) (hc : κ.2.2.1 ≤ E.2.2.2.1.cells ∧ κ.2.2.2 ≤ E.2.2.2.1.slots) (hW : (st.map fun v => v.category).sum ≤ 8) (hd : decode cc pc = .ok (.invokevirtual index, 3)) (kk : ∀ r g', zSim K (h r g') (zAt E D A Q nL κ g' (pc + 3) lv (.int r :: st))) : zSim K (zb (f_X10_slug a x1 g) h) (zAt E D A Q nL κ g pc lv (.int x1 :: .ref a :: st)) :=
  z_callV F (n := 1) (As := [.int x1]) (C := (RX10, TX10, 61)) ⟨q_1164, q_14, by decide +kernel, rfl, rfl, hR.1, hR.2⟩ (c_X10_slug E.2.1 D κ.1 κ.2.1 g a x1 hta) hl q_1162 q_1163 hta rfl rfl rfl hc hW hd kk _ rfl
theorem dX10_holes_0 : decode cX10_holes 0 = .ok (.iload_n 1, 1) := by decide +kernel
theorem dX10_holes_1 : decode cX10_holes 1 = .ok (.i2l, 1) := by decide +kernel
theorem dX10_holes_2 : decode cX10_holes 2 = .ok (.lconst 0, 1) := by decide +kernel
theorem dX10_holes_3 : decode cX10_holes 3 = .ok (.aload_n 0, 1) := by decide +kernel
theorem dX10_holes_4 : decode cX10_holes 4 = .ok (.getfield 13, 3) := by decide +kernel
theorem dX10_holes_7 : decode cX10_holes 7 = .ok (.bipush 7, 2) := by decide +kernel
theorem dX10_holes_9 : decode cX10_holes 9 = .ok (.iaload, 1) := by decide +kernel
theorem dX10_holes_10 : decode cX10_holes 10 = .ok (.iconst 1, 1) := by decide +kernel
theorem dX10_holes_11 : decode cX10_holes 11 = .ok (.isub, 1) := by decide +kernel
theorem dX10_holes_12 : decode cX10_holes 12 = .ok (.i2l, 1) := by decide +kernel
theorem dX10_holes_13 : decode cX10_holes 13 = .ok (.invokestatic 165, 3) := by decide +kernel
theorem dX10_holes_16 : decode cX10_holes 16 = .ok (.ifCond .eq 12, 3) := by decide +kernel
theorem dX10_holes_19 : decode cX10_holes 19 = .ok (.aload_n 0, 1) := by decide +kernel
theorem dX10_holes_20 : decode cX10_holes 20 = .ok (.getfield 16, 3) := by decide +kernel
theorem dX10_holes_23 : decode cX10_holes 23 = .ok (.iload_n 1, 1) := by decide +kernel
theorem dX10_holes_24 : decode cX10_holes 24 = .ok (.iaload, 1) := by decide +kernel
theorem dX10_holes_25 : decode cX10_holes 25 = .ok (.goto 4, 3) := by decide +kernel
theorem dX10_holes_28 : decode cX10_holes 28 = .ok (.iconst (-1), 1) := by decide +kernel
theorem dX10_holes_29 : decode cX10_holes 29 = .ok (.ireturn, 1) := by decide +kernel
def f_X10_holes (a : Nat) (x1 : Int32) (g : zG) : Option (Int32 × zG) :=
  zc (zin 7 8) (zb (f_X10_in x1.toInt64 0 (((g.1 (g.2.1 a 2) (7 : Int32).toNatClampNeg) - 1).toInt64) g) (fun v2 g3 => if v2 = 0 then (some (((-1), g3))) else (zc (zin x1 60) (some ((g3.1 (g3.2.1 a 3) x1.toNatClampNeg, g3))))))
abbrev rm_X10_holes : Room := { frames := 1, cells := 0, slots := 0, locals := 25 }
set_option maxRecDepth 100000 in
set_option maxHeartbeats 4000000 in
theorem c_X10_holes (l : Launch) (D : zD) (sz : Nat) (τ : zT) (g : zG) (a : Nat) (x1 : Int32) (hta : τ a = some (.inr 10)) : zCon l D yX10_holes cX10_holes 2 (some .int) rm_X10_holes 0 0 zrI [.ref a, .int x1] sz τ g τ (f_X10_holes a x1 g) := by
  refine zCon.of (by decide) (Nat.le_of_ble_eq_true rfl) (fun E r g' hl hR hsz hnm F => ?_)
  have F : zF E D (zA τ sz) cX10_holes "TypeChainModel" 2 (some .int) := F
  show zSim (fun q : Int32 × zG => q = (r, g')) (f_X10_holes a x1 g) (zAt E D (zA τ sz) (zQ E D zrI 0 0 sz τ τ r g') 2 (sz, τ, 0, 0) g 0 [(0, .ref a), (1, .int x1)] [])
  unfold f_X10_holes
  refine z_iload_n F 1 rfl rfl dX10_holes_0 ?_
  refine z_i2l F dX10_holes_1 ?_
  refine z_lconst (v := 0) F (by decide) dX10_holes_2 ?_
  refine z_aload_n F 0 rfl rfl dX10_holes_3 ?_
  refine gf_X10_13 F hta dX10_holes_4 (fun ht1 => ?_)
  refine z_bipush (v := 7) F (by decide) dX10_holes_7 ?_
  refine z_iald F ht1 dX10_holes_9 ?_
  refine z_iconst (v := 1) F (by decide) dX10_holes_10 ?_
  refine z_isub F dX10_holes_11 ?_
  refine z_i2l F dX10_holes_12 ?_
  refine k_X10_in F (by rw [hR]; exact ⟨by decide, by decide⟩) q_1082  ⟨Nat.zero_le _, Nat.zero_le _⟩ (Nat.le_of_ble_eq_true rfl) dX10_holes_13 (fun v2 g3 => ?_)
  refine z_if_eq (tgt := 28) F dX10_holes_16 (by decide) (fun c4 => ?_) (fun c4 => ?_)
  · refine z_iconst (v := (-1)) F (by decide) dX10_holes_28 ?_
    exact z_ireturn F rfl rfl rfl rfl (fun h => h) dX10_holes_29
  · refine z_aload_n F 0 rfl rfl dX10_holes_19 ?_
    refine gf_X10_16 F hta dX10_holes_20 (fun ht5 => ?_)
    refine z_iload_n F 1 rfl rfl dX10_holes_23 ?_
    refine z_iald F ht5 dX10_holes_24 ?_
    refine z_goto (tgt := 29) F dX10_holes_25 (by decide) ?_
    exact z_ireturn F rfl rfl rfl rfl (fun h => h) dX10_holes_29
theorem k_X10_holes {ρ : Type} {K : ρ → Prop} {E : zE} {D : zD} {A : Nat → Prop} {Q : State → Prop} {nL : Nat} {κ : zC} {g : zG} {pc : Nat} {lv : List (Nat × Value)} {st : List Value} {cc : ByteArray} {own : String} {ret : Option FieldType} (F : zF E D A cc own nL ret) {index : Nat} {h : Int32 → zG → Option ρ} {a : Nat} {x1 : Int32}  (hR : 1 + 1 ≤ E.2.2.2.1.frames ∧ 8 + (2 + 11) + 25 ≤ E.2.2.2.1.locals) (hl : zTbl (.methodLink own index yX10_holes)) (hta : κ.2.1 a = some (.inr 10)) (hc : κ.2.2.1 ≤ E.2.2.2.1.cells ∧ κ.2.2.2 ≤ E.2.2.2.1.slots) (hW : (st.map fun v => v.category).sum ≤ 8) (hd : decode cc pc = .ok (.invokevirtual index, 3)) (kk : ∀ r g', zSim K (h r g') (zAt E D A Q nL κ g' (pc + 3) lv (.int r :: st))) : zSim K (zb (f_X10_holes a x1 g) h) (zAt E D A Q nL κ g pc lv (.int x1 :: .ref a :: st)) :=
  z_callV F (n := 1) (As := [.int x1]) (C := (RX10, TX10, 61)) ⟨q_1168, q_14, by decide +kernel, rfl, rfl, hR.1, hR.2⟩ (c_X10_holes E.2.1 D κ.1 κ.2.1 g a x1 hta) hl q_1166 q_1167 hta rfl rfl rfl hc hW hd kk _ rfl
theorem dX10_order_0 : decode cX10_order 0 = .ok (.iload_n 1, 1) := by decide +kernel
theorem dX10_order_1 : decode cX10_order 1 = .ok (.i2l, 1) := by decide +kernel
theorem dX10_order_2 : decode cX10_order 2 = .ok (.lconst 0, 1) := by decide +kernel
theorem dX10_order_3 : decode cX10_order 3 = .ok (.aload_n 0, 1) := by decide +kernel
theorem dX10_order_4 : decode cX10_order 4 = .ok (.getfield 142, 3) := by decide +kernel
theorem dX10_order_7 : decode cX10_order 7 = .ok (.iconst 1, 1) := by decide +kernel
theorem dX10_order_8 : decode cX10_order 8 = .ok (.isub, 1) := by decide +kernel
theorem dX10_order_9 : decode cX10_order 9 = .ok (.i2l, 1) := by decide +kernel
theorem dX10_order_10 : decode cX10_order 10 = .ok (.invokestatic 165, 3) := by decide +kernel
theorem dX10_order_13 : decode cX10_order 13 = .ok (.ifCond .eq 36, 3) := by decide +kernel
theorem dX10_order_16 : decode cX10_order 16 = .ok (.iload_n 2, 1) := by decide +kernel
theorem dX10_order_17 : decode cX10_order 17 = .ok (.i2l, 1) := by decide +kernel
theorem dX10_order_18 : decode cX10_order 18 = .ok (.lconst 0, 1) := by decide +kernel
theorem dX10_order_19 : decode cX10_order 19 = .ok (.ldc2_w 217, 3) := by decide +kernel
theorem dX10_order_22 : decode cX10_order 22 = .ok (.invokestatic 165, 3) := by decide +kernel
theorem dX10_order_25 : decode cX10_order 25 = .ok (.ifCond .ne 26, 3) := by decide +kernel
theorem dX10_order_28 : decode cX10_order 28 = .ok (.iload_n 2, 1) := by decide +kernel
theorem dX10_order_29 : decode cX10_order 29 = .ok (.i2l, 1) := by decide +kernel
theorem dX10_order_30 : decode cX10_order 30 = .ok (.ldc2_w 252, 3) := by decide +kernel
theorem dX10_order_33 : decode cX10_order 33 = .ok (.bipush 9, 2) := by decide +kernel
theorem dX10_order_35 : decode cX10_order 35 = .ok (.aload_n 0, 1) := by decide +kernel
theorem dX10_order_36 : decode cX10_order 36 = .ok (.getfield 28, 3) := by decide +kernel
theorem dX10_order_39 : decode cX10_order 39 = .ok (.iload_n 1, 1) := by decide +kernel
theorem dX10_order_40 : decode cX10_order 40 = .ok (.iaload, 1) := by decide +kernel
theorem dX10_order_41 : decode cX10_order 41 = .ok (.iadd, 1) := by decide +kernel
theorem dX10_order_42 : decode cX10_order 42 = .ok (.i2l, 1) := by decide +kernel
theorem dX10_order_43 : decode cX10_order 43 = .ok (.invokestatic 165, 3) := by decide +kernel
theorem dX10_order_46 : decode cX10_order 46 = .ok (.ifCond .ne 5, 3) := by decide +kernel
theorem dX10_order_49 : decode cX10_order 49 = .ok (.iconst (-1), 1) := by decide +kernel
theorem dX10_order_50 : decode cX10_order 50 = .ok (.ireturn, 1) := by decide +kernel
theorem dX10_order_51 : decode cX10_order 51 = .ok (.iload_n 2, 1) := by decide +kernel
theorem dX10_order_52 : decode cX10_order 52 = .ok (.ifCond .ne 12, 3) := by decide +kernel
theorem dX10_order_55 : decode cX10_order 55 = .ok (.aload_n 0, 1) := by decide +kernel
theorem dX10_order_56 : decode cX10_order 56 = .ok (.getfield 19, 3) := by decide +kernel
theorem dX10_order_59 : decode cX10_order 59 = .ok (.iload_n 1, 1) := by decide +kernel
theorem dX10_order_60 : decode cX10_order 60 = .ok (.iaload, 1) := by decide +kernel
theorem dX10_order_61 : decode cX10_order 61 = .ok (.goto 47, 3) := by decide +kernel
theorem dX10_order_64 : decode cX10_order 64 = .ok (.iload_n 2, 1) := by decide +kernel
theorem dX10_order_65 : decode cX10_order 65 = .ok (.iconst 1, 1) := by decide +kernel
theorem dX10_order_66 : decode cX10_order 66 = .ok (.if_icmp .ne 12, 3) := by decide +kernel
theorem dX10_order_69 : decode cX10_order 69 = .ok (.aload_n 0, 1) := by decide +kernel
theorem dX10_order_70 : decode cX10_order 70 = .ok (.getfield 22, 3) := by decide +kernel
theorem dX10_order_73 : decode cX10_order 73 = .ok (.iload_n 1, 1) := by decide +kernel
theorem dX10_order_74 : decode cX10_order 74 = .ok (.iaload, 1) := by decide +kernel
theorem dX10_order_75 : decode cX10_order 75 = .ok (.goto 33, 3) := by decide +kernel
theorem dX10_order_78 : decode cX10_order 78 = .ok (.iload_n 2, 1) := by decide +kernel
theorem dX10_order_79 : decode cX10_order 79 = .ok (.iconst 2, 1) := by decide +kernel
theorem dX10_order_80 : decode cX10_order 80 = .ok (.if_icmp .ne 12, 3) := by decide +kernel
theorem dX10_order_83 : decode cX10_order 83 = .ok (.aload_n 0, 1) := by decide +kernel
theorem dX10_order_84 : decode cX10_order 84 = .ok (.getfield 28, 3) := by decide +kernel
theorem dX10_order_87 : decode cX10_order 87 = .ok (.iload_n 1, 1) := by decide +kernel
theorem dX10_order_88 : decode cX10_order 88 = .ok (.iaload, 1) := by decide +kernel
theorem dX10_order_89 : decode cX10_order 89 = .ok (.goto 19, 3) := by decide +kernel
theorem dX10_order_92 : decode cX10_order 92 = .ok (.aload_n 0, 1) := by decide +kernel
theorem dX10_order_93 : decode cX10_order 93 = .ok (.getfield 31, 3) := by decide +kernel
theorem dX10_order_96 : decode cX10_order 96 = .ok (.aload_n 0, 1) := by decide +kernel
theorem dX10_order_97 : decode cX10_order 97 = .ok (.getfield 25, 3) := by decide +kernel
theorem dX10_order_100 : decode cX10_order 100 = .ok (.iload_n 1, 1) := by decide +kernel
theorem dX10_order_101 : decode cX10_order 101 = .ok (.iaload, 1) := by decide +kernel
theorem dX10_order_102 : decode cX10_order 102 = .ok (.iload_n 2, 1) := by decide +kernel
theorem dX10_order_103 : decode cX10_order 103 = .ok (.iadd, 1) := by decide +kernel
theorem dX10_order_104 : decode cX10_order 104 = .ok (.bipush 10, 2) := by decide +kernel
theorem dX10_order_106 : decode cX10_order 106 = .ok (.isub, 1) := by decide +kernel
theorem dX10_order_107 : decode cX10_order 107 = .ok (.iaload, 1) := by decide +kernel
theorem dX10_order_108 : decode cX10_order 108 = .ok (.ireturn, 1) := by decide +kernel
def j_X10_order_51 (a : Nat) (l1 : Int32) (l2 : Int32) (g : zG) : Option (Int32 × zG) :=
  if l2 = 0 then (zc (zin l1 24) (some ((g.1 (g.2.1 a 5) l1.toNatClampNeg, g)))) else (if l2 = 1 then (zc (zin l1 24) (some ((g.1 (g.2.1 a 6) l1.toNatClampNeg, g)))) else (if l2 = 2 then (zc (zin l1 24) (some ((g.1 (g.2.1 a 8) l1.toNatClampNeg, g)))) else (zc (zin l1 24) (zc (zin (((g.1 (g.2.1 a 7) l1.toNatClampNeg) + l2) - 10) 240) (some ((g.1 (g.2.1 a 9) (((g.1 (g.2.1 a 7) l1.toNatClampNeg) + l2) - 10).toNatClampNeg, g)))))))
def f_X10_order (a : Nat) (x1 : Int32) (x2 : Int32) (g : zG) : Option (Int32 × zG) :=
  zb (f_X10_in x1.toInt64 0 (((g.1 a 4) - 1).toInt64) g) (fun v9 g10 => if v9 = 0 then (some (((-1), g10))) else (zb (f_X10_in x2.toInt64 0 2 g10) (fun v12 g13 => if v12 = 0 then (zc (zin x1 24) (zb (f_X10_in x2.toInt64 10 ((9 + (g13.1 (g13.2.1 a 8) x1.toNatClampNeg)).toInt64) g13) (fun v16 g17 => if v16 = 0 then (some (((-1), g17))) else (j_X10_order_51 a x1 x2 g17)))) else (j_X10_order_51 a x1 x2 g13))))
abbrev rm_X10_order : Room := { frames := 1, cells := 0, slots := 0, locals := 25 }
set_option maxRecDepth 100000 in
set_option maxHeartbeats 4000000 in
theorem c_X10_order (l : Launch) (D : zD) (sz : Nat) (τ : zT) (g : zG) (a : Nat) (x1 : Int32) (x2 : Int32) (hta : τ a = some (.inr 10)) : zCon l D yX10_order cX10_order 3 (some .int) rm_X10_order 0 0 zrI [.ref a, .int x1, .int x2] sz τ g τ (f_X10_order a x1 x2 g) := by
  refine zCon.of (by decide) (Nat.le_of_ble_eq_true rfl) (fun E r g' hl hR hsz hnm F => ?_)
  have F : zF E D (zA τ sz) cX10_order "TypeChainModel" 3 (some .int) := F
  show zSim (fun q : Int32 × zG => q = (r, g')) (f_X10_order a x1 x2 g) (zAt E D (zA τ sz) (zQ E D zrI 0 0 sz τ τ r g') 3 (sz, τ, 0, 0) g 0 [(0, .ref a), (1, .int x1), (2, .int x2)] [])
  have hj_X10_order_51 : ∀ (l1_51 : Int32) (l2_51 : Int32) (g_51 : zG), zSim (fun q : Int32 × zG => q = (r, g')) (j_X10_order_51 a l1_51 l2_51 g_51) (zAt E D (zA τ sz) (zQ E D zrI 0 0 sz τ τ r g') 3 (sz, τ, 0, 0) g_51 51 [(0, .ref a), (1, .int l1_51), (2, .int l2_51)] []) := by
    intro l1_51 l2_51 g_51
    unfold j_X10_order_51
    refine z_iload_n F 2 rfl rfl dX10_order_51 ?_
    refine z_if_ne (tgt := 64) F dX10_order_52 (by decide) (fun c1 => ?_) (fun c1 => ?_)
    · refine z_aload_n F 0 rfl rfl dX10_order_55 ?_
      refine gf_X10_19 F hta dX10_order_56 (fun ht2 => ?_)
      refine z_iload_n F 1 rfl rfl dX10_order_59 ?_
      refine z_iald F ht2 dX10_order_60 ?_
      refine z_goto (tgt := 108) F dX10_order_61 (by decide) ?_
      exact z_ireturn F rfl rfl rfl rfl (fun h => h) dX10_order_108
    · refine z_iload_n F 2 rfl rfl dX10_order_64 ?_
      refine z_iconst (v := 1) F (by decide) dX10_order_65 ?_
      refine z_icmp_ne (tgt := 78) F dX10_order_66 (by decide) (fun c3 => ?_) (fun c3 => ?_)
      · refine z_aload_n F 0 rfl rfl dX10_order_69 ?_
        refine gf_X10_22 F hta dX10_order_70 (fun ht4 => ?_)
        refine z_iload_n F 1 rfl rfl dX10_order_73 ?_
        refine z_iald F ht4 dX10_order_74 ?_
        refine z_goto (tgt := 108) F dX10_order_75 (by decide) ?_
        exact z_ireturn F rfl rfl rfl rfl (fun h => h) dX10_order_108
      · refine z_iload_n F 2 rfl rfl dX10_order_78 ?_
        refine z_iconst (v := 2) F (by decide) dX10_order_79 ?_
        refine z_icmp_ne (tgt := 92) F dX10_order_80 (by decide) (fun c5 => ?_) (fun c5 => ?_)
        · refine z_aload_n F 0 rfl rfl dX10_order_83 ?_
          refine gf_X10_28 F hta dX10_order_84 (fun ht6 => ?_)
          refine z_iload_n F 1 rfl rfl dX10_order_87 ?_
          refine z_iald F ht6 dX10_order_88 ?_
          refine z_goto (tgt := 108) F dX10_order_89 (by decide) ?_
          exact z_ireturn F rfl rfl rfl rfl (fun h => h) dX10_order_108
        · refine z_aload_n F 0 rfl rfl dX10_order_92 ?_
          refine gf_X10_31 F hta dX10_order_93 (fun ht7 => ?_)
          refine z_aload_n F 0 rfl rfl dX10_order_96 ?_
          refine gf_X10_25 F hta dX10_order_97 (fun ht8 => ?_)
          refine z_iload_n F 1 rfl rfl dX10_order_100 ?_
          refine z_iald F ht8 dX10_order_101 ?_
          refine z_iload_n F 2 rfl rfl dX10_order_102 ?_
          refine z_iadd F dX10_order_103 ?_
          refine z_bipush (v := 10) F (by decide) dX10_order_104 ?_
          refine z_isub F dX10_order_106 ?_
          refine z_iald F ht7 dX10_order_107 ?_
          exact z_ireturn F rfl rfl rfl rfl (fun h => h) dX10_order_108
  unfold f_X10_order
  refine z_iload_n F 1 rfl rfl dX10_order_0 ?_
  refine z_i2l F dX10_order_1 ?_
  refine z_lconst (v := 0) F (by decide) dX10_order_2 ?_
  refine z_aload_n F 0 rfl rfl dX10_order_3 ?_
  refine gf_X10_142 F hta dX10_order_4 ?_
  refine z_iconst (v := 1) F (by decide) dX10_order_7 ?_
  refine z_isub F dX10_order_8 ?_
  refine z_i2l F dX10_order_9 ?_
  refine k_X10_in F (by rw [hR]; exact ⟨by decide, by decide⟩) q_1082  ⟨Nat.zero_le _, Nat.zero_le _⟩ (Nat.le_of_ble_eq_true rfl) dX10_order_10 (fun v9 g10 => ?_)
  refine z_if_eq (tgt := 49) F dX10_order_13 (by decide) (fun c11 => ?_) (fun c11 => ?_)
  · refine z_iconst (v := (-1)) F (by decide) dX10_order_49 ?_
    exact z_ireturn F rfl rfl rfl rfl (fun h => h) dX10_order_50
  · refine z_iload_n F 2 rfl rfl dX10_order_16 ?_
    refine z_i2l F dX10_order_17 ?_
    refine z_lconst (v := 0) F (by decide) dX10_order_18 ?_
    refine z_ldc2 F q_1129 dX10_order_19 ?_
    refine k_X10_in F (by rw [hR]; exact ⟨by decide, by decide⟩) q_1082  ⟨Nat.zero_le _, Nat.zero_le _⟩ (Nat.le_of_ble_eq_true rfl) dX10_order_22 (fun v12 g13 => ?_)
    refine z_if_ne (tgt := 51) F dX10_order_25 (by decide) (fun c14 => ?_) (fun c14 => ?_)
    · refine z_iload_n F 2 rfl rfl dX10_order_28 ?_
      refine z_i2l F dX10_order_29 ?_
      refine z_ldc2 F q_1173 dX10_order_30 ?_
      refine z_bipush (v := 9) F (by decide) dX10_order_33 ?_
      refine z_aload_n F 0 rfl rfl dX10_order_35 ?_
      refine gf_X10_28 F hta dX10_order_36 (fun ht15 => ?_)
      refine z_iload_n F 1 rfl rfl dX10_order_39 ?_
      refine z_iald F ht15 dX10_order_40 ?_
      refine z_iadd F dX10_order_41 ?_
      refine z_i2l F dX10_order_42 ?_
      refine k_X10_in F (by rw [hR]; exact ⟨by decide, by decide⟩) q_1082  ⟨Nat.zero_le _, Nat.zero_le _⟩ (Nat.le_of_ble_eq_true rfl) dX10_order_43 (fun v16 g17 => ?_)
      refine z_if_ne (tgt := 51) F dX10_order_46 (by decide) (fun c18 => ?_) (fun c18 => ?_)
      · refine z_iconst (v := (-1)) F (by decide) dX10_order_49 ?_
        exact z_ireturn F rfl rfl rfl rfl (fun h => h) dX10_order_50
      · exact hj_X10_order_51 x1 x2 g17
    · exact hj_X10_order_51 x1 x2 g13
theorem k_X10_order {ρ : Type} {K : ρ → Prop} {E : zE} {D : zD} {A : Nat → Prop} {Q : State → Prop} {nL : Nat} {κ : zC} {g : zG} {pc : Nat} {lv : List (Nat × Value)} {st : List Value} {cc : ByteArray} {own : String} {ret : Option FieldType} (F : zF E D A cc own nL ret) {index : Nat} {h : Int32 → zG → Option ρ} {a : Nat} {x1 : Int32} {x2 : Int32}  (hR : 1 + 1 ≤ E.2.2.2.1.frames ∧ 8 + (3 + 11) + 25 ≤ E.2.2.2.1.locals) (hl : zTbl (.methodLink own index yX10_order)) (hta : κ.2.1 a = some (.inr 10)) (hc : κ.2.2.1 ≤ E.2.2.2.1.cells ∧ κ.2.2.2 ≤ E.2.2.2.1.slots) (hW : (st.map fun v => v.category).sum ≤ 8) (hd : decode cc pc = .ok (.invokevirtual index, 3)) (kk : ∀ r g', zSim K (h r g') (zAt E D A Q nL κ g' (pc + 3) lv (.int r :: st))) : zSim K (zb (f_X10_order a x1 x2 g) h) (zAt E D A Q nL κ g pc lv (.int x2 :: .int x1 :: .ref a :: st)) :=
  z_callV F (n := 2) (As := [.int x1, .int x2]) (C := (RX10, TX10, 61)) ⟨q_1172, q_14, by decide +kernel, rfl, rfl, hR.1, hR.2⟩ (c_X10_order E.2.1 D κ.1 κ.2.1 g a x1 x2 hta) hl q_1170 q_1171 hta rfl rfl rfl hc hW hd kk _ rfl
theorem dX10_slugAt_0 : decode cX10_slugAt 0 = .ok (.iload_n 1, 1) := by decide +kernel
theorem dX10_slugAt_1 : decode cX10_slugAt 1 = .ok (.aload_n 0, 1) := by decide +kernel
theorem dX10_slugAt_2 : decode cX10_slugAt 2 = .ok (.getfield 13, 3) := by decide +kernel
theorem dX10_slugAt_5 : decode cX10_slugAt 5 = .ok (.iconst 2, 1) := by decide +kernel
theorem dX10_slugAt_6 : decode cX10_slugAt 6 = .ok (.iaload, 1) := by decide +kernel
theorem dX10_slugAt_7 : decode cX10_slugAt 7 = .ok (.imul, 1) := by decide +kernel
theorem dX10_slugAt_8 : decode cX10_slugAt 8 = .ok (.iload_n 2, 1) := by decide +kernel
theorem dX10_slugAt_9 : decode cX10_slugAt 9 = .ok (.iadd, 1) := by decide +kernel
theorem dX10_slugAt_10 : decode cX10_slugAt 10 = .ok (.istore_n 3, 1) := by decide +kernel
theorem dX10_slugAt_11 : decode cX10_slugAt 11 = .ok (.iload_n 3, 1) := by decide +kernel
theorem dX10_slugAt_12 : decode cX10_slugAt 12 = .ok (.aload_n 0, 1) := by decide +kernel
theorem dX10_slugAt_13 : decode cX10_slugAt 13 = .ok (.getfield 13, 3) := by decide +kernel
theorem dX10_slugAt_16 : decode cX10_slugAt 16 = .ok (.iconst 1, 1) := by decide +kernel
theorem dX10_slugAt_17 : decode cX10_slugAt 17 = .ok (.iaload, 1) := by decide +kernel
theorem dX10_slugAt_18 : decode cX10_slugAt 18 = .ok (.irem, 1) := by decide +kernel
theorem dX10_slugAt_19 : decode cX10_slugAt 19 = .ok (.ifCond .ne 19, 3) := by decide +kernel
theorem dX10_slugAt_22 : decode cX10_slugAt 22 = .ok (.iload_n 3, 1) := by decide +kernel
theorem dX10_slugAt_23 : decode cX10_slugAt 23 = .ok (.aload_n 0, 1) := by decide +kernel
theorem dX10_slugAt_24 : decode cX10_slugAt 24 = .ok (.getfield 13, 3) := by decide +kernel
theorem dX10_slugAt_27 : decode cX10_slugAt 27 = .ok (.iconst 1, 1) := by decide +kernel
theorem dX10_slugAt_28 : decode cX10_slugAt 28 = .ok (.iaload, 1) := by decide +kernel
theorem dX10_slugAt_29 : decode cX10_slugAt 29 = .ok (.idiv, 1) := by decide +kernel
theorem dX10_slugAt_30 : decode cX10_slugAt 30 = .ok (.aload_n 0, 1) := by decide +kernel
theorem dX10_slugAt_31 : decode cX10_slugAt 31 = .ok (.getfield 139, 3) := by decide +kernel
theorem dX10_slugAt_34 : decode cX10_slugAt 34 = .ok (.irem, 1) := by decide +kernel
theorem dX10_slugAt_35 : decode cX10_slugAt 35 = .ok (.goto 5, 3) := by decide +kernel
theorem dX10_slugAt_38 : decode cX10_slugAt 38 = .ok (.bipush (-4), 2) := by decide +kernel
theorem dX10_slugAt_40 : decode cX10_slugAt 40 = .ok (.ireturn, 1) := by decide +kernel
def f_X10_slugAt (a : Nat) (x1 : Int32) (x2 : Int32) (g : zG) : Option (Int32 × zG) :=
  zc (zin 2 8) (zl ((x1 * (g.1 (g.2.1 a 2) (2 : Int32).toNatClampNeg)) + x2) (fun v2 => zc (zin 1 8) (zc (¬ (g.1 (g.2.1 a 2) (1 : Int32).toNatClampNeg) = 0) (if (zrem v2 (g.1 (g.2.1 a 2) (1 : Int32).toNatClampNeg)) = 0 then (zc (zin 1 8) (zc (¬ (g.1 (g.2.1 a 2) (1 : Int32).toNatClampNeg) = 0) (zc (¬ (g.1 a 0) = 0) (some ((zrem (v2 / (g.1 (g.2.1 a 2) (1 : Int32).toNatClampNeg)) (g.1 a 0), g)))))) else (some (((-4), g)))))))
abbrev rm_X10_slugAt : Room := { frames := 0, cells := 0, slots := 0, locals := 0 }
set_option maxRecDepth 100000 in
set_option maxHeartbeats 4000000 in
theorem c_X10_slugAt (l : Launch) (D : zD) (sz : Nat) (τ : zT) (g : zG) (a : Nat) (x1 : Int32) (x2 : Int32) (hta : τ a = some (.inr 10)) : zCon l D yX10_slugAt cX10_slugAt 4 (some .int) rm_X10_slugAt 0 0 zrI [.ref a, .int x1, .int x2] sz τ g τ (f_X10_slugAt a x1 x2 g) := by
  refine zCon.of (by decide) (Nat.le_of_ble_eq_true rfl) (fun E r g' hl hR hsz hnm F => ?_)
  have F : zF E D (zA τ sz) cX10_slugAt "TypeChainModel" 4 (some .int) := F
  show zSim (fun q : Int32 × zG => q = (r, g')) (f_X10_slugAt a x1 x2 g) (zAt E D (zA τ sz) (zQ E D zrI 0 0 sz τ τ r g') 4 (sz, τ, 0, 0) g 0 [(0, .ref a), (1, .int x1), (2, .int x2)] [])
  unfold f_X10_slugAt
  refine z_iload_n F 1 rfl rfl dX10_slugAt_0 ?_
  refine z_aload_n F 0 rfl rfl dX10_slugAt_1 ?_
  refine gf_X10_13 F hta dX10_slugAt_2 (fun ht1 => ?_)
  refine z_iconst (v := 2) F (by decide) dX10_slugAt_5 ?_
  refine z_iald F ht1 dX10_slugAt_6 ?_
  refine z_imul F dX10_slugAt_7 ?_
  refine z_iload_n F 2 rfl rfl dX10_slugAt_8 ?_
  refine z_iadd F dX10_slugAt_9 ?_
  refine z_leti (fun v2 => ?_)
  refine z_istore_n (lv' := [(3, .int v2), (0, .ref a), (1, .int x1), (2, .int x2)]) F rfl (by decide) dX10_slugAt_10 rfl ?_
  refine z_iload_n F 0 rfl rfl dX10_slugAt_11 ?_
  refine z_aload_n F 1 rfl rfl dX10_slugAt_12 ?_
  refine gf_X10_13 F hta dX10_slugAt_13 (fun ht3 => ?_)
  refine z_iconst (v := 1) F (by decide) dX10_slugAt_16 ?_
  refine z_iald F ht3 dX10_slugAt_17 ?_
  refine z_irem F dX10_slugAt_18 ?_
  refine z_if_ne (tgt := 38) F dX10_slugAt_19 (by decide) (fun c4 => ?_) (fun c4 => ?_)
  · refine z_iload_n F 0 rfl rfl dX10_slugAt_22 ?_
    refine z_aload_n F 1 rfl rfl dX10_slugAt_23 ?_
    refine gf_X10_13 F hta dX10_slugAt_24 (fun ht5 => ?_)
    refine z_iconst (v := 1) F (by decide) dX10_slugAt_27 ?_
    refine z_iald F ht5 dX10_slugAt_28 ?_
    refine z_idiv F dX10_slugAt_29 ?_
    refine z_aload_n F 1 rfl rfl dX10_slugAt_30 ?_
    refine gf_X10_139 F hta dX10_slugAt_31 ?_
    refine z_irem F dX10_slugAt_34 ?_
    refine z_goto (tgt := 40) F dX10_slugAt_35 (by decide) ?_
    exact z_ireturn F rfl rfl rfl rfl (fun h => h) dX10_slugAt_40
  · refine z_bipush (v := (-4)) F (by decide) dX10_slugAt_38 ?_
    exact z_ireturn F rfl rfl rfl rfl (fun h => h) dX10_slugAt_40
theorem k_X10_slugAt {ρ : Type} {K : ρ → Prop} {E : zE} {D : zD} {A : Nat → Prop} {Q : State → Prop} {nL : Nat} {κ : zC} {g : zG} {pc : Nat} {lv : List (Nat × Value)} {st : List Value} {cc : ByteArray} {own : String} {ret : Option FieldType} (F : zF E D A cc own nL ret) {index : Nat} {h : Int32 → zG → Option ρ} {a : Nat} {x1 : Int32} {x2 : Int32}  (hR : 0 + 1 ≤ E.2.2.2.1.frames ∧ 8 + (4 + 11) + 0 ≤ E.2.2.2.1.locals) (hl : zTbl (.methodLink own index yX10_slugAt)) (hta : κ.2.1 a = some (.inr 10)) (hc : κ.2.2.1 ≤ E.2.2.2.1.cells ∧ κ.2.2.2 ≤ E.2.2.2.1.slots) (hW : (st.map fun v => v.category).sum ≤ 8) (hd : decode cc pc = .ok (.invokevirtual index, 3)) (kk : ∀ r g', zSim K (h r g') (zAt E D A Q nL κ g' (pc + 3) lv (.int r :: st))) : zSim K (zb (f_X10_slugAt a x1 x2 g) h) (zAt E D A Q nL κ g pc lv (.int x2 :: .int x1 :: .ref a :: st)) :=
  z_callV F (n := 2) (As := [.int x1, .int x2]) (C := (RX10, TX10, 61)) ⟨q_1190, q_14, by decide +kernel, rfl, rfl, hR.1, hR.2⟩ (c_X10_slugAt E.2.1 D κ.1 κ.2.1 g a x1 x2 hta) hl q_1189 q_1408 hta rfl rfl rfl hc hW hd kk _ rfl
theorem dX10_letterAt_0 : decode cX10_letterAt 0 = .ok (.aload_n 0, 1) := by decide +kernel
theorem dX10_letterAt_1 : decode cX10_letterAt 1 = .ok (.iload_n 1, 1) := by decide +kernel
theorem dX10_letterAt_2 : decode cX10_letterAt 2 = .ok (.iload_n 2, 1) := by decide +kernel
theorem dX10_letterAt_3 : decode cX10_letterAt 3 = .ok (.invokevirtual 254, 3) := by decide +kernel
theorem dX10_letterAt_6 : decode cX10_letterAt 6 = .ok (.istore_n 3, 1) := by decide +kernel
theorem dX10_letterAt_7 : decode cX10_letterAt 7 = .ok (.iload_n 3, 1) := by decide +kernel
theorem dX10_letterAt_8 : decode cX10_letterAt 8 = .ok (.bipush (-4), 2) := by decide +kernel
theorem dX10_letterAt_10 : decode cX10_letterAt 10 = .ok (.if_icmp .ne 8, 3) := by decide +kernel
theorem dX10_letterAt_13 : decode cX10_letterAt 13 = .ok (.bipush (-4), 2) := by decide +kernel
theorem dX10_letterAt_15 : decode cX10_letterAt 15 = .ok (.goto 9, 3) := by decide +kernel
theorem dX10_letterAt_18 : decode cX10_letterAt 18 = .ok (.aload_n 0, 1) := by decide +kernel
theorem dX10_letterAt_19 : decode cX10_letterAt 19 = .ok (.getfield 7, 3) := by decide +kernel
theorem dX10_letterAt_22 : decode cX10_letterAt 22 = .ok (.iload_n 3, 1) := by decide +kernel
theorem dX10_letterAt_23 : decode cX10_letterAt 23 = .ok (.iaload, 1) := by decide +kernel
theorem dX10_letterAt_24 : decode cX10_letterAt 24 = .ok (.ireturn, 1) := by decide +kernel
def f_X10_letterAt (a : Nat) (x1 : Int32) (x2 : Int32) (g : zG) : Option (Int32 × zG) :=
  zb (f_X10_slugAt a x1 x2 g) (fun v1 g2 => if v1 = (-4) then (some (((-4), g2))) else (zc (zin v1 49) (some ((g2.1 (g2.2.1 a 1) v1.toNatClampNeg, g2)))))
abbrev rm_X10_letterAt : Room := { frames := 1, cells := 0, slots := 0, locals := 23 }
set_option maxRecDepth 100000 in
set_option maxHeartbeats 4000000 in
theorem c_X10_letterAt (l : Launch) (D : zD) (sz : Nat) (τ : zT) (g : zG) (a : Nat) (x1 : Int32) (x2 : Int32) (hta : τ a = some (.inr 10)) : zCon l D yX10_letterAt cX10_letterAt 4 (some .int) rm_X10_letterAt 0 0 zrI [.ref a, .int x1, .int x2] sz τ g τ (f_X10_letterAt a x1 x2 g) := by
  refine zCon.of (by decide) (Nat.le_of_ble_eq_true rfl) (fun E r g' hl hR hsz hnm F => ?_)
  have F : zF E D (zA τ sz) cX10_letterAt "TypeChainModel" 4 (some .int) := F
  show zSim (fun q : Int32 × zG => q = (r, g')) (f_X10_letterAt a x1 x2 g) (zAt E D (zA τ sz) (zQ E D zrI 0 0 sz τ τ r g') 4 (sz, τ, 0, 0) g 0 [(0, .ref a), (1, .int x1), (2, .int x2)] [])
  unfold f_X10_letterAt
  refine z_aload_n F 0 rfl rfl dX10_letterAt_0 ?_
  refine z_iload_n F 1 rfl rfl dX10_letterAt_1 ?_
  refine z_iload_n F 2 rfl rfl dX10_letterAt_2 ?_
  refine k_X10_slugAt F (by rw [hR]; exact ⟨by decide, by decide⟩) q_1187 hta ⟨Nat.zero_le _, Nat.zero_le _⟩ (Nat.le_of_ble_eq_true rfl) dX10_letterAt_3 (fun v1 g2 => ?_)
  refine z_istore_n (lv' := [(3, .int v1), (0, .ref a), (1, .int x1), (2, .int x2)]) F rfl (by decide) dX10_letterAt_6 rfl ?_
  refine z_iload_n F 0 rfl rfl dX10_letterAt_7 ?_
  refine z_bipush (v := (-4)) F (by decide) dX10_letterAt_8 ?_
  refine z_icmp_ne (tgt := 18) F dX10_letterAt_10 (by decide) (fun c3 => ?_) (fun c3 => ?_)
  · refine z_bipush (v := (-4)) F (by decide) dX10_letterAt_13 ?_
    refine z_goto (tgt := 24) F dX10_letterAt_15 (by decide) ?_
    exact z_ireturn F rfl rfl rfl rfl (fun h => h) dX10_letterAt_24
  · refine z_aload_n F 1 rfl rfl dX10_letterAt_18 ?_
    refine gf_X10_7 F hta dX10_letterAt_19 (fun ht4 => ?_)
    refine z_iload_n F 0 rfl rfl dX10_letterAt_22 ?_
    refine z_iald F ht4 dX10_letterAt_23 ?_
    exact z_ireturn F rfl rfl rfl rfl (fun h => h) dX10_letterAt_24
theorem k_X10_letterAt {ρ : Type} {K : ρ → Prop} {E : zE} {D : zD} {A : Nat → Prop} {Q : State → Prop} {nL : Nat} {κ : zC} {g : zG} {pc : Nat} {lv : List (Nat × Value)} {st : List Value} {cc : ByteArray} {own : String} {ret : Option FieldType} (F : zF E D A cc own nL ret) {index : Nat} {h : Int32 → zG → Option ρ} {a : Nat} {x1 : Int32} {x2 : Int32}  (hR : 1 + 1 ≤ E.2.2.2.1.frames ∧ 8 + (4 + 11) + 23 ≤ E.2.2.2.1.locals) (hl : zTbl (.methodLink own index yX10_letterAt)) (hta : κ.2.1 a = some (.inr 10)) (hc : κ.2.2.1 ≤ E.2.2.2.1.cells ∧ κ.2.2.2 ≤ E.2.2.2.1.slots) (hW : (st.map fun v => v.category).sum ≤ 8) (hd : decode cc pc = .ok (.invokevirtual index, 3)) (kk : ∀ r g', zSim K (h r g') (zAt E D A Q nL κ g' (pc + 3) lv (.int r :: st))) : zSim K (zb (f_X10_letterAt a x1 x2 g) h) (zAt E D A Q nL κ g pc lv (.int x2 :: .int x1 :: .ref a :: st)) :=
  z_callV F (n := 2) (As := [.int x1, .int x2]) (C := (RX10, TX10, 61)) ⟨q_1186, q_14, by decide +kernel, rfl, rfl, hR.1, hR.2⟩ (c_X10_letterAt E.2.1 D κ.1 κ.2.1 g a x1 x2 hta) hl q_1185 q_1407 hta rfl rfl rfl hc hW hd kk _ rfl
theorem dX10_isColumn_0 : decode cX10_isColumn 0 = .ok (.iload_n 1, 1) := by decide +kernel
theorem dX10_isColumn_1 : decode cX10_isColumn 1 = .ok (.i2l, 1) := by decide +kernel
theorem dX10_isColumn_2 : decode cX10_isColumn 2 = .ok (.lconst 0, 1) := by decide +kernel
theorem dX10_isColumn_3 : decode cX10_isColumn 3 = .ok (.aload_n 0, 1) := by decide +kernel
theorem dX10_isColumn_4 : decode cX10_isColumn 4 = .ok (.getfield 13, 3) := by decide +kernel
theorem dX10_isColumn_7 : decode cX10_isColumn 7 = .ok (.iconst 3, 1) := by decide +kernel
theorem dX10_isColumn_8 : decode cX10_isColumn 8 = .ok (.iaload, 1) := by decide +kernel
theorem dX10_isColumn_9 : decode cX10_isColumn 9 = .ok (.iconst 1, 1) := by decide +kernel
theorem dX10_isColumn_10 : decode cX10_isColumn 10 = .ok (.isub, 1) := by decide +kernel
theorem dX10_isColumn_11 : decode cX10_isColumn 11 = .ok (.i2l, 1) := by decide +kernel
theorem dX10_isColumn_12 : decode cX10_isColumn 12 = .ok (.invokestatic 165, 3) := by decide +kernel
theorem dX10_isColumn_15 : decode cX10_isColumn 15 = .ok (.ireturn, 1) := by decide +kernel
def f_X10_isColumn (a : Nat) (x1 : Int32) (g : zG) : Option (Int32 × zG) :=
  zc (zin 3 8) (zb (f_X10_in x1.toInt64 0 (((g.1 (g.2.1 a 2) (3 : Int32).toNatClampNeg) - 1).toInt64) g) (fun v2 g3 => zc (v2 = 0 ∨ v2 = 1) (some ((v2, g3)))))
abbrev rm_X10_isColumn : Room := { frames := 1, cells := 0, slots := 0, locals := 25 }
set_option maxRecDepth 100000 in
set_option maxHeartbeats 4000000 in
theorem c_X10_isColumn (l : Launch) (D : zD) (sz : Nat) (τ : zT) (g : zG) (a : Nat) (x1 : Int32) (hta : τ a = some (.inr 10)) : zCon l D yX10_isColumn cX10_isColumn 2 (some .boolean) rm_X10_isColumn 0 0 zrI [.ref a, .int x1] sz τ g τ (f_X10_isColumn a x1 g) := by
  refine zCon.of (by decide) (Nat.le_of_ble_eq_true rfl) (fun E r g' hl hR hsz hnm F => ?_)
  have F : zF E D (zA τ sz) cX10_isColumn "TypeChainModel" 2 (some .boolean) := F
  show zSim (fun q : Int32 × zG => q = (r, g')) (f_X10_isColumn a x1 g) (zAt E D (zA τ sz) (zQ E D zrI 0 0 sz τ τ r g') 2 (sz, τ, 0, 0) g 0 [(0, .ref a), (1, .int x1)] [])
  unfold f_X10_isColumn
  refine z_iload_n F 1 rfl rfl dX10_isColumn_0 ?_
  refine z_i2l F dX10_isColumn_1 ?_
  refine z_lconst (v := 0) F (by decide) dX10_isColumn_2 ?_
  refine z_aload_n F 0 rfl rfl dX10_isColumn_3 ?_
  refine gf_X10_13 F hta dX10_isColumn_4 (fun ht1 => ?_)
  refine z_iconst (v := 3) F (by decide) dX10_isColumn_7 ?_
  refine z_iald F ht1 dX10_isColumn_8 ?_
  refine z_iconst (v := 1) F (by decide) dX10_isColumn_9 ?_
  refine z_isub F dX10_isColumn_10 ?_
  refine z_i2l F dX10_isColumn_11 ?_
  refine k_X10_in F (by rw [hR]; exact ⟨by decide, by decide⟩) q_1082  ⟨Nat.zero_le _, Nat.zero_le _⟩ (Nat.le_of_ble_eq_true rfl) dX10_isColumn_12 (fun v2 g3 => ?_)
  exact z_zc (fun c4 => z_zreturn F (znar01 c4) rfl rfl rfl rfl (fun h => h) dX10_isColumn_15)
theorem k_X10_isColumn {ρ : Type} {K : ρ → Prop} {E : zE} {D : zD} {A : Nat → Prop} {Q : State → Prop} {nL : Nat} {κ : zC} {g : zG} {pc : Nat} {lv : List (Nat × Value)} {st : List Value} {cc : ByteArray} {own : String} {ret : Option FieldType} (F : zF E D A cc own nL ret) {index : Nat} {h : Int32 → zG → Option ρ} {a : Nat} {x1 : Int32}  (hR : 1 + 1 ≤ E.2.2.2.1.frames ∧ 8 + (2 + 11) + 25 ≤ E.2.2.2.1.locals) (hl : zTbl (.methodLink own index yX10_isColumn)) (hta : κ.2.1 a = some (.inr 10)) (hc : κ.2.2.1 ≤ E.2.2.2.1.cells ∧ κ.2.2.2 ≤ E.2.2.2.1.slots) (hW : (st.map fun v => v.category).sum ≤ 8) (hd : decode cc pc = .ok (.invokevirtual index, 3)) (kk : ∀ r g', zSim K (h r g') (zAt E D A Q nL κ g' (pc + 3) lv (.int r :: st))) : zSim K (zb (f_X10_isColumn a x1 g) h) (zAt E D A Q nL κ g pc lv (.int x1 :: .ref a :: st)) :=
  z_callV F (n := 1) (As := [.int x1]) (C := (RX10, TX10, 61)) ⟨q_1181, q_14, by decide +kernel, rfl, rfl, hR.1, hR.2⟩ (c_X10_isColumn E.2.1 D κ.1 κ.2.1 g a x1 hta) hl q_1180 q_1406 hta rfl rfl rfl hc hW hd kk _ rfl
theorem dX10_faces_0 : decode cX10_faces 0 = .ok (.aload_n 0, 1) := by decide +kernel
theorem dX10_faces_1 : decode cX10_faces 1 = .ok (.iload_n 1, 1) := by decide +kernel
theorem dX10_faces_2 : decode cX10_faces 2 = .ok (.invokevirtual 257, 3) := by decide +kernel
theorem dX10_faces_5 : decode cX10_faces 5 = .ok (.ifCond .eq 24, 3) := by decide +kernel
theorem dX10_faces_8 : decode cX10_faces 8 = .ok (.iload_n 2, 1) := by decide +kernel
theorem dX10_faces_9 : decode cX10_faces 9 = .ok (.i2l, 1) := by decide +kernel
theorem dX10_faces_10 : decode cX10_faces 10 = .ok (.lconst 0, 1) := by decide +kernel
theorem dX10_faces_11 : decode cX10_faces 11 = .ok (.ldc2_w 261, 3) := by decide +kernel
theorem dX10_faces_14 : decode cX10_faces 14 = .ok (.invokestatic 165, 3) := by decide +kernel
theorem dX10_faces_17 : decode cX10_faces 17 = .ok (.ifCond .eq 12, 3) := by decide +kernel
theorem dX10_faces_20 : decode cX10_faces 20 = .ok (.aload_n 0, 1) := by decide +kernel
theorem dX10_faces_21 : decode cX10_faces 21 = .ok (.iload_n 1, 1) := by decide +kernel
theorem dX10_faces_22 : decode cX10_faces 22 = .ok (.iload_n 2, 1) := by decide +kernel
theorem dX10_faces_23 : decode cX10_faces 23 = .ok (.invokevirtual 263, 3) := by decide +kernel
theorem dX10_faces_26 : decode cX10_faces 26 = .ok (.goto 4, 3) := by decide +kernel
theorem dX10_faces_29 : decode cX10_faces 29 = .ok (.iconst (-1), 1) := by decide +kernel
theorem dX10_faces_30 : decode cX10_faces 30 = .ok (.ireturn, 1) := by decide +kernel
def f_X10_faces (a : Nat) (x1 : Int32) (x2 : Int32) (g : zG) : Option (Int32 × zG) :=
  zb (f_X10_isColumn a x1 g) (fun v1 g2 => if v1 = 0 then (some (((-1), g2))) else (zb (f_X10_in x2.toInt64 0 1000000 g2) (fun v4 g5 => if v4 = 0 then (some (((-1), g5))) else (zb (f_X10_letterAt a x1 x2 g5) (fun v7 g8 => some ((v7, g8)))))))
abbrev rm_X10_faces : Room := { frames := 2, cells := 0, slots := 0, locals := 46 }
set_option maxRecDepth 100000 in
set_option maxHeartbeats 4000000 in
theorem c_X10_faces (l : Launch) (D : zD) (sz : Nat) (τ : zT) (g : zG) (a : Nat) (x1 : Int32) (x2 : Int32) (hta : τ a = some (.inr 10)) : zCon l D yX10_faces cX10_faces 3 (some .int) rm_X10_faces 0 0 zrI [.ref a, .int x1, .int x2] sz τ g τ (f_X10_faces a x1 x2 g) := by
  refine zCon.of (by decide) (Nat.le_of_ble_eq_true rfl) (fun E r g' hl hR hsz hnm F => ?_)
  have F : zF E D (zA τ sz) cX10_faces "TypeChainModel" 3 (some .int) := F
  show zSim (fun q : Int32 × zG => q = (r, g')) (f_X10_faces a x1 x2 g) (zAt E D (zA τ sz) (zQ E D zrI 0 0 sz τ τ r g') 3 (sz, τ, 0, 0) g 0 [(0, .ref a), (1, .int x1), (2, .int x2)] [])
  unfold f_X10_faces
  refine z_aload_n F 0 rfl rfl dX10_faces_0 ?_
  refine z_iload_n F 1 rfl rfl dX10_faces_1 ?_
  refine k_X10_isColumn F (by rw [hR]; exact ⟨by decide, by decide⟩) q_1178 hta ⟨Nat.zero_le _, Nat.zero_le _⟩ (Nat.le_of_ble_eq_true rfl) dX10_faces_2 (fun v1 g2 => ?_)
  refine z_if_eq (tgt := 29) F dX10_faces_5 (by decide) (fun c3 => ?_) (fun c3 => ?_)
  · refine z_iconst (v := (-1)) F (by decide) dX10_faces_29 ?_
    exact z_ireturn F rfl rfl rfl rfl (fun h => h) dX10_faces_30
  · refine z_iload_n F 2 rfl rfl dX10_faces_8 ?_
    refine z_i2l F dX10_faces_9 ?_
    refine z_lconst (v := 0) F (by decide) dX10_faces_10 ?_
    refine z_ldc2 F q_1182 dX10_faces_11 ?_
    refine k_X10_in F (by rw [hR]; exact ⟨by decide, by decide⟩) q_1082  ⟨Nat.zero_le _, Nat.zero_le _⟩ (Nat.le_of_ble_eq_true rfl) dX10_faces_14 (fun v4 g5 => ?_)
    refine z_if_eq (tgt := 29) F dX10_faces_17 (by decide) (fun c6 => ?_) (fun c6 => ?_)
    · refine z_iconst (v := (-1)) F (by decide) dX10_faces_29 ?_
      exact z_ireturn F rfl rfl rfl rfl (fun h => h) dX10_faces_30
    · refine z_aload_n F 0 rfl rfl dX10_faces_20 ?_
      refine z_iload_n F 1 rfl rfl dX10_faces_21 ?_
      refine z_iload_n F 2 rfl rfl dX10_faces_22 ?_
      refine k_X10_letterAt F (by rw [hR]; exact ⟨by decide, by decide⟩) q_1183 hta ⟨Nat.zero_le _, Nat.zero_le _⟩ (Nat.le_of_ble_eq_true rfl) dX10_faces_23 (fun v7 g8 => ?_)
      refine z_goto (tgt := 30) F dX10_faces_26 (by decide) ?_
      exact z_ireturn F rfl rfl rfl rfl (fun h => h) dX10_faces_30
theorem k_X10_faces {ρ : Type} {K : ρ → Prop} {E : zE} {D : zD} {A : Nat → Prop} {Q : State → Prop} {nL : Nat} {κ : zC} {g : zG} {pc : Nat} {lv : List (Nat × Value)} {st : List Value} {cc : ByteArray} {own : String} {ret : Option FieldType} (F : zF E D A cc own nL ret) {index : Nat} {h : Int32 → zG → Option ρ} {a : Nat} {x1 : Int32} {x2 : Int32}  (hR : 2 + 1 ≤ E.2.2.2.1.frames ∧ 8 + (3 + 11) + 46 ≤ E.2.2.2.1.locals) (hl : zTbl (.methodLink own index yX10_faces)) (hta : κ.2.1 a = some (.inr 10)) (hc : κ.2.2.1 ≤ E.2.2.2.1.cells ∧ κ.2.2.2 ≤ E.2.2.2.1.slots) (hW : (st.map fun v => v.category).sum ≤ 8) (hd : decode cc pc = .ok (.invokevirtual index, 3)) (kk : ∀ r g', zSim K (h r g') (zAt E D A Q nL κ g' (pc + 3) lv (.int r :: st))) : zSim K (zb (f_X10_faces a x1 x2 g) h) (zAt E D A Q nL κ g pc lv (.int x2 :: .int x1 :: .ref a :: st)) :=
  z_callV F (n := 2) (As := [.int x1, .int x2]) (C := (RX10, TX10, 61)) ⟨q_1177, q_14, by decide +kernel, rfl, rfl, hR.1, hR.2⟩ (c_X10_faces E.2.1 D κ.1 κ.2.1 g a x1 x2 hta) hl q_1175 q_1176 hta rfl rfl rfl hc hW hd kk _ rfl
theorem dX10_has_0 : decode cX10_has 0 = .ok (.iconst 0, 1) := by decide +kernel
theorem dX10_has_1 : decode cX10_has 1 = .ok (.istore_n 2, 1) := by decide +kernel
theorem dX10_has_2 : decode cX10_has 2 = .ok (.iconst 0, 1) := by decide +kernel
theorem dX10_has_3 : decode cX10_has 3 = .ok (.istore_n 3, 1) := by decide +kernel
theorem dX10_has_4 : decode cX10_has 4 = .ok (.iload_n 3, 1) := by decide +kernel
theorem dX10_has_5 : decode cX10_has 5 = .ok (.aload_n 0, 1) := by decide +kernel
theorem dX10_has_6 : decode cX10_has 6 = .ok (.getfield 139, 3) := by decide +kernel
theorem dX10_has_9 : decode cX10_has 9 = .ok (.if_icmp .ge 29, 3) := by decide +kernel
theorem dX10_has_12 : decode cX10_has 12 = .ok (.iload_n 2, 1) := by decide +kernel
theorem dX10_has_13 : decode cX10_has 13 = .ok (.ifCond .ne 13, 3) := by decide +kernel
theorem dX10_has_16 : decode cX10_has 16 = .ok (.aload_n 0, 1) := by decide +kernel
theorem dX10_has_17 : decode cX10_has 17 = .ok (.getfield 7, 3) := by decide +kernel
theorem dX10_has_20 : decode cX10_has 20 = .ok (.iload_n 3, 1) := by decide +kernel
theorem dX10_has_21 : decode cX10_has 21 = .ok (.iaload, 1) := by decide +kernel
theorem dX10_has_22 : decode cX10_has 22 = .ok (.iload_n 1, 1) := by decide +kernel
theorem dX10_has_23 : decode cX10_has 23 = .ok (.if_icmp .ne 7, 3) := by decide +kernel
theorem dX10_has_26 : decode cX10_has 26 = .ok (.iconst 1, 1) := by decide +kernel
theorem dX10_has_27 : decode cX10_has 27 = .ok (.goto 4, 3) := by decide +kernel
theorem dX10_has_30 : decode cX10_has 30 = .ok (.iconst 0, 1) := by decide +kernel
theorem dX10_has_31 : decode cX10_has 31 = .ok (.istore_n 2, 1) := by decide +kernel
theorem dX10_has_32 : decode cX10_has 32 = .ok (.iinc 3 1, 3) := by decide +kernel
theorem dX10_has_35 : decode cX10_has 35 = .ok (.goto (-31), 3) := by decide +kernel
theorem dX10_has_38 : decode cX10_has 38 = .ok (.iload_n 2, 1) := by decide +kernel
theorem dX10_has_39 : decode cX10_has 39 = .ok (.ireturn, 1) := by decide +kernel
def j_X10_has_38 (a : Nat) (l2 : Int32) (g : zG) : Option (Int32 × zG) :=
  zc (l2 = 0 ∨ l2 = 1) (some ((l2, g)))
def l_X10_has_4 (a : Nat) (l1 : Int32) (g : zG) (l2 : Int32) (l3 : Int32) : Option ((Int32 × Int32) ⊕ (Int32)) :=
  if (g.1 a 0) ≤ l3 then (some (.inr l2)) else (if l2 = 0 then (zc (zin l3 49) (if (g.1 (g.2.1 a 1) l3.toNatClampNeg) = l1 then (zl (l3 + 1) (fun v6 => some (.inl (1, v6)))) else (zl (l3 + 1) (fun v7 => some (.inl (0, v7)))))) else (zl (l3 + 1) (fun v8 => some (.inl (1, v8)))))
def f_X10_has (a : Nat) (x1 : Int32) (g : zG) : Option (Int32 × zG) :=
  zk (zw zN (fun s => l_X10_has_4 a x1 g s.1 s.2) (0, 0)) (fun x => j_X10_has_38 a x g)
abbrev rm_X10_has : Room := { frames := 0, cells := 0, slots := 0, locals := 0 }
set_option maxRecDepth 100000 in
set_option maxHeartbeats 4000000 in
theorem c_X10_has (l : Launch) (D : zD) (sz : Nat) (τ : zT) (g : zG) (a : Nat) (x1 : Int32) (hta : τ a = some (.inr 10)) : zCon l D yX10_has cX10_has 4 (some .boolean) rm_X10_has 0 0 zrI [.ref a, .int x1] sz τ g τ (f_X10_has a x1 g) := by
  refine zCon.of (by decide) (Nat.le_of_ble_eq_true rfl) (fun E r g' hl hR hsz hnm F => ?_)
  have F : zF E D (zA τ sz) cX10_has "TypeChainModel" 4 (some .boolean) := F
  show zSim (fun q : Int32 × zG => q = (r, g')) (f_X10_has a x1 g) (zAt E D (zA τ sz) (zQ E D zrI 0 0 sz τ τ r g') 4 (sz, τ, 0, 0) g 0 [(0, .ref a), (1, .int x1)] [])
  have hj_X10_has_38 : ∀ (l2_38 : Int32) (g_38 : zG), zSim (fun q : Int32 × zG => q = (r, g')) (j_X10_has_38 a l2_38 g_38) (zAt E D (zA τ sz) (zQ E D zrI 0 0 sz τ τ r g') 4 (sz, τ, 0, 0) g_38 38 [(2, .int l2_38)] []) := by
    intro l2_38 g_38
    unfold j_X10_has_38
    refine z_iload_n F 0 rfl rfl dX10_has_38 ?_
    exact z_zc (fun c1 => z_zreturn F (znar01 c1) rfl rfl rfl rfl (fun h => h) dX10_has_39)
  unfold f_X10_has
  refine z_iconst (v := 0) F (by decide) dX10_has_0 ?_
  refine z_istore_n (lv' := [(2, .int 0), (0, .ref a), (1, .int x1)]) F rfl (by decide) dX10_has_1 rfl ?_
  refine z_iconst (v := 0) F (by decide) dX10_has_2 ?_
  refine z_istore_n (lv' := [(3, .int 0), (2, .int 0), (0, .ref a), (1, .int x1)]) F rfl (by decide) dX10_has_3 rfl ?_
  refine z_sub (lv' := [(0, .ref a), (1, .int x1), (2, .int 0), (3, .int 0)]) [2, 3, 1, 0] rfl ?_
  refine z_loop (P := fun s : Int32 × Int32 => zAt E D (zA τ sz) (zQ E D zrI 0 0 sz τ τ r g') 4 (sz, τ, 0, 0) g 4 [(0, .ref a), (1, .int x1), (2, .int s.1), (3, .int s.2)] []) (Px := fun x : Int32 => zAt E D (zA τ sz) (zQ E D zrI 0 0 sz τ τ r g') 4 (sz, τ, 0, 0) g 38 [(2, .int x)] []) (0, 0) (fun s => ?_) (fun x => ?_)
  · obtain ⟨l2_4, l3_4⟩ := s
    show zSim (zKl (fun s : Int32 × Int32 => zAt E D (zA τ sz) (zQ E D zrI 0 0 sz τ τ r g') 4 (sz, τ, 0, 0) g 4 [(0, .ref a), (1, .int x1), (2, .int s.1), (3, .int s.2)] []) (fun x : Int32 => zAt E D (zA τ sz) (zQ E D zrI 0 0 sz τ τ r g') 4 (sz, τ, 0, 0) g 38 [(2, .int x)] [])) (l_X10_has_4 a x1 g l2_4 l3_4) (zAt E D (zA τ sz) (zQ E D zrI 0 0 sz τ τ r g') 4 (sz, τ, 0, 0) g 4 [(0, .ref a), (1, .int x1), (2, .int l2_4), (3, .int l3_4)] [])
    unfold l_X10_has_4
    refine z_iload_n F 3 rfl rfl dX10_has_4 ?_
    refine z_aload_n F 0 rfl rfl dX10_has_5 ?_
    refine gf_X10_139 F hta dX10_has_6 ?_
    refine z_icmp_ge (tgt := 38) F dX10_has_9 (by decide) (fun c2 => ?_) (fun c2 => ?_)
    · refine z_sub (lv' := [(2, .int l2_4)]) [2] rfl ?_
      exact z_back (fun h => h)
    · refine z_iload_n F 2 rfl rfl dX10_has_12 ?_
      refine z_if_ne (tgt := 26) F dX10_has_13 (by decide) (fun c3 => ?_) (fun c3 => ?_)
      · refine z_aload_n F 0 rfl rfl dX10_has_16 ?_
        refine gf_X10_7 F hta dX10_has_17 (fun ht4 => ?_)
        refine z_iload_n F 3 rfl rfl dX10_has_20 ?_
        refine z_iald F ht4 dX10_has_21 ?_
        refine z_iload_n F 1 rfl rfl dX10_has_22 ?_
        refine z_icmp_ne (tgt := 30) F dX10_has_23 (by decide) (fun c5 => ?_) (fun c5 => ?_)
        · refine z_iconst (v := 1) F (by decide) dX10_has_26 ?_
          refine z_goto (tgt := 31) F dX10_has_27 (by decide) ?_
          refine z_istore_n (lv' := [(2, .int 1), (0, .ref a), (1, .int x1), (3, .int l3_4)]) F rfl (by decide) dX10_has_31 rfl ?_
          refine z_iincl (lv' := fun v6 => [(3, .int v6), (2, .int 1), (0, .ref a), (1, .int x1)]) F 3 rfl (by decide) (by decide) dX10_has_32 (fun _ => rfl) (fun v6 => ?_)
          refine z_goto (tgt := 4) F dX10_has_35 (by decide) ?_
          refine z_sub (lv' := [(0, .ref a), (1, .int x1), (2, .int 1), (3, .int v6)]) [2, 3, 1, 0] rfl ?_
          exact z_back (fun h => h)
        · refine z_iconst (v := 0) F (by decide) dX10_has_30 ?_
          refine z_istore_n (lv' := [(2, .int 0), (0, .ref a), (1, .int x1), (3, .int l3_4)]) F rfl (by decide) dX10_has_31 rfl ?_
          refine z_iincl (lv' := fun v7 => [(3, .int v7), (2, .int 0), (0, .ref a), (1, .int x1)]) F 3 rfl (by decide) (by decide) dX10_has_32 (fun _ => rfl) (fun v7 => ?_)
          refine z_goto (tgt := 4) F dX10_has_35 (by decide) ?_
          refine z_sub (lv' := [(0, .ref a), (1, .int x1), (2, .int 0), (3, .int v7)]) [2, 3, 1, 0] rfl ?_
          exact z_back (fun h => h)
      · refine z_iconst (v := 1) F (by decide) dX10_has_26 ?_
        refine z_goto (tgt := 31) F dX10_has_27 (by decide) ?_
        refine z_istore_n (lv' := [(2, .int 1), (0, .ref a), (1, .int x1), (3, .int l3_4)]) F rfl (by decide) dX10_has_31 rfl ?_
        refine z_iincl (lv' := fun v8 => [(3, .int v8), (2, .int 1), (0, .ref a), (1, .int x1)]) F 3 rfl (by decide) (by decide) dX10_has_32 (fun _ => rfl) (fun v8 => ?_)
        refine z_goto (tgt := 4) F dX10_has_35 (by decide) ?_
        refine z_sub (lv' := [(0, .ref a), (1, .int x1), (2, .int 1), (3, .int v8)]) [2, 3, 1, 0] rfl ?_
        exact z_back (fun h => h)
  · show zSim (fun q : Int32 × zG => q = (r, g')) (j_X10_has_38 a x g) (zAt E D (zA τ sz) (zQ E D zrI 0 0 sz τ τ r g') 4 (sz, τ, 0, 0) g 38 [(2, .int x)] [])
    exact hj_X10_has_38 x g
theorem k_X10_has {ρ : Type} {K : ρ → Prop} {E : zE} {D : zD} {A : Nat → Prop} {Q : State → Prop} {nL : Nat} {κ : zC} {g : zG} {pc : Nat} {lv : List (Nat × Value)} {st : List Value} {cc : ByteArray} {own : String} {ret : Option FieldType} (F : zF E D A cc own nL ret) {index : Nat} {h : Int32 → zG → Option ρ} {a : Nat} {x1 : Int32}  (hR : 0 + 1 ≤ E.2.2.2.1.frames ∧ 8 + (4 + 11) + 0 ≤ E.2.2.2.1.locals) (hl : zTbl (.methodLink own index yX10_has)) (hta : κ.2.1 a = some (.inr 10)) (hc : κ.2.2.1 ≤ E.2.2.2.1.cells ∧ κ.2.2.2 ≤ E.2.2.2.1.slots) (hW : (st.map fun v => v.category).sum ≤ 8) (hd : decode cc pc = .ok (.invokevirtual index, 3)) (kk : ∀ r g', zSim K (h r g') (zAt E D A Q nL κ g' (pc + 3) lv (.int r :: st))) : zSim K (zb (f_X10_has a x1 g) h) (zAt E D A Q nL κ g pc lv (.int x1 :: .ref a :: st)) :=
  z_callV F (n := 1) (As := [.int x1]) (C := (RX10, TX10, 61)) ⟨q_1199, q_14, by decide +kernel, rfl, rfl, hR.1, hR.2⟩ (c_X10_has E.2.1 D κ.1 κ.2.1 g a x1 hta) hl q_1198 q_1409 hta rfl rfl rfl hc hW hd kk _ rfl
theorem dX10_comesBy_0 : decode cX10_comesBy 0 = .ok (.iload_n 3, 1) := by decide +kernel
theorem dX10_comesBy_1 : decode cX10_comesBy 1 = .ok (.istore 4, 2) := by decide +kernel
theorem dX10_comesBy_3 : decode cX10_comesBy 3 = .ok (.aload_n 0, 1) := by decide +kernel
theorem dX10_comesBy_4 : decode cX10_comesBy 4 = .ok (.iload_n 1, 1) := by decide +kernel
theorem dX10_comesBy_5 : decode cX10_comesBy 5 = .ok (.iload 4, 2) := by decide +kernel
theorem dX10_comesBy_7 : decode cX10_comesBy 7 = .ok (.invokevirtual 263, 3) := by decide +kernel
theorem dX10_comesBy_10 : decode cX10_comesBy 10 = .ok (.iload_n 2, 1) := by decide +kernel
theorem dX10_comesBy_11 : decode cX10_comesBy 11 = .ok (.if_icmp .eq 9, 3) := by decide +kernel
theorem dX10_comesBy_14 : decode cX10_comesBy 14 = .ok (.iinc 4 1, 3) := by decide +kernel
theorem dX10_comesBy_17 : decode cX10_comesBy 17 = .ok (.goto (-14), 3) := by decide +kernel
theorem dX10_comesBy_20 : decode cX10_comesBy 20 = .ok (.iload 4, 2) := by decide +kernel
theorem dX10_comesBy_22 : decode cX10_comesBy 22 = .ok (.ireturn, 1) := by decide +kernel
def j_X10_comesBy_20 (a : Nat) (l4 : Int32) (g : zG) : Option (Int32 × zG) :=
  some ((l4, g))
def l_X10_comesBy_3 (a : Nat) (l1 : Int32) (l2 : Int32) (l4 : Int32) (g : zG) : Option ((Int32 × zG) ⊕ (Int32 × zG)) :=
  zb (f_X10_letterAt a l1 l4 g) (fun v1 g2 => if v1 = l2 then (some (.inr (l4, g2))) else (zl (l4 + 1) (fun v4 => some (.inl (v4, g2)))))
def f_X10_comesBy (a : Nat) (x1 : Int32) (x2 : Int32) (x3 : Int32) (g : zG) : Option (Int32 × zG) :=
  zk (zw zN (fun s => l_X10_comesBy_3 a x1 x2 s.1 s.2) (x3, g)) (fun x => j_X10_comesBy_20 a x.1 x.2)
abbrev rm_X10_comesBy : Room := { frames := 2, cells := 0, slots := 0, locals := 46 }
set_option maxRecDepth 100000 in
set_option maxHeartbeats 4000000 in
theorem c_X10_comesBy (l : Launch) (D : zD) (sz : Nat) (τ : zT) (g : zG) (a : Nat) (x1 : Int32) (x2 : Int32) (x3 : Int32) (hta : τ a = some (.inr 10)) : zCon l D yX10_comesBy cX10_comesBy 5 (some .int) rm_X10_comesBy 0 0 zrI [.ref a, .int x1, .int x2, .int x3] sz τ g τ (f_X10_comesBy a x1 x2 x3 g) := by
  refine zCon.of (by decide) (Nat.le_of_ble_eq_true rfl) (fun E r g' hl hR hsz hnm F => ?_)
  have F : zF E D (zA τ sz) cX10_comesBy "TypeChainModel" 5 (some .int) := F
  show zSim (fun q : Int32 × zG => q = (r, g')) (f_X10_comesBy a x1 x2 x3 g) (zAt E D (zA τ sz) (zQ E D zrI 0 0 sz τ τ r g') 5 (sz, τ, 0, 0) g 0 [(0, .ref a), (1, .int x1), (2, .int x2), (3, .int x3)] [])
  have hj_X10_comesBy_20 : ∀ (l4_20 : Int32) (g_20 : zG), zSim (fun q : Int32 × zG => q = (r, g')) (j_X10_comesBy_20 a l4_20 g_20) (zAt E D (zA τ sz) (zQ E D zrI 0 0 sz τ τ r g') 5 (sz, τ, 0, 0) g_20 20 [(4, .int l4_20)] []) := by
    intro l4_20 g_20
    unfold j_X10_comesBy_20
    refine z_iload F 0 rfl dX10_comesBy_20 ?_
    exact z_ireturn F rfl rfl rfl rfl (fun h => h) dX10_comesBy_22
  unfold f_X10_comesBy
  refine z_iload_n F 3 rfl rfl dX10_comesBy_0 ?_
  refine z_istore (lv' := [(4, .int x3), (0, .ref a), (1, .int x1), (2, .int x2), (3, .int x3)]) F (by decide) dX10_comesBy_1 rfl ?_
  refine z_sub (lv' := [(0, .ref a), (1, .int x1), (2, .int x2), (4, .int x3)]) [1, 2, 3, 0] rfl ?_
  refine z_loop (P := fun s : Int32 × zG => zAt E D (zA τ sz) (zQ E D zrI 0 0 sz τ τ r g') 5 (sz, τ, 0, 0) s.2 3 [(0, .ref a), (1, .int x1), (2, .int x2), (4, .int s.1)] []) (Px := fun x : Int32 × zG => zAt E D (zA τ sz) (zQ E D zrI 0 0 sz τ τ r g') 5 (sz, τ, 0, 0) x.2 20 [(4, .int x.1)] []) (x3, g) (fun s => ?_) (fun x => ?_)
  · obtain ⟨l4_3, g_3⟩ := s
    show zSim (zKl (fun s : Int32 × zG => zAt E D (zA τ sz) (zQ E D zrI 0 0 sz τ τ r g') 5 (sz, τ, 0, 0) s.2 3 [(0, .ref a), (1, .int x1), (2, .int x2), (4, .int s.1)] []) (fun x : Int32 × zG => zAt E D (zA τ sz) (zQ E D zrI 0 0 sz τ τ r g') 5 (sz, τ, 0, 0) x.2 20 [(4, .int x.1)] [])) (l_X10_comesBy_3 a x1 x2 l4_3 g_3) (zAt E D (zA τ sz) (zQ E D zrI 0 0 sz τ τ r g') 5 (sz, τ, 0, 0) g_3 3 [(0, .ref a), (1, .int x1), (2, .int x2), (4, .int l4_3)] [])
    unfold l_X10_comesBy_3
    refine z_aload_n F 0 rfl rfl dX10_comesBy_3 ?_
    refine z_iload_n F 1 rfl rfl dX10_comesBy_4 ?_
    refine z_iload F 3 rfl dX10_comesBy_5 ?_
    refine k_X10_letterAt F (by rw [hR]; exact ⟨by decide, by decide⟩) q_1183 hta ⟨Nat.zero_le _, Nat.zero_le _⟩ (Nat.le_of_ble_eq_true rfl) dX10_comesBy_7 (fun v1 g2 => ?_)
    refine z_iload_n F 2 rfl rfl dX10_comesBy_10 ?_
    refine z_icmp_eq (tgt := 20) F dX10_comesBy_11 (by decide) (fun c3 => ?_) (fun c3 => ?_)
    · refine z_sub (lv' := [(4, .int l4_3)]) [3] rfl ?_
      exact z_back (fun h => h)
    · refine z_iincl (lv' := fun v4 => [(4, .int v4), (0, .ref a), (1, .int x1), (2, .int x2)]) F 3 rfl (by decide) (by decide) dX10_comesBy_14 (fun _ => rfl) (fun v4 => ?_)
      refine z_goto (tgt := 3) F dX10_comesBy_17 (by decide) ?_
      refine z_sub (lv' := [(0, .ref a), (1, .int x1), (2, .int x2), (4, .int v4)]) [1, 2, 3, 0] rfl ?_
      exact z_back (fun h => h)
  · show zSim (fun q : Int32 × zG => q = (r, g')) (j_X10_comesBy_20 a x.1 x.2) (zAt E D (zA τ sz) (zQ E D zrI 0 0 sz τ τ r g') 5 (sz, τ, 0, 0) x.2 20 [(4, .int x.1)] [])
    exact hj_X10_comesBy_20 x.1 x.2
theorem k_X10_comesBy {ρ : Type} {K : ρ → Prop} {E : zE} {D : zD} {A : Nat → Prop} {Q : State → Prop} {nL : Nat} {κ : zC} {g : zG} {pc : Nat} {lv : List (Nat × Value)} {st : List Value} {cc : ByteArray} {own : String} {ret : Option FieldType} (F : zF E D A cc own nL ret) {index : Nat} {h : Int32 → zG → Option ρ} {a : Nat} {x1 : Int32} {x2 : Int32} {x3 : Int32}  (hR : 2 + 1 ≤ E.2.2.2.1.frames ∧ 8 + (5 + 11) + 46 ≤ E.2.2.2.1.locals) (hl : zTbl (.methodLink own index yX10_comesBy)) (hta : κ.2.1 a = some (.inr 10)) (hc : κ.2.2.1 ≤ E.2.2.2.1.cells ∧ κ.2.2.2 ≤ E.2.2.2.1.slots) (hW : (st.map fun v => v.category).sum ≤ 8) (hd : decode cc pc = .ok (.invokevirtual index, 3)) (kk : ∀ r g', zSim K (h r g') (zAt E D A Q nL κ g' (pc + 3) lv (.int r :: st))) : zSim K (zb (f_X10_comesBy a x1 x2 x3 g) h) (zAt E D A Q nL κ g pc lv (.int x3 :: .int x2 :: .int x1 :: .ref a :: st)) :=
  z_callV F (n := 3) (As := [.int x1, .int x2, .int x3]) (C := (RX10, TX10, 61)) ⟨q_1203, q_14, by decide +kernel, rfl, rfl, hR.1, hR.2⟩ (c_X10_comesBy E.2.1 D κ.1 κ.2.1 g a x1 x2 x3 hta) hl q_1202 q_1410 hta rfl rfl rfl hc hW hd kk _ rfl
theorem dX10_comes_0 : decode cX10_comes 0 = .ok (.aload_n 0, 1) := by decide +kernel
theorem dX10_comes_1 : decode cX10_comes 1 = .ok (.iload_n 1, 1) := by decide +kernel
theorem dX10_comes_2 : decode cX10_comes 2 = .ok (.invokevirtual 257, 3) := by decide +kernel
theorem dX10_comes_5 : decode cX10_comes 5 = .ok (.ifCond .eq 27, 3) := by decide +kernel
theorem dX10_comes_8 : decode cX10_comes 8 = .ok (.iload_n 2, 1) := by decide +kernel
theorem dX10_comes_9 : decode cX10_comes 9 = .ok (.i2l, 1) := by decide +kernel
theorem dX10_comes_10 : decode cX10_comes 10 = .ok (.lconst 1, 1) := by decide +kernel
theorem dX10_comes_11 : decode cX10_comes 11 = .ok (.ldc2_w 266, 3) := by decide +kernel
theorem dX10_comes_14 : decode cX10_comes 14 = .ok (.invokestatic 165, 3) := by decide +kernel
theorem dX10_comes_17 : decode cX10_comes 17 = .ok (.ifCond .eq 15, 3) := by decide +kernel
theorem dX10_comes_20 : decode cX10_comes 20 = .ok (.iload_n 3, 1) := by decide +kernel
theorem dX10_comes_21 : decode cX10_comes 21 = .ok (.i2l, 1) := by decide +kernel
theorem dX10_comes_22 : decode cX10_comes 22 = .ok (.lconst 0, 1) := by decide +kernel
theorem dX10_comes_23 : decode cX10_comes 23 = .ok (.ldc2_w 261, 3) := by decide +kernel
theorem dX10_comes_26 : decode cX10_comes 26 = .ok (.invokestatic 165, 3) := by decide +kernel
theorem dX10_comes_29 : decode cX10_comes 29 = .ok (.ifCond .ne 5, 3) := by decide +kernel
theorem dX10_comes_32 : decode cX10_comes 32 = .ok (.iconst (-1), 1) := by decide +kernel
theorem dX10_comes_33 : decode cX10_comes 33 = .ok (.ireturn, 1) := by decide +kernel
theorem dX10_comes_34 : decode cX10_comes 34 = .ok (.aload_n 0, 1) := by decide +kernel
theorem dX10_comes_35 : decode cX10_comes 35 = .ok (.iload_n 2, 1) := by decide +kernel
theorem dX10_comes_36 : decode cX10_comes 36 = .ok (.invokevirtual 268, 3) := by decide +kernel
theorem dX10_comes_39 : decode cX10_comes 39 = .ok (.ifCond .eq 13, 3) := by decide +kernel
theorem dX10_comes_42 : decode cX10_comes 42 = .ok (.aload_n 0, 1) := by decide +kernel
theorem dX10_comes_43 : decode cX10_comes 43 = .ok (.iload_n 1, 1) := by decide +kernel
theorem dX10_comes_44 : decode cX10_comes 44 = .ok (.iload_n 2, 1) := by decide +kernel
theorem dX10_comes_45 : decode cX10_comes 45 = .ok (.iload_n 3, 1) := by decide +kernel
theorem dX10_comes_46 : decode cX10_comes 46 = .ok (.invokevirtual 271, 3) := by decide +kernel
theorem dX10_comes_49 : decode cX10_comes 49 = .ok (.goto 5, 3) := by decide +kernel
theorem dX10_comes_52 : decode cX10_comes 52 = .ok (.bipush (-4), 2) := by decide +kernel
theorem dX10_comes_54 : decode cX10_comes 54 = .ok (.ireturn, 1) := by decide +kernel
def f_X10_comes (a : Nat) (x1 : Int32) (x2 : Int32) (x3 : Int32) (g : zG) : Option (Int32 × zG) :=
  zb (f_X10_isColumn a x1 g) (fun v1 g2 => if v1 = 0 then (some (((-1), g2))) else (zb (f_X10_in x2.toInt64 1 26 g2) (fun v4 g5 => if v4 = 0 then (some (((-1), g5))) else (zb (f_X10_in x3.toInt64 0 1000000 g5) (fun v7 g8 => if v7 = 0 then (some (((-1), g8))) else (zb (f_X10_has a x2 g8) (fun v10 g11 => if v10 = 0 then (some (((-4), g11))) else (zb (f_X10_comesBy a x1 x2 x3 g11) (fun v13 g14 => some ((v13, g14)))))))))))
abbrev rm_X10_comes : Room := { frames := 3, cells := 0, slots := 0, locals := 70 }
set_option maxRecDepth 100000 in
set_option maxHeartbeats 4000000 in
theorem c_X10_comes (l : Launch) (D : zD) (sz : Nat) (τ : zT) (g : zG) (a : Nat) (x1 : Int32) (x2 : Int32) (x3 : Int32) (hta : τ a = some (.inr 10)) : zCon l D yX10_comes cX10_comes 4 (some .int) rm_X10_comes 0 0 zrI [.ref a, .int x1, .int x2, .int x3] sz τ g τ (f_X10_comes a x1 x2 x3 g) := by
  refine zCon.of (by decide) (Nat.le_of_ble_eq_true rfl) (fun E r g' hl hR hsz hnm F => ?_)
  have F : zF E D (zA τ sz) cX10_comes "TypeChainModel" 4 (some .int) := F
  show zSim (fun q : Int32 × zG => q = (r, g')) (f_X10_comes a x1 x2 x3 g) (zAt E D (zA τ sz) (zQ E D zrI 0 0 sz τ τ r g') 4 (sz, τ, 0, 0) g 0 [(0, .ref a), (1, .int x1), (2, .int x2), (3, .int x3)] [])
  unfold f_X10_comes
  refine z_aload_n F 0 rfl rfl dX10_comes_0 ?_
  refine z_iload_n F 1 rfl rfl dX10_comes_1 ?_
  refine k_X10_isColumn F (by rw [hR]; exact ⟨by decide, by decide⟩) q_1178 hta ⟨Nat.zero_le _, Nat.zero_le _⟩ (Nat.le_of_ble_eq_true rfl) dX10_comes_2 (fun v1 g2 => ?_)
  refine z_if_eq (tgt := 32) F dX10_comes_5 (by decide) (fun c3 => ?_) (fun c3 => ?_)
  · refine z_iconst (v := (-1)) F (by decide) dX10_comes_32 ?_
    exact z_ireturn F rfl rfl rfl rfl (fun h => h) dX10_comes_33
  · refine z_iload_n F 2 rfl rfl dX10_comes_8 ?_
    refine z_i2l F dX10_comes_9 ?_
    refine z_lconst (v := 1) F (by decide) dX10_comes_10 ?_
    refine z_ldc2 F q_1195 dX10_comes_11 ?_
    refine k_X10_in F (by rw [hR]; exact ⟨by decide, by decide⟩) q_1082  ⟨Nat.zero_le _, Nat.zero_le _⟩ (Nat.le_of_ble_eq_true rfl) dX10_comes_14 (fun v4 g5 => ?_)
    refine z_if_eq (tgt := 32) F dX10_comes_17 (by decide) (fun c6 => ?_) (fun c6 => ?_)
    · refine z_iconst (v := (-1)) F (by decide) dX10_comes_32 ?_
      exact z_ireturn F rfl rfl rfl rfl (fun h => h) dX10_comes_33
    · refine z_iload_n F 3 rfl rfl dX10_comes_20 ?_
      refine z_i2l F dX10_comes_21 ?_
      refine z_lconst (v := 0) F (by decide) dX10_comes_22 ?_
      refine z_ldc2 F q_1182 dX10_comes_23 ?_
      refine k_X10_in F (by rw [hR]; exact ⟨by decide, by decide⟩) q_1082  ⟨Nat.zero_le _, Nat.zero_le _⟩ (Nat.le_of_ble_eq_true rfl) dX10_comes_26 (fun v7 g8 => ?_)
      refine z_if_ne (tgt := 34) F dX10_comes_29 (by decide) (fun c9 => ?_) (fun c9 => ?_)
      · refine z_iconst (v := (-1)) F (by decide) dX10_comes_32 ?_
        exact z_ireturn F rfl rfl rfl rfl (fun h => h) dX10_comes_33
      · refine z_aload_n F 0 rfl rfl dX10_comes_34 ?_
        refine z_iload_n F 2 rfl rfl dX10_comes_35 ?_
        refine k_X10_has F (by rw [hR]; exact ⟨by decide, by decide⟩) q_1196 hta ⟨Nat.zero_le _, Nat.zero_le _⟩ (Nat.le_of_ble_eq_true rfl) dX10_comes_36 (fun v10 g11 => ?_)
        refine z_if_eq (tgt := 52) F dX10_comes_39 (by decide) (fun c12 => ?_) (fun c12 => ?_)
        · refine z_bipush (v := (-4)) F (by decide) dX10_comes_52 ?_
          exact z_ireturn F rfl rfl rfl rfl (fun h => h) dX10_comes_54
        · refine z_aload_n F 0 rfl rfl dX10_comes_42 ?_
          refine z_iload_n F 1 rfl rfl dX10_comes_43 ?_
          refine z_iload_n F 2 rfl rfl dX10_comes_44 ?_
          refine z_iload_n F 3 rfl rfl dX10_comes_45 ?_
          refine k_X10_comesBy F (by rw [hR]; exact ⟨by decide, by decide⟩) q_1200 hta ⟨Nat.zero_le _, Nat.zero_le _⟩ (Nat.le_of_ble_eq_true rfl) dX10_comes_46 (fun v13 g14 => ?_)
          refine z_goto (tgt := 54) F dX10_comes_49 (by decide) ?_
          exact z_ireturn F rfl rfl rfl rfl (fun h => h) dX10_comes_54
theorem k_X10_comes {ρ : Type} {K : ρ → Prop} {E : zE} {D : zD} {A : Nat → Prop} {Q : State → Prop} {nL : Nat} {κ : zC} {g : zG} {pc : Nat} {lv : List (Nat × Value)} {st : List Value} {cc : ByteArray} {own : String} {ret : Option FieldType} (F : zF E D A cc own nL ret) {index : Nat} {h : Int32 → zG → Option ρ} {a : Nat} {x1 : Int32} {x2 : Int32} {x3 : Int32}  (hR : 3 + 1 ≤ E.2.2.2.1.frames ∧ 8 + (4 + 11) + 70 ≤ E.2.2.2.1.locals) (hl : zTbl (.methodLink own index yX10_comes)) (hta : κ.2.1 a = some (.inr 10)) (hc : κ.2.2.1 ≤ E.2.2.2.1.cells ∧ κ.2.2.2 ≤ E.2.2.2.1.slots) (hW : (st.map fun v => v.category).sum ≤ 8) (hd : decode cc pc = .ok (.invokevirtual index, 3)) (kk : ∀ r g', zSim K (h r g') (zAt E D A Q nL κ g' (pc + 3) lv (.int r :: st))) : zSim K (zb (f_X10_comes a x1 x2 x3 g) h) (zAt E D A Q nL κ g pc lv (.int x3 :: .int x2 :: .int x1 :: .ref a :: st)) :=
  z_callV F (n := 3) (As := [.int x1, .int x2, .int x3]) (C := (RX10, TX10, 61)) ⟨q_1194, q_14, by decide +kernel, rfl, rfl, hR.1, hR.2⟩ (c_X10_comes E.2.1 D κ.1 κ.2.1 g a x1 x2 x3 hta) hl q_1192 q_1193 hta rfl rfl rfl hc hW hd kk _ rfl
theorem dX10_late_0 : decode cX10_late 0 = .ok (.aload_n 0, 1) := by decide +kernel
theorem dX10_late_1 : decode cX10_late 1 = .ok (.iload_n 1, 1) := by decide +kernel
theorem dX10_late_2 : decode cX10_late 2 = .ok (.invokevirtual 257, 3) := by decide +kernel
theorem dX10_late_5 : decode cX10_late 5 = .ok (.ifCond .eq 29, 3) := by decide +kernel
theorem dX10_late_8 : decode cX10_late 8 = .ok (.iload_n 2, 1) := by decide +kernel
theorem dX10_late_9 : decode cX10_late 9 = .ok (.i2l, 1) := by decide +kernel
theorem dX10_late_10 : decode cX10_late 10 = .ok (.lconst 1, 1) := by decide +kernel
theorem dX10_late_11 : decode cX10_late 11 = .ok (.ldc2_w 266, 3) := by decide +kernel
theorem dX10_late_14 : decode cX10_late 14 = .ok (.invokestatic 165, 3) := by decide +kernel
theorem dX10_late_17 : decode cX10_late 17 = .ok (.ifCond .eq 17, 3) := by decide +kernel
theorem dX10_late_20 : decode cX10_late 20 = .ok (.iload_n 3, 1) := by decide +kernel
theorem dX10_late_21 : decode cX10_late 21 = .ok (.i2l, 1) := by decide +kernel
theorem dX10_late_22 : decode cX10_late 22 = .ok (.ldc2_w 275, 3) := by decide +kernel
theorem dX10_late_25 : decode cX10_late 25 = .ok (.ldc2_w 277, 3) := by decide +kernel
theorem dX10_late_28 : decode cX10_late 28 = .ok (.invokestatic 165, 3) := by decide +kernel
theorem dX10_late_31 : decode cX10_late 31 = .ok (.ifCond .ne 5, 3) := by decide +kernel
theorem dX10_late_34 : decode cX10_late 34 = .ok (.iconst (-1), 1) := by decide +kernel
theorem dX10_late_35 : decode cX10_late 35 = .ok (.ireturn, 1) := by decide +kernel
theorem dX10_late_36 : decode cX10_late 36 = .ok (.aload_n 0, 1) := by decide +kernel
theorem dX10_late_37 : decode cX10_late 37 = .ok (.iload_n 2, 1) := by decide +kernel
theorem dX10_late_38 : decode cX10_late 38 = .ok (.invokevirtual 268, 3) := by decide +kernel
theorem dX10_late_41 : decode cX10_late 41 = .ok (.ifCond .ne 6, 3) := by decide +kernel
theorem dX10_late_44 : decode cX10_late 44 = .ok (.bipush (-4), 2) := by decide +kernel
theorem dX10_late_46 : decode cX10_late 46 = .ok (.ireturn, 1) := by decide +kernel
theorem dX10_late_47 : decode cX10_late 47 = .ok (.aload_n 0, 1) := by decide +kernel
theorem dX10_late_48 : decode cX10_late 48 = .ok (.iload_n 1, 1) := by decide +kernel
theorem dX10_late_49 : decode cX10_late 49 = .ok (.iload_n 2, 1) := by decide +kernel
theorem dX10_late_50 : decode cX10_late 50 = .ok (.aload_n 0, 1) := by decide +kernel
theorem dX10_late_51 : decode cX10_late 51 = .ok (.getfield 279, 3) := by decide +kernel
theorem dX10_late_54 : decode cX10_late 54 = .ok (.invokevirtual 271, 3) := by decide +kernel
theorem dX10_late_57 : decode cX10_late 57 = .ok (.iload_n 3, 1) := by decide +kernel
theorem dX10_late_58 : decode cX10_late 58 = .ok (.iadd, 1) := by decide +kernel
theorem dX10_late_59 : decode cX10_late 59 = .ok (.istore 4, 2) := by decide +kernel
theorem dX10_late_61 : decode cX10_late 61 = .ok (.iload 4, 2) := by decide +kernel
theorem dX10_late_63 : decode cX10_late 63 = .ok (.ifCond .ge 6, 3) := by decide +kernel
theorem dX10_late_66 : decode cX10_late 66 = .ok (.bipush (-2), 2) := by decide +kernel
theorem dX10_late_68 : decode cX10_late 68 = .ok (.ireturn, 1) := by decide +kernel
theorem dX10_late_69 : decode cX10_late 69 = .ok (.aload_n 0, 1) := by decide +kernel
theorem dX10_late_70 : decode cX10_late 70 = .ok (.iload_n 1, 1) := by decide +kernel
theorem dX10_late_71 : decode cX10_late 71 = .ok (.iload 4, 2) := by decide +kernel
theorem dX10_late_73 : decode cX10_late 73 = .ok (.invokevirtual 263, 3) := by decide +kernel
theorem dX10_late_76 : decode cX10_late 76 = .ok (.bipush (-4), 2) := by decide +kernel
theorem dX10_late_78 : decode cX10_late 78 = .ok (.if_icmp .ne 7, 3) := by decide +kernel
theorem dX10_late_81 : decode cX10_late 81 = .ok (.iconst 0, 1) := by decide +kernel
theorem dX10_late_82 : decode cX10_late 82 = .ok (.goto 10, 3) := by decide +kernel
theorem dX10_late_85 : decode cX10_late 85 = .ok (.aload_n 0, 1) := by decide +kernel
theorem dX10_late_86 : decode cX10_late 86 = .ok (.iload_n 1, 1) := by decide +kernel
theorem dX10_late_87 : decode cX10_late 87 = .ok (.iload 4, 2) := by decide +kernel
theorem dX10_late_89 : decode cX10_late 89 = .ok (.invokevirtual 263, 3) := by decide +kernel
theorem dX10_late_92 : decode cX10_late 92 = .ok (.ireturn, 1) := by decide +kernel
def f_X10_late (a : Nat) (x1 : Int32) (x2 : Int32) (x3 : Int32) (g : zG) : Option (Int32 × zG) :=
  zb (f_X10_isColumn a x1 g) (fun v1 g2 => if v1 = 0 then (some (((-1), g2))) else (zb (f_X10_in x2.toInt64 1 26 g2) (fun v4 g5 => if v4 = 0 then (some (((-1), g5))) else (zb (f_X10_in x3.toInt64 (-20) 20 g5) (fun v7 g8 => if v7 = 0 then (some (((-1), g8))) else (zb (f_X10_has a x2 g8) (fun v10 g11 => if v10 = 0 then (some (((-4), g11))) else (zb (f_X10_comesBy a x1 x2 (g11.1 a 34) g11) (fun v13 g14 => zl (v13 + x3) (fun v15 => if 0 ≤ v15 then (zb (f_X10_letterAt a x1 v15 g14) (fun v17 g18 => if v17 = (-4) then (some ((0, g18))) else (zb (f_X10_letterAt a x1 v15 g18) (fun v20 g21 => some ((v20, g21)))))) else (some (((-2), g14)))))))))))))
abbrev rm_X10_late : Room := { frames := 3, cells := 0, slots := 0, locals := 70 }
set_option maxRecDepth 100000 in
set_option maxHeartbeats 4000000 in
theorem c_X10_late (l : Launch) (D : zD) (sz : Nat) (τ : zT) (g : zG) (a : Nat) (x1 : Int32) (x2 : Int32) (x3 : Int32) (hta : τ a = some (.inr 10)) : zCon l D yX10_late cX10_late 5 (some .int) rm_X10_late 0 0 zrI [.ref a, .int x1, .int x2, .int x3] sz τ g τ (f_X10_late a x1 x2 x3 g) := by
  refine zCon.of (by decide) (Nat.le_of_ble_eq_true rfl) (fun E r g' hl hR hsz hnm F => ?_)
  have F : zF E D (zA τ sz) cX10_late "TypeChainModel" 5 (some .int) := F
  show zSim (fun q : Int32 × zG => q = (r, g')) (f_X10_late a x1 x2 x3 g) (zAt E D (zA τ sz) (zQ E D zrI 0 0 sz τ τ r g') 5 (sz, τ, 0, 0) g 0 [(0, .ref a), (1, .int x1), (2, .int x2), (3, .int x3)] [])
  unfold f_X10_late
  refine z_aload_n F 0 rfl rfl dX10_late_0 ?_
  refine z_iload_n F 1 rfl rfl dX10_late_1 ?_
  refine k_X10_isColumn F (by rw [hR]; exact ⟨by decide, by decide⟩) q_1178 hta ⟨Nat.zero_le _, Nat.zero_le _⟩ (Nat.le_of_ble_eq_true rfl) dX10_late_2 (fun v1 g2 => ?_)
  refine z_if_eq (tgt := 34) F dX10_late_5 (by decide) (fun c3 => ?_) (fun c3 => ?_)
  · refine z_iconst (v := (-1)) F (by decide) dX10_late_34 ?_
    exact z_ireturn F rfl rfl rfl rfl (fun h => h) dX10_late_35
  · refine z_iload_n F 2 rfl rfl dX10_late_8 ?_
    refine z_i2l F dX10_late_9 ?_
    refine z_lconst (v := 1) F (by decide) dX10_late_10 ?_
    refine z_ldc2 F q_1195 dX10_late_11 ?_
    refine k_X10_in F (by rw [hR]; exact ⟨by decide, by decide⟩) q_1082  ⟨Nat.zero_le _, Nat.zero_le _⟩ (Nat.le_of_ble_eq_true rfl) dX10_late_14 (fun v4 g5 => ?_)
    refine z_if_eq (tgt := 34) F dX10_late_17 (by decide) (fun c6 => ?_) (fun c6 => ?_)
    · refine z_iconst (v := (-1)) F (by decide) dX10_late_34 ?_
      exact z_ireturn F rfl rfl rfl rfl (fun h => h) dX10_late_35
    · refine z_iload_n F 3 rfl rfl dX10_late_20 ?_
      refine z_i2l F dX10_late_21 ?_
      refine z_ldc2 F q_1208 dX10_late_22 ?_
      refine z_ldc2 F q_1209 dX10_late_25 ?_
      refine k_X10_in F (by rw [hR]; exact ⟨by decide, by decide⟩) q_1082  ⟨Nat.zero_le _, Nat.zero_le _⟩ (Nat.le_of_ble_eq_true rfl) dX10_late_28 (fun v7 g8 => ?_)
      refine z_if_ne (tgt := 36) F dX10_late_31 (by decide) (fun c9 => ?_) (fun c9 => ?_)
      · refine z_iconst (v := (-1)) F (by decide) dX10_late_34 ?_
        exact z_ireturn F rfl rfl rfl rfl (fun h => h) dX10_late_35
      · refine z_aload_n F 0 rfl rfl dX10_late_36 ?_
        refine z_iload_n F 2 rfl rfl dX10_late_37 ?_
        refine k_X10_has F (by rw [hR]; exact ⟨by decide, by decide⟩) q_1196 hta ⟨Nat.zero_le _, Nat.zero_le _⟩ (Nat.le_of_ble_eq_true rfl) dX10_late_38 (fun v10 g11 => ?_)
        refine z_if_ne (tgt := 47) F dX10_late_41 (by decide) (fun c12 => ?_) (fun c12 => ?_)
        · refine z_bipush (v := (-4)) F (by decide) dX10_late_44 ?_
          exact z_ireturn F rfl rfl rfl rfl (fun h => h) dX10_late_46
        · refine z_aload_n F 0 rfl rfl dX10_late_47 ?_
          refine z_iload_n F 1 rfl rfl dX10_late_48 ?_
          refine z_iload_n F 2 rfl rfl dX10_late_49 ?_
          refine z_aload_n F 0 rfl rfl dX10_late_50 ?_
          refine gf_X10_279 F hta dX10_late_51 ?_
          refine k_X10_comesBy F (by rw [hR]; exact ⟨by decide, by decide⟩) q_1200 hta ⟨Nat.zero_le _, Nat.zero_le _⟩ (Nat.le_of_ble_eq_true rfl) dX10_late_54 (fun v13 g14 => ?_)
          refine z_iload_n F 3 rfl rfl dX10_late_57 ?_
          refine z_iadd F dX10_late_58 ?_
          refine z_leti (fun v15 => ?_)
          refine z_istore (lv' := [(4, .int v15), (0, .ref a), (1, .int x1), (2, .int x2), (3, .int x3)]) F (by decide) dX10_late_59 rfl ?_
          refine z_iload F 0 rfl dX10_late_61 ?_
          refine z_if_ge (tgt := 69) F dX10_late_63 (by decide) (fun c16 => ?_) (fun c16 => ?_)
          · refine z_aload_n F 1 rfl rfl dX10_late_69 ?_
            refine z_iload_n F 2 rfl rfl dX10_late_70 ?_
            refine z_iload F 0 rfl dX10_late_71 ?_
            refine k_X10_letterAt F (by rw [hR]; exact ⟨by decide, by decide⟩) q_1183 hta ⟨Nat.zero_le _, Nat.zero_le _⟩ (Nat.le_of_ble_eq_true rfl) dX10_late_73 (fun v17 g18 => ?_)
            refine z_bipush (v := (-4)) F (by decide) dX10_late_76 ?_
            refine z_icmp_ne (tgt := 85) F dX10_late_78 (by decide) (fun c19 => ?_) (fun c19 => ?_)
            · refine z_iconst (v := 0) F (by decide) dX10_late_81 ?_
              refine z_goto (tgt := 92) F dX10_late_82 (by decide) ?_
              exact z_ireturn F rfl rfl rfl rfl (fun h => h) dX10_late_92
            · refine z_aload_n F 1 rfl rfl dX10_late_85 ?_
              refine z_iload_n F 2 rfl rfl dX10_late_86 ?_
              refine z_iload F 0 rfl dX10_late_87 ?_
              refine k_X10_letterAt F (by rw [hR]; exact ⟨by decide, by decide⟩) q_1183 hta ⟨Nat.zero_le _, Nat.zero_le _⟩ (Nat.le_of_ble_eq_true rfl) dX10_late_89 (fun v20 g21 => ?_)
              exact z_ireturn F rfl rfl rfl rfl (fun h => h) dX10_late_92
          · refine z_bipush (v := (-2)) F (by decide) dX10_late_66 ?_
            exact z_ireturn F rfl rfl rfl rfl (fun h => h) dX10_late_68
theorem k_X10_late {ρ : Type} {K : ρ → Prop} {E : zE} {D : zD} {A : Nat → Prop} {Q : State → Prop} {nL : Nat} {κ : zC} {g : zG} {pc : Nat} {lv : List (Nat × Value)} {st : List Value} {cc : ByteArray} {own : String} {ret : Option FieldType} (F : zF E D A cc own nL ret) {index : Nat} {h : Int32 → zG → Option ρ} {a : Nat} {x1 : Int32} {x2 : Int32} {x3 : Int32}  (hR : 3 + 1 ≤ E.2.2.2.1.frames ∧ 8 + (5 + 11) + 70 ≤ E.2.2.2.1.locals) (hl : zTbl (.methodLink own index yX10_late)) (hta : κ.2.1 a = some (.inr 10)) (hc : κ.2.2.1 ≤ E.2.2.2.1.cells ∧ κ.2.2.2 ≤ E.2.2.2.1.slots) (hW : (st.map fun v => v.category).sum ≤ 8) (hd : decode cc pc = .ok (.invokevirtual index, 3)) (kk : ∀ r g', zSim K (h r g') (zAt E D A Q nL κ g' (pc + 3) lv (.int r :: st))) : zSim K (zb (f_X10_late a x1 x2 x3 g) h) (zAt E D A Q nL κ g pc lv (.int x3 :: .int x2 :: .int x1 :: .ref a :: st)) :=
  z_callV F (n := 3) (As := [.int x1, .int x2, .int x3]) (C := (RX10, TX10, 61)) ⟨q_1207, q_14, by decide +kernel, rfl, rfl, hR.1, hR.2⟩ (c_X10_late E.2.1 D κ.1 κ.2.1 g a x1 x2 x3 hta) hl q_1205 q_1206 hta rfl rfl rfl hc hW hd kk _ rfl
theorem dX10_begins_0 : decode cX10_begins 0 = .ok (.aload_n 0, 1) := by decide +kernel
theorem dX10_begins_1 : decode cX10_begins 1 = .ok (.iconst 0, 1) := by decide +kernel
theorem dX10_begins_2 : decode cX10_begins 2 = .ok (.putfield 279, 3) := by decide +kernel
theorem dX10_begins_5 : decode cX10_begins 5 = .ok (.aload_n 0, 1) := by decide +kernel
theorem dX10_begins_6 : decode cX10_begins 6 = .ok (.iconst 0, 1) := by decide +kernel
theorem dX10_begins_7 : decode cX10_begins 7 = .ok (.putfield 282, 3) := by decide +kernel
theorem dX10_begins_10 : decode cX10_begins 10 = .ok (.iconst 0, 1) := by decide +kernel
theorem dX10_begins_11 : decode cX10_begins 11 = .ok (.istore_n 1, 1) := by decide +kernel
theorem dX10_begins_12 : decode cX10_begins 12 = .ok (.iload_n 1, 1) := by decide +kernel
theorem dX10_begins_13 : decode cX10_begins 13 = .ok (.bipush 40, 2) := by decide +kernel
theorem dX10_begins_15 : decode cX10_begins 15 = .ok (.if_icmp .ge 16, 3) := by decide +kernel
theorem dX10_begins_18 : decode cX10_begins 18 = .ok (.aload_n 0, 1) := by decide +kernel
theorem dX10_begins_19 : decode cX10_begins 19 = .ok (.getfield 71, 3) := by decide +kernel
theorem dX10_begins_22 : decode cX10_begins 22 = .ok (.iload_n 1, 1) := by decide +kernel
theorem dX10_begins_23 : decode cX10_begins 23 = .ok (.iconst 0, 1) := by decide +kernel
theorem dX10_begins_24 : decode cX10_begins 24 = .ok (.iastore, 1) := by decide +kernel
theorem dX10_begins_25 : decode cX10_begins 25 = .ok (.iinc 1 1, 3) := by decide +kernel
theorem dX10_begins_28 : decode cX10_begins 28 = .ok (.goto (-16), 3) := by decide +kernel
theorem dX10_begins_31 : decode cX10_begins 31 = .ok (.return_, 1) := by decide +kernel
def j_X10_begins_31 (a : Nat)  (g : zG) : Option (Int32 × zG) :=
  some ((0, g))
def l_X10_begins_12 (a : Nat) (l1 : Int32) (g : zG) : Option ((Int32 × zG) ⊕ (zG)) :=
  if 40 ≤ l1 then (some (.inr g)) else (zc (zin l1 40) (zl (zsi g (g.2.1 a 37) l1.toNatClampNeg 0) (fun g5 => zl (l1 + 1) (fun v6 => some (.inl (v6, g5))))))
def f_X10_begins (a : Nat) (g : zG) : Option (Int32 × zG) :=
  zl (zsi g a 34 0) (fun g1 => zl (zsi g1 a 35 0) (fun g2 => zk (zw zN (fun s => l_X10_begins_12 a s.1 s.2) (0, g2)) (fun x => j_X10_begins_31 a x)))
abbrev rm_X10_begins : Room := { frames := 0, cells := 0, slots := 0, locals := 0 }
set_option maxRecDepth 100000 in
set_option maxHeartbeats 4000000 in
theorem c_X10_begins (l : Launch) (D : zD) (sz : Nat) (τ : zT) (g : zG) (a : Nat) (hta : τ a = some (.inr 10)) : zCon l D yX10_begins cX10_begins 2 none rm_X10_begins 0 0 zrV [.ref a] sz τ g τ (f_X10_begins a g) := by
  refine zCon.of (by decide) (Nat.le_of_ble_eq_true rfl) (fun E r g' hl hR hsz hnm F => ?_)
  have F : zF E D (zA τ sz) cX10_begins "TypeChainModel" 2 none := F
  show zSim (fun q : Int32 × zG => q = (r, g')) (f_X10_begins a g) (zAt E D (zA τ sz) (zQ E D zrV 0 0 sz τ τ r g') 2 (sz, τ, 0, 0) g 0 [(0, .ref a)] [])
  have hj_X10_begins_31 : ∀  (g_31 : zG), zSim (fun q : Int32 × zG => q = (r, g')) (j_X10_begins_31 a g_31) (zAt E D (zA τ sz) (zQ E D zrV 0 0 sz τ τ r g') 2 (sz, τ, 0, 0) g_31 31 [] []) := by
    intro g_31
    unfold j_X10_begins_31
    exact z_vreturn F rfl rfl rfl rfl (fun h => h) dX10_begins_31
  unfold f_X10_begins
  refine z_aload_n F 0 rfl rfl dX10_begins_0 ?_
  refine z_iconst (v := 0) F (by decide) dX10_begins_1 ?_
  refine pf_X10_279 F hta dX10_begins_2 ?_
  refine z_letg (fun g1 => ?_)
  refine z_aload_n F 0 rfl rfl dX10_begins_5 ?_
  refine z_iconst (v := 0) F (by decide) dX10_begins_6 ?_
  refine pf_X10_282 F hta dX10_begins_7 ?_
  refine z_letg (fun g2 => ?_)
  refine z_iconst (v := 0) F (by decide) dX10_begins_10 ?_
  refine z_istore_n (lv' := [(1, .int 0), (0, .ref a)]) F rfl (by decide) dX10_begins_11 rfl ?_
  refine z_sub (lv' := [(0, .ref a), (1, .int 0)]) [1, 0] rfl ?_
  refine z_loop (P := fun s : Int32 × zG => zAt E D (zA τ sz) (zQ E D zrV 0 0 sz τ τ r g') 2 (sz, τ, 0, 0) s.2 12 [(0, .ref a), (1, .int s.1)] []) (Px := fun x : zG => zAt E D (zA τ sz) (zQ E D zrV 0 0 sz τ τ r g') 2 (sz, τ, 0, 0) x 31 [] []) (0, g2) (fun s => ?_) (fun x => ?_)
  · obtain ⟨l1_12, g_12⟩ := s
    show zSim (zKl (fun s : Int32 × zG => zAt E D (zA τ sz) (zQ E D zrV 0 0 sz τ τ r g') 2 (sz, τ, 0, 0) s.2 12 [(0, .ref a), (1, .int s.1)] []) (fun x : zG => zAt E D (zA τ sz) (zQ E D zrV 0 0 sz τ τ r g') 2 (sz, τ, 0, 0) x 31 [] [])) (l_X10_begins_12 a l1_12 g_12) (zAt E D (zA τ sz) (zQ E D zrV 0 0 sz τ τ r g') 2 (sz, τ, 0, 0) g_12 12 [(0, .ref a), (1, .int l1_12)] [])
    unfold l_X10_begins_12
    refine z_iload_n F 1 rfl rfl dX10_begins_12 ?_
    refine z_bipush (v := 40) F (by decide) dX10_begins_13 ?_
    refine z_icmp_ge (tgt := 31) F dX10_begins_15 (by decide) (fun c3 => ?_) (fun c3 => ?_)
    · refine z_sub (lv' := []) [] rfl ?_
      exact z_back (fun h => h)
    · refine z_aload_n F 0 rfl rfl dX10_begins_18 ?_
      refine gf_X10_71 F hta dX10_begins_19 (fun ht4 => ?_)
      refine z_iload_n F 1 rfl rfl dX10_begins_22 ?_
      refine z_iconst (v := 0) F (by decide) dX10_begins_23 ?_
      refine z_iast F ht4 dX10_begins_24 ?_
      refine z_letg (fun g5 => ?_)
      refine z_iincl (lv' := fun v6 => [(1, .int v6), (0, .ref a)]) F 1 rfl (by decide) (by decide) dX10_begins_25 (fun _ => rfl) (fun v6 => ?_)
      refine z_goto (tgt := 12) F dX10_begins_28 (by decide) ?_
      refine z_sub (lv' := [(0, .ref a), (1, .int v6)]) [1, 0] rfl ?_
      exact z_back (fun h => h)
  · show zSim (fun q : Int32 × zG => q = (r, g')) (j_X10_begins_31 a x) (zAt E D (zA τ sz) (zQ E D zrV 0 0 sz τ τ r g') 2 (sz, τ, 0, 0) x 31 [] [])
    exact hj_X10_begins_31 x
theorem k_X10_begins {ρ : Type} {K : ρ → Prop} {E : zE} {D : zD} {A : Nat → Prop} {Q : State → Prop} {nL : Nat} {κ : zC} {g : zG} {pc : Nat} {lv : List (Nat × Value)} {st : List Value} {cc : ByteArray} {own : String} {ret : Option FieldType} (F : zF E D A cc own nL ret) {index : Nat} {h : Int32 → zG → Option ρ} {a : Nat}  (hR : 0 + 1 ≤ E.2.2.2.1.frames ∧ 8 + (2 + 11) + 0 ≤ E.2.2.2.1.locals) (hl : zTbl (.methodLink own index yX10_begins)) (hta : κ.2.1 a = some (.inr 10)) (hc : κ.2.2.1 ≤ E.2.2.2.1.cells ∧ κ.2.2.2 ≤ E.2.2.2.1.slots) (hW : (st.map fun v => v.category).sum ≤ 8) (hd : decode cc pc = .ok (.invokevirtual index, 3)) (kk : ∀ r g', zSim K (h r g') (zAt E D A Q nL κ g' (pc + 3) lv (st))) : zSim K (zb (f_X10_begins a g) h) (zAt E D A Q nL κ g pc lv (.ref a :: st)) :=
  z_callV F (n := 0) (As := []) (C := (RX10, TX10, 61)) ⟨q_883, q_14, by decide +kernel, rfl, rfl, hR.1, hR.2⟩ (c_X10_begins E.2.1 D κ.1 κ.2.1 g a hta) hl q_882 q_1391 hta rfl rfl rfl hc hW hd kk _ rfl
theorem dX10_blankPage_0 : decode cX10_blankPage 0 = .ok (.iconst 0, 1) := by decide +kernel
theorem dX10_blankPage_1 : decode cX10_blankPage 1 = .ok (.istore_n 1, 1) := by decide +kernel
theorem dX10_blankPage_2 : decode cX10_blankPage 2 = .ok (.iload_n 1, 1) := by decide +kernel
theorem dX10_blankPage_3 : decode cX10_blankPage 3 = .ok (.sipush 2400, 3) := by decide +kernel
theorem dX10_blankPage_6 : decode cX10_blankPage 6 = .ok (.if_icmp .ge 23, 3) := by decide +kernel
theorem dX10_blankPage_9 : decode cX10_blankPage 9 = .ok (.aload_n 0, 1) := by decide +kernel
theorem dX10_blankPage_10 : decode cX10_blankPage 10 = .ok (.getfield 74, 3) := by decide +kernel
theorem dX10_blankPage_13 : decode cX10_blankPage 13 = .ok (.iload_n 1, 1) := by decide +kernel
theorem dX10_blankPage_14 : decode cX10_blankPage 14 = .ok (.iconst 0, 1) := by decide +kernel
theorem dX10_blankPage_15 : decode cX10_blankPage 15 = .ok (.iastore, 1) := by decide +kernel
theorem dX10_blankPage_16 : decode cX10_blankPage 16 = .ok (.aload_n 0, 1) := by decide +kernel
theorem dX10_blankPage_17 : decode cX10_blankPage 17 = .ok (.getfield 77, 3) := by decide +kernel
theorem dX10_blankPage_20 : decode cX10_blankPage 20 = .ok (.iload_n 1, 1) := by decide +kernel
theorem dX10_blankPage_21 : decode cX10_blankPage 21 = .ok (.iconst 0, 1) := by decide +kernel
theorem dX10_blankPage_22 : decode cX10_blankPage 22 = .ok (.iastore, 1) := by decide +kernel
theorem dX10_blankPage_23 : decode cX10_blankPage 23 = .ok (.iinc 1 1, 3) := by decide +kernel
theorem dX10_blankPage_26 : decode cX10_blankPage 26 = .ok (.goto (-24), 3) := by decide +kernel
theorem dX10_blankPage_29 : decode cX10_blankPage 29 = .ok (.return_, 1) := by decide +kernel
def j_X10_blankPage_29 (a : Nat)  (g : zG) : Option (Int32 × zG) :=
  some ((0, g))
def l_X10_blankPage_2 (a : Nat) (l1 : Int32) (g : zG) : Option ((Int32 × zG) ⊕ (zG)) :=
  if 2400 ≤ l1 then (some (.inr g)) else (zc (zin l1 2400) (zl (zsi g (g.2.1 a 38) l1.toNatClampNeg 0) (fun g3 => zc (zin l1 2400) (zl (zsi g3 (g3.2.1 a 39) l1.toNatClampNeg 0) (fun g5 => zl (l1 + 1) (fun v6 => some (.inl (v6, g5))))))))
def f_X10_blankPage (a : Nat) (g : zG) : Option (Int32 × zG) :=
  zk (zw zN (fun s => l_X10_blankPage_2 a s.1 s.2) (0, g)) (fun x => j_X10_blankPage_29 a x)
abbrev rm_X10_blankPage : Room := { frames := 0, cells := 0, slots := 0, locals := 0 }
set_option maxRecDepth 100000 in
set_option maxHeartbeats 4000000 in
theorem c_X10_blankPage (l : Launch) (D : zD) (sz : Nat) (τ : zT) (g : zG) (a : Nat) (hta : τ a = some (.inr 10)) : zCon l D yX10_blankPage cX10_blankPage 2 none rm_X10_blankPage 0 0 zrV [.ref a] sz τ g τ (f_X10_blankPage a g) := by
  refine zCon.of (by decide) (Nat.le_of_ble_eq_true rfl) (fun E r g' hl hR hsz hnm F => ?_)
  have F : zF E D (zA τ sz) cX10_blankPage "TypeChainModel" 2 none := F
  show zSim (fun q : Int32 × zG => q = (r, g')) (f_X10_blankPage a g) (zAt E D (zA τ sz) (zQ E D zrV 0 0 sz τ τ r g') 2 (sz, τ, 0, 0) g 0 [(0, .ref a)] [])
  have hj_X10_blankPage_29 : ∀  (g_29 : zG), zSim (fun q : Int32 × zG => q = (r, g')) (j_X10_blankPage_29 a g_29) (zAt E D (zA τ sz) (zQ E D zrV 0 0 sz τ τ r g') 2 (sz, τ, 0, 0) g_29 29 [] []) := by
    intro g_29
    unfold j_X10_blankPage_29
    exact z_vreturn F rfl rfl rfl rfl (fun h => h) dX10_blankPage_29
  unfold f_X10_blankPage
  refine z_iconst (v := 0) F (by decide) dX10_blankPage_0 ?_
  refine z_istore_n (lv' := [(1, .int 0), (0, .ref a)]) F rfl (by decide) dX10_blankPage_1 rfl ?_
  refine z_sub (lv' := [(0, .ref a), (1, .int 0)]) [1, 0] rfl ?_
  refine z_loop (P := fun s : Int32 × zG => zAt E D (zA τ sz) (zQ E D zrV 0 0 sz τ τ r g') 2 (sz, τ, 0, 0) s.2 2 [(0, .ref a), (1, .int s.1)] []) (Px := fun x : zG => zAt E D (zA τ sz) (zQ E D zrV 0 0 sz τ τ r g') 2 (sz, τ, 0, 0) x 29 [] []) (0, g) (fun s => ?_) (fun x => ?_)
  · obtain ⟨l1_2, g_2⟩ := s
    show zSim (zKl (fun s : Int32 × zG => zAt E D (zA τ sz) (zQ E D zrV 0 0 sz τ τ r g') 2 (sz, τ, 0, 0) s.2 2 [(0, .ref a), (1, .int s.1)] []) (fun x : zG => zAt E D (zA τ sz) (zQ E D zrV 0 0 sz τ τ r g') 2 (sz, τ, 0, 0) x 29 [] [])) (l_X10_blankPage_2 a l1_2 g_2) (zAt E D (zA τ sz) (zQ E D zrV 0 0 sz τ τ r g') 2 (sz, τ, 0, 0) g_2 2 [(0, .ref a), (1, .int l1_2)] [])
    unfold l_X10_blankPage_2
    refine z_iload_n F 1 rfl rfl dX10_blankPage_2 ?_
    refine z_sipush (v := 2400) F (by decide) dX10_blankPage_3 ?_
    refine z_icmp_ge (tgt := 29) F dX10_blankPage_6 (by decide) (fun c1 => ?_) (fun c1 => ?_)
    · refine z_sub (lv' := []) [] rfl ?_
      exact z_back (fun h => h)
    · refine z_aload_n F 0 rfl rfl dX10_blankPage_9 ?_
      refine gf_X10_74 F hta dX10_blankPage_10 (fun ht2 => ?_)
      refine z_iload_n F 1 rfl rfl dX10_blankPage_13 ?_
      refine z_iconst (v := 0) F (by decide) dX10_blankPage_14 ?_
      refine z_iast F ht2 dX10_blankPage_15 ?_
      refine z_letg (fun g3 => ?_)
      refine z_aload_n F 0 rfl rfl dX10_blankPage_16 ?_
      refine gf_X10_77 F hta dX10_blankPage_17 (fun ht4 => ?_)
      refine z_iload_n F 1 rfl rfl dX10_blankPage_20 ?_
      refine z_iconst (v := 0) F (by decide) dX10_blankPage_21 ?_
      refine z_iast F ht4 dX10_blankPage_22 ?_
      refine z_letg (fun g5 => ?_)
      refine z_iincl (lv' := fun v6 => [(1, .int v6), (0, .ref a)]) F 1 rfl (by decide) (by decide) dX10_blankPage_23 (fun _ => rfl) (fun v6 => ?_)
      refine z_goto (tgt := 2) F dX10_blankPage_26 (by decide) ?_
      refine z_sub (lv' := [(0, .ref a), (1, .int v6)]) [1, 0] rfl ?_
      exact z_back (fun h => h)
  · show zSim (fun q : Int32 × zG => q = (r, g')) (j_X10_blankPage_29 a x) (zAt E D (zA τ sz) (zQ E D zrV 0 0 sz τ τ r g') 2 (sz, τ, 0, 0) x 29 [] [])
    exact hj_X10_blankPage_29 x
theorem k_X10_blankPage {ρ : Type} {K : ρ → Prop} {E : zE} {D : zD} {A : Nat → Prop} {Q : State → Prop} {nL : Nat} {κ : zC} {g : zG} {pc : Nat} {lv : List (Nat × Value)} {st : List Value} {cc : ByteArray} {own : String} {ret : Option FieldType} (F : zF E D A cc own nL ret) {index : Nat} {h : Int32 → zG → Option ρ} {a : Nat}  (hR : 0 + 1 ≤ E.2.2.2.1.frames ∧ 8 + (2 + 11) + 0 ≤ E.2.2.2.1.locals) (hl : zTbl (.methodLink own index yX10_blankPage)) (hta : κ.2.1 a = some (.inr 10)) (hc : κ.2.2.1 ≤ E.2.2.2.1.cells ∧ κ.2.2.2 ≤ E.2.2.2.1.slots) (hW : (st.map fun v => v.category).sum ≤ 8) (hd : decode cc pc = .ok (.invokevirtual index, 3)) (kk : ∀ r g', zSim K (h r g') (zAt E D A Q nL κ g' (pc + 3) lv (st))) : zSim K (zb (f_X10_blankPage a g) h) (zAt E D A Q nL κ g pc lv (.ref a :: st)) :=
  z_callV F (n := 0) (As := []) (C := (RX10, TX10, 61)) ⟨q_887, q_14, by decide +kernel, rfl, rfl, hR.1, hR.2⟩ (c_X10_blankPage E.2.1 D κ.1 κ.2.1 g a hta) hl q_886 q_1392 hta rfl rfl rfl hc hW hd kk _ rfl
theorem dX10_put_0 : decode cX10_put 0 = .ok (.aload_n 0, 1) := by decide +kernel
theorem dX10_put_1 : decode cX10_put 1 = .ok (.iload_n 1, 1) := by decide +kernel
theorem dX10_put_2 : decode cX10_put 2 = .ok (.invokevirtual 257, 3) := by decide +kernel
theorem dX10_put_5 : decode cX10_put 5 = .ok (.ifCond .eq 15, 3) := by decide +kernel
theorem dX10_put_8 : decode cX10_put 8 = .ok (.iload_n 2, 1) := by decide +kernel
theorem dX10_put_9 : decode cX10_put 9 = .ok (.i2l, 1) := by decide +kernel
theorem dX10_put_10 : decode cX10_put 10 = .ok (.lconst 0, 1) := by decide +kernel
theorem dX10_put_11 : decode cX10_put 11 = .ok (.ldc2_w 266, 3) := by decide +kernel
theorem dX10_put_14 : decode cX10_put 14 = .ok (.invokestatic 165, 3) := by decide +kernel
theorem dX10_put_17 : decode cX10_put 17 = .ok (.ifCond .ne 5, 3) := by decide +kernel
theorem dX10_put_20 : decode cX10_put 20 = .ok (.iconst (-1), 1) := by decide +kernel
theorem dX10_put_21 : decode cX10_put 21 = .ok (.ireturn, 1) := by decide +kernel
theorem dX10_put_22 : decode cX10_put 22 = .ok (.aload_n 0, 1) := by decide +kernel
theorem dX10_put_23 : decode cX10_put 23 = .ok (.getfield 71, 3) := by decide +kernel
theorem dX10_put_26 : decode cX10_put 26 = .ok (.iload_n 1, 1) := by decide +kernel
theorem dX10_put_27 : decode cX10_put 27 = .ok (.iaload, 1) := by decide +kernel
theorem dX10_put_28 : decode cX10_put 28 = .ok (.istore_n 3, 1) := by decide +kernel
theorem dX10_put_29 : decode cX10_put 29 = .ok (.aload_n 0, 1) := by decide +kernel
theorem dX10_put_30 : decode cX10_put 30 = .ok (.getfield 71, 3) := by decide +kernel
theorem dX10_put_33 : decode cX10_put 33 = .ok (.iload_n 1, 1) := by decide +kernel
theorem dX10_put_34 : decode cX10_put 34 = .ok (.iload_n 2, 1) := by decide +kernel
theorem dX10_put_35 : decode cX10_put 35 = .ok (.iastore, 1) := by decide +kernel
theorem dX10_put_36 : decode cX10_put 36 = .ok (.iload_n 3, 1) := by decide +kernel
theorem dX10_put_37 : decode cX10_put 37 = .ok (.ireturn, 1) := by decide +kernel
def f_X10_put (a : Nat) (x1 : Int32) (x2 : Int32) (g : zG) : Option (Int32 × zG) :=
  zb (f_X10_isColumn a x1 g) (fun v1 g2 => if v1 = 0 then (some (((-1), g2))) else (zb (f_X10_in x2.toInt64 0 26 g2) (fun v4 g5 => if v4 = 0 then (some (((-1), g5))) else (zc (zin x1 40) (zl (g5.1 (g5.2.1 a 37) x1.toNatClampNeg) (fun v8 => zc (zin x1 40) (zl (zsi g5 (g5.2.1 a 37) x1.toNatClampNeg x2) (fun g10 => some ((v8, g10))))))))))
abbrev rm_X10_put : Room := { frames := 2, cells := 0, slots := 0, locals := 46 }
set_option maxRecDepth 100000 in
set_option maxHeartbeats 4000000 in
theorem c_X10_put (l : Launch) (D : zD) (sz : Nat) (τ : zT) (g : zG) (a : Nat) (x1 : Int32) (x2 : Int32) (hta : τ a = some (.inr 10)) : zCon l D yX10_put cX10_put 4 (some .int) rm_X10_put 0 0 zrI [.ref a, .int x1, .int x2] sz τ g τ (f_X10_put a x1 x2 g) := by
  refine zCon.of (by decide) (Nat.le_of_ble_eq_true rfl) (fun E r g' hl hR hsz hnm F => ?_)
  have F : zF E D (zA τ sz) cX10_put "TypeChainModel" 4 (some .int) := F
  show zSim (fun q : Int32 × zG => q = (r, g')) (f_X10_put a x1 x2 g) (zAt E D (zA τ sz) (zQ E D zrI 0 0 sz τ τ r g') 4 (sz, τ, 0, 0) g 0 [(0, .ref a), (1, .int x1), (2, .int x2)] [])
  unfold f_X10_put
  refine z_aload_n F 0 rfl rfl dX10_put_0 ?_
  refine z_iload_n F 1 rfl rfl dX10_put_1 ?_
  refine k_X10_isColumn F (by rw [hR]; exact ⟨by decide, by decide⟩) q_1178 hta ⟨Nat.zero_le _, Nat.zero_le _⟩ (Nat.le_of_ble_eq_true rfl) dX10_put_2 (fun v1 g2 => ?_)
  refine z_if_eq (tgt := 20) F dX10_put_5 (by decide) (fun c3 => ?_) (fun c3 => ?_)
  · refine z_iconst (v := (-1)) F (by decide) dX10_put_20 ?_
    exact z_ireturn F rfl rfl rfl rfl (fun h => h) dX10_put_21
  · refine z_iload_n F 2 rfl rfl dX10_put_8 ?_
    refine z_i2l F dX10_put_9 ?_
    refine z_lconst (v := 0) F (by decide) dX10_put_10 ?_
    refine z_ldc2 F q_1195 dX10_put_11 ?_
    refine k_X10_in F (by rw [hR]; exact ⟨by decide, by decide⟩) q_1082  ⟨Nat.zero_le _, Nat.zero_le _⟩ (Nat.le_of_ble_eq_true rfl) dX10_put_14 (fun v4 g5 => ?_)
    refine z_if_ne (tgt := 22) F dX10_put_17 (by decide) (fun c6 => ?_) (fun c6 => ?_)
    · refine z_iconst (v := (-1)) F (by decide) dX10_put_20 ?_
      exact z_ireturn F rfl rfl rfl rfl (fun h => h) dX10_put_21
    · refine z_aload_n F 0 rfl rfl dX10_put_22 ?_
      refine gf_X10_71 F hta dX10_put_23 (fun ht7 => ?_)
      refine z_iload_n F 1 rfl rfl dX10_put_26 ?_
      refine z_iald F ht7 dX10_put_27 ?_
      refine z_leti (fun v8 => ?_)
      refine z_istore_n (lv' := [(3, .int v8), (0, .ref a), (1, .int x1), (2, .int x2)]) F rfl (by decide) dX10_put_28 rfl ?_
      refine z_aload_n F 1 rfl rfl dX10_put_29 ?_
      refine gf_X10_71 F hta dX10_put_30 (fun ht9 => ?_)
      refine z_iload_n F 2 rfl rfl dX10_put_33 ?_
      refine z_iload_n F 3 rfl rfl dX10_put_34 ?_
      refine z_iast F ht9 dX10_put_35 ?_
      refine z_letg (fun g10 => ?_)
      refine z_iload_n F 0 rfl rfl dX10_put_36 ?_
      exact z_ireturn F rfl rfl rfl rfl (fun h => h) dX10_put_37
theorem k_X10_put {ρ : Type} {K : ρ → Prop} {E : zE} {D : zD} {A : Nat → Prop} {Q : State → Prop} {nL : Nat} {κ : zC} {g : zG} {pc : Nat} {lv : List (Nat × Value)} {st : List Value} {cc : ByteArray} {own : String} {ret : Option FieldType} (F : zF E D A cc own nL ret) {index : Nat} {h : Int32 → zG → Option ρ} {a : Nat} {x1 : Int32} {x2 : Int32}  (hR : 2 + 1 ≤ E.2.2.2.1.frames ∧ 8 + (4 + 11) + 46 ≤ E.2.2.2.1.locals) (hl : zTbl (.methodLink own index yX10_put)) (hta : κ.2.1 a = some (.inr 10)) (hc : κ.2.2.1 ≤ E.2.2.2.1.cells ∧ κ.2.2.2 ≤ E.2.2.2.1.slots) (hW : (st.map fun v => v.category).sum ≤ 8) (hd : decode cc pc = .ok (.invokevirtual index, 3)) (kk : ∀ r g', zSim K (h r g') (zAt E D A Q nL κ g' (pc + 3) lv (.int r :: st))) : zSim K (zb (f_X10_put a x1 x2 g) h) (zAt E D A Q nL κ g pc lv (.int x2 :: .int x1 :: .ref a :: st)) :=
  z_callV F (n := 2) (As := [.int x1, .int x2]) (C := (RX10, TX10, 61)) ⟨q_1213, q_14, by decide +kernel, rfl, rfl, hR.1, hR.2⟩ (c_X10_put E.2.1 D κ.1 κ.2.1 g a x1 x2 hta) hl q_1211 q_1212 hta rfl rfl rfl hc hW hd kk _ rfl
theorem dX10_line_0 : decode cX10_line 0 = .ok (.aload_n 0, 1) := by decide +kernel
theorem dX10_line_1 : decode cX10_line 1 = .ok (.iload_n 1, 1) := by decide +kernel
theorem dX10_line_2 : decode cX10_line 2 = .ok (.invokevirtual 257, 3) := by decide +kernel
theorem dX10_line_5 : decode cX10_line 5 = .ok (.ifCond .eq 12, 3) := by decide +kernel
theorem dX10_line_8 : decode cX10_line 8 = .ok (.aload_n 0, 1) := by decide +kernel
theorem dX10_line_9 : decode cX10_line 9 = .ok (.getfield 71, 3) := by decide +kernel
theorem dX10_line_12 : decode cX10_line 12 = .ok (.iload_n 1, 1) := by decide +kernel
theorem dX10_line_13 : decode cX10_line 13 = .ok (.iaload, 1) := by decide +kernel
theorem dX10_line_14 : decode cX10_line 14 = .ok (.goto 4, 3) := by decide +kernel
theorem dX10_line_17 : decode cX10_line 17 = .ok (.iconst (-1), 1) := by decide +kernel
theorem dX10_line_18 : decode cX10_line 18 = .ok (.ireturn, 1) := by decide +kernel
def f_X10_line (a : Nat) (x1 : Int32) (g : zG) : Option (Int32 × zG) :=
  zb (f_X10_isColumn a x1 g) (fun v1 g2 => if v1 = 0 then (some (((-1), g2))) else (zc (zin x1 40) (some ((g2.1 (g2.2.1 a 37) x1.toNatClampNeg, g2)))))
abbrev rm_X10_line : Room := { frames := 2, cells := 0, slots := 0, locals := 46 }
set_option maxRecDepth 100000 in
set_option maxHeartbeats 4000000 in
theorem c_X10_line (l : Launch) (D : zD) (sz : Nat) (τ : zT) (g : zG) (a : Nat) (x1 : Int32) (hta : τ a = some (.inr 10)) : zCon l D yX10_line cX10_line 2 (some .int) rm_X10_line 0 0 zrI [.ref a, .int x1] sz τ g τ (f_X10_line a x1 g) := by
  refine zCon.of (by decide) (Nat.le_of_ble_eq_true rfl) (fun E r g' hl hR hsz hnm F => ?_)
  have F : zF E D (zA τ sz) cX10_line "TypeChainModel" 2 (some .int) := F
  show zSim (fun q : Int32 × zG => q = (r, g')) (f_X10_line a x1 g) (zAt E D (zA τ sz) (zQ E D zrI 0 0 sz τ τ r g') 2 (sz, τ, 0, 0) g 0 [(0, .ref a), (1, .int x1)] [])
  unfold f_X10_line
  refine z_aload_n F 0 rfl rfl dX10_line_0 ?_
  refine z_iload_n F 1 rfl rfl dX10_line_1 ?_
  refine k_X10_isColumn F (by rw [hR]; exact ⟨by decide, by decide⟩) q_1178 hta ⟨Nat.zero_le _, Nat.zero_le _⟩ (Nat.le_of_ble_eq_true rfl) dX10_line_2 (fun v1 g2 => ?_)
  refine z_if_eq (tgt := 17) F dX10_line_5 (by decide) (fun c3 => ?_) (fun c3 => ?_)
  · refine z_iconst (v := (-1)) F (by decide) dX10_line_17 ?_
    exact z_ireturn F rfl rfl rfl rfl (fun h => h) dX10_line_18
  · refine z_aload_n F 0 rfl rfl dX10_line_8 ?_
    refine gf_X10_71 F hta dX10_line_9 (fun ht4 => ?_)
    refine z_iload_n F 1 rfl rfl dX10_line_12 ?_
    refine z_iald F ht4 dX10_line_13 ?_
    refine z_goto (tgt := 18) F dX10_line_14 (by decide) ?_
    exact z_ireturn F rfl rfl rfl rfl (fun h => h) dX10_line_18
theorem k_X10_line {ρ : Type} {K : ρ → Prop} {E : zE} {D : zD} {A : Nat → Prop} {Q : State → Prop} {nL : Nat} {κ : zC} {g : zG} {pc : Nat} {lv : List (Nat × Value)} {st : List Value} {cc : ByteArray} {own : String} {ret : Option FieldType} (F : zF E D A cc own nL ret) {index : Nat} {h : Int32 → zG → Option ρ} {a : Nat} {x1 : Int32}  (hR : 2 + 1 ≤ E.2.2.2.1.frames ∧ 8 + (2 + 11) + 46 ≤ E.2.2.2.1.locals) (hl : zTbl (.methodLink own index yX10_line)) (hta : κ.2.1 a = some (.inr 10)) (hc : κ.2.2.1 ≤ E.2.2.2.1.cells ∧ κ.2.2.2 ≤ E.2.2.2.1.slots) (hW : (st.map fun v => v.category).sum ≤ 8) (hd : decode cc pc = .ok (.invokevirtual index, 3)) (kk : ∀ r g', zSim K (h r g') (zAt E D A Q nL κ g' (pc + 3) lv (.int r :: st))) : zSim K (zb (f_X10_line a x1 g) h) (zAt E D A Q nL κ g pc lv (.int x1 :: .ref a :: st)) :=
  z_callV F (n := 1) (As := [.int x1]) (C := (RX10, TX10, 61)) ⟨q_1217, q_14, by decide +kernel, rfl, rfl, hR.1, hR.2⟩ (c_X10_line E.2.1 D κ.1 κ.2.1 g a x1 hta) hl q_1215 q_1216 hta rfl rfl rfl hc hW hd kk _ rfl
theorem dX10_canGo_0 : decode cX10_canGo 0 = .ok (.iconst 1, 1) := by decide +kernel
theorem dX10_canGo_1 : decode cX10_canGo 1 = .ok (.istore_n 1, 1) := by decide +kernel
theorem dX10_canGo_2 : decode cX10_canGo 2 = .ok (.iconst 0, 1) := by decide +kernel
theorem dX10_canGo_3 : decode cX10_canGo 3 = .ok (.istore_n 2, 1) := by decide +kernel
theorem dX10_canGo_4 : decode cX10_canGo 4 = .ok (.iload_n 2, 1) := by decide +kernel
theorem dX10_canGo_5 : decode cX10_canGo 5 = .ok (.aload_n 0, 1) := by decide +kernel
theorem dX10_canGo_6 : decode cX10_canGo 6 = .ok (.getfield 13, 3) := by decide +kernel
theorem dX10_canGo_9 : decode cX10_canGo 9 = .ok (.iconst 3, 1) := by decide +kernel
theorem dX10_canGo_10 : decode cX10_canGo 10 = .ok (.iaload, 1) := by decide +kernel
theorem dX10_canGo_11 : decode cX10_canGo 11 = .ok (.if_icmp .ge 41, 3) := by decide +kernel
theorem dX10_canGo_14 : decode cX10_canGo 14 = .ok (.iload_n 1, 1) := by decide +kernel
theorem dX10_canGo_15 : decode cX10_canGo 15 = .ok (.ifCond .eq 29, 3) := by decide +kernel
theorem dX10_canGo_18 : decode cX10_canGo 18 = .ok (.aload_n 0, 1) := by decide +kernel
theorem dX10_canGo_19 : decode cX10_canGo 19 = .ok (.getfield 71, 3) := by decide +kernel
theorem dX10_canGo_22 : decode cX10_canGo 22 = .ok (.iload_n 2, 1) := by decide +kernel
theorem dX10_canGo_23 : decode cX10_canGo 23 = .ok (.iaload, 1) := by decide +kernel
theorem dX10_canGo_24 : decode cX10_canGo 24 = .ok (.ifCond .eq 16, 3) := by decide +kernel
theorem dX10_canGo_27 : decode cX10_canGo 27 = .ok (.aload_n 0, 1) := by decide +kernel
theorem dX10_canGo_28 : decode cX10_canGo 28 = .ok (.aload_n 0, 1) := by decide +kernel
theorem dX10_canGo_29 : decode cX10_canGo 29 = .ok (.getfield 71, 3) := by decide +kernel
theorem dX10_canGo_32 : decode cX10_canGo 32 = .ok (.iload_n 2, 1) := by decide +kernel
theorem dX10_canGo_33 : decode cX10_canGo 33 = .ok (.iaload, 1) := by decide +kernel
theorem dX10_canGo_34 : decode cX10_canGo 34 = .ok (.invokevirtual 268, 3) := by decide +kernel
theorem dX10_canGo_37 : decode cX10_canGo 37 = .ok (.ifCond .eq 7, 3) := by decide +kernel
theorem dX10_canGo_40 : decode cX10_canGo 40 = .ok (.iconst 1, 1) := by decide +kernel
theorem dX10_canGo_41 : decode cX10_canGo 41 = .ok (.goto 4, 3) := by decide +kernel
theorem dX10_canGo_44 : decode cX10_canGo 44 = .ok (.iconst 0, 1) := by decide +kernel
theorem dX10_canGo_45 : decode cX10_canGo 45 = .ok (.istore_n 1, 1) := by decide +kernel
theorem dX10_canGo_46 : decode cX10_canGo 46 = .ok (.iinc 2 1, 3) := by decide +kernel
theorem dX10_canGo_49 : decode cX10_canGo 49 = .ok (.goto (-45), 3) := by decide +kernel
theorem dX10_canGo_52 : decode cX10_canGo 52 = .ok (.iload_n 1, 1) := by decide +kernel
theorem dX10_canGo_53 : decode cX10_canGo 53 = .ok (.ireturn, 1) := by decide +kernel
def j_X10_canGo_52 (a : Nat) (l1 : Int32) (g : zG) : Option (Int32 × zG) :=
  zc (l1 = 0 ∨ l1 = 1) (some ((l1, g)))
def l_X10_canGo_4 (a : Nat) (l1 : Int32) (l2 : Int32) (g : zG) : Option ((Int32 × Int32 × zG) ⊕ (Int32 × zG)) :=
  zc (zin 3 8) (if (g.1 (g.2.1 a 2) (3 : Int32).toNatClampNeg) ≤ l2 then (some (.inr (l1, g))) else (if l1 = 0 then (zl (l2 + 1) (fun v5 => some (.inl (0, v5, g)))) else (zc (zin l2 40) (if (g.1 (g.2.1 a 37) l2.toNatClampNeg) = 0 then (zl (l2 + 1) (fun v8 => some (.inl (1, v8, g)))) else (zc (zin l2 40) (zb (f_X10_has a (g.1 (g.2.1 a 37) l2.toNatClampNeg) g) (fun v10 g11 => if v10 = 0 then (zl (l2 + 1) (fun v13 => some (.inl (0, v13, g11)))) else (zl (l2 + 1) (fun v14 => some (.inl (1, v14, g11)))))))))))
def f_X10_canGo (a : Nat) (g : zG) : Option (Int32 × zG) :=
  zk (zw zN (fun s => l_X10_canGo_4 a s.1 s.2.1 s.2.2) (1, 0, g)) (fun x => j_X10_canGo_52 a x.1 x.2)
abbrev rm_X10_canGo : Room := { frames := 1, cells := 0, slots := 0, locals := 23 }
set_option maxRecDepth 100000 in
set_option maxHeartbeats 4000000 in
theorem c_X10_canGo (l : Launch) (D : zD) (sz : Nat) (τ : zT) (g : zG) (a : Nat) (hta : τ a = some (.inr 10)) : zCon l D yX10_canGo cX10_canGo 3 (some .boolean) rm_X10_canGo 0 0 zrI [.ref a] sz τ g τ (f_X10_canGo a g) := by
  refine zCon.of (by decide) (Nat.le_of_ble_eq_true rfl) (fun E r g' hl hR hsz hnm F => ?_)
  have F : zF E D (zA τ sz) cX10_canGo "TypeChainModel" 3 (some .boolean) := F
  show zSim (fun q : Int32 × zG => q = (r, g')) (f_X10_canGo a g) (zAt E D (zA τ sz) (zQ E D zrI 0 0 sz τ τ r g') 3 (sz, τ, 0, 0) g 0 [(0, .ref a)] [])
  have hj_X10_canGo_52 : ∀ (l1_52 : Int32) (g_52 : zG), zSim (fun q : Int32 × zG => q = (r, g')) (j_X10_canGo_52 a l1_52 g_52) (zAt E D (zA τ sz) (zQ E D zrI 0 0 sz τ τ r g') 3 (sz, τ, 0, 0) g_52 52 [(1, .int l1_52)] []) := by
    intro l1_52 g_52
    unfold j_X10_canGo_52
    refine z_iload_n F 0 rfl rfl dX10_canGo_52 ?_
    exact z_zc (fun c1 => z_zreturn F (znar01 c1) rfl rfl rfl rfl (fun h => h) dX10_canGo_53)
  unfold f_X10_canGo
  refine z_iconst (v := 1) F (by decide) dX10_canGo_0 ?_
  refine z_istore_n (lv' := [(1, .int 1), (0, .ref a)]) F rfl (by decide) dX10_canGo_1 rfl ?_
  refine z_iconst (v := 0) F (by decide) dX10_canGo_2 ?_
  refine z_istore_n (lv' := [(2, .int 0), (1, .int 1), (0, .ref a)]) F rfl (by decide) dX10_canGo_3 rfl ?_
  refine z_sub (lv' := [(0, .ref a), (1, .int 1), (2, .int 0)]) [2, 1, 0] rfl ?_
  refine z_loop (P := fun s : Int32 × Int32 × zG => zAt E D (zA τ sz) (zQ E D zrI 0 0 sz τ τ r g') 3 (sz, τ, 0, 0) s.2.2 4 [(0, .ref a), (1, .int s.1), (2, .int s.2.1)] []) (Px := fun x : Int32 × zG => zAt E D (zA τ sz) (zQ E D zrI 0 0 sz τ τ r g') 3 (sz, τ, 0, 0) x.2 52 [(1, .int x.1)] []) (1, 0, g) (fun s => ?_) (fun x => ?_)
  · obtain ⟨l1_4, l2_4, g_4⟩ := s
    show zSim (zKl (fun s : Int32 × Int32 × zG => zAt E D (zA τ sz) (zQ E D zrI 0 0 sz τ τ r g') 3 (sz, τ, 0, 0) s.2.2 4 [(0, .ref a), (1, .int s.1), (2, .int s.2.1)] []) (fun x : Int32 × zG => zAt E D (zA τ sz) (zQ E D zrI 0 0 sz τ τ r g') 3 (sz, τ, 0, 0) x.2 52 [(1, .int x.1)] [])) (l_X10_canGo_4 a l1_4 l2_4 g_4) (zAt E D (zA τ sz) (zQ E D zrI 0 0 sz τ τ r g') 3 (sz, τ, 0, 0) g_4 4 [(0, .ref a), (1, .int l1_4), (2, .int l2_4)] [])
    unfold l_X10_canGo_4
    refine z_iload_n F 2 rfl rfl dX10_canGo_4 ?_
    refine z_aload_n F 0 rfl rfl dX10_canGo_5 ?_
    refine gf_X10_13 F hta dX10_canGo_6 (fun ht2 => ?_)
    refine z_iconst (v := 3) F (by decide) dX10_canGo_9 ?_
    refine z_iald F ht2 dX10_canGo_10 ?_
    refine z_icmp_ge (tgt := 52) F dX10_canGo_11 (by decide) (fun c3 => ?_) (fun c3 => ?_)
    · refine z_sub (lv' := [(1, .int l1_4)]) [1] rfl ?_
      exact z_back (fun h => h)
    · refine z_iload_n F 1 rfl rfl dX10_canGo_14 ?_
      refine z_if_eq (tgt := 44) F dX10_canGo_15 (by decide) (fun c4 => ?_) (fun c4 => ?_)
      · refine z_iconst (v := 0) F (by decide) dX10_canGo_44 ?_
        refine z_istore_n (lv' := [(1, .int 0), (0, .ref a), (2, .int l2_4)]) F rfl (by decide) dX10_canGo_45 rfl ?_
        refine z_iincl (lv' := fun v5 => [(2, .int v5), (1, .int 0), (0, .ref a)]) F 2 rfl (by decide) (by decide) dX10_canGo_46 (fun _ => rfl) (fun v5 => ?_)
        refine z_goto (tgt := 4) F dX10_canGo_49 (by decide) ?_
        refine z_sub (lv' := [(0, .ref a), (1, .int 0), (2, .int v5)]) [2, 1, 0] rfl ?_
        exact z_back (fun h => h)
      · refine z_aload_n F 0 rfl rfl dX10_canGo_18 ?_
        refine gf_X10_71 F hta dX10_canGo_19 (fun ht6 => ?_)
        refine z_iload_n F 2 rfl rfl dX10_canGo_22 ?_
        refine z_iald F ht6 dX10_canGo_23 ?_
        refine z_if_eq (tgt := 40) F dX10_canGo_24 (by decide) (fun c7 => ?_) (fun c7 => ?_)
        · refine z_iconst (v := 1) F (by decide) dX10_canGo_40 ?_
          refine z_goto (tgt := 45) F dX10_canGo_41 (by decide) ?_
          refine z_istore_n (lv' := [(1, .int 1), (0, .ref a), (2, .int l2_4)]) F rfl (by decide) dX10_canGo_45 rfl ?_
          refine z_iincl (lv' := fun v8 => [(2, .int v8), (1, .int 1), (0, .ref a)]) F 2 rfl (by decide) (by decide) dX10_canGo_46 (fun _ => rfl) (fun v8 => ?_)
          refine z_goto (tgt := 4) F dX10_canGo_49 (by decide) ?_
          refine z_sub (lv' := [(0, .ref a), (1, .int 1), (2, .int v8)]) [2, 1, 0] rfl ?_
          exact z_back (fun h => h)
        · refine z_aload_n F 0 rfl rfl dX10_canGo_27 ?_
          refine z_aload_n F 0 rfl rfl dX10_canGo_28 ?_
          refine gf_X10_71 F hta dX10_canGo_29 (fun ht9 => ?_)
          refine z_iload_n F 2 rfl rfl dX10_canGo_32 ?_
          refine z_iald F ht9 dX10_canGo_33 ?_
          refine k_X10_has F (by rw [hR]; exact ⟨by decide, by decide⟩) q_1196 hta ⟨Nat.zero_le _, Nat.zero_le _⟩ (Nat.le_of_ble_eq_true rfl) dX10_canGo_34 (fun v10 g11 => ?_)
          refine z_if_eq (tgt := 44) F dX10_canGo_37 (by decide) (fun c12 => ?_) (fun c12 => ?_)
          · refine z_iconst (v := 0) F (by decide) dX10_canGo_44 ?_
            refine z_istore_n (lv' := [(1, .int 0), (0, .ref a), (2, .int l2_4)]) F rfl (by decide) dX10_canGo_45 rfl ?_
            refine z_iincl (lv' := fun v13 => [(2, .int v13), (1, .int 0), (0, .ref a)]) F 2 rfl (by decide) (by decide) dX10_canGo_46 (fun _ => rfl) (fun v13 => ?_)
            refine z_goto (tgt := 4) F dX10_canGo_49 (by decide) ?_
            refine z_sub (lv' := [(0, .ref a), (1, .int 0), (2, .int v13)]) [2, 1, 0] rfl ?_
            exact z_back (fun h => h)
          · refine z_iconst (v := 1) F (by decide) dX10_canGo_40 ?_
            refine z_goto (tgt := 45) F dX10_canGo_41 (by decide) ?_
            refine z_istore_n (lv' := [(1, .int 1), (0, .ref a), (2, .int l2_4)]) F rfl (by decide) dX10_canGo_45 rfl ?_
            refine z_iincl (lv' := fun v14 => [(2, .int v14), (1, .int 1), (0, .ref a)]) F 2 rfl (by decide) (by decide) dX10_canGo_46 (fun _ => rfl) (fun v14 => ?_)
            refine z_goto (tgt := 4) F dX10_canGo_49 (by decide) ?_
            refine z_sub (lv' := [(0, .ref a), (1, .int 1), (2, .int v14)]) [2, 1, 0] rfl ?_
            exact z_back (fun h => h)
  · show zSim (fun q : Int32 × zG => q = (r, g')) (j_X10_canGo_52 a x.1 x.2) (zAt E D (zA τ sz) (zQ E D zrI 0 0 sz τ τ r g') 3 (sz, τ, 0, 0) x.2 52 [(1, .int x.1)] [])
    exact hj_X10_canGo_52 x.1 x.2
theorem k_X10_canGo {ρ : Type} {K : ρ → Prop} {E : zE} {D : zD} {A : Nat → Prop} {Q : State → Prop} {nL : Nat} {κ : zC} {g : zG} {pc : Nat} {lv : List (Nat × Value)} {st : List Value} {cc : ByteArray} {own : String} {ret : Option FieldType} (F : zF E D A cc own nL ret) {index : Nat} {h : Int32 → zG → Option ρ} {a : Nat}  (hR : 1 + 1 ≤ E.2.2.2.1.frames ∧ 8 + (3 + 11) + 23 ≤ E.2.2.2.1.locals) (hl : zTbl (.methodLink own index yX10_canGo)) (hta : κ.2.1 a = some (.inr 10)) (hc : κ.2.2.1 ≤ E.2.2.2.1.cells ∧ κ.2.2.2 ≤ E.2.2.2.1.slots) (hW : (st.map fun v => v.category).sum ≤ 8) (hd : decode cc pc = .ok (.invokevirtual index, 3)) (kk : ∀ r g', zSim K (h r g') (zAt E D A Q nL κ g' (pc + 3) lv (.int r :: st))) : zSim K (zb (f_X10_canGo a g) h) (zAt E D A Q nL κ g pc lv (.ref a :: st)) :=
  z_callV F (n := 0) (As := []) (C := (RX10, TX10, 61)) ⟨q_1226, q_14, by decide +kernel, rfl, rfl, hR.1, hR.2⟩ (c_X10_canGo E.2.1 D κ.1 κ.2.1 g a hta) hl q_1225 q_1411 hta rfl rfl rfl hc hW hd kk _ rfl
theorem dX10_strikes_0 : decode cX10_strikes 0 = .ok (.iconst 0, 1) := by decide +kernel
theorem dX10_strikes_1 : decode cX10_strikes 1 = .ok (.istore_n 2, 1) := by decide +kernel
theorem dX10_strikes_2 : decode cX10_strikes 2 = .ok (.iconst 0, 1) := by decide +kernel
theorem dX10_strikes_3 : decode cX10_strikes 3 = .ok (.istore_n 3, 1) := by decide +kernel
theorem dX10_strikes_4 : decode cX10_strikes 4 = .ok (.iload_n 3, 1) := by decide +kernel
theorem dX10_strikes_5 : decode cX10_strikes 5 = .ok (.aload_n 0, 1) := by decide +kernel
theorem dX10_strikes_6 : decode cX10_strikes 6 = .ok (.getfield 13, 3) := by decide +kernel
theorem dX10_strikes_9 : decode cX10_strikes 9 = .ok (.iconst 3, 1) := by decide +kernel
theorem dX10_strikes_10 : decode cX10_strikes 10 = .ok (.iaload, 1) := by decide +kernel
theorem dX10_strikes_11 : decode cX10_strikes 11 = .ok (.if_icmp .ge 41, 3) := by decide +kernel
theorem dX10_strikes_14 : decode cX10_strikes 14 = .ok (.aload_n 0, 1) := by decide +kernel
theorem dX10_strikes_15 : decode cX10_strikes 15 = .ok (.getfield 80, 3) := by decide +kernel
theorem dX10_strikes_18 : decode cX10_strikes 18 = .ok (.iload_n 3, 1) := by decide +kernel
theorem dX10_strikes_19 : decode cX10_strikes 19 = .ok (.bipush (-4), 2) := by decide +kernel
theorem dX10_strikes_21 : decode cX10_strikes 21 = .ok (.iastore, 1) := by decide +kernel
theorem dX10_strikes_22 : decode cX10_strikes 22 = .ok (.aload_n 0, 1) := by decide +kernel
theorem dX10_strikes_23 : decode cX10_strikes 23 = .ok (.getfield 86, 3) := by decide +kernel
theorem dX10_strikes_26 : decode cX10_strikes 26 = .ok (.iload_n 3, 1) := by decide +kernel
theorem dX10_strikes_27 : decode cX10_strikes 27 = .ok (.iconst 0, 1) := by decide +kernel
theorem dX10_strikes_28 : decode cX10_strikes 28 = .ok (.bastore, 1) := by decide +kernel
theorem dX10_strikes_29 : decode cX10_strikes 29 = .ok (.iload_n 2, 1) := by decide +kernel
theorem dX10_strikes_30 : decode cX10_strikes 30 = .ok (.aload_n 0, 1) := by decide +kernel
theorem dX10_strikes_31 : decode cX10_strikes 31 = .ok (.getfield 71, 3) := by decide +kernel
theorem dX10_strikes_34 : decode cX10_strikes 34 = .ok (.iload_n 3, 1) := by decide +kernel
theorem dX10_strikes_35 : decode cX10_strikes 35 = .ok (.iaload, 1) := by decide +kernel
theorem dX10_strikes_36 : decode cX10_strikes 36 = .ok (.ifCond .ne 7, 3) := by decide +kernel
theorem dX10_strikes_39 : decode cX10_strikes 39 = .ok (.iconst 0, 1) := by decide +kernel
theorem dX10_strikes_40 : decode cX10_strikes 40 = .ok (.goto 4, 3) := by decide +kernel
theorem dX10_strikes_43 : decode cX10_strikes 43 = .ok (.iconst 1, 1) := by decide +kernel
theorem dX10_strikes_44 : decode cX10_strikes 44 = .ok (.iadd, 1) := by decide +kernel
theorem dX10_strikes_45 : decode cX10_strikes 45 = .ok (.istore_n 2, 1) := by decide +kernel
theorem dX10_strikes_46 : decode cX10_strikes 46 = .ok (.iinc 3 1, 3) := by decide +kernel
theorem dX10_strikes_49 : decode cX10_strikes 49 = .ok (.goto (-45), 3) := by decide +kernel
theorem dX10_strikes_52 : decode cX10_strikes 52 = .ok (.aload_n 0, 1) := by decide +kernel
theorem dX10_strikes_53 : decode cX10_strikes 53 = .ok (.iconst 0, 1) := by decide +kernel
theorem dX10_strikes_54 : decode cX10_strikes 54 = .ok (.putfield 285, 3) := by decide +kernel
theorem dX10_strikes_57 : decode cX10_strikes 57 = .ok (.aload_n 0, 1) := by decide +kernel
theorem dX10_strikes_58 : decode cX10_strikes 58 = .ok (.getfield 279, 3) := by decide +kernel
theorem dX10_strikes_61 : decode cX10_strikes 61 = .ok (.istore_n 3, 1) := by decide +kernel
theorem dX10_strikes_62 : decode cX10_strikes 62 = .ok (.iload_n 2, 1) := by decide +kernel
theorem dX10_strikes_63 : decode cX10_strikes 63 = .ok (.ifCond .le 140, 3) := by decide +kernel
theorem dX10_strikes_66 : decode cX10_strikes 66 = .ok (.iconst 0, 1) := by decide +kernel
theorem dX10_strikes_67 : decode cX10_strikes 67 = .ok (.istore 4, 2) := by decide +kernel
theorem dX10_strikes_69 : decode cX10_strikes 69 = .ok (.iconst 0, 1) := by decide +kernel
theorem dX10_strikes_70 : decode cX10_strikes 70 = .ok (.istore 5, 2) := by decide +kernel
theorem dX10_strikes_72 : decode cX10_strikes 72 = .ok (.iload 5, 2) := by decide +kernel
theorem dX10_strikes_74 : decode cX10_strikes 74 = .ok (.aload_n 0, 1) := by decide +kernel
theorem dX10_strikes_75 : decode cX10_strikes 75 = .ok (.getfield 13, 3) := by decide +kernel
theorem dX10_strikes_78 : decode cX10_strikes 78 = .ok (.iconst 3, 1) := by decide +kernel
theorem dX10_strikes_79 : decode cX10_strikes 79 = .ok (.iaload, 1) := by decide +kernel
theorem dX10_strikes_80 : decode cX10_strikes 80 = .ok (.if_icmp .ge 90, 3) := by decide +kernel
theorem dX10_strikes_83 : decode cX10_strikes 83 = .ok (.aload_n 0, 1) := by decide +kernel
theorem dX10_strikes_84 : decode cX10_strikes 84 = .ok (.getfield 71, 3) := by decide +kernel
theorem dX10_strikes_87 : decode cX10_strikes 87 = .ok (.iload 5, 2) := by decide +kernel
theorem dX10_strikes_89 : decode cX10_strikes 89 = .ok (.iaload, 1) := by decide +kernel
theorem dX10_strikes_90 : decode cX10_strikes 90 = .ok (.ifCond .eq 74, 3) := by decide +kernel
theorem dX10_strikes_93 : decode cX10_strikes 93 = .ok (.aload_n 0, 1) := by decide +kernel
theorem dX10_strikes_94 : decode cX10_strikes 94 = .ok (.getfield 80, 3) := by decide +kernel
theorem dX10_strikes_97 : decode cX10_strikes 97 = .ok (.iload 5, 2) := by decide +kernel
theorem dX10_strikes_99 : decode cX10_strikes 99 = .ok (.iaload, 1) := by decide +kernel
theorem dX10_strikes_100 : decode cX10_strikes 100 = .ok (.bipush (-4), 2) := by decide +kernel
theorem dX10_strikes_102 : decode cX10_strikes 102 = .ok (.if_icmp .ne 62, 3) := by decide +kernel
theorem dX10_strikes_105 : decode cX10_strikes 105 = .ok (.aload_n 0, 1) := by decide +kernel
theorem dX10_strikes_106 : decode cX10_strikes 106 = .ok (.iload 5, 2) := by decide +kernel
theorem dX10_strikes_108 : decode cX10_strikes 108 = .ok (.iload_n 3, 1) := by decide +kernel
theorem dX10_strikes_109 : decode cX10_strikes 109 = .ok (.invokevirtual 263, 3) := by decide +kernel
theorem dX10_strikes_112 : decode cX10_strikes 112 = .ok (.aload_n 0, 1) := by decide +kernel
theorem dX10_strikes_113 : decode cX10_strikes 113 = .ok (.getfield 71, 3) := by decide +kernel
theorem dX10_strikes_116 : decode cX10_strikes 116 = .ok (.iload 5, 2) := by decide +kernel
theorem dX10_strikes_118 : decode cX10_strikes 118 = .ok (.iaload, 1) := by decide +kernel
theorem dX10_strikes_119 : decode cX10_strikes 119 = .ok (.if_icmp .ne 45, 3) := by decide +kernel
theorem dX10_strikes_122 : decode cX10_strikes 122 = .ok (.iload 4, 2) := by decide +kernel
theorem dX10_strikes_124 : decode cX10_strikes 124 = .ok (.iload_n 1, 1) := by decide +kernel
theorem dX10_strikes_125 : decode cX10_strikes 125 = .ok (.if_icmp .ge 31, 3) := by decide +kernel
theorem dX10_strikes_128 : decode cX10_strikes 128 = .ok (.aload_n 0, 1) := by decide +kernel
theorem dX10_strikes_129 : decode cX10_strikes 129 = .ok (.getfield 80, 3) := by decide +kernel
theorem dX10_strikes_132 : decode cX10_strikes 132 = .ok (.iload 5, 2) := by decide +kernel
theorem dX10_strikes_134 : decode cX10_strikes 134 = .ok (.iload_n 3, 1) := by decide +kernel
theorem dX10_strikes_135 : decode cX10_strikes 135 = .ok (.iastore, 1) := by decide +kernel
theorem dX10_strikes_136 : decode cX10_strikes 136 = .ok (.aload_n 0, 1) := by decide +kernel
theorem dX10_strikes_137 : decode cX10_strikes 137 = .ok (.getfield 83, 3) := by decide +kernel
theorem dX10_strikes_140 : decode cX10_strikes 140 = .ok (.iload 5, 2) := by decide +kernel
theorem dX10_strikes_142 : decode cX10_strikes 142 = .ok (.aload_n 0, 1) := by decide +kernel
theorem dX10_strikes_143 : decode cX10_strikes 143 = .ok (.iload 5, 2) := by decide +kernel
theorem dX10_strikes_145 : decode cX10_strikes 145 = .ok (.iload_n 3, 1) := by decide +kernel
theorem dX10_strikes_146 : decode cX10_strikes 146 = .ok (.invokevirtual 254, 3) := by decide +kernel
theorem dX10_strikes_149 : decode cX10_strikes 149 = .ok (.iastore, 1) := by decide +kernel
theorem dX10_strikes_150 : decode cX10_strikes 150 = .ok (.iinc 4 1, 3) := by decide +kernel
theorem dX10_strikes_153 : decode cX10_strikes 153 = .ok (.goto 11, 3) := by decide +kernel
theorem dX10_strikes_156 : decode cX10_strikes 156 = .ok (.aload_n 0, 1) := by decide +kernel
theorem dX10_strikes_157 : decode cX10_strikes 157 = .ok (.getfield 86, 3) := by decide +kernel
theorem dX10_strikes_160 : decode cX10_strikes 160 = .ok (.iload 5, 2) := by decide +kernel
theorem dX10_strikes_162 : decode cX10_strikes 162 = .ok (.iconst 1, 1) := by decide +kernel
theorem dX10_strikes_163 : decode cX10_strikes 163 = .ok (.bastore, 1) := by decide +kernel
theorem dX10_strikes_164 : decode cX10_strikes 164 = .ok (.iinc 5 1, 3) := by decide +kernel
theorem dX10_strikes_167 : decode cX10_strikes 167 = .ok (.goto (-95), 3) := by decide +kernel
theorem dX10_strikes_170 : decode cX10_strikes 170 = .ok (.iload_n 2, 1) := by decide +kernel
theorem dX10_strikes_171 : decode cX10_strikes 171 = .ok (.iload 4, 2) := by decide +kernel
theorem dX10_strikes_173 : decode cX10_strikes 173 = .ok (.isub, 1) := by decide +kernel
theorem dX10_strikes_174 : decode cX10_strikes 174 = .ok (.istore_n 2, 1) := by decide +kernel
theorem dX10_strikes_175 : decode cX10_strikes 175 = .ok (.aload_n 0, 1) := by decide +kernel
theorem dX10_strikes_176 : decode cX10_strikes 176 = .ok (.iload 4, 2) := by decide +kernel
theorem dX10_strikes_178 : decode cX10_strikes 178 = .ok (.aload_n 0, 1) := by decide +kernel
theorem dX10_strikes_179 : decode cX10_strikes 179 = .ok (.getfield 285, 3) := by decide +kernel
theorem dX10_strikes_182 : decode cX10_strikes 182 = .ok (.if_icmp .le 8, 3) := by decide +kernel
theorem dX10_strikes_185 : decode cX10_strikes 185 = .ok (.iload 4, 2) := by decide +kernel
theorem dX10_strikes_187 : decode cX10_strikes 187 = .ok (.goto 7, 3) := by decide +kernel
theorem dX10_strikes_190 : decode cX10_strikes 190 = .ok (.aload_n 0, 1) := by decide +kernel
theorem dX10_strikes_191 : decode cX10_strikes 191 = .ok (.getfield 285, 3) := by decide +kernel
theorem dX10_strikes_194 : decode cX10_strikes 194 = .ok (.putfield 285, 3) := by decide +kernel
theorem dX10_strikes_197 : decode cX10_strikes 197 = .ok (.iinc 3 1, 3) := by decide +kernel
theorem dX10_strikes_200 : decode cX10_strikes 200 = .ok (.goto (-138), 3) := by decide +kernel
theorem dX10_strikes_203 : decode cX10_strikes 203 = .ok (.iload_n 3, 1) := by decide +kernel
theorem dX10_strikes_204 : decode cX10_strikes 204 = .ok (.aload_n 0, 1) := by decide +kernel
theorem dX10_strikes_205 : decode cX10_strikes 205 = .ok (.getfield 279, 3) := by decide +kernel
theorem dX10_strikes_208 : decode cX10_strikes 208 = .ok (.isub, 1) := by decide +kernel
theorem dX10_strikes_209 : decode cX10_strikes 209 = .ok (.ireturn, 1) := by decide +kernel
def j_X10_strikes_203 (a : Nat) (l3 : Int32) (g : zG) : Option (Int32 × zG) :=
  some ((l3 - (g.1 a 34), g))
def j_X10_strikes_170_62 (a : Nat) (l1 : Int32) (l2 : Int32) (l3 : Int32) (l4 : Int32) (g : zG) : Option ((Int32 × Int32 × zG) ⊕ (Int32 × zG)) :=
  zl (l2 - l4) (fun v3 => if l4 ≤ (g.1 a 43) then (zl (zsi g a 43 (g.1 a 43)) (fun g5 => zl (l3 + 1) (fun v6 => some (.inl (v3, v6, g5))))) else (zl (zsi g a 43 l4) (fun g7 => zl (l3 + 1) (fun v8 => some (.inl (v3, v8, g7))))))
def l_X10_strikes_72 (a : Nat) (l1 : Int32) (l2 : Int32) (l3 : Int32) (l4 : Int32) (l5 : Int32) (g : zG) : Option ((Int32 × Int32 × zG) ⊕ (Int32 × zG)) :=
  zc (zin 3 8) (if (g.1 (g.2.1 a 2) (3 : Int32).toNatClampNeg) ≤ l5 then (some (.inr (l4, g))) else (zc (zin l5 40) (if (g.1 (g.2.1 a 37) l5.toNatClampNeg) = 0 then (zl (l5 + 1) (fun v14 => some (.inl (l4, v14, g)))) else (zc (zin l5 40) (if (g.1 (g.2.1 a 40) l5.toNatClampNeg) = (-4) then (zb (f_X10_letterAt a l5 l3 g) (fun v17 g18 => zc (zin l5 40) (if v17 = (g18.1 (g18.2.1 a 37) l5.toNatClampNeg) then (if l1 ≤ l4 then (zc (zin l5 40) (zl (zsi g18 (g18.2.1 a 42) l5.toNatClampNeg (vp_nar .boolean 1)) (fun g23 => zl (l5 + 1) (fun v24 => some (.inl (l4, v24, g23)))))) else (zc (zin l5 40) (zl (zsi g18 (g18.2.1 a 40) l5.toNatClampNeg l3) (fun g26 => zb (f_X10_slugAt a l5 l3 g26) (fun v28 g29 => zc (zin l5 40) (zl (zsi g29 (g26.2.1 a 41) l5.toNatClampNeg v28) (fun g30 => zl (l4 + 1) (fun v31 => zl (l5 + 1) (fun v32 => some (.inl (v31, v32, g30))))))))))) else (zl (l5 + 1) (fun v33 => some (.inl (l4, v33, g18))))))) else (zl (l5 + 1) (fun v34 => some (.inl (l4, v34, g)))))))))
def l_X10_strikes_62 (a : Nat) (l1 : Int32) (l2 : Int32) (l3 : Int32) (g : zG) : Option ((Int32 × Int32 × zG) ⊕ (Int32 × zG)) :=
  if l2 ≤ 0 then (some (.inr (l3, g))) else (zk (zw zN (fun s => l_X10_strikes_72 a l1 l2 l3 s.1 s.2.1 s.2.2) (0, 0, g)) (fun x => j_X10_strikes_170_62 a l1 l2 l3 x.1 x.2))
def j_X10_strikes_52 (a : Nat) (l1 : Int32) (l2 : Int32) (g : zG) : Option (Int32 × zG) :=
  zl (zsi g a 43 0) (fun g1 => zl (g1.1 a 34) (fun v2 => zk (zw zN (fun s => l_X10_strikes_62 a l1 s.1 s.2.1 s.2.2) (l2, v2, g1)) (fun x => j_X10_strikes_203 a x.1 x.2)))
def l_X10_strikes_4 (a : Nat) (l1 : Int32) (l2 : Int32) (l3 : Int32) (g : zG) : Option ((Int32 × Int32 × zG) ⊕ (Int32 × zG)) :=
  zc (zin 3 8) (if (g.1 (g.2.1 a 2) (3 : Int32).toNatClampNeg) ≤ l3 then (some (.inr (l2, g))) else (zc (zin l3 40) (zl (zsi g (g.2.1 a 40) l3.toNatClampNeg (-4)) (fun g38 => zc (zin l3 40) (zl (zsi g38 (g38.2.1 a 42) l3.toNatClampNeg (vp_nar .boolean 0)) (fun g40 => zc (zin l3 40) (if (g40.1 (g40.2.1 a 37) l3.toNatClampNeg) = 0 then (zl (l2 + 0) (fun v43 => zl (l3 + 1) (fun v44 => some (.inl (v43, v44, g40))))) else (zl (l2 + 1) (fun v45 => zl (l3 + 1) (fun v46 => some (.inl (v45, v46, g40))))))))))))
def f_X10_strikes (a : Nat) (x1 : Int32) (g : zG) : Option (Int32 × zG) :=
  zk (zw zN (fun s => l_X10_strikes_4 a x1 s.1 s.2.1 s.2.2) (0, 0, g)) (fun x => j_X10_strikes_52 a x1 x.1 x.2)
abbrev rm_X10_strikes : Room := { frames := 2, cells := 0, slots := 0, locals := 46 }
set_option maxRecDepth 100000 in
set_option maxHeartbeats 4000000 in
theorem c_X10_strikes (l : Launch) (D : zD) (sz : Nat) (τ : zT) (g : zG) (a : Nat) (x1 : Int32) (hta : τ a = some (.inr 10)) : zCon l D yX10_strikes cX10_strikes 6 (some .int) rm_X10_strikes 0 0 zrI [.ref a, .int x1] sz τ g τ (f_X10_strikes a x1 g) := by
  refine zCon.of (by decide) (Nat.le_of_ble_eq_true rfl) (fun E r g' hl hR hsz hnm F => ?_)
  have F : zF E D (zA τ sz) cX10_strikes "TypeChainModel" 6 (some .int) := F
  show zSim (fun q : Int32 × zG => q = (r, g')) (f_X10_strikes a x1 g) (zAt E D (zA τ sz) (zQ E D zrI 0 0 sz τ τ r g') 6 (sz, τ, 0, 0) g 0 [(0, .ref a), (1, .int x1)] [])
  have hj_X10_strikes_203 : ∀ (l3_203 : Int32) (g_203 : zG), zSim (fun q : Int32 × zG => q = (r, g')) (j_X10_strikes_203 a l3_203 g_203) (zAt E D (zA τ sz) (zQ E D zrI 0 0 sz τ τ r g') 6 (sz, τ, 0, 0) g_203 203 [(0, .ref a), (3, .int l3_203)] []) := by
    intro l3_203 g_203
    unfold j_X10_strikes_203
    refine z_iload_n F 1 rfl rfl dX10_strikes_203 ?_
    refine z_aload_n F 0 rfl rfl dX10_strikes_204 ?_
    refine gf_X10_279 F hta dX10_strikes_205 ?_
    refine z_isub F dX10_strikes_208 ?_
    exact z_ireturn F rfl rfl rfl rfl (fun h => h) dX10_strikes_209
  have hj_X10_strikes_52 : ∀ (l1_52 : Int32) (l2_52 : Int32) (g_52 : zG), zSim (fun q : Int32 × zG => q = (r, g')) (j_X10_strikes_52 a l1_52 l2_52 g_52) (zAt E D (zA τ sz) (zQ E D zrI 0 0 sz τ τ r g') 6 (sz, τ, 0, 0) g_52 52 [(0, .ref a), (1, .int l1_52), (2, .int l2_52)] []) := by
    intro l1_52 l2_52 g_52
    unfold j_X10_strikes_52
    refine z_aload_n F 0 rfl rfl dX10_strikes_52 ?_
    refine z_iconst (v := 0) F (by decide) dX10_strikes_53 ?_
    refine pf_X10_285 F hta dX10_strikes_54 ?_
    refine z_letg (fun g1 => ?_)
    refine z_aload_n F 0 rfl rfl dX10_strikes_57 ?_
    refine gf_X10_279 F hta dX10_strikes_58 ?_
    refine z_leti (fun v2 => ?_)
    refine z_istore_n (lv' := [(3, .int v2), (0, .ref a), (1, .int l1_52), (2, .int l2_52)]) F rfl (by decide) dX10_strikes_61 rfl ?_
    refine z_sub (lv' := [(0, .ref a), (1, .int l1_52), (2, .int l2_52), (3, .int v2)]) [1, 2, 3, 0] rfl ?_
    refine z_loop (P := fun s : Int32 × Int32 × zG => zAt E D (zA τ sz) (zQ E D zrI 0 0 sz τ τ r g') 6 (sz, τ, 0, 0) s.2.2 62 [(0, .ref a), (1, .int l1_52), (2, .int s.1), (3, .int s.2.1)] []) (Px := fun x : Int32 × zG => zAt E D (zA τ sz) (zQ E D zrI 0 0 sz τ τ r g') 6 (sz, τ, 0, 0) x.2 203 [(0, .ref a), (3, .int x.1)] []) (l2_52, v2, g1) (fun s => ?_) (fun x => ?_)
    · obtain ⟨l2_62, l3_62, g_62⟩ := s
      show zSim (zKl (fun s : Int32 × Int32 × zG => zAt E D (zA τ sz) (zQ E D zrI 0 0 sz τ τ r g') 6 (sz, τ, 0, 0) s.2.2 62 [(0, .ref a), (1, .int l1_52), (2, .int s.1), (3, .int s.2.1)] []) (fun x : Int32 × zG => zAt E D (zA τ sz) (zQ E D zrI 0 0 sz τ τ r g') 6 (sz, τ, 0, 0) x.2 203 [(0, .ref a), (3, .int x.1)] [])) (l_X10_strikes_62 a l1_52 l2_62 l3_62 g_62) (zAt E D (zA τ sz) (zQ E D zrI 0 0 sz τ τ r g') 6 (sz, τ, 0, 0) g_62 62 [(0, .ref a), (1, .int l1_52), (2, .int l2_62), (3, .int l3_62)] [])
      have hj_X10_strikes_170_62 : ∀ (l2_170 : Int32) (l3_170 : Int32) (l4_170 : Int32) (g_170 : zG), zSim (zKl (fun s : Int32 × Int32 × zG => zAt E D (zA τ sz) (zQ E D zrI 0 0 sz τ τ r g') 6 (sz, τ, 0, 0) s.2.2 62 [(0, .ref a), (1, .int l1_52), (2, .int s.1), (3, .int s.2.1)] []) (fun x : Int32 × zG => zAt E D (zA τ sz) (zQ E D zrI 0 0 sz τ τ r g') 6 (sz, τ, 0, 0) x.2 203 [(0, .ref a), (3, .int x.1)] [])) (j_X10_strikes_170_62 a l1_52 l2_170 l3_170 l4_170 g_170) (zAt E D (zA τ sz) (zQ E D zrI 0 0 sz τ τ r g') 6 (sz, τ, 0, 0) g_170 170 [(0, .ref a), (1, .int l1_52), (2, .int l2_170), (3, .int l3_170), (4, .int l4_170)] []) := by
        intro l2_170 l3_170 l4_170 g_170
        unfold j_X10_strikes_170_62
        refine z_iload_n F 2 rfl rfl dX10_strikes_170 ?_
        refine z_iload F 4 rfl dX10_strikes_171 ?_
        refine z_isub F dX10_strikes_173 ?_
        refine z_leti (fun v3 => ?_)
        refine z_istore_n (lv' := [(2, .int v3), (0, .ref a), (1, .int l1_52), (3, .int l3_170), (4, .int l4_170)]) F rfl (by decide) dX10_strikes_174 rfl ?_
        refine z_aload_n F 1 rfl rfl dX10_strikes_175 ?_
        refine z_iload F 4 rfl dX10_strikes_176 ?_
        refine z_aload_n F 1 rfl rfl dX10_strikes_178 ?_
        refine gf_X10_285 F hta dX10_strikes_179 ?_
        refine z_icmp_le (tgt := 190) F dX10_strikes_182 (by decide) (fun c4 => ?_) (fun c4 => ?_)
        · refine z_aload_n F 1 rfl rfl dX10_strikes_190 ?_
          refine gf_X10_285 F hta dX10_strikes_191 ?_
          refine pf_X10_285 F hta dX10_strikes_194 ?_
          refine z_letg (fun g5 => ?_)
          refine z_iincl (lv' := fun v6 => [(3, .int v6), (2, .int v3), (0, .ref a), (1, .int l1_52), (4, .int l4_170)]) F 3 rfl (by decide) (by decide) dX10_strikes_197 (fun _ => rfl) (fun v6 => ?_)
          refine z_goto (tgt := 62) F dX10_strikes_200 (by decide) ?_
          refine z_sub (lv' := [(0, .ref a), (1, .int l1_52), (2, .int v3), (3, .int v6)]) [2, 3, 1, 0] rfl ?_
          exact z_back (fun h => h)
        · refine z_iload F 4 rfl dX10_strikes_185 ?_
          refine z_goto (tgt := 194) F dX10_strikes_187 (by decide) ?_
          refine pf_X10_285 F hta dX10_strikes_194 ?_
          refine z_letg (fun g7 => ?_)
          refine z_iincl (lv' := fun v8 => [(3, .int v8), (2, .int v3), (0, .ref a), (1, .int l1_52), (4, .int l4_170)]) F 3 rfl (by decide) (by decide) dX10_strikes_197 (fun _ => rfl) (fun v8 => ?_)
          refine z_goto (tgt := 62) F dX10_strikes_200 (by decide) ?_
          refine z_sub (lv' := [(0, .ref a), (1, .int l1_52), (2, .int v3), (3, .int v8)]) [2, 3, 1, 0] rfl ?_
          exact z_back (fun h => h)
      unfold l_X10_strikes_62
      refine z_iload_n F 2 rfl rfl dX10_strikes_62 ?_
      refine z_if_le (tgt := 203) F dX10_strikes_63 (by decide) (fun c9 => ?_) (fun c9 => ?_)
      · refine z_sub (lv' := [(0, .ref a), (3, .int l3_62)]) [0, 3] rfl ?_
        exact z_back (fun h => h)
      · refine z_iconst (v := 0) F (by decide) dX10_strikes_66 ?_
        refine z_istore (lv' := [(4, .int 0), (0, .ref a), (1, .int l1_52), (2, .int l2_62), (3, .int l3_62)]) F (by decide) dX10_strikes_67 rfl ?_
        refine z_iconst (v := 0) F (by decide) dX10_strikes_69 ?_
        refine z_istore (lv' := [(5, .int 0), (4, .int 0), (0, .ref a), (1, .int l1_52), (2, .int l2_62), (3, .int l3_62)]) F (by decide) dX10_strikes_70 rfl ?_
        refine z_sub (lv' := [(0, .ref a), (1, .int l1_52), (2, .int l2_62), (3, .int l3_62), (4, .int 0), (5, .int 0)]) [2, 3, 4, 5, 1, 0] rfl ?_
        refine z_loop (P := fun s : Int32 × Int32 × zG => zAt E D (zA τ sz) (zQ E D zrI 0 0 sz τ τ r g') 6 (sz, τ, 0, 0) s.2.2 72 [(0, .ref a), (1, .int l1_52), (2, .int l2_62), (3, .int l3_62), (4, .int s.1), (5, .int s.2.1)] []) (Px := fun x : Int32 × zG => zAt E D (zA τ sz) (zQ E D zrI 0 0 sz τ τ r g') 6 (sz, τ, 0, 0) x.2 170 [(0, .ref a), (1, .int l1_52), (2, .int l2_62), (3, .int l3_62), (4, .int x.1)] []) (0, 0, g_62) (fun s => ?_) (fun x => ?_)
        · obtain ⟨l4_72, l5_72, g_72⟩ := s
          show zSim (zKl (fun s : Int32 × Int32 × zG => zAt E D (zA τ sz) (zQ E D zrI 0 0 sz τ τ r g') 6 (sz, τ, 0, 0) s.2.2 72 [(0, .ref a), (1, .int l1_52), (2, .int l2_62), (3, .int l3_62), (4, .int s.1), (5, .int s.2.1)] []) (fun x : Int32 × zG => zAt E D (zA τ sz) (zQ E D zrI 0 0 sz τ τ r g') 6 (sz, τ, 0, 0) x.2 170 [(0, .ref a), (1, .int l1_52), (2, .int l2_62), (3, .int l3_62), (4, .int x.1)] [])) (l_X10_strikes_72 a l1_52 l2_62 l3_62 l4_72 l5_72 g_72) (zAt E D (zA τ sz) (zQ E D zrI 0 0 sz τ τ r g') 6 (sz, τ, 0, 0) g_72 72 [(0, .ref a), (1, .int l1_52), (2, .int l2_62), (3, .int l3_62), (4, .int l4_72), (5, .int l5_72)] [])
          unfold l_X10_strikes_72
          refine z_iload F 5 rfl dX10_strikes_72 ?_
          refine z_aload_n F 0 rfl rfl dX10_strikes_74 ?_
          refine gf_X10_13 F hta dX10_strikes_75 (fun ht10 => ?_)
          refine z_iconst (v := 3) F (by decide) dX10_strikes_78 ?_
          refine z_iald F ht10 dX10_strikes_79 ?_
          refine z_icmp_ge (tgt := 170) F dX10_strikes_80 (by decide) (fun c11 => ?_) (fun c11 => ?_)
          · refine z_sub (lv' := [(0, .ref a), (1, .int l1_52), (2, .int l2_62), (3, .int l3_62), (4, .int l4_72)]) [0, 1, 2, 3, 4] rfl ?_
            exact z_back (fun h => h)
          · refine z_aload_n F 0 rfl rfl dX10_strikes_83 ?_
            refine gf_X10_71 F hta dX10_strikes_84 (fun ht12 => ?_)
            refine z_iload F 5 rfl dX10_strikes_87 ?_
            refine z_iald F ht12 dX10_strikes_89 ?_
            refine z_if_eq (tgt := 164) F dX10_strikes_90 (by decide) (fun c13 => ?_) (fun c13 => ?_)
            · refine z_iincl (lv' := fun v14 => [(5, .int v14), (0, .ref a), (1, .int l1_52), (2, .int l2_62), (3, .int l3_62), (4, .int l4_72)]) F 5 rfl (by decide) (by decide) dX10_strikes_164 (fun _ => rfl) (fun v14 => ?_)
              refine z_goto (tgt := 72) F dX10_strikes_167 (by decide) ?_
              refine z_sub (lv' := [(0, .ref a), (1, .int l1_52), (2, .int l2_62), (3, .int l3_62), (4, .int l4_72), (5, .int v14)]) [1, 2, 3, 4, 5, 0] rfl ?_
              exact z_back (fun h => h)
            · refine z_aload_n F 0 rfl rfl dX10_strikes_93 ?_
              refine gf_X10_80 F hta dX10_strikes_94 (fun ht15 => ?_)
              refine z_iload F 5 rfl dX10_strikes_97 ?_
              refine z_iald F ht15 dX10_strikes_99 ?_
              refine z_bipush (v := (-4)) F (by decide) dX10_strikes_100 ?_
              refine z_icmp_ne (tgt := 164) F dX10_strikes_102 (by decide) (fun c16 => ?_) (fun c16 => ?_)
              · refine z_aload_n F 0 rfl rfl dX10_strikes_105 ?_
                refine z_iload F 5 rfl dX10_strikes_106 ?_
                refine z_iload_n F 3 rfl rfl dX10_strikes_108 ?_
                refine k_X10_letterAt F (by rw [hR]; exact ⟨by decide, by decide⟩) q_1183 hta ⟨Nat.zero_le _, Nat.zero_le _⟩ (Nat.le_of_ble_eq_true rfl) dX10_strikes_109 (fun v17 g18 => ?_)
                refine z_aload_n F 0 rfl rfl dX10_strikes_112 ?_
                refine gf_X10_71 F hta dX10_strikes_113 (fun ht19 => ?_)
                refine z_iload F 5 rfl dX10_strikes_116 ?_
                refine z_iald F ht19 dX10_strikes_118 ?_
                refine z_icmp_ne (tgt := 164) F dX10_strikes_119 (by decide) (fun c20 => ?_) (fun c20 => ?_)
                · refine z_iload F 4 rfl dX10_strikes_122 ?_
                  refine z_iload_n F 1 rfl rfl dX10_strikes_124 ?_
                  refine z_icmp_ge (tgt := 156) F dX10_strikes_125 (by decide) (fun c21 => ?_) (fun c21 => ?_)
                  · refine z_aload_n F 0 rfl rfl dX10_strikes_156 ?_
                    refine gf_X10_86 F hta dX10_strikes_157 (fun ht22 => ?_)
                    refine z_iload F 5 rfl dX10_strikes_160 ?_
                    refine z_iconst (v := 1) F (by decide) dX10_strikes_162 ?_
                    refine z_zast F ht22 dX10_strikes_163 ?_
                    refine z_letg (fun g23 => ?_)
                    refine z_iincl (lv' := fun v24 => [(5, .int v24), (0, .ref a), (1, .int l1_52), (2, .int l2_62), (3, .int l3_62), (4, .int l4_72)]) F 5 rfl (by decide) (by decide) dX10_strikes_164 (fun _ => rfl) (fun v24 => ?_)
                    refine z_goto (tgt := 72) F dX10_strikes_167 (by decide) ?_
                    refine z_sub (lv' := [(0, .ref a), (1, .int l1_52), (2, .int l2_62), (3, .int l3_62), (4, .int l4_72), (5, .int v24)]) [1, 2, 3, 4, 5, 0] rfl ?_
                    exact z_back (fun h => h)
                  · refine z_aload_n F 0 rfl rfl dX10_strikes_128 ?_
                    refine gf_X10_80 F hta dX10_strikes_129 (fun ht25 => ?_)
                    refine z_iload F 5 rfl dX10_strikes_132 ?_
                    refine z_iload_n F 3 rfl rfl dX10_strikes_134 ?_
                    refine z_iast F ht25 dX10_strikes_135 ?_
                    refine z_letg (fun g26 => ?_)
                    refine z_aload_n F 0 rfl rfl dX10_strikes_136 ?_
                    refine gf_X10_83 F hta dX10_strikes_137 (fun ht27 => ?_)
                    refine z_iload F 5 rfl dX10_strikes_140 ?_
                    refine z_aload_n F 0 rfl rfl dX10_strikes_142 ?_
                    refine z_iload F 5 rfl dX10_strikes_143 ?_
                    refine z_iload_n F 3 rfl rfl dX10_strikes_145 ?_
                    refine k_X10_slugAt F (by rw [hR]; exact ⟨by decide, by decide⟩) q_1187 hta ⟨Nat.zero_le _, Nat.zero_le _⟩ (Nat.le_of_ble_eq_true rfl) dX10_strikes_146 (fun v28 g29 => ?_)
                    refine z_iast F ht27 dX10_strikes_149 ?_
                    refine z_letg (fun g30 => ?_)
                    refine z_iincl (lv' := fun v31 => [(4, .int v31), (0, .ref a), (1, .int l1_52), (2, .int l2_62), (3, .int l3_62), (5, .int l5_72)]) F 4 rfl (by decide) (by decide) dX10_strikes_150 (fun _ => rfl) (fun v31 => ?_)
                    refine z_goto (tgt := 164) F dX10_strikes_153 (by decide) ?_
                    refine z_iincl (lv' := fun v32 => [(5, .int v32), (4, .int v31), (0, .ref a), (1, .int l1_52), (2, .int l2_62), (3, .int l3_62)]) F 5 rfl (by decide) (by decide) dX10_strikes_164 (fun _ => rfl) (fun v32 => ?_)
                    refine z_goto (tgt := 72) F dX10_strikes_167 (by decide) ?_
                    refine z_sub (lv' := [(0, .ref a), (1, .int l1_52), (2, .int l2_62), (3, .int l3_62), (4, .int v31), (5, .int v32)]) [2, 3, 4, 5, 1, 0] rfl ?_
                    exact z_back (fun h => h)
                · refine z_iincl (lv' := fun v33 => [(5, .int v33), (0, .ref a), (1, .int l1_52), (2, .int l2_62), (3, .int l3_62), (4, .int l4_72)]) F 5 rfl (by decide) (by decide) dX10_strikes_164 (fun _ => rfl) (fun v33 => ?_)
                  refine z_goto (tgt := 72) F dX10_strikes_167 (by decide) ?_
                  refine z_sub (lv' := [(0, .ref a), (1, .int l1_52), (2, .int l2_62), (3, .int l3_62), (4, .int l4_72), (5, .int v33)]) [1, 2, 3, 4, 5, 0] rfl ?_
                  exact z_back (fun h => h)
              · refine z_iincl (lv' := fun v34 => [(5, .int v34), (0, .ref a), (1, .int l1_52), (2, .int l2_62), (3, .int l3_62), (4, .int l4_72)]) F 5 rfl (by decide) (by decide) dX10_strikes_164 (fun _ => rfl) (fun v34 => ?_)
                refine z_goto (tgt := 72) F dX10_strikes_167 (by decide) ?_
                refine z_sub (lv' := [(0, .ref a), (1, .int l1_52), (2, .int l2_62), (3, .int l3_62), (4, .int l4_72), (5, .int v34)]) [1, 2, 3, 4, 5, 0] rfl ?_
                exact z_back (fun h => h)
        · show zSim (zKl (fun s : Int32 × Int32 × zG => zAt E D (zA τ sz) (zQ E D zrI 0 0 sz τ τ r g') 6 (sz, τ, 0, 0) s.2.2 62 [(0, .ref a), (1, .int l1_52), (2, .int s.1), (3, .int s.2.1)] []) (fun x : Int32 × zG => zAt E D (zA τ sz) (zQ E D zrI 0 0 sz τ τ r g') 6 (sz, τ, 0, 0) x.2 203 [(0, .ref a), (3, .int x.1)] [])) (j_X10_strikes_170_62 a l1_52 l2_62 l3_62 x.1 x.2) (zAt E D (zA τ sz) (zQ E D zrI 0 0 sz τ τ r g') 6 (sz, τ, 0, 0) x.2 170 [(0, .ref a), (1, .int l1_52), (2, .int l2_62), (3, .int l3_62), (4, .int x.1)] [])
          exact hj_X10_strikes_170_62 l2_62 l3_62 x.1 x.2
    · show zSim (fun q : Int32 × zG => q = (r, g')) (j_X10_strikes_203 a x.1 x.2) (zAt E D (zA τ sz) (zQ E D zrI 0 0 sz τ τ r g') 6 (sz, τ, 0, 0) x.2 203 [(0, .ref a), (3, .int x.1)] [])
      exact hj_X10_strikes_203 x.1 x.2
  unfold f_X10_strikes
  refine z_iconst (v := 0) F (by decide) dX10_strikes_0 ?_
  refine z_istore_n (lv' := [(2, .int 0), (0, .ref a), (1, .int x1)]) F rfl (by decide) dX10_strikes_1 rfl ?_
  refine z_iconst (v := 0) F (by decide) dX10_strikes_2 ?_
  refine z_istore_n (lv' := [(3, .int 0), (2, .int 0), (0, .ref a), (1, .int x1)]) F rfl (by decide) dX10_strikes_3 rfl ?_
  refine z_sub (lv' := [(0, .ref a), (1, .int x1), (2, .int 0), (3, .int 0)]) [2, 3, 1, 0] rfl ?_
  refine z_loop (P := fun s : Int32 × Int32 × zG => zAt E D (zA τ sz) (zQ E D zrI 0 0 sz τ τ r g') 6 (sz, τ, 0, 0) s.2.2 4 [(0, .ref a), (1, .int x1), (2, .int s.1), (3, .int s.2.1)] []) (Px := fun x : Int32 × zG => zAt E D (zA τ sz) (zQ E D zrI 0 0 sz τ τ r g') 6 (sz, τ, 0, 0) x.2 52 [(0, .ref a), (1, .int x1), (2, .int x.1)] []) (0, 0, g) (fun s => ?_) (fun x => ?_)
  · obtain ⟨l2_4, l3_4, g_4⟩ := s
    show zSim (zKl (fun s : Int32 × Int32 × zG => zAt E D (zA τ sz) (zQ E D zrI 0 0 sz τ τ r g') 6 (sz, τ, 0, 0) s.2.2 4 [(0, .ref a), (1, .int x1), (2, .int s.1), (3, .int s.2.1)] []) (fun x : Int32 × zG => zAt E D (zA τ sz) (zQ E D zrI 0 0 sz τ τ r g') 6 (sz, τ, 0, 0) x.2 52 [(0, .ref a), (1, .int x1), (2, .int x.1)] [])) (l_X10_strikes_4 a x1 l2_4 l3_4 g_4) (zAt E D (zA τ sz) (zQ E D zrI 0 0 sz τ τ r g') 6 (sz, τ, 0, 0) g_4 4 [(0, .ref a), (1, .int x1), (2, .int l2_4), (3, .int l3_4)] [])
    unfold l_X10_strikes_4
    refine z_iload_n F 3 rfl rfl dX10_strikes_4 ?_
    refine z_aload_n F 0 rfl rfl dX10_strikes_5 ?_
    refine gf_X10_13 F hta dX10_strikes_6 (fun ht35 => ?_)
    refine z_iconst (v := 3) F (by decide) dX10_strikes_9 ?_
    refine z_iald F ht35 dX10_strikes_10 ?_
    refine z_icmp_ge (tgt := 52) F dX10_strikes_11 (by decide) (fun c36 => ?_) (fun c36 => ?_)
    · refine z_sub (lv' := [(0, .ref a), (1, .int x1), (2, .int l2_4)]) [0, 1, 2] rfl ?_
      exact z_back (fun h => h)
    · refine z_aload_n F 0 rfl rfl dX10_strikes_14 ?_
      refine gf_X10_80 F hta dX10_strikes_15 (fun ht37 => ?_)
      refine z_iload_n F 3 rfl rfl dX10_strikes_18 ?_
      refine z_bipush (v := (-4)) F (by decide) dX10_strikes_19 ?_
      refine z_iast F ht37 dX10_strikes_21 ?_
      refine z_letg (fun g38 => ?_)
      refine z_aload_n F 0 rfl rfl dX10_strikes_22 ?_
      refine gf_X10_86 F hta dX10_strikes_23 (fun ht39 => ?_)
      refine z_iload_n F 3 rfl rfl dX10_strikes_26 ?_
      refine z_iconst (v := 0) F (by decide) dX10_strikes_27 ?_
      refine z_zast F ht39 dX10_strikes_28 ?_
      refine z_letg (fun g40 => ?_)
      refine z_iload_n F 2 rfl rfl dX10_strikes_29 ?_
      refine z_aload_n F 0 rfl rfl dX10_strikes_30 ?_
      refine gf_X10_71 F hta dX10_strikes_31 (fun ht41 => ?_)
      refine z_iload_n F 3 rfl rfl dX10_strikes_34 ?_
      refine z_iald F ht41 dX10_strikes_35 ?_
      refine z_if_ne (tgt := 43) F dX10_strikes_36 (by decide) (fun c42 => ?_) (fun c42 => ?_)
      · refine z_iconst (v := 0) F (by decide) dX10_strikes_39 ?_
        refine z_goto (tgt := 44) F dX10_strikes_40 (by decide) ?_
        refine z_iadd F dX10_strikes_44 ?_
        refine z_leti (fun v43 => ?_)
        refine z_istore_n (lv' := [(2, .int v43), (0, .ref a), (1, .int x1), (3, .int l3_4)]) F rfl (by decide) dX10_strikes_45 rfl ?_
        refine z_iincl (lv' := fun v44 => [(3, .int v44), (2, .int v43), (0, .ref a), (1, .int x1)]) F 3 rfl (by decide) (by decide) dX10_strikes_46 (fun _ => rfl) (fun v44 => ?_)
        refine z_goto (tgt := 4) F dX10_strikes_49 (by decide) ?_
        refine z_sub (lv' := [(0, .ref a), (1, .int x1), (2, .int v43), (3, .int v44)]) [2, 3, 1, 0] rfl ?_
        exact z_back (fun h => h)
      · refine z_iconst (v := 1) F (by decide) dX10_strikes_43 ?_
        refine z_iadd F dX10_strikes_44 ?_
        refine z_leti (fun v45 => ?_)
        refine z_istore_n (lv' := [(2, .int v45), (0, .ref a), (1, .int x1), (3, .int l3_4)]) F rfl (by decide) dX10_strikes_45 rfl ?_
        refine z_iincl (lv' := fun v46 => [(3, .int v46), (2, .int v45), (0, .ref a), (1, .int x1)]) F 3 rfl (by decide) (by decide) dX10_strikes_46 (fun _ => rfl) (fun v46 => ?_)
        refine z_goto (tgt := 4) F dX10_strikes_49 (by decide) ?_
        refine z_sub (lv' := [(0, .ref a), (1, .int x1), (2, .int v45), (3, .int v46)]) [2, 3, 1, 0] rfl ?_
        exact z_back (fun h => h)
  · show zSim (fun q : Int32 × zG => q = (r, g')) (j_X10_strikes_52 a x1 x.1 x.2) (zAt E D (zA τ sz) (zQ E D zrI 0 0 sz τ τ r g') 6 (sz, τ, 0, 0) x.2 52 [(0, .ref a), (1, .int x1), (2, .int x.1)] [])
    exact hj_X10_strikes_52 x1 x.1 x.2
theorem k_X10_strikes {ρ : Type} {K : ρ → Prop} {E : zE} {D : zD} {A : Nat → Prop} {Q : State → Prop} {nL : Nat} {κ : zC} {g : zG} {pc : Nat} {lv : List (Nat × Value)} {st : List Value} {cc : ByteArray} {own : String} {ret : Option FieldType} (F : zF E D A cc own nL ret) {index : Nat} {h : Int32 → zG → Option ρ} {a : Nat} {x1 : Int32}  (hR : 2 + 1 ≤ E.2.2.2.1.frames ∧ 8 + (6 + 11) + 46 ≤ E.2.2.2.1.locals) (hl : zTbl (.methodLink own index yX10_strikes)) (hta : κ.2.1 a = some (.inr 10)) (hc : κ.2.2.1 ≤ E.2.2.2.1.cells ∧ κ.2.2.2 ≤ E.2.2.2.1.slots) (hW : (st.map fun v => v.category).sum ≤ 8) (hd : decode cc pc = .ok (.invokevirtual index, 3)) (kk : ∀ r g', zSim K (h r g') (zAt E D A Q nL κ g' (pc + 3) lv (.int r :: st))) : zSim K (zb (f_X10_strikes a x1 g) h) (zAt E D A Q nL κ g pc lv (.int x1 :: .ref a :: st)) :=
  z_callV F (n := 1) (As := [.int x1]) (C := (RX10, TX10, 61)) ⟨q_1230, q_14, by decide +kernel, rfl, rfl, hR.1, hR.2⟩ (c_X10_strikes E.2.1 D κ.1 κ.2.1 g a x1 hta) hl q_1229 q_1412 hta rfl rfl rfl hc hW hd kk _ rfl
theorem dX10_ticks_0 : decode cX10_ticks 0 = .ok (.iload_n 1, 1) := by decide +kernel
theorem dX10_ticks_1 : decode cX10_ticks 1 = .ok (.i2l, 1) := by decide +kernel
theorem dX10_ticks_2 : decode cX10_ticks 2 = .ok (.lconst 1, 1) := by decide +kernel
theorem dX10_ticks_3 : decode cX10_ticks 3 = .ok (.ldc2_w 288, 3) := by decide +kernel
theorem dX10_ticks_6 : decode cX10_ticks 6 = .ok (.invokestatic 165, 3) := by decide +kernel
theorem dX10_ticks_9 : decode cX10_ticks 9 = .ok (.ifCond .ne 5, 3) := by decide +kernel
theorem dX10_ticks_12 : decode cX10_ticks 12 = .ok (.iconst (-1), 1) := by decide +kernel
theorem dX10_ticks_13 : decode cX10_ticks 13 = .ok (.ireturn, 1) := by decide +kernel
theorem dX10_ticks_14 : decode cX10_ticks 14 = .ok (.aload_n 0, 1) := by decide +kernel
theorem dX10_ticks_15 : decode cX10_ticks 15 = .ok (.invokevirtual 290, 3) := by decide +kernel
theorem dX10_ticks_18 : decode cX10_ticks 18 = .ok (.ifCond .eq 11, 3) := by decide +kernel
theorem dX10_ticks_21 : decode cX10_ticks 21 = .ok (.aload_n 0, 1) := by decide +kernel
theorem dX10_ticks_22 : decode cX10_ticks 22 = .ok (.iload_n 1, 1) := by decide +kernel
theorem dX10_ticks_23 : decode cX10_ticks 23 = .ok (.invokevirtual 294, 3) := by decide +kernel
theorem dX10_ticks_26 : decode cX10_ticks 26 = .ok (.goto 5, 3) := by decide +kernel
theorem dX10_ticks_29 : decode cX10_ticks 29 = .ok (.bipush (-2), 2) := by decide +kernel
theorem dX10_ticks_31 : decode cX10_ticks 31 = .ok (.ireturn, 1) := by decide +kernel
def f_X10_ticks (a : Nat) (x1 : Int32) (g : zG) : Option (Int32 × zG) :=
  zb (f_X10_in x1.toInt64 1 40 g) (fun v1 g2 => if v1 = 0 then (some (((-1), g2))) else (zb (f_X10_canGo a g2) (fun v4 g5 => if v4 = 0 then (some (((-2), g5))) else (zb (f_X10_strikes a x1 g5) (fun v7 g8 => some ((v7, g8)))))))
abbrev rm_X10_ticks : Room := { frames := 3, cells := 0, slots := 0, locals := 71 }
set_option maxRecDepth 100000 in
set_option maxHeartbeats 4000000 in
theorem c_X10_ticks (l : Launch) (D : zD) (sz : Nat) (τ : zT) (g : zG) (a : Nat) (x1 : Int32) (hta : τ a = some (.inr 10)) : zCon l D yX10_ticks cX10_ticks 2 (some .int) rm_X10_ticks 0 0 zrI [.ref a, .int x1] sz τ g τ (f_X10_ticks a x1 g) := by
  refine zCon.of (by decide) (Nat.le_of_ble_eq_true rfl) (fun E r g' hl hR hsz hnm F => ?_)
  have F : zF E D (zA τ sz) cX10_ticks "TypeChainModel" 2 (some .int) := F
  show zSim (fun q : Int32 × zG => q = (r, g')) (f_X10_ticks a x1 g) (zAt E D (zA τ sz) (zQ E D zrI 0 0 sz τ τ r g') 2 (sz, τ, 0, 0) g 0 [(0, .ref a), (1, .int x1)] [])
  unfold f_X10_ticks
  refine z_iload_n F 1 rfl rfl dX10_ticks_0 ?_
  refine z_i2l F dX10_ticks_1 ?_
  refine z_lconst (v := 1) F (by decide) dX10_ticks_2 ?_
  refine z_ldc2 F q_1222 dX10_ticks_3 ?_
  refine k_X10_in F (by rw [hR]; exact ⟨by decide, by decide⟩) q_1082  ⟨Nat.zero_le _, Nat.zero_le _⟩ (Nat.le_of_ble_eq_true rfl) dX10_ticks_6 (fun v1 g2 => ?_)
  refine z_if_ne (tgt := 14) F dX10_ticks_9 (by decide) (fun c3 => ?_) (fun c3 => ?_)
  · refine z_iconst (v := (-1)) F (by decide) dX10_ticks_12 ?_
    exact z_ireturn F rfl rfl rfl rfl (fun h => h) dX10_ticks_13
  · refine z_aload_n F 0 rfl rfl dX10_ticks_14 ?_
    refine k_X10_canGo F (by rw [hR]; exact ⟨by decide, by decide⟩) q_1223 hta ⟨Nat.zero_le _, Nat.zero_le _⟩ (Nat.le_of_ble_eq_true rfl) dX10_ticks_15 (fun v4 g5 => ?_)
    refine z_if_eq (tgt := 29) F dX10_ticks_18 (by decide) (fun c6 => ?_) (fun c6 => ?_)
    · refine z_bipush (v := (-2)) F (by decide) dX10_ticks_29 ?_
      exact z_ireturn F rfl rfl rfl rfl (fun h => h) dX10_ticks_31
    · refine z_aload_n F 0 rfl rfl dX10_ticks_21 ?_
      refine z_iload_n F 1 rfl rfl dX10_ticks_22 ?_
      refine k_X10_strikes F (by rw [hR]; exact ⟨by decide, by decide⟩) q_1227 hta ⟨Nat.zero_le _, Nat.zero_le _⟩ (Nat.le_of_ble_eq_true rfl) dX10_ticks_23 (fun v7 g8 => ?_)
      refine z_goto (tgt := 31) F dX10_ticks_26 (by decide) ?_
      exact z_ireturn F rfl rfl rfl rfl (fun h => h) dX10_ticks_31
theorem k_X10_ticks {ρ : Type} {K : ρ → Prop} {E : zE} {D : zD} {A : Nat → Prop} {Q : State → Prop} {nL : Nat} {κ : zC} {g : zG} {pc : Nat} {lv : List (Nat × Value)} {st : List Value} {cc : ByteArray} {own : String} {ret : Option FieldType} (F : zF E D A cc own nL ret) {index : Nat} {h : Int32 → zG → Option ρ} {a : Nat} {x1 : Int32}  (hR : 3 + 1 ≤ E.2.2.2.1.frames ∧ 8 + (2 + 11) + 71 ≤ E.2.2.2.1.locals) (hl : zTbl (.methodLink own index yX10_ticks)) (hta : κ.2.1 a = some (.inr 10)) (hc : κ.2.2.1 ≤ E.2.2.2.1.cells ∧ κ.2.2.2 ≤ E.2.2.2.1.slots) (hW : (st.map fun v => v.category).sum ≤ 8) (hd : decode cc pc = .ok (.invokevirtual index, 3)) (kk : ∀ r g', zSim K (h r g') (zAt E D A Q nL κ g' (pc + 3) lv (.int r :: st))) : zSim K (zb (f_X10_ticks a x1 g) h) (zAt E D A Q nL κ g pc lv (.int x1 :: .ref a :: st)) :=
  z_callV F (n := 1) (As := [.int x1]) (C := (RX10, TX10, 61)) ⟨q_1221, q_14, by decide +kernel, rfl, rfl, hR.1, hR.2⟩ (c_X10_ticks E.2.1 D κ.1 κ.2.1 g a x1 hta) hl q_1219 q_1220 hta rfl rfl rfl hc hW hd kk _ rfl
theorem dX10_goes_0 : decode cX10_goes 0 = .ok (.aload_n 0, 1) := by decide +kernel
theorem dX10_goes_1 : decode cX10_goes 1 = .ok (.aload_n 0, 1) := by decide +kernel
theorem dX10_goes_2 : decode cX10_goes 2 = .ok (.getfield 13, 3) := by decide +kernel
theorem dX10_goes_5 : decode cX10_goes 5 = .ok (.iconst 4, 1) := by decide +kernel
theorem dX10_goes_6 : decode cX10_goes 6 = .ok (.iaload, 1) := by decide +kernel
theorem dX10_goes_7 : decode cX10_goes 7 = .ok (.invokevirtual 294, 3) := by decide +kernel
theorem dX10_goes_10 : decode cX10_goes 10 = .ok (.istore_n 1, 1) := by decide +kernel
theorem dX10_goes_11 : decode cX10_goes 11 = .ok (.aload_n 0, 1) := by decide +kernel
theorem dX10_goes_12 : decode cX10_goes 12 = .ok (.iconst 1, 1) := by decide +kernel
theorem dX10_goes_13 : decode cX10_goes 13 = .ok (.putfield 148, 3) := by decide +kernel
theorem dX10_goes_16 : decode cX10_goes 16 = .ok (.aload_n 0, 1) := by decide +kernel
theorem dX10_goes_17 : decode cX10_goes 17 = .ok (.iconst 0, 1) := by decide +kernel
theorem dX10_goes_18 : decode cX10_goes 18 = .ok (.putfield 297, 3) := by decide +kernel
theorem dX10_goes_21 : decode cX10_goes 21 = .ok (.aload_n 0, 1) := by decide +kernel
theorem dX10_goes_22 : decode cX10_goes 22 = .ok (.iconst 0, 1) := by decide +kernel
theorem dX10_goes_23 : decode cX10_goes 23 = .ok (.putfield 300, 3) := by decide +kernel
theorem dX10_goes_26 : decode cX10_goes 26 = .ok (.aload_n 0, 1) := by decide +kernel
theorem dX10_goes_27 : decode cX10_goes 27 = .ok (.aload_n 0, 1) := by decide +kernel
theorem dX10_goes_28 : decode cX10_goes 28 = .ok (.getfield 285, 3) := by decide +kernel
theorem dX10_goes_31 : decode cX10_goes 31 = .ok (.putfield 303, 3) := by decide +kernel
theorem dX10_goes_34 : decode cX10_goes 34 = .ok (.iconst 0, 1) := by decide +kernel
theorem dX10_goes_35 : decode cX10_goes 35 = .ok (.istore_n 2, 1) := by decide +kernel
theorem dX10_goes_36 : decode cX10_goes 36 = .ok (.iload_n 2, 1) := by decide +kernel
theorem dX10_goes_37 : decode cX10_goes 37 = .ok (.bipush 40, 2) := by decide +kernel
theorem dX10_goes_39 : decode cX10_goes 39 = .ok (.if_icmp .ge 178, 3) := by decide +kernel
theorem dX10_goes_42 : decode cX10_goes 42 = .ok (.iload_n 2, 1) := by decide +kernel
theorem dX10_goes_43 : decode cX10_goes 43 = .ok (.aload_n 0, 1) := by decide +kernel
theorem dX10_goes_44 : decode cX10_goes 44 = .ok (.getfield 13, 3) := by decide +kernel
theorem dX10_goes_47 : decode cX10_goes 47 = .ok (.iconst 3, 1) := by decide +kernel
theorem dX10_goes_48 : decode cX10_goes 48 = .ok (.iaload, 1) := by decide +kernel
theorem dX10_goes_49 : decode cX10_goes 49 = .ok (.if_icmp .ge 16, 3) := by decide +kernel
theorem dX10_goes_52 : decode cX10_goes 52 = .ok (.aload_n 0, 1) := by decide +kernel
theorem dX10_goes_53 : decode cX10_goes 53 = .ok (.getfield 71, 3) := by decide +kernel
theorem dX10_goes_56 : decode cX10_goes 56 = .ok (.iload_n 2, 1) := by decide +kernel
theorem dX10_goes_57 : decode cX10_goes 57 = .ok (.iaload, 1) := by decide +kernel
theorem dX10_goes_58 : decode cX10_goes 58 = .ok (.ifCond .eq 7, 3) := by decide +kernel
theorem dX10_goes_61 : decode cX10_goes 61 = .ok (.iconst 1, 1) := by decide +kernel
theorem dX10_goes_62 : decode cX10_goes 62 = .ok (.goto 4, 3) := by decide +kernel
theorem dX10_goes_65 : decode cX10_goes 65 = .ok (.iconst 0, 1) := by decide +kernel
theorem dX10_goes_66 : decode cX10_goes 66 = .ok (.istore_n 3, 1) := by decide +kernel
theorem dX10_goes_67 : decode cX10_goes 67 = .ok (.aload_n 0, 1) := by decide +kernel
theorem dX10_goes_68 : decode cX10_goes 68 = .ok (.getfield 89, 3) := by decide +kernel
theorem dX10_goes_71 : decode cX10_goes 71 = .ok (.iload_n 2, 1) := by decide +kernel
theorem dX10_goes_72 : decode cX10_goes 72 = .ok (.iload_n 3, 1) := by decide +kernel
theorem dX10_goes_73 : decode cX10_goes 73 = .ok (.ifCond .eq 12, 3) := by decide +kernel
theorem dX10_goes_76 : decode cX10_goes 76 = .ok (.aload_n 0, 1) := by decide +kernel
theorem dX10_goes_77 : decode cX10_goes 77 = .ok (.getfield 80, 3) := by decide +kernel
theorem dX10_goes_80 : decode cX10_goes 80 = .ok (.iload_n 2, 1) := by decide +kernel
theorem dX10_goes_81 : decode cX10_goes 81 = .ok (.iaload, 1) := by decide +kernel
theorem dX10_goes_82 : decode cX10_goes 82 = .ok (.goto 5, 3) := by decide +kernel
theorem dX10_goes_85 : decode cX10_goes 85 = .ok (.bipush (-4), 2) := by decide +kernel
theorem dX10_goes_87 : decode cX10_goes 87 = .ok (.iastore, 1) := by decide +kernel
theorem dX10_goes_88 : decode cX10_goes 88 = .ok (.aload_n 0, 1) := by decide +kernel
theorem dX10_goes_89 : decode cX10_goes 89 = .ok (.getfield 92, 3) := by decide +kernel
theorem dX10_goes_92 : decode cX10_goes 92 = .ok (.iload_n 2, 1) := by decide +kernel
theorem dX10_goes_93 : decode cX10_goes 93 = .ok (.iload_n 3, 1) := by decide +kernel
theorem dX10_goes_94 : decode cX10_goes 94 = .ok (.ifCond .eq 12, 3) := by decide +kernel
theorem dX10_goes_97 : decode cX10_goes 97 = .ok (.aload_n 0, 1) := by decide +kernel
theorem dX10_goes_98 : decode cX10_goes 98 = .ok (.getfield 83, 3) := by decide +kernel
theorem dX10_goes_101 : decode cX10_goes 101 = .ok (.iload_n 2, 1) := by decide +kernel
theorem dX10_goes_102 : decode cX10_goes 102 = .ok (.iaload, 1) := by decide +kernel
theorem dX10_goes_103 : decode cX10_goes 103 = .ok (.goto 5, 3) := by decide +kernel
theorem dX10_goes_106 : decode cX10_goes 106 = .ok (.bipush (-4), 2) := by decide +kernel
theorem dX10_goes_108 : decode cX10_goes 108 = .ok (.iastore, 1) := by decide +kernel
theorem dX10_goes_109 : decode cX10_goes 109 = .ok (.aload_n 0, 1) := by decide +kernel
theorem dX10_goes_110 : decode cX10_goes 110 = .ok (.getfield 95, 3) := by decide +kernel
theorem dX10_goes_113 : decode cX10_goes 113 = .ok (.iload_n 2, 1) := by decide +kernel
theorem dX10_goes_114 : decode cX10_goes 114 = .ok (.bipush (-4), 2) := by decide +kernel
theorem dX10_goes_116 : decode cX10_goes 116 = .ok (.iastore, 1) := by decide +kernel
theorem dX10_goes_117 : decode cX10_goes 117 = .ok (.aload_n 0, 1) := by decide +kernel
theorem dX10_goes_118 : decode cX10_goes 118 = .ok (.dup, 1) := by decide +kernel
theorem dX10_goes_119 : decode cX10_goes 119 = .ok (.getfield 297, 3) := by decide +kernel
theorem dX10_goes_122 : decode cX10_goes 122 = .ok (.iload_n 3, 1) := by decide +kernel
theorem dX10_goes_123 : decode cX10_goes 123 = .ok (.ifCond .eq 7, 3) := by decide +kernel
theorem dX10_goes_126 : decode cX10_goes 126 = .ok (.iconst 1, 1) := by decide +kernel
theorem dX10_goes_127 : decode cX10_goes 127 = .ok (.goto 4, 3) := by decide +kernel
theorem dX10_goes_130 : decode cX10_goes 130 = .ok (.iconst 0, 1) := by decide +kernel
theorem dX10_goes_131 : decode cX10_goes 131 = .ok (.iadd, 1) := by decide +kernel
theorem dX10_goes_132 : decode cX10_goes 132 = .ok (.putfield 297, 3) := by decide +kernel
theorem dX10_goes_135 : decode cX10_goes 135 = .ok (.aload_n 0, 1) := by decide +kernel
theorem dX10_goes_136 : decode cX10_goes 136 = .ok (.dup, 1) := by decide +kernel
theorem dX10_goes_137 : decode cX10_goes 137 = .ok (.getfield 300, 3) := by decide +kernel
theorem dX10_goes_140 : decode cX10_goes 140 = .ok (.iload_n 3, 1) := by decide +kernel
theorem dX10_goes_141 : decode cX10_goes 141 = .ok (.ifCond .eq 16, 3) := by decide +kernel
theorem dX10_goes_144 : decode cX10_goes 144 = .ok (.aload_n 0, 1) := by decide +kernel
theorem dX10_goes_145 : decode cX10_goes 145 = .ok (.getfield 86, 3) := by decide +kernel
theorem dX10_goes_148 : decode cX10_goes 148 = .ok (.iload_n 2, 1) := by decide +kernel
theorem dX10_goes_149 : decode cX10_goes 149 = .ok (.baload, 1) := by decide +kernel
theorem dX10_goes_150 : decode cX10_goes 150 = .ok (.ifCond .eq 7, 3) := by decide +kernel
theorem dX10_goes_153 : decode cX10_goes 153 = .ok (.iconst 1, 1) := by decide +kernel
theorem dX10_goes_154 : decode cX10_goes 154 = .ok (.goto 4, 3) := by decide +kernel
theorem dX10_goes_157 : decode cX10_goes 157 = .ok (.iconst 0, 1) := by decide +kernel
theorem dX10_goes_158 : decode cX10_goes 158 = .ok (.iadd, 1) := by decide +kernel
theorem dX10_goes_159 : decode cX10_goes 159 = .ok (.putfield 300, 3) := by decide +kernel
theorem dX10_goes_162 : decode cX10_goes 162 = .ok (.iload_n 3, 1) := by decide +kernel
theorem dX10_goes_163 : decode cX10_goes 163 = .ok (.ifCond .eq 41, 3) := by decide +kernel
theorem dX10_goes_166 : decode cX10_goes 166 = .ok (.aload_n 0, 1) := by decide +kernel
theorem dX10_goes_167 : decode cX10_goes 167 = .ok (.getfield 74, 3) := by decide +kernel
theorem dX10_goes_170 : decode cX10_goes 170 = .ok (.bipush 40, 2) := by decide +kernel
theorem dX10_goes_172 : decode cX10_goes 172 = .ok (.aload_n 0, 1) := by decide +kernel
theorem dX10_goes_173 : decode cX10_goes 173 = .ok (.getfield 282, 3) := by decide +kernel
theorem dX10_goes_176 : decode cX10_goes 176 = .ok (.imul, 1) := by decide +kernel
theorem dX10_goes_177 : decode cX10_goes 177 = .ok (.iload_n 2, 1) := by decide +kernel
theorem dX10_goes_178 : decode cX10_goes 178 = .ok (.iadd, 1) := by decide +kernel
theorem dX10_goes_179 : decode cX10_goes 179 = .ok (.aload_n 0, 1) := by decide +kernel
theorem dX10_goes_180 : decode cX10_goes 180 = .ok (.getfield 71, 3) := by decide +kernel
theorem dX10_goes_183 : decode cX10_goes 183 = .ok (.iload_n 2, 1) := by decide +kernel
theorem dX10_goes_184 : decode cX10_goes 184 = .ok (.iaload, 1) := by decide +kernel
theorem dX10_goes_185 : decode cX10_goes 185 = .ok (.iastore, 1) := by decide +kernel
theorem dX10_goes_186 : decode cX10_goes 186 = .ok (.aload_n 0, 1) := by decide +kernel
theorem dX10_goes_187 : decode cX10_goes 187 = .ok (.getfield 77, 3) := by decide +kernel
theorem dX10_goes_190 : decode cX10_goes 190 = .ok (.bipush 40, 2) := by decide +kernel
theorem dX10_goes_192 : decode cX10_goes 192 = .ok (.aload_n 0, 1) := by decide +kernel
theorem dX10_goes_193 : decode cX10_goes 193 = .ok (.getfield 282, 3) := by decide +kernel
theorem dX10_goes_196 : decode cX10_goes 196 = .ok (.imul, 1) := by decide +kernel
theorem dX10_goes_197 : decode cX10_goes 197 = .ok (.iload_n 2, 1) := by decide +kernel
theorem dX10_goes_198 : decode cX10_goes 198 = .ok (.iadd, 1) := by decide +kernel
theorem dX10_goes_199 : decode cX10_goes 199 = .ok (.dup2, 1) := by decide +kernel
theorem dX10_goes_200 : decode cX10_goes 200 = .ok (.iaload, 1) := by decide +kernel
theorem dX10_goes_201 : decode cX10_goes 201 = .ok (.iconst 1, 1) := by decide +kernel
theorem dX10_goes_202 : decode cX10_goes 202 = .ok (.iadd, 1) := by decide +kernel
theorem dX10_goes_203 : decode cX10_goes 203 = .ok (.iastore, 1) := by decide +kernel
theorem dX10_goes_204 : decode cX10_goes 204 = .ok (.aload_n 0, 1) := by decide +kernel
theorem dX10_goes_205 : decode cX10_goes 205 = .ok (.getfield 71, 3) := by decide +kernel
theorem dX10_goes_208 : decode cX10_goes 208 = .ok (.iload_n 2, 1) := by decide +kernel
theorem dX10_goes_209 : decode cX10_goes 209 = .ok (.iconst 0, 1) := by decide +kernel
theorem dX10_goes_210 : decode cX10_goes 210 = .ok (.iastore, 1) := by decide +kernel
theorem dX10_goes_211 : decode cX10_goes 211 = .ok (.iinc 2 1, 3) := by decide +kernel
theorem dX10_goes_214 : decode cX10_goes 214 = .ok (.goto (-178), 3) := by decide +kernel
theorem dX10_goes_217 : decode cX10_goes 217 = .ok (.aload_n 0, 1) := by decide +kernel
theorem dX10_goes_218 : decode cX10_goes 218 = .ok (.dup, 1) := by decide +kernel
theorem dX10_goes_219 : decode cX10_goes 219 = .ok (.getfield 279, 3) := by decide +kernel
theorem dX10_goes_222 : decode cX10_goes 222 = .ok (.iload_n 1, 1) := by decide +kernel
theorem dX10_goes_223 : decode cX10_goes 223 = .ok (.iadd, 1) := by decide +kernel
theorem dX10_goes_224 : decode cX10_goes 224 = .ok (.putfield 279, 3) := by decide +kernel
theorem dX10_goes_227 : decode cX10_goes 227 = .ok (.iload_n 1, 1) := by decide +kernel
theorem dX10_goes_228 : decode cX10_goes 228 = .ok (.ireturn, 1) := by decide +kernel
def j_X10_goes_217 (a : Nat) (l1 : Int32) (g : zG) : Option (Int32 × zG) :=
  zl (zsi g a 34 ((g.1 a 34) + l1)) (fun g1 => some ((l1, g1)))
def j_X10_goes_158_36 (a : Nat) (l1 : Int32) (l2 : Int32) (l3 : Int32) (s0 : Nat) (s1 : Int32) (s2 : Int32) (g : zG) : Option ((Int32 × zG) ⊕ (zG)) :=
  zl (zsi g s0 47 (s1 + s2)) (fun g9 => if l3 = 0 then (zc (zin l2 40) (zl (zsi g9 (g9.2.1 a 37) l2.toNatClampNeg 0) (fun g12 => zl (l2 + 1) (fun v13 => some (.inl (v13, g12)))))) else (zc (zin l2 40) (zc (zin ((40 * (g9.1 a 35)) + l2) 2400) (zl (zsi g9 (g9.2.1 a 38) ((40 * (g9.1 a 35)) + l2).toNatClampNeg (g9.1 (g9.2.1 a 37) l2.toNatClampNeg)) (fun g16 => zc (zin ((40 * (g16.1 a 35)) + l2) 2400) (zc (zin ((40 * (g16.1 a 35)) + l2) 2400) (zl (zsi g16 (g16.2.1 a 39) ((40 * (g16.1 a 35)) + l2).toNatClampNeg ((g16.1 (g16.2.1 a 39) ((40 * (g16.1 a 35)) + l2).toNatClampNeg) + 1)) (fun g18 => zc (zin l2 40) (zl (zsi g18 (g18.2.1 a 37) l2.toNatClampNeg 0) (fun g20 => zl (l2 + 1) (fun v21 => some (.inl (v21, g20)))))))))))))
def j_X10_goes_157_36 (a : Nat) (l1 : Int32) (l2 : Int32) (l3 : Int32) (s0 : Nat) (s1 : Int32) (g : zG) : Option ((Int32 × zG) ⊕ (zG)) :=
  j_X10_goes_158_36 a l1 l2 l3 s0 s1 0 g
def j_X10_goes_131_36 (a : Nat) (l1 : Int32) (l2 : Int32) (l3 : Int32) (s0 : Nat) (s1 : Int32) (s2 : Int32) (g : zG) : Option ((Int32 × zG) ⊕ (zG)) :=
  zl (zsi g s0 45 (s1 + s2)) (fun g22 => if l3 = 0 then (j_X10_goes_157_36 a l1 l2 l3 a (g22.1 a 47) g22) else (zc (zin l2 40) (if (g22.1 (g22.2.1 a 42) l2.toNatClampNeg) = 0 then (j_X10_goes_157_36 a l1 l2 l3 a (g22.1 a 47) g22) else (j_X10_goes_158_36 a l1 l2 l3 a (g22.1 a 47) 1 g22))))
def j_X10_goes_108_36 (a : Nat) (l1 : Int32) (l2 : Int32) (l3 : Int32) (s0 : Nat) (s1 : Int32) (s2 : Int32) (g : zG) : Option ((Int32 × zG) ⊕ (zG)) :=
  zc (zin s1 40) (zl (zsi g s0 s1.toNatClampNeg s2) (fun g26 => zc (zin l2 40) (zl (zsi g26 (g26.2.1 a 50) l2.toNatClampNeg (-4)) (fun g28 => if l3 = 0 then (j_X10_goes_131_36 a l1 l2 l3 a (g28.1 a 45) 0 g28) else (j_X10_goes_131_36 a l1 l2 l3 a (g28.1 a 45) 1 g28)))))
def j_X10_goes_87_36 (a : Nat) (l1 : Int32) (l2 : Int32) (l3 : Int32) (s0 : Nat) (s1 : Int32) (s2 : Int32) (g : zG) : Option ((Int32 × zG) ⊕ (zG)) :=
  zc (zin s1 40) (zl (zsi g s0 s1.toNatClampNeg s2) (fun g30 => if l3 = 0 then (j_X10_goes_108_36 a l1 l2 l3 (g30.2.1 a 49) l2 (-4) g30) else (zc (zin l2 40) (j_X10_goes_108_36 a l1 l2 l3 (g30.2.1 a 49) l2 (g30.1 (g30.2.1 a 41) l2.toNatClampNeg) g30))))
def j_X10_goes_66_36 (a : Nat) (l1 : Int32) (l2 : Int32) (s0 : Int32) (g : zG) : Option ((Int32 × zG) ⊕ (zG)) :=
  if s0 = 0 then (j_X10_goes_87_36 a l1 l2 s0 (g.2.1 a 48) l2 (-4) g) else (zc (zin l2 40) (j_X10_goes_87_36 a l1 l2 s0 (g.2.1 a 48) l2 (g.1 (g.2.1 a 40) l2.toNatClampNeg) g))
def j_X10_goes_65_36 (a : Nat) (l1 : Int32) (l2 : Int32) (g : zG) : Option ((Int32 × zG) ⊕ (zG)) :=
  j_X10_goes_66_36 a l1 l2 0 g
def l_X10_goes_36 (a : Nat) (l1 : Int32) (l2 : Int32) (g : zG) : Option ((Int32 × zG) ⊕ (zG)) :=
  if 40 ≤ l2 then (some (.inr g)) else (zc (zin 3 8) (if (g.1 (g.2.1 a 2) (3 : Int32).toNatClampNeg) ≤ l2 then (j_X10_goes_65_36 a l1 l2 g) else (zc (zin l2 40) (if (g.1 (g.2.1 a 37) l2.toNatClampNeg) = 0 then (j_X10_goes_65_36 a l1 l2 g) else (j_X10_goes_66_36 a l1 l2 1 g)))))
def f_X10_goes (a : Nat) (g : zG) : Option (Int32 × zG) :=
  zc (zin 4 8) (zb (f_X10_strikes a (g.1 (g.2.1 a 2) (4 : Int32).toNatClampNeg) g) (fun v3 g4 => zl (zsi g4 a 44 1) (fun g5 => zl (zsi g5 a 45 0) (fun g6 => zl (zsi g6 a 47 0) (fun g7 => zl (zsi g7 a 46 (g7.1 a 43)) (fun g8 => zk (zw zN (fun s => l_X10_goes_36 a v3 s.1 s.2) (0, g8)) (fun x => j_X10_goes_217 a v3 x)))))))
abbrev rm_X10_goes : Room := { frames := 3, cells := 0, slots := 0, locals := 71 }
set_option maxRecDepth 100000 in
set_option maxHeartbeats 4000000 in
theorem c_X10_goes (l : Launch) (D : zD) (sz : Nat) (τ : zT) (g : zG) (a : Nat) (hta : τ a = some (.inr 10)) : zCon l D yX10_goes cX10_goes 4 (some .int) rm_X10_goes 0 0 zrI [.ref a] sz τ g τ (f_X10_goes a g) := by
  refine zCon.of (by decide) (Nat.le_of_ble_eq_true rfl) (fun E r g' hl hR hsz hnm F => ?_)
  have F : zF E D (zA τ sz) cX10_goes "TypeChainModel" 4 (some .int) := F
  show zSim (fun q : Int32 × zG => q = (r, g')) (f_X10_goes a g) (zAt E D (zA τ sz) (zQ E D zrI 0 0 sz τ τ r g') 4 (sz, τ, 0, 0) g 0 [(0, .ref a)] [])
  have hj_X10_goes_217 : ∀ (l1_217 : Int32) (g_217 : zG), zSim (fun q : Int32 × zG => q = (r, g')) (j_X10_goes_217 a l1_217 g_217) (zAt E D (zA τ sz) (zQ E D zrI 0 0 sz τ τ r g') 4 (sz, τ, 0, 0) g_217 217 [(0, .ref a), (1, .int l1_217)] []) := by
    intro l1_217 g_217
    unfold j_X10_goes_217
    refine z_aload_n F 0 rfl rfl dX10_goes_217 ?_
    refine z_dup F rfl dX10_goes_218 ?_
    refine gf_X10_279 F hta dX10_goes_219 ?_
    refine z_iload_n F 1 rfl rfl dX10_goes_222 ?_
    refine z_iadd F dX10_goes_223 ?_
    refine pf_X10_279 F hta dX10_goes_224 ?_
    refine z_letg (fun g1 => ?_)
    refine z_iload_n F 1 rfl rfl dX10_goes_227 ?_
    exact z_ireturn F rfl rfl rfl rfl (fun h => h) dX10_goes_228
  unfold f_X10_goes
  refine z_aload_n F 0 rfl rfl dX10_goes_0 ?_
  refine z_aload_n F 0 rfl rfl dX10_goes_1 ?_
  refine gf_X10_13 F hta dX10_goes_2 (fun ht2 => ?_)
  refine z_iconst (v := 4) F (by decide) dX10_goes_5 ?_
  refine z_iald F ht2 dX10_goes_6 ?_
  refine k_X10_strikes F (by rw [hR]; exact ⟨by decide, by decide⟩) q_1227 hta ⟨Nat.zero_le _, Nat.zero_le _⟩ (Nat.le_of_ble_eq_true rfl) dX10_goes_7 (fun v3 g4 => ?_)
  refine z_istore_n (lv' := [(1, .int v3), (0, .ref a)]) F rfl (by decide) dX10_goes_10 rfl ?_
  refine z_aload_n F 1 rfl rfl dX10_goes_11 ?_
  refine z_iconst (v := 1) F (by decide) dX10_goes_12 ?_
  refine pf_X10_148 F hta (Or.inr rfl) dX10_goes_13 ?_
  refine z_letg (fun g5 => ?_)
  refine z_aload_n F 1 rfl rfl dX10_goes_16 ?_
  refine z_iconst (v := 0) F (by decide) dX10_goes_17 ?_
  refine pf_X10_297 F hta dX10_goes_18 ?_
  refine z_letg (fun g6 => ?_)
  refine z_aload_n F 1 rfl rfl dX10_goes_21 ?_
  refine z_iconst (v := 0) F (by decide) dX10_goes_22 ?_
  refine pf_X10_300 F hta dX10_goes_23 ?_
  refine z_letg (fun g7 => ?_)
  refine z_aload_n F 1 rfl rfl dX10_goes_26 ?_
  refine z_aload_n F 1 rfl rfl dX10_goes_27 ?_
  refine gf_X10_285 F hta dX10_goes_28 ?_
  refine pf_X10_303 F hta dX10_goes_31 ?_
  refine z_letg (fun g8 => ?_)
  refine z_iconst (v := 0) F (by decide) dX10_goes_34 ?_
  refine z_istore_n (lv' := [(2, .int 0), (1, .int v3), (0, .ref a)]) F rfl (by decide) dX10_goes_35 rfl ?_
  refine z_sub (lv' := [(0, .ref a), (1, .int v3), (2, .int 0)]) [2, 1, 0] rfl ?_
  refine z_loop (P := fun s : Int32 × zG => zAt E D (zA τ sz) (zQ E D zrI 0 0 sz τ τ r g') 4 (sz, τ, 0, 0) s.2 36 [(0, .ref a), (1, .int v3), (2, .int s.1)] []) (Px := fun x : zG => zAt E D (zA τ sz) (zQ E D zrI 0 0 sz τ τ r g') 4 (sz, τ, 0, 0) x 217 [(0, .ref a), (1, .int v3)] []) (0, g8) (fun s => ?_) (fun x => ?_)
  · obtain ⟨l2_36, g_36⟩ := s
    show zSim (zKl (fun s : Int32 × zG => zAt E D (zA τ sz) (zQ E D zrI 0 0 sz τ τ r g') 4 (sz, τ, 0, 0) s.2 36 [(0, .ref a), (1, .int v3), (2, .int s.1)] []) (fun x : zG => zAt E D (zA τ sz) (zQ E D zrI 0 0 sz τ τ r g') 4 (sz, τ, 0, 0) x 217 [(0, .ref a), (1, .int v3)] [])) (l_X10_goes_36 a v3 l2_36 g_36) (zAt E D (zA τ sz) (zQ E D zrI 0 0 sz τ τ r g') 4 (sz, τ, 0, 0) g_36 36 [(0, .ref a), (1, .int v3), (2, .int l2_36)] [])
    have hj_X10_goes_158_36 : ∀ (l2_158 : Int32) (l3_158 : Int32) (s0_158 : Nat) (s1_158 : Int32) (s2_158 : Int32) (g_158 : zG), τ s0_158 = some (.inr 10) → zSim (zKl (fun s : Int32 × zG => zAt E D (zA τ sz) (zQ E D zrI 0 0 sz τ τ r g') 4 (sz, τ, 0, 0) s.2 36 [(0, .ref a), (1, .int v3), (2, .int s.1)] []) (fun x : zG => zAt E D (zA τ sz) (zQ E D zrI 0 0 sz τ τ r g') 4 (sz, τ, 0, 0) x 217 [(0, .ref a), (1, .int v3)] [])) (j_X10_goes_158_36 a v3 l2_158 l3_158 s0_158 s1_158 s2_158 g_158) (zAt E D (zA τ sz) (zQ E D zrI 0 0 sz τ τ r g') 4 (sz, τ, 0, 0) g_158 158 [(0, .ref a), (1, .int v3), (2, .int l2_158), (3, .int l3_158)] [.int s2_158, .int s1_158, .ref s0_158]) := by
      intro l2_158 l3_158 s0_158 s1_158 s2_158 g_158 ht_s0_158
      unfold j_X10_goes_158_36
      refine z_iadd F dX10_goes_158 ?_
      refine pf_X10_300 F ht_s0_158 dX10_goes_159 ?_
      refine z_letg (fun g9 => ?_)
      refine z_iload_n F 3 rfl rfl dX10_goes_162 ?_
      refine z_if_eq (tgt := 204) F dX10_goes_163 (by decide) (fun c10 => ?_) (fun c10 => ?_)
      · refine z_aload_n F 0 rfl rfl dX10_goes_204 ?_
        refine gf_X10_71 F hta dX10_goes_205 (fun ht11 => ?_)
        refine z_iload_n F 2 rfl rfl dX10_goes_208 ?_
        refine z_iconst (v := 0) F (by decide) dX10_goes_209 ?_
        refine z_iast F ht11 dX10_goes_210 ?_
        refine z_letg (fun g12 => ?_)
        refine z_iincl (lv' := fun v13 => [(2, .int v13), (0, .ref a), (1, .int v3), (3, .int l3_158)]) F 2 rfl (by decide) (by decide) dX10_goes_211 (fun _ => rfl) (fun v13 => ?_)
        refine z_goto (tgt := 36) F dX10_goes_214 (by decide) ?_
        refine z_sub (lv' := [(0, .ref a), (1, .int v3), (2, .int v13)]) [1, 2, 0] rfl ?_
        exact z_back (fun h => h)
      · refine z_aload_n F 0 rfl rfl dX10_goes_166 ?_
        refine gf_X10_74 F hta dX10_goes_167 (fun ht14 => ?_)
        refine z_bipush (v := 40) F (by decide) dX10_goes_170 ?_
        refine z_aload_n F 0 rfl rfl dX10_goes_172 ?_
        refine gf_X10_282 F hta dX10_goes_173 ?_
        refine z_imul F dX10_goes_176 ?_
        refine z_iload_n F 2 rfl rfl dX10_goes_177 ?_
        refine z_iadd F dX10_goes_178 ?_
        refine z_aload_n F 0 rfl rfl dX10_goes_179 ?_
        refine gf_X10_71 F hta dX10_goes_180 (fun ht15 => ?_)
        refine z_iload_n F 2 rfl rfl dX10_goes_183 ?_
        refine z_iald F ht15 dX10_goes_184 ?_
        refine z_iast F ht14 dX10_goes_185 ?_
        refine z_letg (fun g16 => ?_)
        refine z_aload_n F 0 rfl rfl dX10_goes_186 ?_
        refine gf_X10_77 F hta dX10_goes_187 (fun ht17 => ?_)
        refine z_bipush (v := 40) F (by decide) dX10_goes_190 ?_
        refine z_aload_n F 0 rfl rfl dX10_goes_192 ?_
        refine gf_X10_282 F hta dX10_goes_193 ?_
        refine z_imul F dX10_goes_196 ?_
        refine z_iload_n F 2 rfl rfl dX10_goes_197 ?_
        refine z_iadd F dX10_goes_198 ?_
        refine z_dup2 F rfl rfl dX10_goes_199 ?_
        refine z_iald F ht17 dX10_goes_200 ?_
        refine z_iconst (v := 1) F (by decide) dX10_goes_201 ?_
        refine z_iadd F dX10_goes_202 ?_
        refine z_iast F ht17 dX10_goes_203 ?_
        refine z_letg (fun g18 => ?_)
        refine z_aload_n F 0 rfl rfl dX10_goes_204 ?_
        refine gf_X10_71 F hta dX10_goes_205 (fun ht19 => ?_)
        refine z_iload_n F 2 rfl rfl dX10_goes_208 ?_
        refine z_iconst (v := 0) F (by decide) dX10_goes_209 ?_
        refine z_iast F ht19 dX10_goes_210 ?_
        refine z_letg (fun g20 => ?_)
        refine z_iincl (lv' := fun v21 => [(2, .int v21), (0, .ref a), (1, .int v3), (3, .int l3_158)]) F 2 rfl (by decide) (by decide) dX10_goes_211 (fun _ => rfl) (fun v21 => ?_)
        refine z_goto (tgt := 36) F dX10_goes_214 (by decide) ?_
        refine z_sub (lv' := [(0, .ref a), (1, .int v3), (2, .int v21)]) [1, 2, 0] rfl ?_
        exact z_back (fun h => h)
    have hj_X10_goes_157_36 : ∀ (l2_157 : Int32) (l3_157 : Int32) (s0_157 : Nat) (s1_157 : Int32) (g_157 : zG), τ s0_157 = some (.inr 10) → zSim (zKl (fun s : Int32 × zG => zAt E D (zA τ sz) (zQ E D zrI 0 0 sz τ τ r g') 4 (sz, τ, 0, 0) s.2 36 [(0, .ref a), (1, .int v3), (2, .int s.1)] []) (fun x : zG => zAt E D (zA τ sz) (zQ E D zrI 0 0 sz τ τ r g') 4 (sz, τ, 0, 0) x 217 [(0, .ref a), (1, .int v3)] [])) (j_X10_goes_157_36 a v3 l2_157 l3_157 s0_157 s1_157 g_157) (zAt E D (zA τ sz) (zQ E D zrI 0 0 sz τ τ r g') 4 (sz, τ, 0, 0) g_157 157 [(0, .ref a), (1, .int v3), (2, .int l2_157), (3, .int l3_157)] [.int s1_157, .ref s0_157]) := by
      intro l2_157 l3_157 s0_157 s1_157 g_157 ht_s0_157
      unfold j_X10_goes_157_36
      refine z_iconst (v := 0) F (by decide) dX10_goes_157 ?_
      exact hj_X10_goes_158_36 l2_157 l3_157 s0_157 s1_157 0 g_157 ht_s0_157
    have hj_X10_goes_131_36 : ∀ (l2_131 : Int32) (l3_131 : Int32) (s0_131 : Nat) (s1_131 : Int32) (s2_131 : Int32) (g_131 : zG), τ s0_131 = some (.inr 10) → zSim (zKl (fun s : Int32 × zG => zAt E D (zA τ sz) (zQ E D zrI 0 0 sz τ τ r g') 4 (sz, τ, 0, 0) s.2 36 [(0, .ref a), (1, .int v3), (2, .int s.1)] []) (fun x : zG => zAt E D (zA τ sz) (zQ E D zrI 0 0 sz τ τ r g') 4 (sz, τ, 0, 0) x 217 [(0, .ref a), (1, .int v3)] [])) (j_X10_goes_131_36 a v3 l2_131 l3_131 s0_131 s1_131 s2_131 g_131) (zAt E D (zA τ sz) (zQ E D zrI 0 0 sz τ τ r g') 4 (sz, τ, 0, 0) g_131 131 [(0, .ref a), (1, .int v3), (2, .int l2_131), (3, .int l3_131)] [.int s2_131, .int s1_131, .ref s0_131]) := by
      intro l2_131 l3_131 s0_131 s1_131 s2_131 g_131 ht_s0_131
      unfold j_X10_goes_131_36
      refine z_iadd F dX10_goes_131 ?_
      refine pf_X10_297 F ht_s0_131 dX10_goes_132 ?_
      refine z_letg (fun g22 => ?_)
      refine z_aload_n F 0 rfl rfl dX10_goes_135 ?_
      refine z_dup F rfl dX10_goes_136 ?_
      refine gf_X10_300 F hta dX10_goes_137 ?_
      refine z_iload_n F 3 rfl rfl dX10_goes_140 ?_
      refine z_if_eq (tgt := 157) F dX10_goes_141 (by decide) (fun c23 => ?_) (fun c23 => ?_)
      · exact hj_X10_goes_157_36 l2_131 l3_131 a (g22.1 a 47) g22 hta
      · refine z_aload_n F 0 rfl rfl dX10_goes_144 ?_
        refine gf_X10_86 F hta dX10_goes_145 (fun ht24 => ?_)
        refine z_iload_n F 2 rfl rfl dX10_goes_148 ?_
        refine z_zald F ht24 dX10_goes_149 ?_
        refine z_if_eq (tgt := 157) F dX10_goes_150 (by decide) (fun c25 => ?_) (fun c25 => ?_)
        · exact hj_X10_goes_157_36 l2_131 l3_131 a (g22.1 a 47) g22 hta
        · refine z_iconst (v := 1) F (by decide) dX10_goes_153 ?_
          refine z_goto (tgt := 158) F dX10_goes_154 (by decide) ?_
          exact hj_X10_goes_158_36 l2_131 l3_131 a (g22.1 a 47) 1 g22 hta
    have hj_X10_goes_108_36 : ∀ (l2_108 : Int32) (l3_108 : Int32) (s0_108 : Nat) (s1_108 : Int32) (s2_108 : Int32) (g_108 : zG), τ s0_108 = some (.inl (FieldType.int, 40)) → zSim (zKl (fun s : Int32 × zG => zAt E D (zA τ sz) (zQ E D zrI 0 0 sz τ τ r g') 4 (sz, τ, 0, 0) s.2 36 [(0, .ref a), (1, .int v3), (2, .int s.1)] []) (fun x : zG => zAt E D (zA τ sz) (zQ E D zrI 0 0 sz τ τ r g') 4 (sz, τ, 0, 0) x 217 [(0, .ref a), (1, .int v3)] [])) (j_X10_goes_108_36 a v3 l2_108 l3_108 s0_108 s1_108 s2_108 g_108) (zAt E D (zA τ sz) (zQ E D zrI 0 0 sz τ τ r g') 4 (sz, τ, 0, 0) g_108 108 [(0, .ref a), (1, .int v3), (2, .int l2_108), (3, .int l3_108)] [.int s2_108, .int s1_108, .ref s0_108]) := by
      intro l2_108 l3_108 s0_108 s1_108 s2_108 g_108 ht_s0_108
      unfold j_X10_goes_108_36
      refine z_iast F ht_s0_108 dX10_goes_108 ?_
      refine z_letg (fun g26 => ?_)
      refine z_aload_n F 0 rfl rfl dX10_goes_109 ?_
      refine gf_X10_95 F hta dX10_goes_110 (fun ht27 => ?_)
      refine z_iload_n F 2 rfl rfl dX10_goes_113 ?_
      refine z_bipush (v := (-4)) F (by decide) dX10_goes_114 ?_
      refine z_iast F ht27 dX10_goes_116 ?_
      refine z_letg (fun g28 => ?_)
      refine z_aload_n F 0 rfl rfl dX10_goes_117 ?_
      refine z_dup F rfl dX10_goes_118 ?_
      refine gf_X10_297 F hta dX10_goes_119 ?_
      refine z_iload_n F 3 rfl rfl dX10_goes_122 ?_
      refine z_if_eq (tgt := 130) F dX10_goes_123 (by decide) (fun c29 => ?_) (fun c29 => ?_)
      · refine z_iconst (v := 0) F (by decide) dX10_goes_130 ?_
        exact hj_X10_goes_131_36 l2_108 l3_108 a (g28.1 a 45) 0 g28 hta
      · refine z_iconst (v := 1) F (by decide) dX10_goes_126 ?_
        refine z_goto (tgt := 131) F dX10_goes_127 (by decide) ?_
        exact hj_X10_goes_131_36 l2_108 l3_108 a (g28.1 a 45) 1 g28 hta
    have hj_X10_goes_87_36 : ∀ (l2_87 : Int32) (l3_87 : Int32) (s0_87 : Nat) (s1_87 : Int32) (s2_87 : Int32) (g_87 : zG), τ s0_87 = some (.inl (FieldType.int, 40)) → zSim (zKl (fun s : Int32 × zG => zAt E D (zA τ sz) (zQ E D zrI 0 0 sz τ τ r g') 4 (sz, τ, 0, 0) s.2 36 [(0, .ref a), (1, .int v3), (2, .int s.1)] []) (fun x : zG => zAt E D (zA τ sz) (zQ E D zrI 0 0 sz τ τ r g') 4 (sz, τ, 0, 0) x 217 [(0, .ref a), (1, .int v3)] [])) (j_X10_goes_87_36 a v3 l2_87 l3_87 s0_87 s1_87 s2_87 g_87) (zAt E D (zA τ sz) (zQ E D zrI 0 0 sz τ τ r g') 4 (sz, τ, 0, 0) g_87 87 [(0, .ref a), (1, .int v3), (2, .int l2_87), (3, .int l3_87)] [.int s2_87, .int s1_87, .ref s0_87]) := by
      intro l2_87 l3_87 s0_87 s1_87 s2_87 g_87 ht_s0_87
      unfold j_X10_goes_87_36
      refine z_iast F ht_s0_87 dX10_goes_87 ?_
      refine z_letg (fun g30 => ?_)
      refine z_aload_n F 0 rfl rfl dX10_goes_88 ?_
      refine gf_X10_92 F hta dX10_goes_89 (fun ht31 => ?_)
      refine z_iload_n F 2 rfl rfl dX10_goes_92 ?_
      refine z_iload_n F 3 rfl rfl dX10_goes_93 ?_
      refine z_if_eq (tgt := 106) F dX10_goes_94 (by decide) (fun c32 => ?_) (fun c32 => ?_)
      · refine z_bipush (v := (-4)) F (by decide) dX10_goes_106 ?_
        exact hj_X10_goes_108_36 l2_87 l3_87 (g30.2.1 a 49) l2_87 (-4) g30 ht31
      · refine z_aload_n F 0 rfl rfl dX10_goes_97 ?_
        refine gf_X10_83 F hta dX10_goes_98 (fun ht33 => ?_)
        refine z_iload_n F 2 rfl rfl dX10_goes_101 ?_
        refine z_iald F ht33 dX10_goes_102 ?_
        refine z_goto (tgt := 108) F dX10_goes_103 (by decide) ?_
        exact hj_X10_goes_108_36 l2_87 l3_87 (g30.2.1 a 49) l2_87 (g30.1 (g30.2.1 a 41) l2_87.toNatClampNeg) g30 ht31
    have hj_X10_goes_66_36 : ∀ (l2_66 : Int32) (s0_66 : Int32) (g_66 : zG), zSim (zKl (fun s : Int32 × zG => zAt E D (zA τ sz) (zQ E D zrI 0 0 sz τ τ r g') 4 (sz, τ, 0, 0) s.2 36 [(0, .ref a), (1, .int v3), (2, .int s.1)] []) (fun x : zG => zAt E D (zA τ sz) (zQ E D zrI 0 0 sz τ τ r g') 4 (sz, τ, 0, 0) x 217 [(0, .ref a), (1, .int v3)] [])) (j_X10_goes_66_36 a v3 l2_66 s0_66 g_66) (zAt E D (zA τ sz) (zQ E D zrI 0 0 sz τ τ r g') 4 (sz, τ, 0, 0) g_66 66 [(0, .ref a), (1, .int v3), (2, .int l2_66)] [.int s0_66]) := by
      intro l2_66 s0_66 g_66
      unfold j_X10_goes_66_36
      refine z_istore_n (lv' := [(3, .int s0_66), (0, .ref a), (1, .int v3), (2, .int l2_66)]) F rfl (by decide) dX10_goes_66 rfl ?_
      refine z_aload_n F 1 rfl rfl dX10_goes_67 ?_
      refine gf_X10_89 F hta dX10_goes_68 (fun ht34 => ?_)
      refine z_iload_n F 3 rfl rfl dX10_goes_71 ?_
      refine z_iload_n F 0 rfl rfl dX10_goes_72 ?_
      refine z_if_eq (tgt := 85) F dX10_goes_73 (by decide) (fun c35 => ?_) (fun c35 => ?_)
      · refine z_bipush (v := (-4)) F (by decide) dX10_goes_85 ?_
        refine z_sub (lv' := [(0, .ref a), (1, .int v3), (2, .int l2_66), (3, .int s0_66)]) [1, 2, 3, 0] rfl ?_
        exact hj_X10_goes_87_36 l2_66 s0_66 (g_66.2.1 a 48) l2_66 (-4) g_66 ht34
      · refine z_aload_n F 1 rfl rfl dX10_goes_76 ?_
        refine gf_X10_80 F hta dX10_goes_77 (fun ht36 => ?_)
        refine z_iload_n F 3 rfl rfl dX10_goes_80 ?_
        refine z_iald F ht36 dX10_goes_81 ?_
        refine z_goto (tgt := 87) F dX10_goes_82 (by decide) ?_
        refine z_sub (lv' := [(0, .ref a), (1, .int v3), (2, .int l2_66), (3, .int s0_66)]) [1, 2, 3, 0] rfl ?_
        exact hj_X10_goes_87_36 l2_66 s0_66 (g_66.2.1 a 48) l2_66 (g_66.1 (g_66.2.1 a 40) l2_66.toNatClampNeg) g_66 ht34
    have hj_X10_goes_65_36 : ∀ (l2_65 : Int32) (g_65 : zG), zSim (zKl (fun s : Int32 × zG => zAt E D (zA τ sz) (zQ E D zrI 0 0 sz τ τ r g') 4 (sz, τ, 0, 0) s.2 36 [(0, .ref a), (1, .int v3), (2, .int s.1)] []) (fun x : zG => zAt E D (zA τ sz) (zQ E D zrI 0 0 sz τ τ r g') 4 (sz, τ, 0, 0) x 217 [(0, .ref a), (1, .int v3)] [])) (j_X10_goes_65_36 a v3 l2_65 g_65) (zAt E D (zA τ sz) (zQ E D zrI 0 0 sz τ τ r g') 4 (sz, τ, 0, 0) g_65 65 [(0, .ref a), (1, .int v3), (2, .int l2_65)] []) := by
      intro l2_65 g_65
      unfold j_X10_goes_65_36
      refine z_iconst (v := 0) F (by decide) dX10_goes_65 ?_
      exact hj_X10_goes_66_36 l2_65 0 g_65
    unfold l_X10_goes_36
    refine z_iload_n F 2 rfl rfl dX10_goes_36 ?_
    refine z_bipush (v := 40) F (by decide) dX10_goes_37 ?_
    refine z_icmp_ge (tgt := 217) F dX10_goes_39 (by decide) (fun c37 => ?_) (fun c37 => ?_)
    · refine z_sub (lv' := [(0, .ref a), (1, .int v3)]) [0, 1] rfl ?_
      exact z_back (fun h => h)
    · refine z_iload_n F 2 rfl rfl dX10_goes_42 ?_
      refine z_aload_n F 0 rfl rfl dX10_goes_43 ?_
      refine gf_X10_13 F hta dX10_goes_44 (fun ht38 => ?_)
      refine z_iconst (v := 3) F (by decide) dX10_goes_47 ?_
      refine z_iald F ht38 dX10_goes_48 ?_
      refine z_icmp_ge (tgt := 65) F dX10_goes_49 (by decide) (fun c39 => ?_) (fun c39 => ?_)
      · exact hj_X10_goes_65_36 l2_36 g_36
      · refine z_aload_n F 0 rfl rfl dX10_goes_52 ?_
        refine gf_X10_71 F hta dX10_goes_53 (fun ht40 => ?_)
        refine z_iload_n F 2 rfl rfl dX10_goes_56 ?_
        refine z_iald F ht40 dX10_goes_57 ?_
        refine z_if_eq (tgt := 65) F dX10_goes_58 (by decide) (fun c41 => ?_) (fun c41 => ?_)
        · exact hj_X10_goes_65_36 l2_36 g_36
        · refine z_iconst (v := 1) F (by decide) dX10_goes_61 ?_
          refine z_goto (tgt := 66) F dX10_goes_62 (by decide) ?_
          exact hj_X10_goes_66_36 l2_36 1 g_36
  · show zSim (fun q : Int32 × zG => q = (r, g')) (j_X10_goes_217 a v3 x) (zAt E D (zA τ sz) (zQ E D zrI 0 0 sz τ τ r g') 4 (sz, τ, 0, 0) x 217 [(0, .ref a), (1, .int v3)] [])
    exact hj_X10_goes_217 v3 x
theorem k_X10_goes {ρ : Type} {K : ρ → Prop} {E : zE} {D : zD} {A : Nat → Prop} {Q : State → Prop} {nL : Nat} {κ : zC} {g : zG} {pc : Nat} {lv : List (Nat × Value)} {st : List Value} {cc : ByteArray} {own : String} {ret : Option FieldType} (F : zF E D A cc own nL ret) {index : Nat} {h : Int32 → zG → Option ρ} {a : Nat}  (hR : 3 + 1 ≤ E.2.2.2.1.frames ∧ 8 + (4 + 11) + 71 ≤ E.2.2.2.1.locals) (hl : zTbl (.methodLink own index yX10_goes)) (hta : κ.2.1 a = some (.inr 10)) (hc : κ.2.2.1 ≤ E.2.2.2.1.cells ∧ κ.2.2.2 ≤ E.2.2.2.1.slots) (hW : (st.map fun v => v.category).sum ≤ 8) (hd : decode cc pc = .ok (.invokevirtual index, 3)) (kk : ∀ r g', zSim K (h r g') (zAt E D A Q nL κ g' (pc + 3) lv (.int r :: st))) : zSim K (zb (f_X10_goes a g) h) (zAt E D A Q nL κ g pc lv (.ref a :: st)) :=
  z_callV F (n := 0) (As := []) (C := (RX10, TX10, 61)) ⟨q_1238, q_14, by decide +kernel, rfl, rfl, hR.1, hR.2⟩ (c_X10_goes E.2.1 D κ.1 κ.2.1 g a hta) hl q_1237 q_1413 hta rfl rfl rfl hc hW hd kk _ rfl
theorem dX10_go_0 : decode cX10_go 0 = .ok (.aload_n 0, 1) := by decide +kernel
theorem dX10_go_1 : decode cX10_go 1 = .ok (.invokevirtual 290, 3) := by decide +kernel
theorem dX10_go_4 : decode cX10_go 4 = .ok (.ifCond .eq 10, 3) := by decide +kernel
theorem dX10_go_7 : decode cX10_go 7 = .ok (.aload_n 0, 1) := by decide +kernel
theorem dX10_go_8 : decode cX10_go 8 = .ok (.invokevirtual 306, 3) := by decide +kernel
theorem dX10_go_11 : decode cX10_go 11 = .ok (.goto 5, 3) := by decide +kernel
theorem dX10_go_14 : decode cX10_go 14 = .ok (.bipush (-2), 2) := by decide +kernel
theorem dX10_go_16 : decode cX10_go 16 = .ok (.ireturn, 1) := by decide +kernel
def f_X10_go (a : Nat) (g : zG) : Option (Int32 × zG) :=
  zb (f_X10_canGo a g) (fun v1 g2 => if v1 = 0 then (some (((-2), g2))) else (zb (f_X10_goes a g2) (fun v4 g5 => some ((v4, g5)))))
abbrev rm_X10_go : Room := { frames := 4, cells := 0, slots := 0, locals := 94 }
set_option maxRecDepth 100000 in
set_option maxHeartbeats 4000000 in
theorem c_X10_go (l : Launch) (D : zD) (sz : Nat) (τ : zT) (g : zG) (a : Nat) (hta : τ a = some (.inr 10)) : zCon l D yX10_go cX10_go 1 (some .int) rm_X10_go 0 0 zrI [.ref a] sz τ g τ (f_X10_go a g) := by
  refine zCon.of (by decide) (Nat.le_of_ble_eq_true rfl) (fun E r g' hl hR hsz hnm F => ?_)
  have F : zF E D (zA τ sz) cX10_go "TypeChainModel" 1 (some .int) := F
  show zSim (fun q : Int32 × zG => q = (r, g')) (f_X10_go a g) (zAt E D (zA τ sz) (zQ E D zrI 0 0 sz τ τ r g') 1 (sz, τ, 0, 0) g 0 [(0, .ref a)] [])
  unfold f_X10_go
  refine z_aload_n F 0 rfl rfl dX10_go_0 ?_
  refine k_X10_canGo F (by rw [hR]; exact ⟨by decide, by decide⟩) q_1223 hta ⟨Nat.zero_le _, Nat.zero_le _⟩ (Nat.le_of_ble_eq_true rfl) dX10_go_1 (fun v1 g2 => ?_)
  refine z_if_eq (tgt := 14) F dX10_go_4 (by decide) (fun c3 => ?_) (fun c3 => ?_)
  · refine z_bipush (v := (-2)) F (by decide) dX10_go_14 ?_
    exact z_ireturn F rfl rfl rfl rfl (fun h => h) dX10_go_16
  · refine z_aload_n F 0 rfl rfl dX10_go_7 ?_
    refine k_X10_goes F (by rw [hR]; exact ⟨by decide, by decide⟩) q_1235 hta ⟨Nat.zero_le _, Nat.zero_le _⟩ (Nat.le_of_ble_eq_true rfl) dX10_go_8 (fun v4 g5 => ?_)
    refine z_goto (tgt := 16) F dX10_go_11 (by decide) ?_
    exact z_ireturn F rfl rfl rfl rfl (fun h => h) dX10_go_16
theorem k_X10_go {ρ : Type} {K : ρ → Prop} {E : zE} {D : zD} {A : Nat → Prop} {Q : State → Prop} {nL : Nat} {κ : zC} {g : zG} {pc : Nat} {lv : List (Nat × Value)} {st : List Value} {cc : ByteArray} {own : String} {ret : Option FieldType} (F : zF E D A cc own nL ret) {index : Nat} {h : Int32 → zG → Option ρ} {a : Nat}  (hR : 4 + 1 ≤ E.2.2.2.1.frames ∧ 8 + (1 + 11) + 94 ≤ E.2.2.2.1.locals) (hl : zTbl (.methodLink own index yX10_go)) (hta : κ.2.1 a = some (.inr 10)) (hc : κ.2.2.1 ≤ E.2.2.2.1.cells ∧ κ.2.2.2 ≤ E.2.2.2.1.slots) (hW : (st.map fun v => v.category).sum ≤ 8) (hd : decode cc pc = .ok (.invokevirtual index, 3)) (kk : ∀ r g', zSim K (h r g') (zAt E D A Q nL κ g' (pc + 3) lv (.int r :: st))) : zSim K (zb (f_X10_go a g) h) (zAt E D A Q nL κ g pc lv (.ref a :: st)) :=
  z_callV F (n := 0) (As := []) (C := (RX10, TX10, 61)) ⟨q_1234, q_14, by decide +kernel, rfl, rfl, hR.1, hR.2⟩ (c_X10_go E.2.1 D κ.1 κ.2.1 g a hta) hl q_1232 q_1233 hta rfl rfl rfl hc hW hd kk _ rfl
theorem dX10_struck_0 : decode cX10_struck 0 = .ok (.iload_n 1, 1) := by decide +kernel
theorem dX10_struck_1 : decode cX10_struck 1 = .ok (.i2l, 1) := by decide +kernel
theorem dX10_struck_2 : decode cX10_struck 2 = .ok (.lconst 0, 1) := by decide +kernel
theorem dX10_struck_3 : decode cX10_struck 3 = .ok (.ldc2_w 217, 3) := by decide +kernel
theorem dX10_struck_6 : decode cX10_struck 6 = .ok (.invokestatic 165, 3) := by decide +kernel
theorem dX10_struck_9 : decode cX10_struck 9 = .ok (.ifCond .ne 22, 3) := by decide +kernel
theorem dX10_struck_12 : decode cX10_struck 12 = .ok (.iload_n 1, 1) := by decide +kernel
theorem dX10_struck_13 : decode cX10_struck 13 = .ok (.bipush 10, 2) := by decide +kernel
theorem dX10_struck_15 : decode cX10_struck 15 = .ok (.if_icmp .lt 14, 3) := by decide +kernel
theorem dX10_struck_18 : decode cX10_struck 18 = .ok (.aload_n 0, 1) := by decide +kernel
theorem dX10_struck_19 : decode cX10_struck 19 = .ok (.iload_n 1, 1) := by decide +kernel
theorem dX10_struck_20 : decode cX10_struck 20 = .ok (.bipush 10, 2) := by decide +kernel
theorem dX10_struck_22 : decode cX10_struck 22 = .ok (.isub, 1) := by decide +kernel
theorem dX10_struck_23 : decode cX10_struck 23 = .ok (.invokevirtual 257, 3) := by decide +kernel
theorem dX10_struck_26 : decode cX10_struck 26 = .ok (.ifCond .ne 5, 3) := by decide +kernel
theorem dX10_struck_29 : decode cX10_struck 29 = .ok (.iconst (-1), 1) := by decide +kernel
theorem dX10_struck_30 : decode cX10_struck 30 = .ok (.ireturn, 1) := by decide +kernel
theorem dX10_struck_31 : decode cX10_struck 31 = .ok (.aload_n 0, 1) := by decide +kernel
theorem dX10_struck_32 : decode cX10_struck 32 = .ok (.getfield 148, 3) := by decide +kernel
theorem dX10_struck_35 : decode cX10_struck 35 = .ok (.ifCond .ne 6, 3) := by decide +kernel
theorem dX10_struck_38 : decode cX10_struck 38 = .ok (.bipush (-2), 2) := by decide +kernel
theorem dX10_struck_40 : decode cX10_struck 40 = .ok (.ireturn, 1) := by decide +kernel
theorem dX10_struck_41 : decode cX10_struck 41 = .ok (.iload_n 1, 1) := by decide +kernel
theorem dX10_struck_42 : decode cX10_struck 42 = .ok (.ifCond .ne 10, 3) := by decide +kernel
theorem dX10_struck_45 : decode cX10_struck 45 = .ok (.aload_n 0, 1) := by decide +kernel
theorem dX10_struck_46 : decode cX10_struck 46 = .ok (.getfield 297, 3) := by decide +kernel
theorem dX10_struck_49 : decode cX10_struck 49 = .ok (.goto 36, 3) := by decide +kernel
theorem dX10_struck_52 : decode cX10_struck 52 = .ok (.iload_n 1, 1) := by decide +kernel
theorem dX10_struck_53 : decode cX10_struck 53 = .ok (.iconst 1, 1) := by decide +kernel
theorem dX10_struck_54 : decode cX10_struck 54 = .ok (.if_icmp .ne 10, 3) := by decide +kernel
theorem dX10_struck_57 : decode cX10_struck 57 = .ok (.aload_n 0, 1) := by decide +kernel
theorem dX10_struck_58 : decode cX10_struck 58 = .ok (.getfield 303, 3) := by decide +kernel
theorem dX10_struck_61 : decode cX10_struck 61 = .ok (.goto 24, 3) := by decide +kernel
theorem dX10_struck_64 : decode cX10_struck 64 = .ok (.iload_n 1, 1) := by decide +kernel
theorem dX10_struck_65 : decode cX10_struck 65 = .ok (.iconst 2, 1) := by decide +kernel
theorem dX10_struck_66 : decode cX10_struck 66 = .ok (.if_icmp .ne 10, 3) := by decide +kernel
theorem dX10_struck_69 : decode cX10_struck 69 = .ok (.aload_n 0, 1) := by decide +kernel
theorem dX10_struck_70 : decode cX10_struck 70 = .ok (.getfield 300, 3) := by decide +kernel
theorem dX10_struck_73 : decode cX10_struck 73 = .ok (.goto 12, 3) := by decide +kernel
theorem dX10_struck_76 : decode cX10_struck 76 = .ok (.aload_n 0, 1) := by decide +kernel
theorem dX10_struck_77 : decode cX10_struck 77 = .ok (.getfield 89, 3) := by decide +kernel
theorem dX10_struck_80 : decode cX10_struck 80 = .ok (.iload_n 1, 1) := by decide +kernel
theorem dX10_struck_81 : decode cX10_struck 81 = .ok (.bipush 10, 2) := by decide +kernel
theorem dX10_struck_83 : decode cX10_struck 83 = .ok (.isub, 1) := by decide +kernel
theorem dX10_struck_84 : decode cX10_struck 84 = .ok (.iaload, 1) := by decide +kernel
theorem dX10_struck_85 : decode cX10_struck 85 = .ok (.ireturn, 1) := by decide +kernel
def j_X10_struck_31 (a : Nat) (l1 : Int32) (g : zG) : Option (Int32 × zG) :=
  if (g.1 a 44) = 0 then (some (((-2), g))) else (if l1 = 0 then (some ((g.1 a 45, g))) else (if l1 = 1 then (some ((g.1 a 46, g))) else (if l1 = 2 then (some ((g.1 a 47, g))) else (zc (zin (l1 - 10) 40) (some ((g.1 (g.2.1 a 48) (l1 - 10).toNatClampNeg, g)))))))
def f_X10_struck (a : Nat) (x1 : Int32) (g : zG) : Option (Int32 × zG) :=
  zb (f_X10_in x1.toInt64 0 2 g) (fun v6 g7 => if v6 = 0 then (if x1 < 10 then (some (((-1), g7))) else (zb (f_X10_isColumn a (x1 - 10) g7) (fun v10 g11 => if v10 = 0 then (some (((-1), g11))) else (j_X10_struck_31 a x1 g11)))) else (j_X10_struck_31 a x1 g7))
abbrev rm_X10_struck : Room := { frames := 2, cells := 0, slots := 0, locals := 46 }
set_option maxRecDepth 100000 in
set_option maxHeartbeats 4000000 in
theorem c_X10_struck (l : Launch) (D : zD) (sz : Nat) (τ : zT) (g : zG) (a : Nat) (x1 : Int32) (hta : τ a = some (.inr 10)) : zCon l D yX10_struck cX10_struck 2 (some .int) rm_X10_struck 0 0 zrI [.ref a, .int x1] sz τ g τ (f_X10_struck a x1 g) := by
  refine zCon.of (by decide) (Nat.le_of_ble_eq_true rfl) (fun E r g' hl hR hsz hnm F => ?_)
  have F : zF E D (zA τ sz) cX10_struck "TypeChainModel" 2 (some .int) := F
  show zSim (fun q : Int32 × zG => q = (r, g')) (f_X10_struck a x1 g) (zAt E D (zA τ sz) (zQ E D zrI 0 0 sz τ τ r g') 2 (sz, τ, 0, 0) g 0 [(0, .ref a), (1, .int x1)] [])
  have hj_X10_struck_31 : ∀ (l1_31 : Int32) (g_31 : zG), zSim (fun q : Int32 × zG => q = (r, g')) (j_X10_struck_31 a l1_31 g_31) (zAt E D (zA τ sz) (zQ E D zrI 0 0 sz τ τ r g') 2 (sz, τ, 0, 0) g_31 31 [(0, .ref a), (1, .int l1_31)] []) := by
    intro l1_31 g_31
    unfold j_X10_struck_31
    refine z_aload_n F 0 rfl rfl dX10_struck_31 ?_
    refine gf_X10_148 F hta dX10_struck_32 ?_
    refine z_if_ne (tgt := 41) F dX10_struck_35 (by decide) (fun c1 => ?_) (fun c1 => ?_)
    · refine z_bipush (v := (-2)) F (by decide) dX10_struck_38 ?_
      exact z_ireturn F rfl rfl rfl rfl (fun h => h) dX10_struck_40
    · refine z_iload_n F 1 rfl rfl dX10_struck_41 ?_
      refine z_if_ne (tgt := 52) F dX10_struck_42 (by decide) (fun c2 => ?_) (fun c2 => ?_)
      · refine z_aload_n F 0 rfl rfl dX10_struck_45 ?_
        refine gf_X10_297 F hta dX10_struck_46 ?_
        refine z_goto (tgt := 85) F dX10_struck_49 (by decide) ?_
        exact z_ireturn F rfl rfl rfl rfl (fun h => h) dX10_struck_85
      · refine z_iload_n F 1 rfl rfl dX10_struck_52 ?_
        refine z_iconst (v := 1) F (by decide) dX10_struck_53 ?_
        refine z_icmp_ne (tgt := 64) F dX10_struck_54 (by decide) (fun c3 => ?_) (fun c3 => ?_)
        · refine z_aload_n F 0 rfl rfl dX10_struck_57 ?_
          refine gf_X10_303 F hta dX10_struck_58 ?_
          refine z_goto (tgt := 85) F dX10_struck_61 (by decide) ?_
          exact z_ireturn F rfl rfl rfl rfl (fun h => h) dX10_struck_85
        · refine z_iload_n F 1 rfl rfl dX10_struck_64 ?_
          refine z_iconst (v := 2) F (by decide) dX10_struck_65 ?_
          refine z_icmp_ne (tgt := 76) F dX10_struck_66 (by decide) (fun c4 => ?_) (fun c4 => ?_)
          · refine z_aload_n F 0 rfl rfl dX10_struck_69 ?_
            refine gf_X10_300 F hta dX10_struck_70 ?_
            refine z_goto (tgt := 85) F dX10_struck_73 (by decide) ?_
            exact z_ireturn F rfl rfl rfl rfl (fun h => h) dX10_struck_85
          · refine z_aload_n F 0 rfl rfl dX10_struck_76 ?_
            refine gf_X10_89 F hta dX10_struck_77 (fun ht5 => ?_)
            refine z_iload_n F 1 rfl rfl dX10_struck_80 ?_
            refine z_bipush (v := 10) F (by decide) dX10_struck_81 ?_
            refine z_isub F dX10_struck_83 ?_
            refine z_iald F ht5 dX10_struck_84 ?_
            exact z_ireturn F rfl rfl rfl rfl (fun h => h) dX10_struck_85
  unfold f_X10_struck
  refine z_iload_n F 1 rfl rfl dX10_struck_0 ?_
  refine z_i2l F dX10_struck_1 ?_
  refine z_lconst (v := 0) F (by decide) dX10_struck_2 ?_
  refine z_ldc2 F q_1129 dX10_struck_3 ?_
  refine k_X10_in F (by rw [hR]; exact ⟨by decide, by decide⟩) q_1082  ⟨Nat.zero_le _, Nat.zero_le _⟩ (Nat.le_of_ble_eq_true rfl) dX10_struck_6 (fun v6 g7 => ?_)
  refine z_if_ne (tgt := 31) F dX10_struck_9 (by decide) (fun c8 => ?_) (fun c8 => ?_)
  · refine z_iload_n F 1 rfl rfl dX10_struck_12 ?_
    refine z_bipush (v := 10) F (by decide) dX10_struck_13 ?_
    refine z_icmp_lt (tgt := 29) F dX10_struck_15 (by decide) (fun c9 => ?_) (fun c9 => ?_)
    · refine z_iconst (v := (-1)) F (by decide) dX10_struck_29 ?_
      exact z_ireturn F rfl rfl rfl rfl (fun h => h) dX10_struck_30
    · refine z_aload_n F 0 rfl rfl dX10_struck_18 ?_
      refine z_iload_n F 1 rfl rfl dX10_struck_19 ?_
      refine z_bipush (v := 10) F (by decide) dX10_struck_20 ?_
      refine z_isub F dX10_struck_22 ?_
      refine k_X10_isColumn F (by rw [hR]; exact ⟨by decide, by decide⟩) q_1178 hta ⟨Nat.zero_le _, Nat.zero_le _⟩ (Nat.le_of_ble_eq_true rfl) dX10_struck_23 (fun v10 g11 => ?_)
      refine z_if_ne (tgt := 31) F dX10_struck_26 (by decide) (fun c12 => ?_) (fun c12 => ?_)
      · refine z_iconst (v := (-1)) F (by decide) dX10_struck_29 ?_
        exact z_ireturn F rfl rfl rfl rfl (fun h => h) dX10_struck_30
      · exact hj_X10_struck_31 x1 g11
  · exact hj_X10_struck_31 x1 g7
theorem k_X10_struck {ρ : Type} {K : ρ → Prop} {E : zE} {D : zD} {A : Nat → Prop} {Q : State → Prop} {nL : Nat} {κ : zC} {g : zG} {pc : Nat} {lv : List (Nat × Value)} {st : List Value} {cc : ByteArray} {own : String} {ret : Option FieldType} (F : zF E D A cc own nL ret) {index : Nat} {h : Int32 → zG → Option ρ} {a : Nat} {x1 : Int32}  (hR : 2 + 1 ≤ E.2.2.2.1.frames ∧ 8 + (2 + 11) + 46 ≤ E.2.2.2.1.locals) (hl : zTbl (.methodLink own index yX10_struck)) (hta : κ.2.1 a = some (.inr 10)) (hc : κ.2.2.1 ≤ E.2.2.2.1.cells ∧ κ.2.2.2 ≤ E.2.2.2.1.slots) (hW : (st.map fun v => v.category).sum ≤ 8) (hd : decode cc pc = .ok (.invokevirtual index, 3)) (kk : ∀ r g', zSim K (h r g') (zAt E D A Q nL κ g' (pc + 3) lv (.int r :: st))) : zSim K (zb (f_X10_struck a x1 g) h) (zAt E D A Q nL κ g pc lv (.int x1 :: .ref a :: st)) :=
  z_callV F (n := 1) (As := [.int x1]) (C := (RX10, TX10, 61)) ⟨q_1242, q_14, by decide +kernel, rfl, rfl, hR.1, hR.2⟩ (c_X10_struck E.2.1 D κ.1 κ.2.1 g a x1 hta) hl q_1240 q_1241 hta rfl rfl rfl hc hW hd kk _ rfl
theorem dX10_shows_0 : decode cX10_shows 0 = .ok (.aload_n 0, 1) := by decide +kernel
theorem dX10_shows_1 : decode cX10_shows 1 = .ok (.getfield 7, 3) := by decide +kernel
theorem dX10_shows_4 : decode cX10_shows 4 = .ok (.aload_n 0, 1) := by decide +kernel
theorem dX10_shows_5 : decode cX10_shows 5 = .ok (.getfield 92, 3) := by decide +kernel
theorem dX10_shows_8 : decode cX10_shows 8 = .ok (.iload_n 2, 1) := by decide +kernel
theorem dX10_shows_9 : decode cX10_shows 9 = .ok (.iaload, 1) := by decide +kernel
theorem dX10_shows_10 : decode cX10_shows 10 = .ok (.iload_n 1, 1) := by decide +kernel
theorem dX10_shows_11 : decode cX10_shows 11 = .ok (.iadd, 1) := by decide +kernel
theorem dX10_shows_12 : decode cX10_shows 12 = .ok (.aload_n 0, 1) := by decide +kernel
theorem dX10_shows_13 : decode cX10_shows 13 = .ok (.getfield 139, 3) := by decide +kernel
theorem dX10_shows_16 : decode cX10_shows 16 = .ok (.irem, 1) := by decide +kernel
theorem dX10_shows_17 : decode cX10_shows 17 = .ok (.iaload, 1) := by decide +kernel
theorem dX10_shows_18 : decode cX10_shows 18 = .ok (.ireturn, 1) := by decide +kernel
def f_X10_shows (a : Nat) (x1 : Int32) (x2 : Int32) (g : zG) : Option (Int32 × zG) :=
  zc (zin x2 40) (zc (¬ (g.1 a 0) = 0) (zc (zin (zrem ((g.1 (g.2.1 a 49) x2.toNatClampNeg) + x1) (g.1 a 0)) 49) (some ((g.1 (g.2.1 a 1) (zrem ((g.1 (g.2.1 a 49) x2.toNatClampNeg) + x1) (g.1 a 0)).toNatClampNeg, g)))))
abbrev rm_X10_shows : Room := { frames := 0, cells := 0, slots := 0, locals := 0 }
set_option maxRecDepth 100000 in
set_option maxHeartbeats 4000000 in
theorem c_X10_shows (l : Launch) (D : zD) (sz : Nat) (τ : zT) (g : zG) (a : Nat) (x1 : Int32) (x2 : Int32) (hta : τ a = some (.inr 10)) : zCon l D yX10_shows cX10_shows 3 (some .int) rm_X10_shows 0 0 zrI [.ref a, .int x1, .int x2] sz τ g τ (f_X10_shows a x1 x2 g) := by
  refine zCon.of (by decide) (Nat.le_of_ble_eq_true rfl) (fun E r g' hl hR hsz hnm F => ?_)
  have F : zF E D (zA τ sz) cX10_shows "TypeChainModel" 3 (some .int) := F
  show zSim (fun q : Int32 × zG => q = (r, g')) (f_X10_shows a x1 x2 g) (zAt E D (zA τ sz) (zQ E D zrI 0 0 sz τ τ r g') 3 (sz, τ, 0, 0) g 0 [(0, .ref a), (1, .int x1), (2, .int x2)] [])
  unfold f_X10_shows
  refine z_aload_n F 0 rfl rfl dX10_shows_0 ?_
  refine gf_X10_7 F hta dX10_shows_1 (fun ht1 => ?_)
  refine z_aload_n F 0 rfl rfl dX10_shows_4 ?_
  refine gf_X10_92 F hta dX10_shows_5 (fun ht2 => ?_)
  refine z_iload_n F 2 rfl rfl dX10_shows_8 ?_
  refine z_iald F ht2 dX10_shows_9 ?_
  refine z_iload_n F 1 rfl rfl dX10_shows_10 ?_
  refine z_iadd F dX10_shows_11 ?_
  refine z_aload_n F 0 rfl rfl dX10_shows_12 ?_
  refine gf_X10_139 F hta dX10_shows_13 ?_
  refine z_irem F dX10_shows_16 ?_
  refine z_iald F ht1 dX10_shows_17 ?_
  exact z_ireturn F rfl rfl rfl rfl (fun h => h) dX10_shows_18
theorem k_X10_shows {ρ : Type} {K : ρ → Prop} {E : zE} {D : zD} {A : Nat → Prop} {Q : State → Prop} {nL : Nat} {κ : zC} {g : zG} {pc : Nat} {lv : List (Nat × Value)} {st : List Value} {cc : ByteArray} {own : String} {ret : Option FieldType} (F : zF E D A cc own nL ret) {index : Nat} {h : Int32 → zG → Option ρ} {a : Nat} {x1 : Int32} {x2 : Int32}  (hR : 0 + 1 ≤ E.2.2.2.1.frames ∧ 8 + (3 + 11) + 0 ≤ E.2.2.2.1.locals) (hl : zTbl (.methodLink own index yX10_shows)) (hta : κ.2.1 a = some (.inr 10)) (hc : κ.2.2.1 ≤ E.2.2.2.1.cells ∧ κ.2.2.2 ≤ E.2.2.2.1.slots) (hW : (st.map fun v => v.category).sum ≤ 8) (hd : decode cc pc = .ok (.invokevirtual index, 3)) (kk : ∀ r g', zSim K (h r g') (zAt E D A Q nL κ g' (pc + 3) lv (.int r :: st))) : zSim K (zb (f_X10_shows a x1 x2 g) h) (zAt E D A Q nL κ g pc lv (.int x2 :: .int x1 :: .ref a :: st)) :=
  z_callV F (n := 2) (As := [.int x1, .int x2]) (C := (RX10, TX10, 61)) ⟨q_1250, q_14, by decide +kernel, rfl, rfl, hR.1, hR.2⟩ (c_X10_shows E.2.1 D κ.1 κ.2.1 g a x1 x2 hta) hl q_1249 q_1414 hta rfl rfl rfl hc hW hd kk _ rfl
theorem dX10_slipped_0 : decode cX10_slipped 0 = .ok (.iload_n 1, 1) := by decide +kernel
theorem dX10_slipped_1 : decode cX10_slipped 1 = .ok (.i2l, 1) := by decide +kernel
theorem dX10_slipped_2 : decode cX10_slipped 2 = .ok (.lconst 0, 1) := by decide +kernel
theorem dX10_slipped_3 : decode cX10_slipped 3 = .ok (.aload_n 0, 1) := by decide +kernel
theorem dX10_slipped_4 : decode cX10_slipped 4 = .ok (.getfield 139, 3) := by decide +kernel
theorem dX10_slipped_7 : decode cX10_slipped 7 = .ok (.iconst 1, 1) := by decide +kernel
theorem dX10_slipped_8 : decode cX10_slipped 8 = .ok (.isub, 1) := by decide +kernel
theorem dX10_slipped_9 : decode cX10_slipped 9 = .ok (.i2l, 1) := by decide +kernel
theorem dX10_slipped_10 : decode cX10_slipped 10 = .ok (.invokestatic 165, 3) := by decide +kernel
theorem dX10_slipped_13 : decode cX10_slipped 13 = .ok (.ifCond .eq 11, 3) := by decide +kernel
theorem dX10_slipped_16 : decode cX10_slipped 16 = .ok (.aload_n 0, 1) := by decide +kernel
theorem dX10_slipped_17 : decode cX10_slipped 17 = .ok (.iload_n 2, 1) := by decide +kernel
theorem dX10_slipped_18 : decode cX10_slipped 18 = .ok (.invokevirtual 257, 3) := by decide +kernel
theorem dX10_slipped_21 : decode cX10_slipped 21 = .ok (.ifCond .ne 5, 3) := by decide +kernel
theorem dX10_slipped_24 : decode cX10_slipped 24 = .ok (.iconst (-1), 1) := by decide +kernel
theorem dX10_slipped_25 : decode cX10_slipped 25 = .ok (.ireturn, 1) := by decide +kernel
theorem dX10_slipped_26 : decode cX10_slipped 26 = .ok (.aload_n 0, 1) := by decide +kernel
theorem dX10_slipped_27 : decode cX10_slipped 27 = .ok (.getfield 148, 3) := by decide +kernel
theorem dX10_slipped_30 : decode cX10_slipped 30 = .ok (.ifCond .ne 8, 3) := by decide +kernel
theorem dX10_slipped_33 : decode cX10_slipped 33 = .ok (.bipush (-2), 2) := by decide +kernel
theorem dX10_slipped_35 : decode cX10_slipped 35 = .ok (.goto 25, 3) := by decide +kernel
theorem dX10_slipped_38 : decode cX10_slipped 38 = .ok (.aload_n 0, 1) := by decide +kernel
theorem dX10_slipped_39 : decode cX10_slipped 39 = .ok (.getfield 92, 3) := by decide +kernel
theorem dX10_slipped_42 : decode cX10_slipped 42 = .ok (.iload_n 2, 1) := by decide +kernel
theorem dX10_slipped_43 : decode cX10_slipped 43 = .ok (.iaload, 1) := by decide +kernel
theorem dX10_slipped_44 : decode cX10_slipped 44 = .ok (.bipush (-4), 2) := by decide +kernel
theorem dX10_slipped_46 : decode cX10_slipped 46 = .ok (.if_icmp .ne 8, 3) := by decide +kernel
theorem dX10_slipped_49 : decode cX10_slipped 49 = .ok (.bipush (-4), 2) := by decide +kernel
theorem dX10_slipped_51 : decode cX10_slipped 51 = .ok (.goto 9, 3) := by decide +kernel
theorem dX10_slipped_54 : decode cX10_slipped 54 = .ok (.aload_n 0, 1) := by decide +kernel
theorem dX10_slipped_55 : decode cX10_slipped 55 = .ok (.iload_n 1, 1) := by decide +kernel
theorem dX10_slipped_56 : decode cX10_slipped 56 = .ok (.iload_n 2, 1) := by decide +kernel
theorem dX10_slipped_57 : decode cX10_slipped 57 = .ok (.invokevirtual 309, 3) := by decide +kernel
theorem dX10_slipped_60 : decode cX10_slipped 60 = .ok (.ireturn, 1) := by decide +kernel
def f_X10_slipped (a : Nat) (x1 : Int32) (x2 : Int32) (g : zG) : Option (Int32 × zG) :=
  zb (f_X10_in x1.toInt64 0 (((g.1 a 0) - 1).toInt64) g) (fun v1 g2 => if v1 = 0 then (some (((-1), g2))) else (zb (f_X10_isColumn a x2 g2) (fun v4 g5 => if v4 = 0 then (some (((-1), g5))) else (if (g5.1 a 44) = 0 then (some (((-2), g5))) else (zc (zin x2 40) (if (g5.1 (g5.2.1 a 49) x2.toNatClampNeg) = (-4) then (some (((-4), g5))) else (zb (f_X10_shows a x1 x2 g5) (fun v10 g11 => some ((v10, g11))))))))))
abbrev rm_X10_slipped : Room := { frames := 2, cells := 0, slots := 0, locals := 46 }
set_option maxRecDepth 100000 in
set_option maxHeartbeats 4000000 in
theorem c_X10_slipped (l : Launch) (D : zD) (sz : Nat) (τ : zT) (g : zG) (a : Nat) (x1 : Int32) (x2 : Int32) (hta : τ a = some (.inr 10)) : zCon l D yX10_slipped cX10_slipped 3 (some .int) rm_X10_slipped 0 0 zrI [.ref a, .int x1, .int x2] sz τ g τ (f_X10_slipped a x1 x2 g) := by
  refine zCon.of (by decide) (Nat.le_of_ble_eq_true rfl) (fun E r g' hl hR hsz hnm F => ?_)
  have F : zF E D (zA τ sz) cX10_slipped "TypeChainModel" 3 (some .int) := F
  show zSim (fun q : Int32 × zG => q = (r, g')) (f_X10_slipped a x1 x2 g) (zAt E D (zA τ sz) (zQ E D zrI 0 0 sz τ τ r g') 3 (sz, τ, 0, 0) g 0 [(0, .ref a), (1, .int x1), (2, .int x2)] [])
  unfold f_X10_slipped
  refine z_iload_n F 1 rfl rfl dX10_slipped_0 ?_
  refine z_i2l F dX10_slipped_1 ?_
  refine z_lconst (v := 0) F (by decide) dX10_slipped_2 ?_
  refine z_aload_n F 0 rfl rfl dX10_slipped_3 ?_
  refine gf_X10_139 F hta dX10_slipped_4 ?_
  refine z_iconst (v := 1) F (by decide) dX10_slipped_7 ?_
  refine z_isub F dX10_slipped_8 ?_
  refine z_i2l F dX10_slipped_9 ?_
  refine k_X10_in F (by rw [hR]; exact ⟨by decide, by decide⟩) q_1082  ⟨Nat.zero_le _, Nat.zero_le _⟩ (Nat.le_of_ble_eq_true rfl) dX10_slipped_10 (fun v1 g2 => ?_)
  refine z_if_eq (tgt := 24) F dX10_slipped_13 (by decide) (fun c3 => ?_) (fun c3 => ?_)
  · refine z_iconst (v := (-1)) F (by decide) dX10_slipped_24 ?_
    exact z_ireturn F rfl rfl rfl rfl (fun h => h) dX10_slipped_25
  · refine z_aload_n F 0 rfl rfl dX10_slipped_16 ?_
    refine z_iload_n F 2 rfl rfl dX10_slipped_17 ?_
    refine k_X10_isColumn F (by rw [hR]; exact ⟨by decide, by decide⟩) q_1178 hta ⟨Nat.zero_le _, Nat.zero_le _⟩ (Nat.le_of_ble_eq_true rfl) dX10_slipped_18 (fun v4 g5 => ?_)
    refine z_if_ne (tgt := 26) F dX10_slipped_21 (by decide) (fun c6 => ?_) (fun c6 => ?_)
    · refine z_iconst (v := (-1)) F (by decide) dX10_slipped_24 ?_
      exact z_ireturn F rfl rfl rfl rfl (fun h => h) dX10_slipped_25
    · refine z_aload_n F 0 rfl rfl dX10_slipped_26 ?_
      refine gf_X10_148 F hta dX10_slipped_27 ?_
      refine z_if_ne (tgt := 38) F dX10_slipped_30 (by decide) (fun c7 => ?_) (fun c7 => ?_)
      · refine z_bipush (v := (-2)) F (by decide) dX10_slipped_33 ?_
        refine z_goto (tgt := 60) F dX10_slipped_35 (by decide) ?_
        exact z_ireturn F rfl rfl rfl rfl (fun h => h) dX10_slipped_60
      · refine z_aload_n F 0 rfl rfl dX10_slipped_38 ?_
        refine gf_X10_92 F hta dX10_slipped_39 (fun ht8 => ?_)
        refine z_iload_n F 2 rfl rfl dX10_slipped_42 ?_
        refine z_iald F ht8 dX10_slipped_43 ?_
        refine z_bipush (v := (-4)) F (by decide) dX10_slipped_44 ?_
        refine z_icmp_ne (tgt := 54) F dX10_slipped_46 (by decide) (fun c9 => ?_) (fun c9 => ?_)
        · refine z_bipush (v := (-4)) F (by decide) dX10_slipped_49 ?_
          refine z_goto (tgt := 60) F dX10_slipped_51 (by decide) ?_
          exact z_ireturn F rfl rfl rfl rfl (fun h => h) dX10_slipped_60
        · refine z_aload_n F 0 rfl rfl dX10_slipped_54 ?_
          refine z_iload_n F 1 rfl rfl dX10_slipped_55 ?_
          refine z_iload_n F 2 rfl rfl dX10_slipped_56 ?_
          refine k_X10_shows F (by rw [hR]; exact ⟨by decide, by decide⟩) q_1247 hta ⟨Nat.zero_le _, Nat.zero_le _⟩ (Nat.le_of_ble_eq_true rfl) dX10_slipped_57 (fun v10 g11 => ?_)
          exact z_ireturn F rfl rfl rfl rfl (fun h => h) dX10_slipped_60
theorem k_X10_slipped {ρ : Type} {K : ρ → Prop} {E : zE} {D : zD} {A : Nat → Prop} {Q : State → Prop} {nL : Nat} {κ : zC} {g : zG} {pc : Nat} {lv : List (Nat × Value)} {st : List Value} {cc : ByteArray} {own : String} {ret : Option FieldType} (F : zF E D A cc own nL ret) {index : Nat} {h : Int32 → zG → Option ρ} {a : Nat} {x1 : Int32} {x2 : Int32}  (hR : 2 + 1 ≤ E.2.2.2.1.frames ∧ 8 + (3 + 11) + 46 ≤ E.2.2.2.1.locals) (hl : zTbl (.methodLink own index yX10_slipped)) (hta : κ.2.1 a = some (.inr 10)) (hc : κ.2.2.1 ≤ E.2.2.2.1.cells ∧ κ.2.2.2 ≤ E.2.2.2.1.slots) (hW : (st.map fun v => v.category).sum ≤ 8) (hd : decode cc pc = .ok (.invokevirtual index, 3)) (kk : ∀ r g', zSim K (h r g') (zAt E D A Q nL κ g' (pc + 3) lv (.int r :: st))) : zSim K (zb (f_X10_slipped a x1 x2 g) h) (zAt E D A Q nL κ g pc lv (.int x2 :: .int x1 :: .ref a :: st)) :=
  z_callV F (n := 2) (As := [.int x1, .int x2]) (C := (RX10, TX10, 61)) ⟨q_1246, q_14, by decide +kernel, rfl, rfl, hR.1, hR.2⟩ (c_X10_slipped E.2.1 D κ.1 κ.2.1 g a x1 x2 hta) hl q_1244 q_1245 hta rfl rfl rfl hc hW hd kk _ rfl
theorem dX10_seen_0 : decode cX10_seen 0 = .ok (.aload_n 0, 1) := by decide +kernel
theorem dX10_seen_1 : decode cX10_seen 1 = .ok (.iload_n 1, 1) := by decide +kernel
theorem dX10_seen_2 : decode cX10_seen 2 = .ok (.invokevirtual 257, 3) := by decide +kernel
theorem dX10_seen_5 : decode cX10_seen 5 = .ok (.ifCond .eq 21, 3) := by decide +kernel
theorem dX10_seen_8 : decode cX10_seen 8 = .ok (.iload_n 2, 1) := by decide +kernel
theorem dX10_seen_9 : decode cX10_seen 9 = .ok (.bipush (-4), 2) := by decide +kernel
theorem dX10_seen_11 : decode cX10_seen 11 = .ok (.if_icmp .eq 18, 3) := by decide +kernel
theorem dX10_seen_14 : decode cX10_seen 14 = .ok (.iload_n 2, 1) := by decide +kernel
theorem dX10_seen_15 : decode cX10_seen 15 = .ok (.i2l, 1) := by decide +kernel
theorem dX10_seen_16 : decode cX10_seen 16 = .ok (.lconst 1, 1) := by decide +kernel
theorem dX10_seen_17 : decode cX10_seen 17 = .ok (.ldc2_w 266, 3) := by decide +kernel
theorem dX10_seen_20 : decode cX10_seen 20 = .ok (.invokestatic 165, 3) := by decide +kernel
theorem dX10_seen_23 : decode cX10_seen 23 = .ok (.ifCond .ne 6, 3) := by decide +kernel
theorem dX10_seen_26 : decode cX10_seen 26 = .ok (.bipush (-10), 2) := by decide +kernel
theorem dX10_seen_28 : decode cX10_seen 28 = .ok (.ireturn, 1) := by decide +kernel
theorem dX10_seen_29 : decode cX10_seen 29 = .ok (.aload_n 0, 1) := by decide +kernel
theorem dX10_seen_30 : decode cX10_seen 30 = .ok (.getfield 148, 3) := by decide +kernel
theorem dX10_seen_33 : decode cX10_seen 33 = .ok (.ifCond .eq 14, 3) := by decide +kernel
theorem dX10_seen_36 : decode cX10_seen 36 = .ok (.aload_n 0, 1) := by decide +kernel
theorem dX10_seen_37 : decode cX10_seen 37 = .ok (.getfield 92, 3) := by decide +kernel
theorem dX10_seen_40 : decode cX10_seen 40 = .ok (.iload_n 1, 1) := by decide +kernel
theorem dX10_seen_41 : decode cX10_seen 41 = .ok (.iaload, 1) := by decide +kernel
theorem dX10_seen_42 : decode cX10_seen 42 = .ok (.bipush (-4), 2) := by decide +kernel
theorem dX10_seen_44 : decode cX10_seen 44 = .ok (.if_icmp .ne 6, 3) := by decide +kernel
theorem dX10_seen_47 : decode cX10_seen 47 = .ok (.bipush (-12), 2) := by decide +kernel
theorem dX10_seen_49 : decode cX10_seen 49 = .ok (.ireturn, 1) := by decide +kernel
theorem dX10_seen_50 : decode cX10_seen 50 = .ok (.aload_n 0, 1) := by decide +kernel
theorem dX10_seen_51 : decode cX10_seen 51 = .ok (.getfield 95, 3) := by decide +kernel
theorem dX10_seen_54 : decode cX10_seen 54 = .ok (.iload_n 1, 1) := by decide +kernel
theorem dX10_seen_55 : decode cX10_seen 55 = .ok (.iaload, 1) := by decide +kernel
theorem dX10_seen_56 : decode cX10_seen 56 = .ok (.istore_n 3, 1) := by decide +kernel
theorem dX10_seen_57 : decode cX10_seen 57 = .ok (.aload_n 0, 1) := by decide +kernel
theorem dX10_seen_58 : decode cX10_seen 58 = .ok (.getfield 95, 3) := by decide +kernel
theorem dX10_seen_61 : decode cX10_seen 61 = .ok (.iload_n 1, 1) := by decide +kernel
theorem dX10_seen_62 : decode cX10_seen 62 = .ok (.iload_n 2, 1) := by decide +kernel
theorem dX10_seen_63 : decode cX10_seen 63 = .ok (.iastore, 1) := by decide +kernel
theorem dX10_seen_64 : decode cX10_seen 64 = .ok (.iload_n 3, 1) := by decide +kernel
theorem dX10_seen_65 : decode cX10_seen 65 = .ok (.ireturn, 1) := by decide +kernel
def j_X10_seen_29 (a : Nat) (l1 : Int32) (l2 : Int32) (g : zG) : Option (Int32 × zG) :=
  if (g.1 a 44) = 0 then (some (((-12), g))) else (zc (zin l1 40) (if (g.1 (g.2.1 a 49) l1.toNatClampNeg) = (-4) then (some (((-12), g))) else (zc (zin l1 40) (zl (g.1 (g.2.1 a 50) l1.toNatClampNeg) (fun v5 => zc (zin l1 40) (zl (zsi g (g.2.1 a 50) l1.toNatClampNeg l2) (fun g7 => some ((v5, g7)))))))))
def f_X10_seen (a : Nat) (x1 : Int32) (x2 : Int32) (g : zG) : Option (Int32 × zG) :=
  zb (f_X10_isColumn a x1 g) (fun v8 g9 => if v8 = 0 then (some (((-10), g9))) else (if x2 = (-4) then (j_X10_seen_29 a x1 x2 g9) else (zb (f_X10_in x2.toInt64 1 26 g9) (fun v12 g13 => if v12 = 0 then (some (((-10), g13))) else (j_X10_seen_29 a x1 x2 g13)))))
abbrev rm_X10_seen : Room := { frames := 2, cells := 0, slots := 0, locals := 46 }
set_option maxRecDepth 100000 in
set_option maxHeartbeats 4000000 in
theorem c_X10_seen (l : Launch) (D : zD) (sz : Nat) (τ : zT) (g : zG) (a : Nat) (x1 : Int32) (x2 : Int32) (hta : τ a = some (.inr 10)) : zCon l D yX10_seen cX10_seen 4 (some .int) rm_X10_seen 0 0 zrI [.ref a, .int x1, .int x2] sz τ g τ (f_X10_seen a x1 x2 g) := by
  refine zCon.of (by decide) (Nat.le_of_ble_eq_true rfl) (fun E r g' hl hR hsz hnm F => ?_)
  have F : zF E D (zA τ sz) cX10_seen "TypeChainModel" 4 (some .int) := F
  show zSim (fun q : Int32 × zG => q = (r, g')) (f_X10_seen a x1 x2 g) (zAt E D (zA τ sz) (zQ E D zrI 0 0 sz τ τ r g') 4 (sz, τ, 0, 0) g 0 [(0, .ref a), (1, .int x1), (2, .int x2)] [])
  have hj_X10_seen_29 : ∀ (l1_29 : Int32) (l2_29 : Int32) (g_29 : zG), zSim (fun q : Int32 × zG => q = (r, g')) (j_X10_seen_29 a l1_29 l2_29 g_29) (zAt E D (zA τ sz) (zQ E D zrI 0 0 sz τ τ r g') 4 (sz, τ, 0, 0) g_29 29 [(0, .ref a), (1, .int l1_29), (2, .int l2_29)] []) := by
    intro l1_29 l2_29 g_29
    unfold j_X10_seen_29
    refine z_aload_n F 0 rfl rfl dX10_seen_29 ?_
    refine gf_X10_148 F hta dX10_seen_30 ?_
    refine z_if_eq (tgt := 47) F dX10_seen_33 (by decide) (fun c1 => ?_) (fun c1 => ?_)
    · refine z_bipush (v := (-12)) F (by decide) dX10_seen_47 ?_
      exact z_ireturn F rfl rfl rfl rfl (fun h => h) dX10_seen_49
    · refine z_aload_n F 0 rfl rfl dX10_seen_36 ?_
      refine gf_X10_92 F hta dX10_seen_37 (fun ht2 => ?_)
      refine z_iload_n F 1 rfl rfl dX10_seen_40 ?_
      refine z_iald F ht2 dX10_seen_41 ?_
      refine z_bipush (v := (-4)) F (by decide) dX10_seen_42 ?_
      refine z_icmp_ne (tgt := 50) F dX10_seen_44 (by decide) (fun c3 => ?_) (fun c3 => ?_)
      · refine z_bipush (v := (-12)) F (by decide) dX10_seen_47 ?_
        exact z_ireturn F rfl rfl rfl rfl (fun h => h) dX10_seen_49
      · refine z_aload_n F 0 rfl rfl dX10_seen_50 ?_
        refine gf_X10_95 F hta dX10_seen_51 (fun ht4 => ?_)
        refine z_iload_n F 1 rfl rfl dX10_seen_54 ?_
        refine z_iald F ht4 dX10_seen_55 ?_
        refine z_leti (fun v5 => ?_)
        refine z_istore_n (lv' := [(3, .int v5), (0, .ref a), (1, .int l1_29), (2, .int l2_29)]) F rfl (by decide) dX10_seen_56 rfl ?_
        refine z_aload_n F 1 rfl rfl dX10_seen_57 ?_
        refine gf_X10_95 F hta dX10_seen_58 (fun ht6 => ?_)
        refine z_iload_n F 2 rfl rfl dX10_seen_61 ?_
        refine z_iload_n F 3 rfl rfl dX10_seen_62 ?_
        refine z_iast F ht6 dX10_seen_63 ?_
        refine z_letg (fun g7 => ?_)
        refine z_iload_n F 0 rfl rfl dX10_seen_64 ?_
        exact z_ireturn F rfl rfl rfl rfl (fun h => h) dX10_seen_65
  unfold f_X10_seen
  refine z_aload_n F 0 rfl rfl dX10_seen_0 ?_
  refine z_iload_n F 1 rfl rfl dX10_seen_1 ?_
  refine k_X10_isColumn F (by rw [hR]; exact ⟨by decide, by decide⟩) q_1178 hta ⟨Nat.zero_le _, Nat.zero_le _⟩ (Nat.le_of_ble_eq_true rfl) dX10_seen_2 (fun v8 g9 => ?_)
  refine z_if_eq (tgt := 26) F dX10_seen_5 (by decide) (fun c10 => ?_) (fun c10 => ?_)
  · refine z_bipush (v := (-10)) F (by decide) dX10_seen_26 ?_
    exact z_ireturn F rfl rfl rfl rfl (fun h => h) dX10_seen_28
  · refine z_iload_n F 2 rfl rfl dX10_seen_8 ?_
    refine z_bipush (v := (-4)) F (by decide) dX10_seen_9 ?_
    refine z_icmp_eq (tgt := 29) F dX10_seen_11 (by decide) (fun c11 => ?_) (fun c11 => ?_)
    · exact hj_X10_seen_29 x1 x2 g9
    · refine z_iload_n F 2 rfl rfl dX10_seen_14 ?_
      refine z_i2l F dX10_seen_15 ?_
      refine z_lconst (v := 1) F (by decide) dX10_seen_16 ?_
      refine z_ldc2 F q_1195 dX10_seen_17 ?_
      refine k_X10_in F (by rw [hR]; exact ⟨by decide, by decide⟩) q_1082  ⟨Nat.zero_le _, Nat.zero_le _⟩ (Nat.le_of_ble_eq_true rfl) dX10_seen_20 (fun v12 g13 => ?_)
      refine z_if_ne (tgt := 29) F dX10_seen_23 (by decide) (fun c14 => ?_) (fun c14 => ?_)
      · refine z_bipush (v := (-10)) F (by decide) dX10_seen_26 ?_
        exact z_ireturn F rfl rfl rfl rfl (fun h => h) dX10_seen_28
      · exact hj_X10_seen_29 x1 x2 g13
theorem k_X10_seen {ρ : Type} {K : ρ → Prop} {E : zE} {D : zD} {A : Nat → Prop} {Q : State → Prop} {nL : Nat} {κ : zC} {g : zG} {pc : Nat} {lv : List (Nat × Value)} {st : List Value} {cc : ByteArray} {own : String} {ret : Option FieldType} (F : zF E D A cc own nL ret) {index : Nat} {h : Int32 → zG → Option ρ} {a : Nat} {x1 : Int32} {x2 : Int32}  (hR : 2 + 1 ≤ E.2.2.2.1.frames ∧ 8 + (4 + 11) + 46 ≤ E.2.2.2.1.locals) (hl : zTbl (.methodLink own index yX10_seen)) (hta : κ.2.1 a = some (.inr 10)) (hc : κ.2.2.1 ≤ E.2.2.2.1.cells ∧ κ.2.2.2 ≤ E.2.2.2.1.slots) (hW : (st.map fun v => v.category).sum ≤ 8) (hd : decode cc pc = .ok (.invokevirtual index, 3)) (kk : ∀ r g', zSim K (h r g') (zAt E D A Q nL κ g' (pc + 3) lv (.int r :: st))) : zSim K (zb (f_X10_seen a x1 x2 g) h) (zAt E D A Q nL κ g pc lv (.int x2 :: .int x1 :: .ref a :: st)) :=
  z_callV F (n := 2) (As := [.int x1, .int x2]) (C := (RX10, TX10, 61)) ⟨q_1254, q_14, by decide +kernel, rfl, rfl, hR.1, hR.2⟩ (c_X10_seen E.2.1 D κ.1 κ.2.1 g a x1 x2 hta) hl q_1252 q_1253 hta rfl rfl rfl hc hW hd kk _ rfl
theorem dX10_slips_0 : decode cX10_slips 0 = .ok (.iload_n 1, 1) := by decide +kernel
theorem dX10_slips_1 : decode cX10_slips 1 = .ok (.i2l, 1) := by decide +kernel
theorem dX10_slips_2 : decode cX10_slips 2 = .ok (.lconst 0, 1) := by decide +kernel
theorem dX10_slips_3 : decode cX10_slips 3 = .ok (.lconst 1, 1) := by decide +kernel
theorem dX10_slips_4 : decode cX10_slips 4 = .ok (.invokestatic 165, 3) := by decide +kernel
theorem dX10_slips_7 : decode cX10_slips 7 = .ok (.ifCond .ne 5, 3) := by decide +kernel
theorem dX10_slips_10 : decode cX10_slips 10 = .ok (.iconst (-1), 1) := by decide +kernel
theorem dX10_slips_11 : decode cX10_slips 11 = .ok (.ireturn, 1) := by decide +kernel
theorem dX10_slips_12 : decode cX10_slips 12 = .ok (.aload_n 0, 1) := by decide +kernel
theorem dX10_slips_13 : decode cX10_slips 13 = .ok (.getfield 148, 3) := by decide +kernel
theorem dX10_slips_16 : decode cX10_slips 16 = .ok (.ifCond .ne 6, 3) := by decide +kernel
theorem dX10_slips_19 : decode cX10_slips 19 = .ok (.bipush (-2), 2) := by decide +kernel
theorem dX10_slips_21 : decode cX10_slips 21 = .ok (.ireturn, 1) := by decide +kernel
theorem dX10_slips_22 : decode cX10_slips 22 = .ok (.iconst 0, 1) := by decide +kernel
theorem dX10_slips_23 : decode cX10_slips 23 = .ok (.istore_n 2, 1) := by decide +kernel
theorem dX10_slips_24 : decode cX10_slips 24 = .ok (.bipush (-4), 2) := by decide +kernel
theorem dX10_slips_26 : decode cX10_slips 26 = .ok (.istore_n 3, 1) := by decide +kernel
theorem dX10_slips_27 : decode cX10_slips 27 = .ok (.iconst 0, 1) := by decide +kernel
theorem dX10_slips_28 : decode cX10_slips 28 = .ok (.istore 4, 2) := by decide +kernel
theorem dX10_slips_30 : decode cX10_slips 30 = .ok (.iload 4, 2) := by decide +kernel
theorem dX10_slips_32 : decode cX10_slips 32 = .ok (.aload_n 0, 1) := by decide +kernel
theorem dX10_slips_33 : decode cX10_slips 33 = .ok (.getfield 139, 3) := by decide +kernel
theorem dX10_slips_36 : decode cX10_slips 36 = .ok (.if_icmp .ge 105, 3) := by decide +kernel
theorem dX10_slips_39 : decode cX10_slips 39 = .ok (.iconst 1, 1) := by decide +kernel
theorem dX10_slips_40 : decode cX10_slips 40 = .ok (.istore 5, 2) := by decide +kernel
theorem dX10_slips_42 : decode cX10_slips 42 = .ok (.iconst 0, 1) := by decide +kernel
theorem dX10_slips_43 : decode cX10_slips 43 = .ok (.istore 6, 2) := by decide +kernel
theorem dX10_slips_45 : decode cX10_slips 45 = .ok (.iload 6, 2) := by decide +kernel
theorem dX10_slips_47 : decode cX10_slips 47 = .ok (.aload_n 0, 1) := by decide +kernel
theorem dX10_slips_48 : decode cX10_slips 48 = .ok (.getfield 13, 3) := by decide +kernel
theorem dX10_slips_51 : decode cX10_slips 51 = .ok (.iconst 3, 1) := by decide +kernel
theorem dX10_slips_52 : decode cX10_slips 52 = .ok (.iaload, 1) := by decide +kernel
theorem dX10_slips_53 : decode cX10_slips 53 = .ok (.if_icmp .ge 51, 3) := by decide +kernel
theorem dX10_slips_56 : decode cX10_slips 56 = .ok (.iload 5, 2) := by decide +kernel
theorem dX10_slips_58 : decode cX10_slips 58 = .ok (.ifCond .eq 37, 3) := by decide +kernel
theorem dX10_slips_61 : decode cX10_slips 61 = .ok (.aload_n 0, 1) := by decide +kernel
theorem dX10_slips_62 : decode cX10_slips 62 = .ok (.getfield 95, 3) := by decide +kernel
theorem dX10_slips_65 : decode cX10_slips 65 = .ok (.iload 6, 2) := by decide +kernel
theorem dX10_slips_67 : decode cX10_slips 67 = .ok (.iaload, 1) := by decide +kernel
theorem dX10_slips_68 : decode cX10_slips 68 = .ok (.bipush (-4), 2) := by decide +kernel
theorem dX10_slips_70 : decode cX10_slips 70 = .ok (.if_icmp .eq 21, 3) := by decide +kernel
theorem dX10_slips_73 : decode cX10_slips 73 = .ok (.aload_n 0, 1) := by decide +kernel
theorem dX10_slips_74 : decode cX10_slips 74 = .ok (.getfield 95, 3) := by decide +kernel
theorem dX10_slips_77 : decode cX10_slips 77 = .ok (.iload 6, 2) := by decide +kernel
theorem dX10_slips_79 : decode cX10_slips 79 = .ok (.iaload, 1) := by decide +kernel
theorem dX10_slips_80 : decode cX10_slips 80 = .ok (.aload_n 0, 1) := by decide +kernel
theorem dX10_slips_81 : decode cX10_slips 81 = .ok (.iload 4, 2) := by decide +kernel
theorem dX10_slips_83 : decode cX10_slips 83 = .ok (.iload 6, 2) := by decide +kernel
theorem dX10_slips_85 : decode cX10_slips 85 = .ok (.invokevirtual 309, 3) := by decide +kernel
theorem dX10_slips_88 : decode cX10_slips 88 = .ok (.if_icmp .ne 7, 3) := by decide +kernel
theorem dX10_slips_91 : decode cX10_slips 91 = .ok (.iconst 1, 1) := by decide +kernel
theorem dX10_slips_92 : decode cX10_slips 92 = .ok (.goto 4, 3) := by decide +kernel
theorem dX10_slips_95 : decode cX10_slips 95 = .ok (.iconst 0, 1) := by decide +kernel
theorem dX10_slips_96 : decode cX10_slips 96 = .ok (.istore 5, 2) := by decide +kernel
theorem dX10_slips_98 : decode cX10_slips 98 = .ok (.iinc 6 1, 3) := by decide +kernel
theorem dX10_slips_101 : decode cX10_slips 101 = .ok (.goto (-56), 3) := by decide +kernel
theorem dX10_slips_104 : decode cX10_slips 104 = .ok (.iload_n 2, 1) := by decide +kernel
theorem dX10_slips_105 : decode cX10_slips 105 = .ok (.iload 5, 2) := by decide +kernel
theorem dX10_slips_107 : decode cX10_slips 107 = .ok (.ifCond .eq 7, 3) := by decide +kernel
theorem dX10_slips_110 : decode cX10_slips 110 = .ok (.iconst 1, 1) := by decide +kernel
theorem dX10_slips_111 : decode cX10_slips 111 = .ok (.goto 4, 3) := by decide +kernel
theorem dX10_slips_114 : decode cX10_slips 114 = .ok (.iconst 0, 1) := by decide +kernel
theorem dX10_slips_115 : decode cX10_slips 115 = .ok (.iadd, 1) := by decide +kernel
theorem dX10_slips_116 : decode cX10_slips 116 = .ok (.istore_n 2, 1) := by decide +kernel
theorem dX10_slips_117 : decode cX10_slips 117 = .ok (.iload 5, 2) := by decide +kernel
theorem dX10_slips_119 : decode cX10_slips 119 = .ok (.ifCond .eq 14, 3) := by decide +kernel
theorem dX10_slips_122 : decode cX10_slips 122 = .ok (.iload_n 3, 1) := by decide +kernel
theorem dX10_slips_123 : decode cX10_slips 123 = .ok (.bipush (-4), 2) := by decide +kernel
theorem dX10_slips_125 : decode cX10_slips 125 = .ok (.if_icmp .ne 8, 3) := by decide +kernel
theorem dX10_slips_128 : decode cX10_slips 128 = .ok (.iload 4, 2) := by decide +kernel
theorem dX10_slips_130 : decode cX10_slips 130 = .ok (.goto 4, 3) := by decide +kernel
theorem dX10_slips_133 : decode cX10_slips 133 = .ok (.iload_n 3, 1) := by decide +kernel
theorem dX10_slips_134 : decode cX10_slips 134 = .ok (.istore_n 3, 1) := by decide +kernel
theorem dX10_slips_135 : decode cX10_slips 135 = .ok (.iinc 4 1, 3) := by decide +kernel
theorem dX10_slips_138 : decode cX10_slips 138 = .ok (.goto (-108), 3) := by decide +kernel
theorem dX10_slips_141 : decode cX10_slips 141 = .ok (.iload_n 1, 1) := by decide +kernel
theorem dX10_slips_142 : decode cX10_slips 142 = .ok (.ifCond .ne 7, 3) := by decide +kernel
theorem dX10_slips_145 : decode cX10_slips 145 = .ok (.iload_n 2, 1) := by decide +kernel
theorem dX10_slips_146 : decode cX10_slips 146 = .ok (.goto 4, 3) := by decide +kernel
theorem dX10_slips_149 : decode cX10_slips 149 = .ok (.iload_n 3, 1) := by decide +kernel
theorem dX10_slips_150 : decode cX10_slips 150 = .ok (.ireturn, 1) := by decide +kernel
def j_X10_slips_141 (a : Nat) (l1 : Int32) (l2 : Int32) (l3 : Int32) (g : zG) : Option (Int32 × zG) :=
  if l1 = 0 then (some ((l2, g))) else (some ((l3, g)))
def j_X10_slips_115_30 (a : Nat) (l1 : Int32) (l3 : Int32) (l4 : Int32) (l5 : Int32) (s0 : Int32) (s1 : Int32) (g : zG) : Option ((Int32 × Int32 × Int32 × zG) ⊕ (Int32 × Int32 × zG)) :=
  zl (s0 + s1) (fun v6 => if l5 = 0 then (zl (l4 + 1) (fun v8 => some (.inl (v6, l3, v8, g)))) else (if l3 = (-4) then (zl (l4 + 1) (fun v10 => some (.inl (v6, l4, v10, g)))) else (zl (l4 + 1) (fun v11 => some (.inl (v6, l3, v11, g))))))
def j_X10_slips_104_30 (a : Nat) (l1 : Int32) (l2 : Int32) (l3 : Int32) (l4 : Int32) (l5 : Int32) (g : zG) : Option ((Int32 × Int32 × Int32 × zG) ⊕ (Int32 × Int32 × zG)) :=
  if l5 = 0 then (j_X10_slips_115_30 a l1 l3 l4 l5 l2 0 g) else (j_X10_slips_115_30 a l1 l3 l4 l5 l2 1 g)
def l_X10_slips_45 (a : Nat) (l1 : Int32) (l2 : Int32) (l3 : Int32) (l4 : Int32) (l5 : Int32) (l6 : Int32) (g : zG) : Option ((Int32 × Int32 × zG) ⊕ (Int32 × zG)) :=
  zc (zin 3 8) (if (g.1 (g.2.1 a 2) (3 : Int32).toNatClampNeg) ≤ l6 then (some (.inr (l5, g))) else (if l5 = 0 then (zl (l6 + 1) (fun v17 => some (.inl (0, v17, g)))) else (zc (zin l6 40) (if (g.1 (g.2.1 a 50) l6.toNatClampNeg) = (-4) then (zl (l6 + 1) (fun v20 => some (.inl (1, v20, g)))) else (zc (zin l6 40) (zb (f_X10_shows a l4 l6 g) (fun v22 g23 => if (g.1 (g.2.1 a 50) l6.toNatClampNeg) = v22 then (zl (l6 + 1) (fun v25 => some (.inl (1, v25, g23)))) else (zl (l6 + 1) (fun v26 => some (.inl (0, v26, g23)))))))))))
def l_X10_slips_30 (a : Nat) (l1 : Int32) (l2 : Int32) (l3 : Int32) (l4 : Int32) (g : zG) : Option ((Int32 × Int32 × Int32 × zG) ⊕ (Int32 × Int32 × zG)) :=
  if (g.1 a 0) ≤ l4 then (some (.inr (l2, l3, g))) else (zk (zw zN (fun s => l_X10_slips_45 a l1 l2 l3 l4 s.1 s.2.1 s.2.2) (1, 0, g)) (fun x => j_X10_slips_104_30 a l1 l2 l3 l4 x.1 x.2))
def f_X10_slips (a : Nat) (x1 : Int32) (g : zG) : Option (Int32 × zG) :=
  zb (f_X10_in x1.toInt64 0 1 g) (fun v2 g3 => if v2 = 0 then (some (((-1), g3))) else (if (g3.1 a 44) = 0 then (some (((-2), g3))) else (zk (zw zN (fun s => l_X10_slips_30 a x1 s.1 s.2.1 s.2.2.1 s.2.2.2) (0, (-4), 0, g3)) (fun x => j_X10_slips_141 a x1 x.1 x.2.1 x.2.2))))
abbrev rm_X10_slips : Room := { frames := 1, cells := 0, slots := 0, locals := 25 }
set_option maxRecDepth 100000 in
set_option maxHeartbeats 4000000 in
theorem c_X10_slips (l : Launch) (D : zD) (sz : Nat) (τ : zT) (g : zG) (a : Nat) (x1 : Int32) (hta : τ a = some (.inr 10)) : zCon l D yX10_slips cX10_slips 7 (some .int) rm_X10_slips 0 0 zrI [.ref a, .int x1] sz τ g τ (f_X10_slips a x1 g) := by
  refine zCon.of (by decide) (Nat.le_of_ble_eq_true rfl) (fun E r g' hl hR hsz hnm F => ?_)
  have F : zF E D (zA τ sz) cX10_slips "TypeChainModel" 7 (some .int) := F
  show zSim (fun q : Int32 × zG => q = (r, g')) (f_X10_slips a x1 g) (zAt E D (zA τ sz) (zQ E D zrI 0 0 sz τ τ r g') 7 (sz, τ, 0, 0) g 0 [(0, .ref a), (1, .int x1)] [])
  have hj_X10_slips_141 : ∀ (l1_141 : Int32) (l2_141 : Int32) (l3_141 : Int32) (g_141 : zG), zSim (fun q : Int32 × zG => q = (r, g')) (j_X10_slips_141 a l1_141 l2_141 l3_141 g_141) (zAt E D (zA τ sz) (zQ E D zrI 0 0 sz τ τ r g') 7 (sz, τ, 0, 0) g_141 141 [(1, .int l1_141), (2, .int l2_141), (3, .int l3_141)] []) := by
    intro l1_141 l2_141 l3_141 g_141
    unfold j_X10_slips_141
    refine z_iload_n F 0 rfl rfl dX10_slips_141 ?_
    refine z_if_ne (tgt := 149) F dX10_slips_142 (by decide) (fun c1 => ?_) (fun c1 => ?_)
    · refine z_iload_n F 1 rfl rfl dX10_slips_145 ?_
      refine z_goto (tgt := 150) F dX10_slips_146 (by decide) ?_
      exact z_ireturn F rfl rfl rfl rfl (fun h => h) dX10_slips_150
    · refine z_iload_n F 2 rfl rfl dX10_slips_149 ?_
      exact z_ireturn F rfl rfl rfl rfl (fun h => h) dX10_slips_150
  unfold f_X10_slips
  refine z_iload_n F 1 rfl rfl dX10_slips_0 ?_
  refine z_i2l F dX10_slips_1 ?_
  refine z_lconst (v := 0) F (by decide) dX10_slips_2 ?_
  refine z_lconst (v := 1) F (by decide) dX10_slips_3 ?_
  refine k_X10_in F (by rw [hR]; exact ⟨by decide, by decide⟩) q_1082  ⟨Nat.zero_le _, Nat.zero_le _⟩ (Nat.le_of_ble_eq_true rfl) dX10_slips_4 (fun v2 g3 => ?_)
  refine z_if_ne (tgt := 12) F dX10_slips_7 (by decide) (fun c4 => ?_) (fun c4 => ?_)
  · refine z_iconst (v := (-1)) F (by decide) dX10_slips_10 ?_
    exact z_ireturn F rfl rfl rfl rfl (fun h => h) dX10_slips_11
  · refine z_aload_n F 0 rfl rfl dX10_slips_12 ?_
    refine gf_X10_148 F hta dX10_slips_13 ?_
    refine z_if_ne (tgt := 22) F dX10_slips_16 (by decide) (fun c5 => ?_) (fun c5 => ?_)
    · refine z_bipush (v := (-2)) F (by decide) dX10_slips_19 ?_
      exact z_ireturn F rfl rfl rfl rfl (fun h => h) dX10_slips_21
    · refine z_iconst (v := 0) F (by decide) dX10_slips_22 ?_
      refine z_istore_n (lv' := [(2, .int 0), (0, .ref a), (1, .int x1)]) F rfl (by decide) dX10_slips_23 rfl ?_
      refine z_bipush (v := (-4)) F (by decide) dX10_slips_24 ?_
      refine z_istore_n (lv' := [(3, .int (-4)), (2, .int 0), (0, .ref a), (1, .int x1)]) F rfl (by decide) dX10_slips_26 rfl ?_
      refine z_iconst (v := 0) F (by decide) dX10_slips_27 ?_
      refine z_istore (lv' := [(4, .int 0), (3, .int (-4)), (2, .int 0), (0, .ref a), (1, .int x1)]) F (by decide) dX10_slips_28 rfl ?_
      refine z_sub (lv' := [(0, .ref a), (1, .int x1), (2, .int 0), (3, .int (-4)), (4, .int 0)]) [3, 4, 2, 1, 0] rfl ?_
      refine z_loop (P := fun s : Int32 × Int32 × Int32 × zG => zAt E D (zA τ sz) (zQ E D zrI 0 0 sz τ τ r g') 7 (sz, τ, 0, 0) s.2.2.2 30 [(0, .ref a), (1, .int x1), (2, .int s.1), (3, .int s.2.1), (4, .int s.2.2.1)] []) (Px := fun x : Int32 × Int32 × zG => zAt E D (zA τ sz) (zQ E D zrI 0 0 sz τ τ r g') 7 (sz, τ, 0, 0) x.2.2 141 [(1, .int x1), (2, .int x.1), (3, .int x.2.1)] []) (0, (-4), 0, g3) (fun s => ?_) (fun x => ?_)
      · obtain ⟨l2_30, l3_30, l4_30, g_30⟩ := s
        show zSim (zKl (fun s : Int32 × Int32 × Int32 × zG => zAt E D (zA τ sz) (zQ E D zrI 0 0 sz τ τ r g') 7 (sz, τ, 0, 0) s.2.2.2 30 [(0, .ref a), (1, .int x1), (2, .int s.1), (3, .int s.2.1), (4, .int s.2.2.1)] []) (fun x : Int32 × Int32 × zG => zAt E D (zA τ sz) (zQ E D zrI 0 0 sz τ τ r g') 7 (sz, τ, 0, 0) x.2.2 141 [(1, .int x1), (2, .int x.1), (3, .int x.2.1)] [])) (l_X10_slips_30 a x1 l2_30 l3_30 l4_30 g_30) (zAt E D (zA τ sz) (zQ E D zrI 0 0 sz τ τ r g') 7 (sz, τ, 0, 0) g_30 30 [(0, .ref a), (1, .int x1), (2, .int l2_30), (3, .int l3_30), (4, .int l4_30)] [])
        have hj_X10_slips_115_30 : ∀ (l3_115 : Int32) (l4_115 : Int32) (l5_115 : Int32) (s0_115 : Int32) (s1_115 : Int32) (g_115 : zG), zSim (zKl (fun s : Int32 × Int32 × Int32 × zG => zAt E D (zA τ sz) (zQ E D zrI 0 0 sz τ τ r g') 7 (sz, τ, 0, 0) s.2.2.2 30 [(0, .ref a), (1, .int x1), (2, .int s.1), (3, .int s.2.1), (4, .int s.2.2.1)] []) (fun x : Int32 × Int32 × zG => zAt E D (zA τ sz) (zQ E D zrI 0 0 sz τ τ r g') 7 (sz, τ, 0, 0) x.2.2 141 [(1, .int x1), (2, .int x.1), (3, .int x.2.1)] [])) (j_X10_slips_115_30 a x1 l3_115 l4_115 l5_115 s0_115 s1_115 g_115) (zAt E D (zA τ sz) (zQ E D zrI 0 0 sz τ τ r g') 7 (sz, τ, 0, 0) g_115 115 [(0, .ref a), (1, .int x1), (3, .int l3_115), (4, .int l4_115), (5, .int l5_115)] [.int s1_115, .int s0_115]) := by
          intro l3_115 l4_115 l5_115 s0_115 s1_115 g_115
          unfold j_X10_slips_115_30
          refine z_iadd F dX10_slips_115 ?_
          refine z_leti (fun v6 => ?_)
          refine z_istore_n (lv' := [(2, .int v6), (0, .ref a), (1, .int x1), (3, .int l3_115), (4, .int l4_115), (5, .int l5_115)]) F rfl (by decide) dX10_slips_116 rfl ?_
          refine z_iload F 5 rfl dX10_slips_117 ?_
          refine z_if_eq (tgt := 133) F dX10_slips_119 (by decide) (fun c7 => ?_) (fun c7 => ?_)
          · refine z_iload_n F 3 rfl rfl dX10_slips_133 ?_
            refine z_istore_n (lv' := [(3, .int l3_115), (2, .int v6), (0, .ref a), (1, .int x1), (4, .int l4_115), (5, .int l5_115)]) F rfl (by decide) dX10_slips_134 rfl ?_
            refine z_iincl (lv' := fun v8 => [(4, .int v8), (3, .int l3_115), (2, .int v6), (0, .ref a), (1, .int x1), (5, .int l5_115)]) F 4 rfl (by decide) (by decide) dX10_slips_135 (fun _ => rfl) (fun v8 => ?_)
            refine z_goto (tgt := 30) F dX10_slips_138 (by decide) ?_
            refine z_sub (lv' := [(0, .ref a), (1, .int x1), (2, .int v6), (3, .int l3_115), (4, .int v8)]) [3, 4, 2, 1, 0] rfl ?_
            exact z_back (fun h => h)
          · refine z_iload_n F 3 rfl rfl dX10_slips_122 ?_
            refine z_bipush (v := (-4)) F (by decide) dX10_slips_123 ?_
            refine z_icmp_ne (tgt := 133) F dX10_slips_125 (by decide) (fun c9 => ?_) (fun c9 => ?_)
            · refine z_iload F 4 rfl dX10_slips_128 ?_
              refine z_goto (tgt := 134) F dX10_slips_130 (by decide) ?_
              refine z_istore_n (lv' := [(3, .int l4_115), (2, .int v6), (0, .ref a), (1, .int x1), (4, .int l4_115), (5, .int l5_115)]) F rfl (by decide) dX10_slips_134 rfl ?_
              refine z_iincl (lv' := fun v10 => [(4, .int v10), (3, .int l4_115), (2, .int v6), (0, .ref a), (1, .int x1), (5, .int l5_115)]) F 4 rfl (by decide) (by decide) dX10_slips_135 (fun _ => rfl) (fun v10 => ?_)
              refine z_goto (tgt := 30) F dX10_slips_138 (by decide) ?_
              refine z_sub (lv' := [(0, .ref a), (1, .int x1), (2, .int v6), (3, .int l4_115), (4, .int v10)]) [3, 4, 2, 1, 0] rfl ?_
              exact z_back (fun h => h)
            · refine z_iload_n F 3 rfl rfl dX10_slips_133 ?_
              refine z_istore_n (lv' := [(3, .int l3_115), (2, .int v6), (0, .ref a), (1, .int x1), (4, .int l4_115), (5, .int l5_115)]) F rfl (by decide) dX10_slips_134 rfl ?_
              refine z_iincl (lv' := fun v11 => [(4, .int v11), (3, .int l3_115), (2, .int v6), (0, .ref a), (1, .int x1), (5, .int l5_115)]) F 4 rfl (by decide) (by decide) dX10_slips_135 (fun _ => rfl) (fun v11 => ?_)
              refine z_goto (tgt := 30) F dX10_slips_138 (by decide) ?_
              refine z_sub (lv' := [(0, .ref a), (1, .int x1), (2, .int v6), (3, .int l3_115), (4, .int v11)]) [3, 4, 2, 1, 0] rfl ?_
              exact z_back (fun h => h)
        have hj_X10_slips_104_30 : ∀ (l2_104 : Int32) (l3_104 : Int32) (l4_104 : Int32) (l5_104 : Int32) (g_104 : zG), zSim (zKl (fun s : Int32 × Int32 × Int32 × zG => zAt E D (zA τ sz) (zQ E D zrI 0 0 sz τ τ r g') 7 (sz, τ, 0, 0) s.2.2.2 30 [(0, .ref a), (1, .int x1), (2, .int s.1), (3, .int s.2.1), (4, .int s.2.2.1)] []) (fun x : Int32 × Int32 × zG => zAt E D (zA τ sz) (zQ E D zrI 0 0 sz τ τ r g') 7 (sz, τ, 0, 0) x.2.2 141 [(1, .int x1), (2, .int x.1), (3, .int x.2.1)] [])) (j_X10_slips_104_30 a x1 l2_104 l3_104 l4_104 l5_104 g_104) (zAt E D (zA τ sz) (zQ E D zrI 0 0 sz τ τ r g') 7 (sz, τ, 0, 0) g_104 104 [(0, .ref a), (1, .int x1), (2, .int l2_104), (3, .int l3_104), (4, .int l4_104), (5, .int l5_104)] []) := by
          intro l2_104 l3_104 l4_104 l5_104 g_104
          unfold j_X10_slips_104_30
          refine z_iload_n F 2 rfl rfl dX10_slips_104 ?_
          refine z_iload F 5 rfl dX10_slips_105 ?_
          refine z_if_eq (tgt := 114) F dX10_slips_107 (by decide) (fun c12 => ?_) (fun c12 => ?_)
          · refine z_iconst (v := 0) F (by decide) dX10_slips_114 ?_
            refine z_sub (lv' := [(0, .ref a), (1, .int x1), (3, .int l3_104), (4, .int l4_104), (5, .int l5_104)]) [0, 1, 3, 4, 5] rfl ?_
            exact hj_X10_slips_115_30 l3_104 l4_104 l5_104 l2_104 0 g_104
          · refine z_iconst (v := 1) F (by decide) dX10_slips_110 ?_
            refine z_goto (tgt := 115) F dX10_slips_111 (by decide) ?_
            refine z_sub (lv' := [(0, .ref a), (1, .int x1), (3, .int l3_104), (4, .int l4_104), (5, .int l5_104)]) [0, 1, 3, 4, 5] rfl ?_
            exact hj_X10_slips_115_30 l3_104 l4_104 l5_104 l2_104 1 g_104
        unfold l_X10_slips_30
        refine z_iload F 4 rfl dX10_slips_30 ?_
        refine z_aload_n F 0 rfl rfl dX10_slips_32 ?_
        refine gf_X10_139 F hta dX10_slips_33 ?_
        refine z_icmp_ge (tgt := 141) F dX10_slips_36 (by decide) (fun c13 => ?_) (fun c13 => ?_)
        · refine z_sub (lv' := [(1, .int x1), (2, .int l2_30), (3, .int l3_30)]) [1, 2, 3] rfl ?_
          exact z_back (fun h => h)
        · refine z_iconst (v := 1) F (by decide) dX10_slips_39 ?_
          refine z_istore (lv' := [(5, .int 1), (0, .ref a), (1, .int x1), (2, .int l2_30), (3, .int l3_30), (4, .int l4_30)]) F (by decide) dX10_slips_40 rfl ?_
          refine z_iconst (v := 0) F (by decide) dX10_slips_42 ?_
          refine z_istore (lv' := [(6, .int 0), (5, .int 1), (0, .ref a), (1, .int x1), (2, .int l2_30), (3, .int l3_30), (4, .int l4_30)]) F (by decide) dX10_slips_43 rfl ?_
          refine z_sub (lv' := [(0, .ref a), (1, .int x1), (2, .int l2_30), (3, .int l3_30), (4, .int l4_30), (5, .int 1), (6, .int 0)]) [2, 3, 4, 5, 6, 1, 0] rfl ?_
          refine z_loop (P := fun s : Int32 × Int32 × zG => zAt E D (zA τ sz) (zQ E D zrI 0 0 sz τ τ r g') 7 (sz, τ, 0, 0) s.2.2 45 [(0, .ref a), (1, .int x1), (2, .int l2_30), (3, .int l3_30), (4, .int l4_30), (5, .int s.1), (6, .int s.2.1)] []) (Px := fun x : Int32 × zG => zAt E D (zA τ sz) (zQ E D zrI 0 0 sz τ τ r g') 7 (sz, τ, 0, 0) x.2 104 [(0, .ref a), (1, .int x1), (2, .int l2_30), (3, .int l3_30), (4, .int l4_30), (5, .int x.1)] []) (1, 0, g_30) (fun s => ?_) (fun x => ?_)
          · obtain ⟨l5_45, l6_45, g_45⟩ := s
            show zSim (zKl (fun s : Int32 × Int32 × zG => zAt E D (zA τ sz) (zQ E D zrI 0 0 sz τ τ r g') 7 (sz, τ, 0, 0) s.2.2 45 [(0, .ref a), (1, .int x1), (2, .int l2_30), (3, .int l3_30), (4, .int l4_30), (5, .int s.1), (6, .int s.2.1)] []) (fun x : Int32 × zG => zAt E D (zA τ sz) (zQ E D zrI 0 0 sz τ τ r g') 7 (sz, τ, 0, 0) x.2 104 [(0, .ref a), (1, .int x1), (2, .int l2_30), (3, .int l3_30), (4, .int l4_30), (5, .int x.1)] [])) (l_X10_slips_45 a x1 l2_30 l3_30 l4_30 l5_45 l6_45 g_45) (zAt E D (zA τ sz) (zQ E D zrI 0 0 sz τ τ r g') 7 (sz, τ, 0, 0) g_45 45 [(0, .ref a), (1, .int x1), (2, .int l2_30), (3, .int l3_30), (4, .int l4_30), (5, .int l5_45), (6, .int l6_45)] [])
            unfold l_X10_slips_45
            refine z_iload F 6 rfl dX10_slips_45 ?_
            refine z_aload_n F 0 rfl rfl dX10_slips_47 ?_
            refine gf_X10_13 F hta dX10_slips_48 (fun ht14 => ?_)
            refine z_iconst (v := 3) F (by decide) dX10_slips_51 ?_
            refine z_iald F ht14 dX10_slips_52 ?_
            refine z_icmp_ge (tgt := 104) F dX10_slips_53 (by decide) (fun c15 => ?_) (fun c15 => ?_)
            · refine z_sub (lv' := [(0, .ref a), (1, .int x1), (2, .int l2_30), (3, .int l3_30), (4, .int l4_30), (5, .int l5_45)]) [0, 1, 2, 3, 4, 5] rfl ?_
              exact z_back (fun h => h)
            · refine z_iload F 5 rfl dX10_slips_56 ?_
              refine z_if_eq (tgt := 95) F dX10_slips_58 (by decide) (fun c16 => ?_) (fun c16 => ?_)
              · refine z_iconst (v := 0) F (by decide) dX10_slips_95 ?_
                refine z_istore (lv' := [(5, .int 0), (0, .ref a), (1, .int x1), (2, .int l2_30), (3, .int l3_30), (4, .int l4_30), (6, .int l6_45)]) F (by decide) dX10_slips_96 rfl ?_
                refine z_iincl (lv' := fun v17 => [(6, .int v17), (5, .int 0), (0, .ref a), (1, .int x1), (2, .int l2_30), (3, .int l3_30), (4, .int l4_30)]) F 6 rfl (by decide) (by decide) dX10_slips_98 (fun _ => rfl) (fun v17 => ?_)
                refine z_goto (tgt := 45) F dX10_slips_101 (by decide) ?_
                refine z_sub (lv' := [(0, .ref a), (1, .int x1), (2, .int l2_30), (3, .int l3_30), (4, .int l4_30), (5, .int 0), (6, .int v17)]) [2, 3, 4, 5, 6, 1, 0] rfl ?_
                exact z_back (fun h => h)
              · refine z_aload_n F 0 rfl rfl dX10_slips_61 ?_
                refine gf_X10_95 F hta dX10_slips_62 (fun ht18 => ?_)
                refine z_iload F 6 rfl dX10_slips_65 ?_
                refine z_iald F ht18 dX10_slips_67 ?_
                refine z_bipush (v := (-4)) F (by decide) dX10_slips_68 ?_
                refine z_icmp_eq (tgt := 91) F dX10_slips_70 (by decide) (fun c19 => ?_) (fun c19 => ?_)
                · refine z_iconst (v := 1) F (by decide) dX10_slips_91 ?_
                  refine z_goto (tgt := 96) F dX10_slips_92 (by decide) ?_
                  refine z_istore (lv' := [(5, .int 1), (0, .ref a), (1, .int x1), (2, .int l2_30), (3, .int l3_30), (4, .int l4_30), (6, .int l6_45)]) F (by decide) dX10_slips_96 rfl ?_
                  refine z_iincl (lv' := fun v20 => [(6, .int v20), (5, .int 1), (0, .ref a), (1, .int x1), (2, .int l2_30), (3, .int l3_30), (4, .int l4_30)]) F 6 rfl (by decide) (by decide) dX10_slips_98 (fun _ => rfl) (fun v20 => ?_)
                  refine z_goto (tgt := 45) F dX10_slips_101 (by decide) ?_
                  refine z_sub (lv' := [(0, .ref a), (1, .int x1), (2, .int l2_30), (3, .int l3_30), (4, .int l4_30), (5, .int 1), (6, .int v20)]) [2, 3, 4, 5, 6, 1, 0] rfl ?_
                  exact z_back (fun h => h)
                · refine z_aload_n F 0 rfl rfl dX10_slips_73 ?_
                  refine gf_X10_95 F hta dX10_slips_74 (fun ht21 => ?_)
                  refine z_iload F 6 rfl dX10_slips_77 ?_
                  refine z_iald F ht21 dX10_slips_79 ?_
                  refine z_aload_n F 0 rfl rfl dX10_slips_80 ?_
                  refine z_iload F 4 rfl dX10_slips_81 ?_
                  refine z_iload F 6 rfl dX10_slips_83 ?_
                  refine k_X10_shows F (by rw [hR]; exact ⟨by decide, by decide⟩) q_1247 hta ⟨Nat.zero_le _, Nat.zero_le _⟩ (Nat.le_of_ble_eq_true rfl) dX10_slips_85 (fun v22 g23 => ?_)
                  refine z_icmp_ne (tgt := 95) F dX10_slips_88 (by decide) (fun c24 => ?_) (fun c24 => ?_)
                  · refine z_iconst (v := 1) F (by decide) dX10_slips_91 ?_
                    refine z_goto (tgt := 96) F dX10_slips_92 (by decide) ?_
                    refine z_istore (lv' := [(5, .int 1), (0, .ref a), (1, .int x1), (2, .int l2_30), (3, .int l3_30), (4, .int l4_30), (6, .int l6_45)]) F (by decide) dX10_slips_96 rfl ?_
                    refine z_iincl (lv' := fun v25 => [(6, .int v25), (5, .int 1), (0, .ref a), (1, .int x1), (2, .int l2_30), (3, .int l3_30), (4, .int l4_30)]) F 6 rfl (by decide) (by decide) dX10_slips_98 (fun _ => rfl) (fun v25 => ?_)
                    refine z_goto (tgt := 45) F dX10_slips_101 (by decide) ?_
                    refine z_sub (lv' := [(0, .ref a), (1, .int x1), (2, .int l2_30), (3, .int l3_30), (4, .int l4_30), (5, .int 1), (6, .int v25)]) [2, 3, 4, 5, 6, 1, 0] rfl ?_
                    exact z_back (fun h => h)
                  · refine z_iconst (v := 0) F (by decide) dX10_slips_95 ?_
                    refine z_istore (lv' := [(5, .int 0), (0, .ref a), (1, .int x1), (2, .int l2_30), (3, .int l3_30), (4, .int l4_30), (6, .int l6_45)]) F (by decide) dX10_slips_96 rfl ?_
                    refine z_iincl (lv' := fun v26 => [(6, .int v26), (5, .int 0), (0, .ref a), (1, .int x1), (2, .int l2_30), (3, .int l3_30), (4, .int l4_30)]) F 6 rfl (by decide) (by decide) dX10_slips_98 (fun _ => rfl) (fun v26 => ?_)
                    refine z_goto (tgt := 45) F dX10_slips_101 (by decide) ?_
                    refine z_sub (lv' := [(0, .ref a), (1, .int x1), (2, .int l2_30), (3, .int l3_30), (4, .int l4_30), (5, .int 0), (6, .int v26)]) [2, 3, 4, 5, 6, 1, 0] rfl ?_
                    exact z_back (fun h => h)
          · show zSim (zKl (fun s : Int32 × Int32 × Int32 × zG => zAt E D (zA τ sz) (zQ E D zrI 0 0 sz τ τ r g') 7 (sz, τ, 0, 0) s.2.2.2 30 [(0, .ref a), (1, .int x1), (2, .int s.1), (3, .int s.2.1), (4, .int s.2.2.1)] []) (fun x : Int32 × Int32 × zG => zAt E D (zA τ sz) (zQ E D zrI 0 0 sz τ τ r g') 7 (sz, τ, 0, 0) x.2.2 141 [(1, .int x1), (2, .int x.1), (3, .int x.2.1)] [])) (j_X10_slips_104_30 a x1 l2_30 l3_30 l4_30 x.1 x.2) (zAt E D (zA τ sz) (zQ E D zrI 0 0 sz τ τ r g') 7 (sz, τ, 0, 0) x.2 104 [(0, .ref a), (1, .int x1), (2, .int l2_30), (3, .int l3_30), (4, .int l4_30), (5, .int x.1)] [])
            exact hj_X10_slips_104_30 l2_30 l3_30 l4_30 x.1 x.2
      · show zSim (fun q : Int32 × zG => q = (r, g')) (j_X10_slips_141 a x1 x.1 x.2.1 x.2.2) (zAt E D (zA τ sz) (zQ E D zrI 0 0 sz τ τ r g') 7 (sz, τ, 0, 0) x.2.2 141 [(1, .int x1), (2, .int x.1), (3, .int x.2.1)] [])
        exact hj_X10_slips_141 x1 x.1 x.2.1 x.2.2
theorem k_X10_slips {ρ : Type} {K : ρ → Prop} {E : zE} {D : zD} {A : Nat → Prop} {Q : State → Prop} {nL : Nat} {κ : zC} {g : zG} {pc : Nat} {lv : List (Nat × Value)} {st : List Value} {cc : ByteArray} {own : String} {ret : Option FieldType} (F : zF E D A cc own nL ret) {index : Nat} {h : Int32 → zG → Option ρ} {a : Nat} {x1 : Int32}  (hR : 1 + 1 ≤ E.2.2.2.1.frames ∧ 8 + (7 + 11) + 25 ≤ E.2.2.2.1.locals) (hl : zTbl (.methodLink own index yX10_slips)) (hta : κ.2.1 a = some (.inr 10)) (hc : κ.2.2.1 ≤ E.2.2.2.1.cells ∧ κ.2.2.2 ≤ E.2.2.2.1.slots) (hW : (st.map fun v => v.category).sum ≤ 8) (hd : decode cc pc = .ok (.invokevirtual index, 3)) (kk : ∀ r g', zSim K (h r g') (zAt E D A Q nL κ g' (pc + 3) lv (.int r :: st))) : zSim K (zb (f_X10_slips a x1 g) h) (zAt E D A Q nL κ g pc lv (.int x1 :: .ref a :: st)) :=
  z_callV F (n := 1) (As := [.int x1]) (C := (RX10, TX10, 61)) ⟨q_1258, q_14, by decide +kernel, rfl, rfl, hR.1, hR.2⟩ (c_X10_slips E.2.1 D κ.1 κ.2.1 g a x1 hta) hl q_1256 q_1257 hta rfl rfl rfl hc hW hd kk _ rfl
theorem dX10_moves_0 : decode cX10_moves 0 = .ok (.iload_n 1, 1) := by decide +kernel
theorem dX10_moves_1 : decode cX10_moves 1 = .ok (.ifCond .ne 5, 3) := by decide +kernel
theorem dX10_moves_4 : decode cX10_moves 4 = .ok (.iconst 0, 1) := by decide +kernel
theorem dX10_moves_5 : decode cX10_moves 5 = .ok (.ireturn, 1) := by decide +kernel
theorem dX10_moves_6 : decode cX10_moves 6 = .ok (.iconst 0, 1) := by decide +kernel
theorem dX10_moves_7 : decode cX10_moves 7 = .ok (.istore_n 3, 1) := by decide +kernel
theorem dX10_moves_8 : decode cX10_moves 8 = .ok (.iload_n 3, 1) := by decide +kernel
theorem dX10_moves_9 : decode cX10_moves 9 = .ok (.iload_n 1, 1) := by decide +kernel
theorem dX10_moves_10 : decode cX10_moves 10 = .ok (.if_icmp .ge 52, 3) := by decide +kernel
theorem dX10_moves_13 : decode cX10_moves 13 = .ok (.aload_n 0, 1) := by decide +kernel
theorem dX10_moves_14 : decode cX10_moves 14 = .ok (.aload_n 0, 1) := by decide +kernel
theorem dX10_moves_15 : decode cX10_moves 15 = .ok (.getfield 282, 3) := by decide +kernel
theorem dX10_moves_18 : decode cX10_moves 18 = .ok (.iconst 1, 1) := by decide +kernel
theorem dX10_moves_19 : decode cX10_moves 19 = .ok (.iadd, 1) := by decide +kernel
theorem dX10_moves_20 : decode cX10_moves 20 = .ok (.aload_n 0, 1) := by decide +kernel
theorem dX10_moves_21 : decode cX10_moves 21 = .ok (.getfield 13, 3) := by decide +kernel
theorem dX10_moves_24 : decode cX10_moves 24 = .ok (.bipush 7, 2) := by decide +kernel
theorem dX10_moves_26 : decode cX10_moves 26 = .ok (.iaload, 1) := by decide +kernel
theorem dX10_moves_27 : decode cX10_moves 27 = .ok (.irem, 1) := by decide +kernel
theorem dX10_moves_28 : decode cX10_moves 28 = .ok (.putfield 282, 3) := by decide +kernel
theorem dX10_moves_31 : decode cX10_moves 31 = .ok (.aload_n 0, 1) := by decide +kernel
theorem dX10_moves_32 : decode cX10_moves 32 = .ok (.getfield 282, 3) := by decide +kernel
theorem dX10_moves_35 : decode cX10_moves 35 = .ok (.ifCond .ne 21, 3) := by decide +kernel
theorem dX10_moves_38 : decode cX10_moves 38 = .ok (.iload_n 2, 1) := by decide +kernel
theorem dX10_moves_39 : decode cX10_moves 39 = .ok (.ifCond .ne 17, 3) := by decide +kernel
theorem dX10_moves_42 : decode cX10_moves 42 = .ok (.aload_n 0, 1) := by decide +kernel
theorem dX10_moves_43 : decode cX10_moves 43 = .ok (.dup, 1) := by decide +kernel
theorem dX10_moves_44 : decode cX10_moves 44 = .ok (.getfield 154, 3) := by decide +kernel
theorem dX10_moves_47 : decode cX10_moves 47 = .ok (.iconst 1, 1) := by decide +kernel
theorem dX10_moves_48 : decode cX10_moves 48 = .ok (.iadd, 1) := by decide +kernel
theorem dX10_moves_49 : decode cX10_moves 49 = .ok (.putfield 154, 3) := by decide +kernel
theorem dX10_moves_52 : decode cX10_moves 52 = .ok (.aload_n 0, 1) := by decide +kernel
theorem dX10_moves_53 : decode cX10_moves 53 = .ok (.invokevirtual 157, 3) := by decide +kernel
theorem dX10_moves_56 : decode cX10_moves 56 = .ok (.iinc 3 1, 3) := by decide +kernel
theorem dX10_moves_59 : decode cX10_moves 59 = .ok (.goto (-51), 3) := by decide +kernel
theorem dX10_moves_62 : decode cX10_moves 62 = .ok (.aload_n 0, 1) := by decide +kernel
theorem dX10_moves_63 : decode cX10_moves 63 = .ok (.getfield 13, 3) := by decide +kernel
theorem dX10_moves_66 : decode cX10_moves 66 = .ok (.iconst 5, 1) := by decide +kernel
theorem dX10_moves_67 : decode cX10_moves 67 = .ok (.iaload, 1) := by decide +kernel
theorem dX10_moves_68 : decode cX10_moves 68 = .ok (.iload_n 1, 1) := by decide +kernel
theorem dX10_moves_69 : decode cX10_moves 69 = .ok (.aload_n 0, 1) := by decide +kernel
theorem dX10_moves_70 : decode cX10_moves 70 = .ok (.getfield 13, 3) := by decide +kernel
theorem dX10_moves_73 : decode cX10_moves 73 = .ok (.bipush 6, 2) := by decide +kernel
theorem dX10_moves_75 : decode cX10_moves 75 = .ok (.iaload, 1) := by decide +kernel
theorem dX10_moves_76 : decode cX10_moves 76 = .ok (.imul, 1) := by decide +kernel
theorem dX10_moves_77 : decode cX10_moves 77 = .ok (.iadd, 1) := by decide +kernel
theorem dX10_moves_78 : decode cX10_moves 78 = .ok (.istore_n 3, 1) := by decide +kernel
theorem dX10_moves_79 : decode cX10_moves 79 = .ok (.aload_n 0, 1) := by decide +kernel
theorem dX10_moves_80 : decode cX10_moves 80 = .ok (.dup, 1) := by decide +kernel
theorem dX10_moves_81 : decode cX10_moves 81 = .ok (.getfield 279, 3) := by decide +kernel
theorem dX10_moves_84 : decode cX10_moves 84 = .ok (.iload_n 3, 1) := by decide +kernel
theorem dX10_moves_85 : decode cX10_moves 85 = .ok (.iadd, 1) := by decide +kernel
theorem dX10_moves_86 : decode cX10_moves 86 = .ok (.putfield 279, 3) := by decide +kernel
theorem dX10_moves_89 : decode cX10_moves 89 = .ok (.iload_n 3, 1) := by decide +kernel
theorem dX10_moves_90 : decode cX10_moves 90 = .ok (.ireturn, 1) := by decide +kernel
def j_X10_moves_62 (a : Nat) (l1 : Int32) (g : zG) : Option (Int32 × zG) :=
  zc (zin 5 8) (zc (zin 6 8) (zl ((g.1 (g.2.1 a 2) (5 : Int32).toNatClampNeg) + (l1 * (g.1 (g.2.1 a 2) (6 : Int32).toNatClampNeg))) (fun v3 => zl (zsi g a 34 ((g.1 a 34) + v3)) (fun g4 => some ((v3, g4))))))
def l_X10_moves_8 (a : Nat) (l1 : Int32) (l2 : Int32) (l3 : Int32) (g : zG) : Option ((Int32 × zG) ⊕ (zG)) :=
  if l1 ≤ l3 then (some (.inr g)) else (zc (zin 7 8) (zc (¬ (g.1 (g.2.1 a 2) (7 : Int32).toNatClampNeg) = 0) (zl (zsi g a 35 (zrem ((g.1 a 35) + 1) (g.1 (g.2.1 a 2) (7 : Int32).toNatClampNeg))) (fun g8 => if (g8.1 a 35) = 0 then (if l2 = 0 then (zl (zsi g8 a 36 ((g8.1 a 36) + 1)) (fun g11 => zb (f_X10_blankPage a g11) (fun v12 g13 => zl (l3 + 1) (fun v14 => some (.inl (v14, g13)))))) else (zl (l3 + 1) (fun v15 => some (.inl (v15, g8))))) else (zl (l3 + 1) (fun v16 => some (.inl (v16, g8))))))))
def f_X10_moves (a : Nat) (x1 : Int32) (x2 : Int32) (g : zG) : Option (Int32 × zG) :=
  if x1 = 0 then (some ((0, g))) else (zk (zw zN (fun s => l_X10_moves_8 a x1 x2 s.1 s.2) (0, g)) (fun x => j_X10_moves_62 a x1 x))
abbrev rm_X10_moves : Room := { frames := 1, cells := 0, slots := 0, locals := 21 }
set_option maxRecDepth 100000 in
set_option maxHeartbeats 4000000 in
theorem c_X10_moves (l : Launch) (D : zD) (sz : Nat) (τ : zT) (g : zG) (a : Nat) (x1 : Int32) (x2 : Int32) (hta : τ a = some (.inr 10)) : zCon l D yX10_moves cX10_moves 4 (some .int) rm_X10_moves 0 0 zrI [.ref a, .int x1, .int x2] sz τ g τ (f_X10_moves a x1 x2 g) := by
  refine zCon.of (by decide) (Nat.le_of_ble_eq_true rfl) (fun E r g' hl hR hsz hnm F => ?_)
  have F : zF E D (zA τ sz) cX10_moves "TypeChainModel" 4 (some .int) := F
  show zSim (fun q : Int32 × zG => q = (r, g')) (f_X10_moves a x1 x2 g) (zAt E D (zA τ sz) (zQ E D zrI 0 0 sz τ τ r g') 4 (sz, τ, 0, 0) g 0 [(0, .ref a), (1, .int x1), (2, .int x2)] [])
  have hj_X10_moves_62 : ∀ (l1_62 : Int32) (g_62 : zG), zSim (fun q : Int32 × zG => q = (r, g')) (j_X10_moves_62 a l1_62 g_62) (zAt E D (zA τ sz) (zQ E D zrI 0 0 sz τ τ r g') 4 (sz, τ, 0, 0) g_62 62 [(0, .ref a), (1, .int l1_62)] []) := by
    intro l1_62 g_62
    unfold j_X10_moves_62
    refine z_aload_n F 0 rfl rfl dX10_moves_62 ?_
    refine gf_X10_13 F hta dX10_moves_63 (fun ht1 => ?_)
    refine z_iconst (v := 5) F (by decide) dX10_moves_66 ?_
    refine z_iald F ht1 dX10_moves_67 ?_
    refine z_iload_n F 1 rfl rfl dX10_moves_68 ?_
    refine z_aload_n F 0 rfl rfl dX10_moves_69 ?_
    refine gf_X10_13 F hta dX10_moves_70 (fun ht2 => ?_)
    refine z_bipush (v := 6) F (by decide) dX10_moves_73 ?_
    refine z_iald F ht2 dX10_moves_75 ?_
    refine z_imul F dX10_moves_76 ?_
    refine z_iadd F dX10_moves_77 ?_
    refine z_leti (fun v3 => ?_)
    refine z_istore_n (lv' := [(3, .int v3), (0, .ref a), (1, .int l1_62)]) F rfl (by decide) dX10_moves_78 rfl ?_
    refine z_aload_n F 1 rfl rfl dX10_moves_79 ?_
    refine z_dup F rfl dX10_moves_80 ?_
    refine gf_X10_279 F hta dX10_moves_81 ?_
    refine z_iload_n F 0 rfl rfl dX10_moves_84 ?_
    refine z_iadd F dX10_moves_85 ?_
    refine pf_X10_279 F hta dX10_moves_86 ?_
    refine z_letg (fun g4 => ?_)
    refine z_iload_n F 0 rfl rfl dX10_moves_89 ?_
    exact z_ireturn F rfl rfl rfl rfl (fun h => h) dX10_moves_90
  unfold f_X10_moves
  refine z_iload_n F 1 rfl rfl dX10_moves_0 ?_
  refine z_if_ne (tgt := 6) F dX10_moves_1 (by decide) (fun c5 => ?_) (fun c5 => ?_)
  · refine z_iconst (v := 0) F (by decide) dX10_moves_4 ?_
    exact z_ireturn F rfl rfl rfl rfl (fun h => h) dX10_moves_5
  · refine z_iconst (v := 0) F (by decide) dX10_moves_6 ?_
    refine z_istore_n (lv' := [(3, .int 0), (0, .ref a), (1, .int x1), (2, .int x2)]) F rfl (by decide) dX10_moves_7 rfl ?_
    refine z_sub (lv' := [(0, .ref a), (1, .int x1), (2, .int x2), (3, .int 0)]) [1, 2, 3, 0] rfl ?_
    refine z_loop (P := fun s : Int32 × zG => zAt E D (zA τ sz) (zQ E D zrI 0 0 sz τ τ r g') 4 (sz, τ, 0, 0) s.2 8 [(0, .ref a), (1, .int x1), (2, .int x2), (3, .int s.1)] []) (Px := fun x : zG => zAt E D (zA τ sz) (zQ E D zrI 0 0 sz τ τ r g') 4 (sz, τ, 0, 0) x 62 [(0, .ref a), (1, .int x1)] []) (0, g) (fun s => ?_) (fun x => ?_)
    · obtain ⟨l3_8, g_8⟩ := s
      show zSim (zKl (fun s : Int32 × zG => zAt E D (zA τ sz) (zQ E D zrI 0 0 sz τ τ r g') 4 (sz, τ, 0, 0) s.2 8 [(0, .ref a), (1, .int x1), (2, .int x2), (3, .int s.1)] []) (fun x : zG => zAt E D (zA τ sz) (zQ E D zrI 0 0 sz τ τ r g') 4 (sz, τ, 0, 0) x 62 [(0, .ref a), (1, .int x1)] [])) (l_X10_moves_8 a x1 x2 l3_8 g_8) (zAt E D (zA τ sz) (zQ E D zrI 0 0 sz τ τ r g') 4 (sz, τ, 0, 0) g_8 8 [(0, .ref a), (1, .int x1), (2, .int x2), (3, .int l3_8)] [])
      unfold l_X10_moves_8
      refine z_iload_n F 3 rfl rfl dX10_moves_8 ?_
      refine z_iload_n F 1 rfl rfl dX10_moves_9 ?_
      refine z_icmp_ge (tgt := 62) F dX10_moves_10 (by decide) (fun c6 => ?_) (fun c6 => ?_)
      · refine z_sub (lv' := [(0, .ref a), (1, .int x1)]) [0, 1] rfl ?_
        exact z_back (fun h => h)
      · refine z_aload_n F 0 rfl rfl dX10_moves_13 ?_
        refine z_aload_n F 0 rfl rfl dX10_moves_14 ?_
        refine gf_X10_282 F hta dX10_moves_15 ?_
        refine z_iconst (v := 1) F (by decide) dX10_moves_18 ?_
        refine z_iadd F dX10_moves_19 ?_
        refine z_aload_n F 0 rfl rfl dX10_moves_20 ?_
        refine gf_X10_13 F hta dX10_moves_21 (fun ht7 => ?_)
        refine z_bipush (v := 7) F (by decide) dX10_moves_24 ?_
        refine z_iald F ht7 dX10_moves_26 ?_
        refine z_irem F dX10_moves_27 ?_
        refine pf_X10_282 F hta dX10_moves_28 ?_
        refine z_letg (fun g8 => ?_)
        refine z_aload_n F 0 rfl rfl dX10_moves_31 ?_
        refine gf_X10_282 F hta dX10_moves_32 ?_
        refine z_if_ne (tgt := 56) F dX10_moves_35 (by decide) (fun c9 => ?_) (fun c9 => ?_)
        · refine z_iload_n F 2 rfl rfl dX10_moves_38 ?_
          refine z_if_ne (tgt := 56) F dX10_moves_39 (by decide) (fun c10 => ?_) (fun c10 => ?_)
          · refine z_aload_n F 0 rfl rfl dX10_moves_42 ?_
            refine z_dup F rfl dX10_moves_43 ?_
            refine gf_X10_154 F hta dX10_moves_44 ?_
            refine z_iconst (v := 1) F (by decide) dX10_moves_47 ?_
            refine z_iadd F dX10_moves_48 ?_
            refine pf_X10_154 F hta dX10_moves_49 ?_
            refine z_letg (fun g11 => ?_)
            refine z_aload_n F 0 rfl rfl dX10_moves_52 ?_
            refine k_X10_blankPage F (by rw [hR]; exact ⟨by decide, by decide⟩) q_884 hta ⟨Nat.zero_le _, Nat.zero_le _⟩ (Nat.le_of_ble_eq_true rfl) dX10_moves_53 (fun v12 g13 => ?_)
            refine z_iincl (lv' := fun v14 => [(3, .int v14), (0, .ref a), (1, .int x1), (2, .int x2)]) F 3 rfl (by decide) (by decide) dX10_moves_56 (fun _ => rfl) (fun v14 => ?_)
            refine z_goto (tgt := 8) F dX10_moves_59 (by decide) ?_
            refine z_sub (lv' := [(0, .ref a), (1, .int x1), (2, .int x2), (3, .int v14)]) [1, 2, 3, 0] rfl ?_
            exact z_back (fun h => h)
          · refine z_iincl (lv' := fun v15 => [(3, .int v15), (0, .ref a), (1, .int x1), (2, .int x2)]) F 3 rfl (by decide) (by decide) dX10_moves_56 (fun _ => rfl) (fun v15 => ?_)
            refine z_goto (tgt := 8) F dX10_moves_59 (by decide) ?_
            refine z_sub (lv' := [(0, .ref a), (1, .int x1), (2, .int x2), (3, .int v15)]) [1, 2, 3, 0] rfl ?_
            exact z_back (fun h => h)
        · refine z_iincl (lv' := fun v16 => [(3, .int v16), (0, .ref a), (1, .int x1), (2, .int x2)]) F 3 rfl (by decide) (by decide) dX10_moves_56 (fun _ => rfl) (fun v16 => ?_)
          refine z_goto (tgt := 8) F dX10_moves_59 (by decide) ?_
          refine z_sub (lv' := [(0, .ref a), (1, .int x1), (2, .int x2), (3, .int v16)]) [1, 2, 3, 0] rfl ?_
          exact z_back (fun h => h)
    · show zSim (fun q : Int32 × zG => q = (r, g')) (j_X10_moves_62 a x1 x) (zAt E D (zA τ sz) (zQ E D zrI 0 0 sz τ τ r g') 4 (sz, τ, 0, 0) x 62 [(0, .ref a), (1, .int x1)] [])
      exact hj_X10_moves_62 x1 x
theorem k_X10_moves {ρ : Type} {K : ρ → Prop} {E : zE} {D : zD} {A : Nat → Prop} {Q : State → Prop} {nL : Nat} {κ : zC} {g : zG} {pc : Nat} {lv : List (Nat × Value)} {st : List Value} {cc : ByteArray} {own : String} {ret : Option FieldType} (F : zF E D A cc own nL ret) {index : Nat} {h : Int32 → zG → Option ρ} {a : Nat} {x1 : Int32} {x2 : Int32}  (hR : 1 + 1 ≤ E.2.2.2.1.frames ∧ 8 + (4 + 11) + 21 ≤ E.2.2.2.1.locals) (hl : zTbl (.methodLink own index yX10_moves)) (hta : κ.2.1 a = some (.inr 10)) (hc : κ.2.2.1 ≤ E.2.2.2.1.cells ∧ κ.2.2.2 ≤ E.2.2.2.1.slots) (hW : (st.map fun v => v.category).sum ≤ 8) (hd : decode cc pc = .ok (.invokevirtual index, 3)) (kk : ∀ r g', zSim K (h r g') (zAt E D A Q nL κ g' (pc + 3) lv (.int r :: st))) : zSim K (zb (f_X10_moves a x1 x2 g) h) (zAt E D A Q nL κ g pc lv (.int x2 :: .int x1 :: .ref a :: st)) :=
  z_callV F (n := 2) (As := [.int x1, .int x2]) (C := (RX10, TX10, 61)) ⟨q_1267, q_14, by decide +kernel, rfl, rfl, hR.1, hR.2⟩ (c_X10_moves E.2.1 D κ.1 κ.2.1 g a x1 x2 hta) hl q_1266 q_1415 hta rfl rfl rfl hc hW hd kk _ rfl
theorem dX10_toHole_0 : decode cX10_toHole 0 = .ok (.iconst 1, 1) := by decide +kernel
theorem dX10_toHole_1 : decode cX10_toHole 1 = .ok (.istore_n 2, 1) := by decide +kernel
theorem dX10_toHole_2 : decode cX10_toHole 2 = .ok (.iload_n 2, 1) := by decide +kernel
theorem dX10_toHole_3 : decode cX10_toHole 3 = .ok (.aload_n 0, 1) := by decide +kernel
theorem dX10_toHole_4 : decode cX10_toHole 4 = .ok (.getfield 13, 3) := by decide +kernel
theorem dX10_toHole_7 : decode cX10_toHole 7 = .ok (.bipush 7, 2) := by decide +kernel
theorem dX10_toHole_9 : decode cX10_toHole 9 = .ok (.iaload, 1) := by decide +kernel
theorem dX10_toHole_10 : decode cX10_toHole 10 = .ok (.if_icmp .gt 38, 3) := by decide +kernel
theorem dX10_toHole_13 : decode cX10_toHole 13 = .ok (.aload_n 0, 1) := by decide +kernel
theorem dX10_toHole_14 : decode cX10_toHole 14 = .ok (.getfield 16, 3) := by decide +kernel
theorem dX10_toHole_17 : decode cX10_toHole 17 = .ok (.aload_n 0, 1) := by decide +kernel
theorem dX10_toHole_18 : decode cX10_toHole 18 = .ok (.getfield 282, 3) := by decide +kernel
theorem dX10_toHole_21 : decode cX10_toHole 21 = .ok (.iload_n 2, 1) := by decide +kernel
theorem dX10_toHole_22 : decode cX10_toHole 22 = .ok (.iadd, 1) := by decide +kernel
theorem dX10_toHole_23 : decode cX10_toHole 23 = .ok (.aload_n 0, 1) := by decide +kernel
theorem dX10_toHole_24 : decode cX10_toHole 24 = .ok (.getfield 13, 3) := by decide +kernel
theorem dX10_toHole_27 : decode cX10_toHole 27 = .ok (.bipush 7, 2) := by decide +kernel
theorem dX10_toHole_29 : decode cX10_toHole 29 = .ok (.iaload, 1) := by decide +kernel
theorem dX10_toHole_30 : decode cX10_toHole 30 = .ok (.irem, 1) := by decide +kernel
theorem dX10_toHole_31 : decode cX10_toHole 31 = .ok (.iaload, 1) := by decide +kernel
theorem dX10_toHole_32 : decode cX10_toHole 32 = .ok (.iload_n 1, 1) := by decide +kernel
theorem dX10_toHole_33 : decode cX10_toHole 33 = .ok (.ishr, 1) := by decide +kernel
theorem dX10_toHole_34 : decode cX10_toHole 34 = .ok (.iconst 1, 1) := by decide +kernel
theorem dX10_toHole_35 : decode cX10_toHole 35 = .ok (.iand, 1) := by decide +kernel
theorem dX10_toHole_36 : decode cX10_toHole 36 = .ok (.iconst 1, 1) := by decide +kernel
theorem dX10_toHole_37 : decode cX10_toHole 37 = .ok (.if_icmp .ne 5, 3) := by decide +kernel
theorem dX10_toHole_40 : decode cX10_toHole 40 = .ok (.iload_n 2, 1) := by decide +kernel
theorem dX10_toHole_41 : decode cX10_toHole 41 = .ok (.ireturn, 1) := by decide +kernel
theorem dX10_toHole_42 : decode cX10_toHole 42 = .ok (.iinc 2 1, 3) := by decide +kernel
theorem dX10_toHole_45 : decode cX10_toHole 45 = .ok (.goto (-43), 3) := by decide +kernel
theorem dX10_toHole_48 : decode cX10_toHole 48 = .ok (.bipush (-4), 2) := by decide +kernel
theorem dX10_toHole_50 : decode cX10_toHole 50 = .ok (.ireturn, 1) := by decide +kernel
def j_X10_toHole_40 (a : Nat) (l2 : Int32) (g : zG) : Option (Int32 × zG) :=
  some ((l2, g))
def l_X10_toHole_2 (a : Nat) (l1 : Int32) (g : zG) (l2 : Int32) : Option ((Int32) ⊕ ((Int32) ⊕ (Int32 × zG))) :=
  zc (zin 7 8) (if (g.1 (g.2.1 a 2) (7 : Int32).toNatClampNeg) < l2 then (some (.inr (.inr ((-4), g)))) else (zc (zin 7 8) (zc (¬ (g.1 (g.2.1 a 2) (7 : Int32).toNatClampNeg) = 0) (zc (zin (zrem ((g.1 a 35) + l2) (g.1 (g.2.1 a 2) (7 : Int32).toNatClampNeg)) 60) (if ((zshr (g.1 (g.2.1 a 3) (zrem ((g.1 a 35) + l2) (g.1 (g.2.1 a 2) (7 : Int32).toNatClampNeg)).toNatClampNeg) l1) &&& 1) = 1 then (some (.inr (.inl l2))) else (zl (l2 + 1) (fun v6 => some (.inl v6))))))))
def f_X10_toHole (a : Nat) (x1 : Int32) (g : zG) : Option (Int32 × zG) :=
  zk2 (zw zN (fun s => l_X10_toHole_2 a x1 g s) 1) (fun x => j_X10_toHole_40 a x g)
abbrev rm_X10_toHole : Room := { frames := 0, cells := 0, slots := 0, locals := 0 }
set_option maxRecDepth 100000 in
set_option maxHeartbeats 4000000 in
theorem c_X10_toHole (l : Launch) (D : zD) (sz : Nat) (τ : zT) (g : zG) (a : Nat) (x1 : Int32) (hta : τ a = some (.inr 10)) : zCon l D yX10_toHole cX10_toHole 3 (some .int) rm_X10_toHole 0 0 zrI [.ref a, .int x1] sz τ g τ (f_X10_toHole a x1 g) := by
  refine zCon.of (by decide) (Nat.le_of_ble_eq_true rfl) (fun E r g' hl hR hsz hnm F => ?_)
  have F : zF E D (zA τ sz) cX10_toHole "TypeChainModel" 3 (some .int) := F
  show zSim (fun q : Int32 × zG => q = (r, g')) (f_X10_toHole a x1 g) (zAt E D (zA τ sz) (zQ E D zrI 0 0 sz τ τ r g') 3 (sz, τ, 0, 0) g 0 [(0, .ref a), (1, .int x1)] [])
  have hj_X10_toHole_40 : ∀ (l2_40 : Int32) (g_40 : zG), zSim (fun q : Int32 × zG => q = (r, g')) (j_X10_toHole_40 a l2_40 g_40) (zAt E D (zA τ sz) (zQ E D zrI 0 0 sz τ τ r g') 3 (sz, τ, 0, 0) g_40 40 [(2, .int l2_40)] []) := by
    intro l2_40 g_40
    unfold j_X10_toHole_40
    refine z_iload_n F 0 rfl rfl dX10_toHole_40 ?_
    exact z_ireturn F rfl rfl rfl rfl (fun h => h) dX10_toHole_41
  unfold f_X10_toHole
  refine z_iconst (v := 1) F (by decide) dX10_toHole_0 ?_
  refine z_istore_n (lv' := [(2, .int 1), (0, .ref a), (1, .int x1)]) F rfl (by decide) dX10_toHole_1 rfl ?_
  refine z_sub (lv' := [(0, .ref a), (1, .int x1), (2, .int 1)]) [1, 2, 0] rfl ?_
  refine z_loop2 (P := fun s : Int32 => zAt E D (zA τ sz) (zQ E D zrI 0 0 sz τ τ r g') 3 (sz, τ, 0, 0) g 2 [(0, .ref a), (1, .int x1), (2, .int s)] []) (Px := fun x : Int32 => zAt E D (zA τ sz) (zQ E D zrI 0 0 sz τ τ r g') 3 (sz, τ, 0, 0) g 40 [(2, .int x)] []) 1 (fun s => ?_) (fun x => ?_)
  · generalize s = l2_2
    show zSim (zKl (fun s : Int32 => zAt E D (zA τ sz) (zQ E D zrI 0 0 sz τ τ r g') 3 (sz, τ, 0, 0) g 2 [(0, .ref a), (1, .int x1), (2, .int s)] []) (zKl (fun x : Int32 => zAt E D (zA τ sz) (zQ E D zrI 0 0 sz τ τ r g') 3 (sz, τ, 0, 0) g 40 [(2, .int x)] []) (fun q : Int32 × zG => q = (r, g')))) (l_X10_toHole_2 a x1 g l2_2) (zAt E D (zA τ sz) (zQ E D zrI 0 0 sz τ τ r g') 3 (sz, τ, 0, 0) g 2 [(0, .ref a), (1, .int x1), (2, .int l2_2)] [])
    unfold l_X10_toHole_2
    refine z_iload_n F 2 rfl rfl dX10_toHole_2 ?_
    refine z_aload_n F 0 rfl rfl dX10_toHole_3 ?_
    refine gf_X10_13 F hta dX10_toHole_4 (fun ht1 => ?_)
    refine z_bipush (v := 7) F (by decide) dX10_toHole_7 ?_
    refine z_iald F ht1 dX10_toHole_9 ?_
    refine z_icmp_gt (tgt := 48) F dX10_toHole_10 (by decide) (fun c2 => ?_) (fun c2 => ?_)
    · refine z_bipush (v := (-4)) F (by decide) dX10_toHole_48 ?_
      exact z_ireturn F rfl rfl rfl rfl (fun h => h) dX10_toHole_50
    · refine z_aload_n F 0 rfl rfl dX10_toHole_13 ?_
      refine gf_X10_16 F hta dX10_toHole_14 (fun ht3 => ?_)
      refine z_aload_n F 0 rfl rfl dX10_toHole_17 ?_
      refine gf_X10_282 F hta dX10_toHole_18 ?_
      refine z_iload_n F 2 rfl rfl dX10_toHole_21 ?_
      refine z_iadd F dX10_toHole_22 ?_
      refine z_aload_n F 0 rfl rfl dX10_toHole_23 ?_
      refine gf_X10_13 F hta dX10_toHole_24 (fun ht4 => ?_)
      refine z_bipush (v := 7) F (by decide) dX10_toHole_27 ?_
      refine z_iald F ht4 dX10_toHole_29 ?_
      refine z_irem F dX10_toHole_30 ?_
      refine z_iald F ht3 dX10_toHole_31 ?_
      refine z_iload_n F 1 rfl rfl dX10_toHole_32 ?_
      refine z_ishr F dX10_toHole_33 ?_
      refine z_iconst (v := 1) F (by decide) dX10_toHole_34 ?_
      refine z_iand F dX10_toHole_35 ?_
      refine z_iconst (v := 1) F (by decide) dX10_toHole_36 ?_
      refine z_icmp_ne (tgt := 42) F dX10_toHole_37 (by decide) (fun c5 => ?_) (fun c5 => ?_)
      · refine z_sub (lv' := [(2, .int l2_2)]) [2] rfl ?_
        exact z_back (fun h => h)
      · refine z_iincl (lv' := fun v6 => [(2, .int v6), (0, .ref a), (1, .int x1)]) F 2 rfl (by decide) (by decide) dX10_toHole_42 (fun _ => rfl) (fun v6 => ?_)
        refine z_goto (tgt := 2) F dX10_toHole_45 (by decide) ?_
        refine z_sub (lv' := [(0, .ref a), (1, .int x1), (2, .int v6)]) [1, 2, 0] rfl ?_
        exact z_back (fun h => h)
  · show zSim (fun q : Int32 × zG => q = (r, g')) (j_X10_toHole_40 a x g) (zAt E D (zA τ sz) (zQ E D zrI 0 0 sz τ τ r g') 3 (sz, τ, 0, 0) g 40 [(2, .int x)] [])
    exact hj_X10_toHole_40 x g
theorem k_X10_toHole {ρ : Type} {K : ρ → Prop} {E : zE} {D : zD} {A : Nat → Prop} {Q : State → Prop} {nL : Nat} {κ : zC} {g : zG} {pc : Nat} {lv : List (Nat × Value)} {st : List Value} {cc : ByteArray} {own : String} {ret : Option FieldType} (F : zF E D A cc own nL ret) {index : Nat} {h : Int32 → zG → Option ρ} {a : Nat} {x1 : Int32}  (hR : 0 + 1 ≤ E.2.2.2.1.frames ∧ 8 + (3 + 11) + 0 ≤ E.2.2.2.1.locals) (hl : zTbl (.methodLink own index yX10_toHole)) (hta : κ.2.1 a = some (.inr 10)) (hc : κ.2.2.1 ≤ E.2.2.2.1.cells ∧ κ.2.2.2 ≤ E.2.2.2.1.slots) (hW : (st.map fun v => v.category).sum ≤ 8) (hd : decode cc pc = .ok (.invokevirtual index, 3)) (kk : ∀ r g', zSim K (h r g') (zAt E D A Q nL κ g' (pc + 3) lv (.int r :: st))) : zSim K (zb (f_X10_toHole a x1 g) h) (zAt E D A Q nL κ g pc lv (.int x1 :: .ref a :: st)) :=
  z_callV F (n := 1) (As := [.int x1]) (C := (RX10, TX10, 61)) ⟨q_1276, q_14, by decide +kernel, rfl, rfl, hR.1, hR.2⟩ (c_X10_toHole E.2.1 D κ.1 κ.2.1 g a x1 hta) hl q_1275 q_1416 hta rfl rfl rfl hc hW hd kk _ rfl
theorem dX10_space_0 : decode cX10_space 0 = .ok (.iload_n 1, 1) := by decide +kernel
theorem dX10_space_1 : decode cX10_space 1 = .ok (.i2l, 1) := by decide +kernel
theorem dX10_space_2 : decode cX10_space 2 = .ok (.lconst 0, 1) := by decide +kernel
theorem dX10_space_3 : decode cX10_space 3 = .ok (.ldc2_w 312, 3) := by decide +kernel
theorem dX10_space_6 : decode cX10_space 6 = .ok (.invokestatic 165, 3) := by decide +kernel
theorem dX10_space_9 : decode cX10_space 9 = .ok (.ifCond .eq 12, 3) := by decide +kernel
theorem dX10_space_12 : decode cX10_space 12 = .ok (.aload_n 0, 1) := by decide +kernel
theorem dX10_space_13 : decode cX10_space 13 = .ok (.iload_n 1, 1) := by decide +kernel
theorem dX10_space_14 : decode cX10_space 14 = .ok (.iconst 0, 1) := by decide +kernel
theorem dX10_space_15 : decode cX10_space 15 = .ok (.invokevirtual 314, 3) := by decide +kernel
theorem dX10_space_18 : decode cX10_space 18 = .ok (.goto 4, 3) := by decide +kernel
theorem dX10_space_21 : decode cX10_space 21 = .ok (.iconst (-1), 1) := by decide +kernel
theorem dX10_space_22 : decode cX10_space 22 = .ok (.ireturn, 1) := by decide +kernel
def f_X10_space (a : Nat) (x1 : Int32) (g : zG) : Option (Int32 × zG) :=
  zb (f_X10_in x1.toInt64 0 9 g) (fun v1 g2 => if v1 = 0 then (some (((-1), g2))) else (zb (f_X10_moves a x1 0 g2) (fun v4 g5 => some ((v4, g5)))))
abbrev rm_X10_space : Room := { frames := 2, cells := 0, slots := 0, locals := 44 }
set_option maxRecDepth 100000 in
set_option maxHeartbeats 4000000 in
theorem c_X10_space (l : Launch) (D : zD) (sz : Nat) (τ : zT) (g : zG) (a : Nat) (x1 : Int32) (hta : τ a = some (.inr 10)) : zCon l D yX10_space cX10_space 2 (some .int) rm_X10_space 0 0 zrI [.ref a, .int x1] sz τ g τ (f_X10_space a x1 g) := by
  refine zCon.of (by decide) (Nat.le_of_ble_eq_true rfl) (fun E r g' hl hR hsz hnm F => ?_)
  have F : zF E D (zA τ sz) cX10_space "TypeChainModel" 2 (some .int) := F
  show zSim (fun q : Int32 × zG => q = (r, g')) (f_X10_space a x1 g) (zAt E D (zA τ sz) (zQ E D zrI 0 0 sz τ τ r g') 2 (sz, τ, 0, 0) g 0 [(0, .ref a), (1, .int x1)] [])
  unfold f_X10_space
  refine z_iload_n F 1 rfl rfl dX10_space_0 ?_
  refine z_i2l F dX10_space_1 ?_
  refine z_lconst (v := 0) F (by decide) dX10_space_2 ?_
  refine z_ldc2 F q_1263 dX10_space_3 ?_
  refine k_X10_in F (by rw [hR]; exact ⟨by decide, by decide⟩) q_1082  ⟨Nat.zero_le _, Nat.zero_le _⟩ (Nat.le_of_ble_eq_true rfl) dX10_space_6 (fun v1 g2 => ?_)
  refine z_if_eq (tgt := 21) F dX10_space_9 (by decide) (fun c3 => ?_) (fun c3 => ?_)
  · refine z_iconst (v := (-1)) F (by decide) dX10_space_21 ?_
    exact z_ireturn F rfl rfl rfl rfl (fun h => h) dX10_space_22
  · refine z_aload_n F 0 rfl rfl dX10_space_12 ?_
    refine z_iload_n F 1 rfl rfl dX10_space_13 ?_
    refine z_iconst (v := 0) F (by decide) dX10_space_14 ?_
    refine k_X10_moves F (by rw [hR]; exact ⟨by decide, by decide⟩) q_1264 hta ⟨Nat.zero_le _, Nat.zero_le _⟩ (Nat.le_of_ble_eq_true rfl) dX10_space_15 (fun v4 g5 => ?_)
    refine z_goto (tgt := 22) F dX10_space_18 (by decide) ?_
    exact z_ireturn F rfl rfl rfl rfl (fun h => h) dX10_space_22
theorem k_X10_space {ρ : Type} {K : ρ → Prop} {E : zE} {D : zD} {A : Nat → Prop} {Q : State → Prop} {nL : Nat} {κ : zC} {g : zG} {pc : Nat} {lv : List (Nat × Value)} {st : List Value} {cc : ByteArray} {own : String} {ret : Option FieldType} (F : zF E D A cc own nL ret) {index : Nat} {h : Int32 → zG → Option ρ} {a : Nat} {x1 : Int32}  (hR : 2 + 1 ≤ E.2.2.2.1.frames ∧ 8 + (2 + 11) + 44 ≤ E.2.2.2.1.locals) (hl : zTbl (.methodLink own index yX10_space)) (hta : κ.2.1 a = some (.inr 10)) (hc : κ.2.2.1 ≤ E.2.2.2.1.cells ∧ κ.2.2.2 ≤ E.2.2.2.1.slots) (hW : (st.map fun v => v.category).sum ≤ 8) (hd : decode cc pc = .ok (.invokevirtual index, 3)) (kk : ∀ r g', zSim K (h r g') (zAt E D A Q nL κ g' (pc + 3) lv (.int r :: st))) : zSim K (zb (f_X10_space a x1 g) h) (zAt E D A Q nL κ g pc lv (.int x1 :: .ref a :: st)) :=
  z_callV F (n := 1) (As := [.int x1]) (C := (RX10, TX10, 61)) ⟨q_1262, q_14, by decide +kernel, rfl, rfl, hR.1, hR.2⟩ (c_X10_space E.2.1 D κ.1 κ.2.1 g a x1 hta) hl q_1260 q_1261 hta rfl rfl rfl hc hW hd kk _ rfl
theorem dX10_skip_0 : decode cX10_skip 0 = .ok (.iload_n 1, 1) := by decide +kernel
theorem dX10_skip_1 : decode cX10_skip 1 = .ok (.i2l, 1) := by decide +kernel
theorem dX10_skip_2 : decode cX10_skip 2 = .ok (.lconst 0, 1) := by decide +kernel
theorem dX10_skip_3 : decode cX10_skip 3 = .ok (.ldc2_w 318, 3) := by decide +kernel
theorem dX10_skip_6 : decode cX10_skip 6 = .ok (.invokestatic 165, 3) := by decide +kernel
theorem dX10_skip_9 : decode cX10_skip 9 = .ok (.ifCond .ne 5, 3) := by decide +kernel
theorem dX10_skip_12 : decode cX10_skip 12 = .ok (.iconst (-1), 1) := by decide +kernel
theorem dX10_skip_13 : decode cX10_skip 13 = .ok (.ireturn, 1) := by decide +kernel
theorem dX10_skip_14 : decode cX10_skip 14 = .ok (.aload_n 0, 1) := by decide +kernel
theorem dX10_skip_15 : decode cX10_skip 15 = .ok (.iload_n 1, 1) := by decide +kernel
theorem dX10_skip_16 : decode cX10_skip 16 = .ok (.invokevirtual 320, 3) := by decide +kernel
theorem dX10_skip_19 : decode cX10_skip 19 = .ok (.istore_n 2, 1) := by decide +kernel
theorem dX10_skip_20 : decode cX10_skip 20 = .ok (.iload_n 2, 1) := by decide +kernel
theorem dX10_skip_21 : decode cX10_skip 21 = .ok (.bipush (-4), 2) := by decide +kernel
theorem dX10_skip_23 : decode cX10_skip 23 = .ok (.if_icmp .ne 8, 3) := by decide +kernel
theorem dX10_skip_26 : decode cX10_skip 26 = .ok (.bipush (-4), 2) := by decide +kernel
theorem dX10_skip_28 : decode cX10_skip 28 = .ok (.goto 9, 3) := by decide +kernel
theorem dX10_skip_31 : decode cX10_skip 31 = .ok (.aload_n 0, 1) := by decide +kernel
theorem dX10_skip_32 : decode cX10_skip 32 = .ok (.iload_n 2, 1) := by decide +kernel
theorem dX10_skip_33 : decode cX10_skip 33 = .ok (.iconst 0, 1) := by decide +kernel
theorem dX10_skip_34 : decode cX10_skip 34 = .ok (.invokevirtual 314, 3) := by decide +kernel
theorem dX10_skip_37 : decode cX10_skip 37 = .ok (.ireturn, 1) := by decide +kernel
def f_X10_skip (a : Nat) (x1 : Int32) (g : zG) : Option (Int32 × zG) :=
  zb (f_X10_in x1.toInt64 0 7 g) (fun v1 g2 => if v1 = 0 then (some (((-1), g2))) else (zb (f_X10_toHole a x1 g2) (fun v4 g5 => if v4 = (-4) then (some (((-4), g5))) else (zb (f_X10_moves a v4 0 g5) (fun v7 g8 => some ((v7, g8)))))))
abbrev rm_X10_skip : Room := { frames := 2, cells := 0, slots := 0, locals := 44 }
set_option maxRecDepth 100000 in
set_option maxHeartbeats 4000000 in
theorem c_X10_skip (l : Launch) (D : zD) (sz : Nat) (τ : zT) (g : zG) (a : Nat) (x1 : Int32) (hta : τ a = some (.inr 10)) : zCon l D yX10_skip cX10_skip 3 (some .int) rm_X10_skip 0 0 zrI [.ref a, .int x1] sz τ g τ (f_X10_skip a x1 g) := by
  refine zCon.of (by decide) (Nat.le_of_ble_eq_true rfl) (fun E r g' hl hR hsz hnm F => ?_)
  have F : zF E D (zA τ sz) cX10_skip "TypeChainModel" 3 (some .int) := F
  show zSim (fun q : Int32 × zG => q = (r, g')) (f_X10_skip a x1 g) (zAt E D (zA τ sz) (zQ E D zrI 0 0 sz τ τ r g') 3 (sz, τ, 0, 0) g 0 [(0, .ref a), (1, .int x1)] [])
  unfold f_X10_skip
  refine z_iload_n F 1 rfl rfl dX10_skip_0 ?_
  refine z_i2l F dX10_skip_1 ?_
  refine z_lconst (v := 0) F (by decide) dX10_skip_2 ?_
  refine z_ldc2 F q_1272 dX10_skip_3 ?_
  refine k_X10_in F (by rw [hR]; exact ⟨by decide, by decide⟩) q_1082  ⟨Nat.zero_le _, Nat.zero_le _⟩ (Nat.le_of_ble_eq_true rfl) dX10_skip_6 (fun v1 g2 => ?_)
  refine z_if_ne (tgt := 14) F dX10_skip_9 (by decide) (fun c3 => ?_) (fun c3 => ?_)
  · refine z_iconst (v := (-1)) F (by decide) dX10_skip_12 ?_
    exact z_ireturn F rfl rfl rfl rfl (fun h => h) dX10_skip_13
  · refine z_aload_n F 0 rfl rfl dX10_skip_14 ?_
    refine z_iload_n F 1 rfl rfl dX10_skip_15 ?_
    refine k_X10_toHole F (by rw [hR]; exact ⟨by decide, by decide⟩) q_1273 hta ⟨Nat.zero_le _, Nat.zero_le _⟩ (Nat.le_of_ble_eq_true rfl) dX10_skip_16 (fun v4 g5 => ?_)
    refine z_istore_n (lv' := [(2, .int v4), (0, .ref a), (1, .int x1)]) F rfl (by decide) dX10_skip_19 rfl ?_
    refine z_iload_n F 0 rfl rfl dX10_skip_20 ?_
    refine z_bipush (v := (-4)) F (by decide) dX10_skip_21 ?_
    refine z_icmp_ne (tgt := 31) F dX10_skip_23 (by decide) (fun c6 => ?_) (fun c6 => ?_)
    · refine z_bipush (v := (-4)) F (by decide) dX10_skip_26 ?_
      refine z_goto (tgt := 37) F dX10_skip_28 (by decide) ?_
      exact z_ireturn F rfl rfl rfl rfl (fun h => h) dX10_skip_37
    · refine z_aload_n F 1 rfl rfl dX10_skip_31 ?_
      refine z_iload_n F 0 rfl rfl dX10_skip_32 ?_
      refine z_iconst (v := 0) F (by decide) dX10_skip_33 ?_
      refine k_X10_moves F (by rw [hR]; exact ⟨by decide, by decide⟩) q_1264 hta ⟨Nat.zero_le _, Nat.zero_le _⟩ (Nat.le_of_ble_eq_true rfl) dX10_skip_34 (fun v7 g8 => ?_)
      exact z_ireturn F rfl rfl rfl rfl (fun h => h) dX10_skip_37
theorem k_X10_skip {ρ : Type} {K : ρ → Prop} {E : zE} {D : zD} {A : Nat → Prop} {Q : State → Prop} {nL : Nat} {κ : zC} {g : zG} {pc : Nat} {lv : List (Nat × Value)} {st : List Value} {cc : ByteArray} {own : String} {ret : Option FieldType} (F : zF E D A cc own nL ret) {index : Nat} {h : Int32 → zG → Option ρ} {a : Nat} {x1 : Int32}  (hR : 2 + 1 ≤ E.2.2.2.1.frames ∧ 8 + (3 + 11) + 44 ≤ E.2.2.2.1.locals) (hl : zTbl (.methodLink own index yX10_skip)) (hta : κ.2.1 a = some (.inr 10)) (hc : κ.2.2.1 ≤ E.2.2.2.1.cells ∧ κ.2.2.2 ≤ E.2.2.2.1.slots) (hW : (st.map fun v => v.category).sum ≤ 8) (hd : decode cc pc = .ok (.invokevirtual index, 3)) (kk : ∀ r g', zSim K (h r g') (zAt E D A Q nL κ g' (pc + 3) lv (.int r :: st))) : zSim K (zb (f_X10_skip a x1 g) h) (zAt E D A Q nL κ g pc lv (.int x1 :: .ref a :: st)) :=
  z_callV F (n := 1) (As := [.int x1]) (C := (RX10, TX10, 61)) ⟨q_1271, q_14, by decide +kernel, rfl, rfl, hR.1, hR.2⟩ (c_X10_skip E.2.1 D κ.1 κ.2.1 g a x1 hta) hl q_1269 q_1270 hta rfl rfl rfl hc hW hd kk _ rfl
theorem dX10_now_0 : decode cX10_now 0 = .ok (.iconst 0, 1) := by decide +kernel
theorem dX10_now_1 : decode cX10_now 1 = .ok (.istore_n 2, 1) := by decide +kernel
theorem dX10_now_2 : decode cX10_now 2 = .ok (.iconst 0, 1) := by decide +kernel
theorem dX10_now_3 : decode cX10_now 3 = .ok (.istore_n 3, 1) := by decide +kernel
theorem dX10_now_4 : decode cX10_now 4 = .ok (.iconst 0, 1) := by decide +kernel
theorem dX10_now_5 : decode cX10_now 5 = .ok (.istore 4, 2) := by decide +kernel
theorem dX10_now_7 : decode cX10_now 7 = .ok (.iload 4, 2) := by decide +kernel
theorem dX10_now_9 : decode cX10_now 9 = .ok (.sipush 2400, 3) := by decide +kernel
theorem dX10_now_12 : decode cX10_now 12 = .ok (.if_icmp .ge 46, 3) := by decide +kernel
theorem dX10_now_15 : decode cX10_now 15 = .ok (.iload_n 2, 1) := by decide +kernel
theorem dX10_now_16 : decode cX10_now 16 = .ok (.aload_n 0, 1) := by decide +kernel
theorem dX10_now_17 : decode cX10_now 17 = .ok (.getfield 74, 3) := by decide +kernel
theorem dX10_now_20 : decode cX10_now 20 = .ok (.iload 4, 2) := by decide +kernel
theorem dX10_now_22 : decode cX10_now 22 = .ok (.iaload, 1) := by decide +kernel
theorem dX10_now_23 : decode cX10_now 23 = .ok (.ifCond .eq 7, 3) := by decide +kernel
theorem dX10_now_26 : decode cX10_now 26 = .ok (.iconst 1, 1) := by decide +kernel
theorem dX10_now_27 : decode cX10_now 27 = .ok (.goto 4, 3) := by decide +kernel
theorem dX10_now_30 : decode cX10_now 30 = .ok (.iconst 0, 1) := by decide +kernel
theorem dX10_now_31 : decode cX10_now 31 = .ok (.iadd, 1) := by decide +kernel
theorem dX10_now_32 : decode cX10_now 32 = .ok (.istore_n 2, 1) := by decide +kernel
theorem dX10_now_33 : decode cX10_now 33 = .ok (.iload_n 3, 1) := by decide +kernel
theorem dX10_now_34 : decode cX10_now 34 = .ok (.aload_n 0, 1) := by decide +kernel
theorem dX10_now_35 : decode cX10_now 35 = .ok (.getfield 77, 3) := by decide +kernel
theorem dX10_now_38 : decode cX10_now 38 = .ok (.iload 4, 2) := by decide +kernel
theorem dX10_now_40 : decode cX10_now 40 = .ok (.iaload, 1) := by decide +kernel
theorem dX10_now_41 : decode cX10_now 41 = .ok (.iconst 1, 1) := by decide +kernel
theorem dX10_now_42 : decode cX10_now 42 = .ok (.if_icmp .le 7, 3) := by decide +kernel
theorem dX10_now_45 : decode cX10_now 45 = .ok (.iconst 1, 1) := by decide +kernel
theorem dX10_now_46 : decode cX10_now 46 = .ok (.goto 4, 3) := by decide +kernel
theorem dX10_now_49 : decode cX10_now 49 = .ok (.iconst 0, 1) := by decide +kernel
theorem dX10_now_50 : decode cX10_now 50 = .ok (.iadd, 1) := by decide +kernel
theorem dX10_now_51 : decode cX10_now 51 = .ok (.istore_n 3, 1) := by decide +kernel
theorem dX10_now_52 : decode cX10_now 52 = .ok (.iinc 4 1, 3) := by decide +kernel
theorem dX10_now_55 : decode cX10_now 55 = .ok (.goto (-48), 3) := by decide +kernel
theorem dX10_now_58 : decode cX10_now 58 = .ok (.iload_n 1, 1) := by decide +kernel
theorem dX10_now_59 : decode cX10_now 59 = .ok (.ifCond .ne 10, 3) := by decide +kernel
theorem dX10_now_62 : decode cX10_now 62 = .ok (.aload_n 0, 1) := by decide +kernel
theorem dX10_now_63 : decode cX10_now 63 = .ok (.getfield 279, 3) := by decide +kernel
theorem dX10_now_66 : decode cX10_now 66 = .ok (.goto 46, 3) := by decide +kernel
theorem dX10_now_69 : decode cX10_now 69 = .ok (.iload_n 1, 1) := by decide +kernel
theorem dX10_now_70 : decode cX10_now 70 = .ok (.iconst 1, 1) := by decide +kernel
theorem dX10_now_71 : decode cX10_now 71 = .ok (.if_icmp .ne 10, 3) := by decide +kernel
theorem dX10_now_74 : decode cX10_now 74 = .ok (.aload_n 0, 1) := by decide +kernel
theorem dX10_now_75 : decode cX10_now 75 = .ok (.getfield 282, 3) := by decide +kernel
theorem dX10_now_78 : decode cX10_now 78 = .ok (.goto 34, 3) := by decide +kernel
theorem dX10_now_81 : decode cX10_now 81 = .ok (.iload_n 1, 1) := by decide +kernel
theorem dX10_now_82 : decode cX10_now 82 = .ok (.iconst 2, 1) := by decide +kernel
theorem dX10_now_83 : decode cX10_now 83 = .ok (.if_icmp .ne 10, 3) := by decide +kernel
theorem dX10_now_86 : decode cX10_now 86 = .ok (.aload_n 0, 1) := by decide +kernel
theorem dX10_now_87 : decode cX10_now 87 = .ok (.getfield 154, 3) := by decide +kernel
theorem dX10_now_90 : decode cX10_now 90 = .ok (.goto 22, 3) := by decide +kernel
theorem dX10_now_93 : decode cX10_now 93 = .ok (.iload_n 1, 1) := by decide +kernel
theorem dX10_now_94 : decode cX10_now 94 = .ok (.iconst 3, 1) := by decide +kernel
theorem dX10_now_95 : decode cX10_now 95 = .ok (.if_icmp .ne 7, 3) := by decide +kernel
theorem dX10_now_98 : decode cX10_now 98 = .ok (.iload_n 2, 1) := by decide +kernel
theorem dX10_now_99 : decode cX10_now 99 = .ok (.goto 13, 3) := by decide +kernel
theorem dX10_now_102 : decode cX10_now 102 = .ok (.iload_n 1, 1) := by decide +kernel
theorem dX10_now_103 : decode cX10_now 103 = .ok (.iconst 4, 1) := by decide +kernel
theorem dX10_now_104 : decode cX10_now 104 = .ok (.if_icmp .ne 7, 3) := by decide +kernel
theorem dX10_now_107 : decode cX10_now 107 = .ok (.iload_n 3, 1) := by decide +kernel
theorem dX10_now_108 : decode cX10_now 108 = .ok (.goto 4, 3) := by decide +kernel
theorem dX10_now_111 : decode cX10_now 111 = .ok (.iconst (-1), 1) := by decide +kernel
theorem dX10_now_112 : decode cX10_now 112 = .ok (.ireturn, 1) := by decide +kernel
def j_X10_now_58 (a : Nat) (l1 : Int32) (l2 : Int32) (l3 : Int32) (g : zG) : Option (Int32 × zG) :=
  if l1 = 0 then (some ((g.1 a 34, g))) else (if l1 = 1 then (some ((g.1 a 35, g))) else (if l1 = 2 then (some ((g.1 a 36, g))) else (if l1 = 3 then (some ((l2, g))) else (if l1 = 4 then (some ((l3, g))) else (some (((-1), g)))))))
def j_X10_now_31_7 (a : Nat) (l1 : Int32) (l3 : Int32) (l4 : Int32) (s0 : Int32) (s1 : Int32) (g : zG) : Option ((Int32 × Int32 × Int32) ⊕ (Int32 × Int32)) :=
  zl (s0 + s1) (fun v6 => zc (zin l4 2400) (if (g.1 (g.2.1 a 39) l4.toNatClampNeg) ≤ 1 then (zl (l3 + 0) (fun v9 => zl (l4 + 1) (fun v10 => some (.inl (v6, v9, v10))))) else (zl (l3 + 1) (fun v11 => zl (l4 + 1) (fun v12 => some (.inl (v6, v11, v12)))))))
def l_X10_now_7 (a : Nat) (l1 : Int32) (g : zG) (l2 : Int32) (l3 : Int32) (l4 : Int32) : Option ((Int32 × Int32 × Int32) ⊕ (Int32 × Int32)) :=
  if 2400 ≤ l4 then (some (.inr (l2, l3))) else (zc (zin l4 2400) (if (g.1 (g.2.1 a 38) l4.toNatClampNeg) = 0 then (j_X10_now_31_7 a l1 l3 l4 l2 0 g) else (j_X10_now_31_7 a l1 l3 l4 l2 1 g)))
def f_X10_now (a : Nat) (x1 : Int32) (g : zG) : Option (Int32 × zG) :=
  zk (zw zN (fun s => l_X10_now_7 a x1 g s.1 s.2.1 s.2.2) (0, 0, 0)) (fun x => j_X10_now_58 a x1 x.1 x.2 g)
abbrev rm_X10_now : Room := { frames := 0, cells := 0, slots := 0, locals := 0 }
set_option maxRecDepth 100000 in
set_option maxHeartbeats 4000000 in
theorem c_X10_now (l : Launch) (D : zD) (sz : Nat) (τ : zT) (g : zG) (a : Nat) (x1 : Int32) (hta : τ a = some (.inr 10)) : zCon l D yX10_now cX10_now 5 (some .int) rm_X10_now 0 0 zrI [.ref a, .int x1] sz τ g τ (f_X10_now a x1 g) := by
  refine zCon.of (by decide) (Nat.le_of_ble_eq_true rfl) (fun E r g' hl hR hsz hnm F => ?_)
  have F : zF E D (zA τ sz) cX10_now "TypeChainModel" 5 (some .int) := F
  show zSim (fun q : Int32 × zG => q = (r, g')) (f_X10_now a x1 g) (zAt E D (zA τ sz) (zQ E D zrI 0 0 sz τ τ r g') 5 (sz, τ, 0, 0) g 0 [(0, .ref a), (1, .int x1)] [])
  have hj_X10_now_58 : ∀ (l1_58 : Int32) (l2_58 : Int32) (l3_58 : Int32) (g_58 : zG), zSim (fun q : Int32 × zG => q = (r, g')) (j_X10_now_58 a l1_58 l2_58 l3_58 g_58) (zAt E D (zA τ sz) (zQ E D zrI 0 0 sz τ τ r g') 5 (sz, τ, 0, 0) g_58 58 [(0, .ref a), (1, .int l1_58), (2, .int l2_58), (3, .int l3_58)] []) := by
    intro l1_58 l2_58 l3_58 g_58
    unfold j_X10_now_58
    refine z_iload_n F 1 rfl rfl dX10_now_58 ?_
    refine z_if_ne (tgt := 69) F dX10_now_59 (by decide) (fun c1 => ?_) (fun c1 => ?_)
    · refine z_aload_n F 0 rfl rfl dX10_now_62 ?_
      refine gf_X10_279 F hta dX10_now_63 ?_
      refine z_goto (tgt := 112) F dX10_now_66 (by decide) ?_
      exact z_ireturn F rfl rfl rfl rfl (fun h => h) dX10_now_112
    · refine z_iload_n F 1 rfl rfl dX10_now_69 ?_
      refine z_iconst (v := 1) F (by decide) dX10_now_70 ?_
      refine z_icmp_ne (tgt := 81) F dX10_now_71 (by decide) (fun c2 => ?_) (fun c2 => ?_)
      · refine z_aload_n F 0 rfl rfl dX10_now_74 ?_
        refine gf_X10_282 F hta dX10_now_75 ?_
        refine z_goto (tgt := 112) F dX10_now_78 (by decide) ?_
        exact z_ireturn F rfl rfl rfl rfl (fun h => h) dX10_now_112
      · refine z_iload_n F 1 rfl rfl dX10_now_81 ?_
        refine z_iconst (v := 2) F (by decide) dX10_now_82 ?_
        refine z_icmp_ne (tgt := 93) F dX10_now_83 (by decide) (fun c3 => ?_) (fun c3 => ?_)
        · refine z_aload_n F 0 rfl rfl dX10_now_86 ?_
          refine gf_X10_154 F hta dX10_now_87 ?_
          refine z_goto (tgt := 112) F dX10_now_90 (by decide) ?_
          exact z_ireturn F rfl rfl rfl rfl (fun h => h) dX10_now_112
        · refine z_iload_n F 1 rfl rfl dX10_now_93 ?_
          refine z_iconst (v := 3) F (by decide) dX10_now_94 ?_
          refine z_icmp_ne (tgt := 102) F dX10_now_95 (by decide) (fun c4 => ?_) (fun c4 => ?_)
          · refine z_iload_n F 2 rfl rfl dX10_now_98 ?_
            refine z_goto (tgt := 112) F dX10_now_99 (by decide) ?_
            exact z_ireturn F rfl rfl rfl rfl (fun h => h) dX10_now_112
          · refine z_iload_n F 1 rfl rfl dX10_now_102 ?_
            refine z_iconst (v := 4) F (by decide) dX10_now_103 ?_
            refine z_icmp_ne (tgt := 111) F dX10_now_104 (by decide) (fun c5 => ?_) (fun c5 => ?_)
            · refine z_iload_n F 3 rfl rfl dX10_now_107 ?_
              refine z_goto (tgt := 112) F dX10_now_108 (by decide) ?_
              exact z_ireturn F rfl rfl rfl rfl (fun h => h) dX10_now_112
            · refine z_iconst (v := (-1)) F (by decide) dX10_now_111 ?_
              exact z_ireturn F rfl rfl rfl rfl (fun h => h) dX10_now_112
  unfold f_X10_now
  refine z_iconst (v := 0) F (by decide) dX10_now_0 ?_
  refine z_istore_n (lv' := [(2, .int 0), (0, .ref a), (1, .int x1)]) F rfl (by decide) dX10_now_1 rfl ?_
  refine z_iconst (v := 0) F (by decide) dX10_now_2 ?_
  refine z_istore_n (lv' := [(3, .int 0), (2, .int 0), (0, .ref a), (1, .int x1)]) F rfl (by decide) dX10_now_3 rfl ?_
  refine z_iconst (v := 0) F (by decide) dX10_now_4 ?_
  refine z_istore (lv' := [(4, .int 0), (3, .int 0), (2, .int 0), (0, .ref a), (1, .int x1)]) F (by decide) dX10_now_5 rfl ?_
  refine z_sub (lv' := [(0, .ref a), (1, .int x1), (2, .int 0), (3, .int 0), (4, .int 0)]) [3, 4, 2, 1, 0] rfl ?_
  refine z_loop (P := fun s : Int32 × Int32 × Int32 => zAt E D (zA τ sz) (zQ E D zrI 0 0 sz τ τ r g') 5 (sz, τ, 0, 0) g 7 [(0, .ref a), (1, .int x1), (2, .int s.1), (3, .int s.2.1), (4, .int s.2.2)] []) (Px := fun x : Int32 × Int32 => zAt E D (zA τ sz) (zQ E D zrI 0 0 sz τ τ r g') 5 (sz, τ, 0, 0) g 58 [(0, .ref a), (1, .int x1), (2, .int x.1), (3, .int x.2)] []) (0, 0, 0) (fun s => ?_) (fun x => ?_)
  · obtain ⟨l2_7, l3_7, l4_7⟩ := s
    show zSim (zKl (fun s : Int32 × Int32 × Int32 => zAt E D (zA τ sz) (zQ E D zrI 0 0 sz τ τ r g') 5 (sz, τ, 0, 0) g 7 [(0, .ref a), (1, .int x1), (2, .int s.1), (3, .int s.2.1), (4, .int s.2.2)] []) (fun x : Int32 × Int32 => zAt E D (zA τ sz) (zQ E D zrI 0 0 sz τ τ r g') 5 (sz, τ, 0, 0) g 58 [(0, .ref a), (1, .int x1), (2, .int x.1), (3, .int x.2)] [])) (l_X10_now_7 a x1 g l2_7 l3_7 l4_7) (zAt E D (zA τ sz) (zQ E D zrI 0 0 sz τ τ r g') 5 (sz, τ, 0, 0) g 7 [(0, .ref a), (1, .int x1), (2, .int l2_7), (3, .int l3_7), (4, .int l4_7)] [])
    have hj_X10_now_31_7 : ∀ (l3_31 : Int32) (l4_31 : Int32) (s0_31 : Int32) (s1_31 : Int32), zSim (zKl (fun s : Int32 × Int32 × Int32 => zAt E D (zA τ sz) (zQ E D zrI 0 0 sz τ τ r g') 5 (sz, τ, 0, 0) g 7 [(0, .ref a), (1, .int x1), (2, .int s.1), (3, .int s.2.1), (4, .int s.2.2)] []) (fun x : Int32 × Int32 => zAt E D (zA τ sz) (zQ E D zrI 0 0 sz τ τ r g') 5 (sz, τ, 0, 0) g 58 [(0, .ref a), (1, .int x1), (2, .int x.1), (3, .int x.2)] [])) (j_X10_now_31_7 a x1 l3_31 l4_31 s0_31 s1_31 g) (zAt E D (zA τ sz) (zQ E D zrI 0 0 sz τ τ r g') 5 (sz, τ, 0, 0) g 31 [(0, .ref a), (1, .int x1), (3, .int l3_31), (4, .int l4_31)] [.int s1_31, .int s0_31]) := by
      intro l3_31 l4_31 s0_31 s1_31
      unfold j_X10_now_31_7
      refine z_iadd F dX10_now_31 ?_
      refine z_leti (fun v6 => ?_)
      refine z_istore_n (lv' := [(2, .int v6), (0, .ref a), (1, .int x1), (3, .int l3_31), (4, .int l4_31)]) F rfl (by decide) dX10_now_32 rfl ?_
      refine z_iload_n F 3 rfl rfl dX10_now_33 ?_
      refine z_aload_n F 1 rfl rfl dX10_now_34 ?_
      refine gf_X10_77 F hta dX10_now_35 (fun ht7 => ?_)
      refine z_iload F 4 rfl dX10_now_38 ?_
      refine z_iald F ht7 dX10_now_40 ?_
      refine z_iconst (v := 1) F (by decide) dX10_now_41 ?_
      refine z_icmp_le (tgt := 49) F dX10_now_42 (by decide) (fun c8 => ?_) (fun c8 => ?_)
      · refine z_iconst (v := 0) F (by decide) dX10_now_49 ?_
        refine z_iadd F dX10_now_50 ?_
        refine z_leti (fun v9 => ?_)
        refine z_istore_n (lv' := [(3, .int v9), (2, .int v6), (0, .ref a), (1, .int x1), (4, .int l4_31)]) F rfl (by decide) dX10_now_51 rfl ?_
        refine z_iincl (lv' := fun v10 => [(4, .int v10), (3, .int v9), (2, .int v6), (0, .ref a), (1, .int x1)]) F 4 rfl (by decide) (by decide) dX10_now_52 (fun _ => rfl) (fun v10 => ?_)
        refine z_goto (tgt := 7) F dX10_now_55 (by decide) ?_
        refine z_sub (lv' := [(0, .ref a), (1, .int x1), (2, .int v6), (3, .int v9), (4, .int v10)]) [3, 4, 2, 1, 0] rfl ?_
        exact z_back (fun h => h)
      · refine z_iconst (v := 1) F (by decide) dX10_now_45 ?_
        refine z_goto (tgt := 50) F dX10_now_46 (by decide) ?_
        refine z_iadd F dX10_now_50 ?_
        refine z_leti (fun v11 => ?_)
        refine z_istore_n (lv' := [(3, .int v11), (2, .int v6), (0, .ref a), (1, .int x1), (4, .int l4_31)]) F rfl (by decide) dX10_now_51 rfl ?_
        refine z_iincl (lv' := fun v12 => [(4, .int v12), (3, .int v11), (2, .int v6), (0, .ref a), (1, .int x1)]) F 4 rfl (by decide) (by decide) dX10_now_52 (fun _ => rfl) (fun v12 => ?_)
        refine z_goto (tgt := 7) F dX10_now_55 (by decide) ?_
        refine z_sub (lv' := [(0, .ref a), (1, .int x1), (2, .int v6), (3, .int v11), (4, .int v12)]) [3, 4, 2, 1, 0] rfl ?_
        exact z_back (fun h => h)
    unfold l_X10_now_7
    refine z_iload F 4 rfl dX10_now_7 ?_
    refine z_sipush (v := 2400) F (by decide) dX10_now_9 ?_
    refine z_icmp_ge (tgt := 58) F dX10_now_12 (by decide) (fun c13 => ?_) (fun c13 => ?_)
    · refine z_sub (lv' := [(0, .ref a), (1, .int x1), (2, .int l2_7), (3, .int l3_7)]) [0, 1, 2, 3] rfl ?_
      exact z_back (fun h => h)
    · refine z_iload_n F 2 rfl rfl dX10_now_15 ?_
      refine z_aload_n F 0 rfl rfl dX10_now_16 ?_
      refine gf_X10_74 F hta dX10_now_17 (fun ht14 => ?_)
      refine z_iload F 4 rfl dX10_now_20 ?_
      refine z_iald F ht14 dX10_now_22 ?_
      refine z_if_eq (tgt := 30) F dX10_now_23 (by decide) (fun c15 => ?_) (fun c15 => ?_)
      · refine z_iconst (v := 0) F (by decide) dX10_now_30 ?_
        refine z_sub (lv' := [(0, .ref a), (1, .int x1), (3, .int l3_7), (4, .int l4_7)]) [0, 1, 3, 4] rfl ?_
        exact hj_X10_now_31_7 l3_7 l4_7 l2_7 0
      · refine z_iconst (v := 1) F (by decide) dX10_now_26 ?_
        refine z_goto (tgt := 31) F dX10_now_27 (by decide) ?_
        refine z_sub (lv' := [(0, .ref a), (1, .int x1), (3, .int l3_7), (4, .int l4_7)]) [0, 1, 3, 4] rfl ?_
        exact hj_X10_now_31_7 l3_7 l4_7 l2_7 1
  · show zSim (fun q : Int32 × zG => q = (r, g')) (j_X10_now_58 a x1 x.1 x.2 g) (zAt E D (zA τ sz) (zQ E D zrI 0 0 sz τ τ r g') 5 (sz, τ, 0, 0) g 58 [(0, .ref a), (1, .int x1), (2, .int x.1), (3, .int x.2)] [])
    exact hj_X10_now_58 x1 x.1 x.2 g
theorem k_X10_now {ρ : Type} {K : ρ → Prop} {E : zE} {D : zD} {A : Nat → Prop} {Q : State → Prop} {nL : Nat} {κ : zC} {g : zG} {pc : Nat} {lv : List (Nat × Value)} {st : List Value} {cc : ByteArray} {own : String} {ret : Option FieldType} (F : zF E D A cc own nL ret) {index : Nat} {h : Int32 → zG → Option ρ} {a : Nat} {x1 : Int32}  (hR : 0 + 1 ≤ E.2.2.2.1.frames ∧ 8 + (5 + 11) + 0 ≤ E.2.2.2.1.locals) (hl : zTbl (.methodLink own index yX10_now)) (hta : κ.2.1 a = some (.inr 10)) (hc : κ.2.2.1 ≤ E.2.2.2.1.cells ∧ κ.2.2.2 ≤ E.2.2.2.1.slots) (hW : (st.map fun v => v.category).sum ≤ 8) (hd : decode cc pc = .ok (.invokevirtual index, 3)) (kk : ∀ r g', zSim K (h r g') (zAt E D A Q nL κ g' (pc + 3) lv (.int r :: st))) : zSim K (zb (f_X10_now a x1 g) h) (zAt E D A Q nL κ g pc lv (.int x1 :: .ref a :: st)) :=
  z_callV F (n := 1) (As := [.int x1]) (C := (RX10, TX10, 61)) ⟨q_1280, q_14, by decide +kernel, rfl, rfl, hR.1, hR.2⟩ (c_X10_now E.2.1 D κ.1 κ.2.1 g a x1 hta) hl q_1278 q_1279 hta rfl rfl rfl hc hW hd kk _ rfl
theorem dX10_page_0 : decode cX10_page 0 = .ok (.iload_n 1, 1) := by decide +kernel
theorem dX10_page_1 : decode cX10_page 1 = .ok (.i2l, 1) := by decide +kernel
theorem dX10_page_2 : decode cX10_page 2 = .ok (.lconst 0, 1) := by decide +kernel
theorem dX10_page_3 : decode cX10_page 3 = .ok (.aload_n 0, 1) := by decide +kernel
theorem dX10_page_4 : decode cX10_page 4 = .ok (.getfield 13, 3) := by decide +kernel
theorem dX10_page_7 : decode cX10_page 7 = .ok (.bipush 7, 2) := by decide +kernel
theorem dX10_page_9 : decode cX10_page 9 = .ok (.iaload, 1) := by decide +kernel
theorem dX10_page_10 : decode cX10_page 10 = .ok (.iconst 1, 1) := by decide +kernel
theorem dX10_page_11 : decode cX10_page 11 = .ok (.isub, 1) := by decide +kernel
theorem dX10_page_12 : decode cX10_page 12 = .ok (.i2l, 1) := by decide +kernel
theorem dX10_page_13 : decode cX10_page 13 = .ok (.invokestatic 165, 3) := by decide +kernel
theorem dX10_page_16 : decode cX10_page 16 = .ok (.ifCond .eq 21, 3) := by decide +kernel
theorem dX10_page_19 : decode cX10_page 19 = .ok (.aload_n 0, 1) := by decide +kernel
theorem dX10_page_20 : decode cX10_page 20 = .ok (.iload_n 2, 1) := by decide +kernel
theorem dX10_page_21 : decode cX10_page 21 = .ok (.invokevirtual 257, 3) := by decide +kernel
theorem dX10_page_24 : decode cX10_page 24 = .ok (.ifCond .eq 13, 3) := by decide +kernel
theorem dX10_page_27 : decode cX10_page 27 = .ok (.iload_n 3, 1) := by decide +kernel
theorem dX10_page_28 : decode cX10_page 28 = .ok (.i2l, 1) := by decide +kernel
theorem dX10_page_29 : decode cX10_page 29 = .ok (.lconst 0, 1) := by decide +kernel
theorem dX10_page_30 : decode cX10_page 30 = .ok (.lconst 1, 1) := by decide +kernel
theorem dX10_page_31 : decode cX10_page 31 = .ok (.invokestatic 165, 3) := by decide +kernel
theorem dX10_page_34 : decode cX10_page 34 = .ok (.ifCond .ne 5, 3) := by decide +kernel
theorem dX10_page_37 : decode cX10_page 37 = .ok (.iconst (-1), 1) := by decide +kernel
theorem dX10_page_38 : decode cX10_page 38 = .ok (.ireturn, 1) := by decide +kernel
theorem dX10_page_39 : decode cX10_page 39 = .ok (.iload_n 3, 1) := by decide +kernel
theorem dX10_page_40 : decode cX10_page 40 = .ok (.ifCond .ne 17, 3) := by decide +kernel
theorem dX10_page_43 : decode cX10_page 43 = .ok (.aload_n 0, 1) := by decide +kernel
theorem dX10_page_44 : decode cX10_page 44 = .ok (.getfield 74, 3) := by decide +kernel
theorem dX10_page_47 : decode cX10_page 47 = .ok (.bipush 40, 2) := by decide +kernel
theorem dX10_page_49 : decode cX10_page 49 = .ok (.iload_n 1, 1) := by decide +kernel
theorem dX10_page_50 : decode cX10_page 50 = .ok (.imul, 1) := by decide +kernel
theorem dX10_page_51 : decode cX10_page 51 = .ok (.iload_n 2, 1) := by decide +kernel
theorem dX10_page_52 : decode cX10_page 52 = .ok (.iadd, 1) := by decide +kernel
theorem dX10_page_53 : decode cX10_page 53 = .ok (.iaload, 1) := by decide +kernel
theorem dX10_page_54 : decode cX10_page 54 = .ok (.goto 14, 3) := by decide +kernel
theorem dX10_page_57 : decode cX10_page 57 = .ok (.aload_n 0, 1) := by decide +kernel
theorem dX10_page_58 : decode cX10_page 58 = .ok (.getfield 77, 3) := by decide +kernel
theorem dX10_page_61 : decode cX10_page 61 = .ok (.bipush 40, 2) := by decide +kernel
theorem dX10_page_63 : decode cX10_page 63 = .ok (.iload_n 1, 1) := by decide +kernel
theorem dX10_page_64 : decode cX10_page 64 = .ok (.imul, 1) := by decide +kernel
theorem dX10_page_65 : decode cX10_page 65 = .ok (.iload_n 2, 1) := by decide +kernel
theorem dX10_page_66 : decode cX10_page 66 = .ok (.iadd, 1) := by decide +kernel
theorem dX10_page_67 : decode cX10_page 67 = .ok (.iaload, 1) := by decide +kernel
theorem dX10_page_68 : decode cX10_page 68 = .ok (.ireturn, 1) := by decide +kernel
def f_X10_page (a : Nat) (x1 : Int32) (x2 : Int32) (x3 : Int32) (g : zG) : Option (Int32 × zG) :=
  zc (zin 7 8) (zb (f_X10_in x1.toInt64 0 (((g.1 (g.2.1 a 2) (7 : Int32).toNatClampNeg) - 1).toInt64) g) (fun v2 g3 => if v2 = 0 then (some (((-1), g3))) else (zb (f_X10_isColumn a x2 g3) (fun v5 g6 => if v5 = 0 then (some (((-1), g6))) else (zb (f_X10_in x3.toInt64 0 1 g6) (fun v8 g9 => if v8 = 0 then (some (((-1), g9))) else (if x3 = 0 then (zc (zin ((40 * x1) + x2) 2400) (some ((g9.1 (g9.2.1 a 38) ((40 * x1) + x2).toNatClampNeg, g9)))) else (zc (zin ((40 * x1) + x2) 2400) (some ((g9.1 (g9.2.1 a 39) ((40 * x1) + x2).toNatClampNeg, g9)))))))))))
abbrev rm_X10_page : Room := { frames := 2, cells := 0, slots := 0, locals := 46 }
set_option maxRecDepth 100000 in
set_option maxHeartbeats 4000000 in
theorem c_X10_page (l : Launch) (D : zD) (sz : Nat) (τ : zT) (g : zG) (a : Nat) (x1 : Int32) (x2 : Int32) (x3 : Int32) (hta : τ a = some (.inr 10)) : zCon l D yX10_page cX10_page 4 (some .int) rm_X10_page 0 0 zrI [.ref a, .int x1, .int x2, .int x3] sz τ g τ (f_X10_page a x1 x2 x3 g) := by
  refine zCon.of (by decide) (Nat.le_of_ble_eq_true rfl) (fun E r g' hl hR hsz hnm F => ?_)
  have F : zF E D (zA τ sz) cX10_page "TypeChainModel" 4 (some .int) := F
  show zSim (fun q : Int32 × zG => q = (r, g')) (f_X10_page a x1 x2 x3 g) (zAt E D (zA τ sz) (zQ E D zrI 0 0 sz τ τ r g') 4 (sz, τ, 0, 0) g 0 [(0, .ref a), (1, .int x1), (2, .int x2), (3, .int x3)] [])
  unfold f_X10_page
  refine z_iload_n F 1 rfl rfl dX10_page_0 ?_
  refine z_i2l F dX10_page_1 ?_
  refine z_lconst (v := 0) F (by decide) dX10_page_2 ?_
  refine z_aload_n F 0 rfl rfl dX10_page_3 ?_
  refine gf_X10_13 F hta dX10_page_4 (fun ht1 => ?_)
  refine z_bipush (v := 7) F (by decide) dX10_page_7 ?_
  refine z_iald F ht1 dX10_page_9 ?_
  refine z_iconst (v := 1) F (by decide) dX10_page_10 ?_
  refine z_isub F dX10_page_11 ?_
  refine z_i2l F dX10_page_12 ?_
  refine k_X10_in F (by rw [hR]; exact ⟨by decide, by decide⟩) q_1082  ⟨Nat.zero_le _, Nat.zero_le _⟩ (Nat.le_of_ble_eq_true rfl) dX10_page_13 (fun v2 g3 => ?_)
  refine z_if_eq (tgt := 37) F dX10_page_16 (by decide) (fun c4 => ?_) (fun c4 => ?_)
  · refine z_iconst (v := (-1)) F (by decide) dX10_page_37 ?_
    exact z_ireturn F rfl rfl rfl rfl (fun h => h) dX10_page_38
  · refine z_aload_n F 0 rfl rfl dX10_page_19 ?_
    refine z_iload_n F 2 rfl rfl dX10_page_20 ?_
    refine k_X10_isColumn F (by rw [hR]; exact ⟨by decide, by decide⟩) q_1178 hta ⟨Nat.zero_le _, Nat.zero_le _⟩ (Nat.le_of_ble_eq_true rfl) dX10_page_21 (fun v5 g6 => ?_)
    refine z_if_eq (tgt := 37) F dX10_page_24 (by decide) (fun c7 => ?_) (fun c7 => ?_)
    · refine z_iconst (v := (-1)) F (by decide) dX10_page_37 ?_
      exact z_ireturn F rfl rfl rfl rfl (fun h => h) dX10_page_38
    · refine z_iload_n F 3 rfl rfl dX10_page_27 ?_
      refine z_i2l F dX10_page_28 ?_
      refine z_lconst (v := 0) F (by decide) dX10_page_29 ?_
      refine z_lconst (v := 1) F (by decide) dX10_page_30 ?_
      refine k_X10_in F (by rw [hR]; exact ⟨by decide, by decide⟩) q_1082  ⟨Nat.zero_le _, Nat.zero_le _⟩ (Nat.le_of_ble_eq_true rfl) dX10_page_31 (fun v8 g9 => ?_)
      refine z_if_ne (tgt := 39) F dX10_page_34 (by decide) (fun c10 => ?_) (fun c10 => ?_)
      · refine z_iconst (v := (-1)) F (by decide) dX10_page_37 ?_
        exact z_ireturn F rfl rfl rfl rfl (fun h => h) dX10_page_38
      · refine z_iload_n F 3 rfl rfl dX10_page_39 ?_
        refine z_if_ne (tgt := 57) F dX10_page_40 (by decide) (fun c11 => ?_) (fun c11 => ?_)
        · refine z_aload_n F 0 rfl rfl dX10_page_43 ?_
          refine gf_X10_74 F hta dX10_page_44 (fun ht12 => ?_)
          refine z_bipush (v := 40) F (by decide) dX10_page_47 ?_
          refine z_iload_n F 1 rfl rfl dX10_page_49 ?_
          refine z_imul F dX10_page_50 ?_
          refine z_iload_n F 2 rfl rfl dX10_page_51 ?_
          refine z_iadd F dX10_page_52 ?_
          refine z_iald F ht12 dX10_page_53 ?_
          refine z_goto (tgt := 68) F dX10_page_54 (by decide) ?_
          exact z_ireturn F rfl rfl rfl rfl (fun h => h) dX10_page_68
        · refine z_aload_n F 0 rfl rfl dX10_page_57 ?_
          refine gf_X10_77 F hta dX10_page_58 (fun ht13 => ?_)
          refine z_bipush (v := 40) F (by decide) dX10_page_61 ?_
          refine z_iload_n F 1 rfl rfl dX10_page_63 ?_
          refine z_imul F dX10_page_64 ?_
          refine z_iload_n F 2 rfl rfl dX10_page_65 ?_
          refine z_iadd F dX10_page_66 ?_
          refine z_iald F ht13 dX10_page_67 ?_
          exact z_ireturn F rfl rfl rfl rfl (fun h => h) dX10_page_68
theorem k_X10_page {ρ : Type} {K : ρ → Prop} {E : zE} {D : zD} {A : Nat → Prop} {Q : State → Prop} {nL : Nat} {κ : zC} {g : zG} {pc : Nat} {lv : List (Nat × Value)} {st : List Value} {cc : ByteArray} {own : String} {ret : Option FieldType} (F : zF E D A cc own nL ret) {index : Nat} {h : Int32 → zG → Option ρ} {a : Nat} {x1 : Int32} {x2 : Int32} {x3 : Int32}  (hR : 2 + 1 ≤ E.2.2.2.1.frames ∧ 8 + (4 + 11) + 46 ≤ E.2.2.2.1.locals) (hl : zTbl (.methodLink own index yX10_page)) (hta : κ.2.1 a = some (.inr 10)) (hc : κ.2.2.1 ≤ E.2.2.2.1.cells ∧ κ.2.2.2 ≤ E.2.2.2.1.slots) (hW : (st.map fun v => v.category).sum ≤ 8) (hd : decode cc pc = .ok (.invokevirtual index, 3)) (kk : ∀ r g', zSim K (h r g') (zAt E D A Q nL κ g' (pc + 3) lv (.int r :: st))) : zSim K (zb (f_X10_page a x1 x2 x3 g) h) (zAt E D A Q nL κ g pc lv (.int x3 :: .int x2 :: .int x1 :: .ref a :: st)) :=
  z_callV F (n := 3) (As := [.int x1, .int x2, .int x3]) (C := (RX10, TX10, 61)) ⟨q_1284, q_14, by decide +kernel, rfl, rfl, hR.1, hR.2⟩ (c_X10_page E.2.1 D κ.1 κ.2.1 g a x1 x2 x3 hta) hl q_1282 q_1283 hta rfl rfl rfl hc hW hd kk _ rfl
theorem dX10_puts_0 : decode cX10_puts 0 = .ok (.iconst 0, 1) := by decide +kernel
theorem dX10_puts_1 : decode cX10_puts 1 = .ok (.istore_n 2, 1) := by decide +kernel
theorem dX10_puts_2 : decode cX10_puts 2 = .ok (.iload_n 2, 1) := by decide +kernel
theorem dX10_puts_3 : decode cX10_puts 3 = .ok (.aload_n 0, 1) := by decide +kernel
theorem dX10_puts_4 : decode cX10_puts 4 = .ok (.getfield 28, 3) := by decide +kernel
theorem dX10_puts_7 : decode cX10_puts 7 = .ok (.iload_n 1, 1) := by decide +kernel
theorem dX10_puts_8 : decode cX10_puts 8 = .ok (.iaload, 1) := by decide +kernel
theorem dX10_puts_9 : decode cX10_puts 9 = .ok (.if_icmp .ge 35, 3) := by decide +kernel
theorem dX10_puts_12 : decode cX10_puts 12 = .ok (.aload_n 0, 1) := by decide +kernel
theorem dX10_puts_13 : decode cX10_puts 13 = .ok (.getfield 71, 3) := by decide +kernel
theorem dX10_puts_16 : decode cX10_puts 16 = .ok (.aload_n 0, 1) := by decide +kernel
theorem dX10_puts_17 : decode cX10_puts 17 = .ok (.getfield 22, 3) := by decide +kernel
theorem dX10_puts_20 : decode cX10_puts 20 = .ok (.iload_n 1, 1) := by decide +kernel
theorem dX10_puts_21 : decode cX10_puts 21 = .ok (.iaload, 1) := by decide +kernel
theorem dX10_puts_22 : decode cX10_puts 22 = .ok (.iload_n 2, 1) := by decide +kernel
theorem dX10_puts_23 : decode cX10_puts 23 = .ok (.iadd, 1) := by decide +kernel
theorem dX10_puts_24 : decode cX10_puts 24 = .ok (.aload_n 0, 1) := by decide +kernel
theorem dX10_puts_25 : decode cX10_puts 25 = .ok (.getfield 31, 3) := by decide +kernel
theorem dX10_puts_28 : decode cX10_puts 28 = .ok (.aload_n 0, 1) := by decide +kernel
theorem dX10_puts_29 : decode cX10_puts 29 = .ok (.getfield 25, 3) := by decide +kernel
theorem dX10_puts_32 : decode cX10_puts 32 = .ok (.iload_n 1, 1) := by decide +kernel
theorem dX10_puts_33 : decode cX10_puts 33 = .ok (.iaload, 1) := by decide +kernel
theorem dX10_puts_34 : decode cX10_puts 34 = .ok (.iload_n 2, 1) := by decide +kernel
theorem dX10_puts_35 : decode cX10_puts 35 = .ok (.iadd, 1) := by decide +kernel
theorem dX10_puts_36 : decode cX10_puts 36 = .ok (.iaload, 1) := by decide +kernel
theorem dX10_puts_37 : decode cX10_puts 37 = .ok (.iastore, 1) := by decide +kernel
theorem dX10_puts_38 : decode cX10_puts 38 = .ok (.iinc 2 1, 3) := by decide +kernel
theorem dX10_puts_41 : decode cX10_puts 41 = .ok (.goto (-39), 3) := by decide +kernel
theorem dX10_puts_44 : decode cX10_puts 44 = .ok (.return_, 1) := by decide +kernel
def j_X10_puts_44 (a : Nat)  (g : zG) : Option (Int32 × zG) :=
  some ((0, g))
def l_X10_puts_2 (a : Nat) (l1 : Int32) (l2 : Int32) (g : zG) : Option ((Int32 × zG) ⊕ (zG)) :=
  zc (zin l1 24) (if (g.1 (g.2.1 a 8) l1.toNatClampNeg) ≤ l2 then (some (.inr g)) else (zc (zin l1 24) (zc (zin l1 24) (zc (zin ((g.1 (g.2.1 a 7) l1.toNatClampNeg) + l2) 240) (zc (zin ((g.1 (g.2.1 a 6) l1.toNatClampNeg) + l2) 40) (zl (zsi g (g.2.1 a 37) ((g.1 (g.2.1 a 6) l1.toNatClampNeg) + l2).toNatClampNeg (g.1 (g.2.1 a 9) ((g.1 (g.2.1 a 7) l1.toNatClampNeg) + l2).toNatClampNeg)) (fun g7 => zl (l2 + 1) (fun v8 => some (.inl (v8, g7))))))))))
def f_X10_puts (a : Nat) (x1 : Int32) (g : zG) : Option (Int32 × zG) :=
  zk (zw zN (fun s => l_X10_puts_2 a x1 s.1 s.2) (0, g)) (fun x => j_X10_puts_44 a x)
abbrev rm_X10_puts : Room := { frames := 0, cells := 0, slots := 0, locals := 0 }
set_option maxRecDepth 100000 in
set_option maxHeartbeats 4000000 in
theorem c_X10_puts (l : Launch) (D : zD) (sz : Nat) (τ : zT) (g : zG) (a : Nat) (x1 : Int32) (hta : τ a = some (.inr 10)) : zCon l D yX10_puts cX10_puts 3 none rm_X10_puts 0 0 zrV [.ref a, .int x1] sz τ g τ (f_X10_puts a x1 g) := by
  refine zCon.of (by decide) (Nat.le_of_ble_eq_true rfl) (fun E r g' hl hR hsz hnm F => ?_)
  have F : zF E D (zA τ sz) cX10_puts "TypeChainModel" 3 none := F
  show zSim (fun q : Int32 × zG => q = (r, g')) (f_X10_puts a x1 g) (zAt E D (zA τ sz) (zQ E D zrV 0 0 sz τ τ r g') 3 (sz, τ, 0, 0) g 0 [(0, .ref a), (1, .int x1)] [])
  have hj_X10_puts_44 : ∀  (g_44 : zG), zSim (fun q : Int32 × zG => q = (r, g')) (j_X10_puts_44 a g_44) (zAt E D (zA τ sz) (zQ E D zrV 0 0 sz τ τ r g') 3 (sz, τ, 0, 0) g_44 44 [] []) := by
    intro g_44
    unfold j_X10_puts_44
    exact z_vreturn F rfl rfl rfl rfl (fun h => h) dX10_puts_44
  unfold f_X10_puts
  refine z_iconst (v := 0) F (by decide) dX10_puts_0 ?_
  refine z_istore_n (lv' := [(2, .int 0), (0, .ref a), (1, .int x1)]) F rfl (by decide) dX10_puts_1 rfl ?_
  refine z_sub (lv' := [(0, .ref a), (1, .int x1), (2, .int 0)]) [1, 2, 0] rfl ?_
  refine z_loop (P := fun s : Int32 × zG => zAt E D (zA τ sz) (zQ E D zrV 0 0 sz τ τ r g') 3 (sz, τ, 0, 0) s.2 2 [(0, .ref a), (1, .int x1), (2, .int s.1)] []) (Px := fun x : zG => zAt E D (zA τ sz) (zQ E D zrV 0 0 sz τ τ r g') 3 (sz, τ, 0, 0) x 44 [] []) (0, g) (fun s => ?_) (fun x => ?_)
  · obtain ⟨l2_2, g_2⟩ := s
    show zSim (zKl (fun s : Int32 × zG => zAt E D (zA τ sz) (zQ E D zrV 0 0 sz τ τ r g') 3 (sz, τ, 0, 0) s.2 2 [(0, .ref a), (1, .int x1), (2, .int s.1)] []) (fun x : zG => zAt E D (zA τ sz) (zQ E D zrV 0 0 sz τ τ r g') 3 (sz, τ, 0, 0) x 44 [] [])) (l_X10_puts_2 a x1 l2_2 g_2) (zAt E D (zA τ sz) (zQ E D zrV 0 0 sz τ τ r g') 3 (sz, τ, 0, 0) g_2 2 [(0, .ref a), (1, .int x1), (2, .int l2_2)] [])
    unfold l_X10_puts_2
    refine z_iload_n F 2 rfl rfl dX10_puts_2 ?_
    refine z_aload_n F 0 rfl rfl dX10_puts_3 ?_
    refine gf_X10_28 F hta dX10_puts_4 (fun ht1 => ?_)
    refine z_iload_n F 1 rfl rfl dX10_puts_7 ?_
    refine z_iald F ht1 dX10_puts_8 ?_
    refine z_icmp_ge (tgt := 44) F dX10_puts_9 (by decide) (fun c2 => ?_) (fun c2 => ?_)
    · refine z_sub (lv' := []) [] rfl ?_
      exact z_back (fun h => h)
    · refine z_aload_n F 0 rfl rfl dX10_puts_12 ?_
      refine gf_X10_71 F hta dX10_puts_13 (fun ht3 => ?_)
      refine z_aload_n F 0 rfl rfl dX10_puts_16 ?_
      refine gf_X10_22 F hta dX10_puts_17 (fun ht4 => ?_)
      refine z_iload_n F 1 rfl rfl dX10_puts_20 ?_
      refine z_iald F ht4 dX10_puts_21 ?_
      refine z_iload_n F 2 rfl rfl dX10_puts_22 ?_
      refine z_iadd F dX10_puts_23 ?_
      refine z_aload_n F 0 rfl rfl dX10_puts_24 ?_
      refine gf_X10_31 F hta dX10_puts_25 (fun ht5 => ?_)
      refine z_aload_n F 0 rfl rfl dX10_puts_28 ?_
      refine gf_X10_25 F hta dX10_puts_29 (fun ht6 => ?_)
      refine z_iload_n F 1 rfl rfl dX10_puts_32 ?_
      refine z_iald F ht6 dX10_puts_33 ?_
      refine z_iload_n F 2 rfl rfl dX10_puts_34 ?_
      refine z_iadd F dX10_puts_35 ?_
      refine z_iald F ht5 dX10_puts_36 ?_
      refine z_iast F ht3 dX10_puts_37 ?_
      refine z_letg (fun g7 => ?_)
      refine z_iincl (lv' := fun v8 => [(2, .int v8), (0, .ref a), (1, .int x1)]) F 2 rfl (by decide) (by decide) dX10_puts_38 (fun _ => rfl) (fun v8 => ?_)
      refine z_goto (tgt := 2) F dX10_puts_41 (by decide) ?_
      refine z_sub (lv' := [(0, .ref a), (1, .int x1), (2, .int v8)]) [1, 2, 0] rfl ?_
      exact z_back (fun h => h)
  · show zSim (fun q : Int32 × zG => q = (r, g')) (j_X10_puts_44 a x) (zAt E D (zA τ sz) (zQ E D zrV 0 0 sz τ τ r g') 3 (sz, τ, 0, 0) x 44 [] [])
    exact hj_X10_puts_44 x
theorem k_X10_puts {ρ : Type} {K : ρ → Prop} {E : zE} {D : zD} {A : Nat → Prop} {Q : State → Prop} {nL : Nat} {κ : zC} {g : zG} {pc : Nat} {lv : List (Nat × Value)} {st : List Value} {cc : ByteArray} {own : String} {ret : Option FieldType} (F : zF E D A cc own nL ret) {index : Nat} {h : Int32 → zG → Option ρ} {a : Nat} {x1 : Int32}  (hR : 0 + 1 ≤ E.2.2.2.1.frames ∧ 8 + (3 + 11) + 0 ≤ E.2.2.2.1.locals) (hl : zTbl (.methodLink own index yX10_puts)) (hta : κ.2.1 a = some (.inr 10)) (hc : κ.2.2.1 ≤ E.2.2.2.1.cells ∧ κ.2.2.2 ≤ E.2.2.2.1.slots) (hW : (st.map fun v => v.category).sum ≤ 8) (hd : decode cc pc = .ok (.invokevirtual index, 3)) (kk : ∀ r g', zSim K (h r g') (zAt E D A Q nL κ g' (pc + 3) lv (st))) : zSim K (zb (f_X10_puts a x1 g) h) (zAt E D A Q nL κ g pc lv (.int x1 :: .ref a :: st)) :=
  z_callV F (n := 1) (As := [.int x1]) (C := (RX10, TX10, 61)) ⟨q_1296, q_14, by decide +kernel, rfl, rfl, hR.1, hR.2⟩ (c_X10_puts E.2.1 D κ.1 κ.2.1 g a x1 hta) hl q_1295 q_1418 hta rfl rfl rfl hc hW hd kk _ rfl
theorem dX10_does_0 : decode cX10_does 0 = .ok (.aload_n 0, 1) := by decide +kernel
theorem dX10_does_1 : decode cX10_does 1 = .ok (.getfield 19, 3) := by decide +kernel
theorem dX10_does_4 : decode cX10_does 4 = .ok (.iload_n 1, 1) := by decide +kernel
theorem dX10_does_5 : decode cX10_does 5 = .ok (.iaload, 1) := by decide +kernel
theorem dX10_does_6 : decode cX10_does 6 = .ok (.ifCond .ne 10, 3) := by decide +kernel
theorem dX10_does_9 : decode cX10_does 9 = .ok (.aload_n 0, 1) := by decide +kernel
theorem dX10_does_10 : decode cX10_does 10 = .ok (.iload_n 1, 1) := by decide +kernel
theorem dX10_does_11 : decode cX10_does 11 = .ok (.invokevirtual 323, 3) := by decide +kernel
theorem dX10_does_14 : decode cX10_does 14 = .ok (.iconst 1, 1) := by decide +kernel
theorem dX10_does_15 : decode cX10_does 15 = .ok (.ireturn, 1) := by decide +kernel
theorem dX10_does_16 : decode cX10_does 16 = .ok (.aload_n 0, 1) := by decide +kernel
theorem dX10_does_17 : decode cX10_does 17 = .ok (.getfield 19, 3) := by decide +kernel
theorem dX10_does_20 : decode cX10_does 20 = .ok (.iload_n 1, 1) := by decide +kernel
theorem dX10_does_21 : decode cX10_does 21 = .ok (.iaload, 1) := by decide +kernel
theorem dX10_does_22 : decode cX10_does 22 = .ok (.iconst 1, 1) := by decide +kernel
theorem dX10_does_23 : decode cX10_does 23 = .ok (.if_icmp .ne 66, 3) := by decide +kernel
theorem dX10_does_26 : decode cX10_does 26 = .ok (.aload_n 0, 1) := by decide +kernel
theorem dX10_does_27 : decode cX10_does 27 = .ok (.invokevirtual 290, 3) := by decide +kernel
theorem dX10_does_30 : decode cX10_does 30 = .ok (.ifCond .ne 5, 3) := by decide +kernel
theorem dX10_does_33 : decode cX10_does 33 = .ok (.iconst 0, 1) := by decide +kernel
theorem dX10_does_34 : decode cX10_does 34 = .ok (.ireturn, 1) := by decide +kernel
theorem dX10_does_35 : decode cX10_does 35 = .ok (.iload_n 2, 1) := by decide +kernel
theorem dX10_does_36 : decode cX10_does 36 = .ok (.ifCond .eq 46, 3) := by decide +kernel
theorem dX10_does_39 : decode cX10_does 39 = .ok (.aload_n 0, 1) := by decide +kernel
theorem dX10_does_40 : decode cX10_does 40 = .ok (.dup, 1) := by decide +kernel
theorem dX10_does_41 : decode cX10_does 41 = .ok (.getfield 279, 3) := by decide +kernel
theorem dX10_does_44 : decode cX10_does 44 = .ok (.aload_n 0, 1) := by decide +kernel
theorem dX10_does_45 : decode cX10_does 45 = .ok (.aload_n 0, 1) := by decide +kernel
theorem dX10_does_46 : decode cX10_does 46 = .ok (.getfield 13, 3) := by decide +kernel
theorem dX10_does_49 : decode cX10_does 49 = .ok (.iconst 4, 1) := by decide +kernel
theorem dX10_does_50 : decode cX10_does 50 = .ok (.iaload, 1) := by decide +kernel
theorem dX10_does_51 : decode cX10_does 51 = .ok (.invokevirtual 294, 3) := by decide +kernel
theorem dX10_does_54 : decode cX10_does 54 = .ok (.iadd, 1) := by decide +kernel
theorem dX10_does_55 : decode cX10_does 55 = .ok (.putfield 279, 3) := by decide +kernel
theorem dX10_does_58 : decode cX10_does 58 = .ok (.iconst 0, 1) := by decide +kernel
theorem dX10_does_59 : decode cX10_does 59 = .ok (.istore_n 3, 1) := by decide +kernel
theorem dX10_does_60 : decode cX10_does 60 = .ok (.iload_n 3, 1) := by decide +kernel
theorem dX10_does_61 : decode cX10_does 61 = .ok (.bipush 40, 2) := by decide +kernel
theorem dX10_does_63 : decode cX10_does 63 = .ok (.if_icmp .ge 16, 3) := by decide +kernel
theorem dX10_does_66 : decode cX10_does 66 = .ok (.aload_n 0, 1) := by decide +kernel
theorem dX10_does_67 : decode cX10_does 67 = .ok (.getfield 71, 3) := by decide +kernel
theorem dX10_does_70 : decode cX10_does 70 = .ok (.iload_n 3, 1) := by decide +kernel
theorem dX10_does_71 : decode cX10_does 71 = .ok (.iconst 0, 1) := by decide +kernel
theorem dX10_does_72 : decode cX10_does 72 = .ok (.iastore, 1) := by decide +kernel
theorem dX10_does_73 : decode cX10_does 73 = .ok (.iinc 3 1, 3) := by decide +kernel
theorem dX10_does_76 : decode cX10_does 76 = .ok (.goto (-16), 3) := by decide +kernel
theorem dX10_does_79 : decode cX10_does 79 = .ok (.goto 8, 3) := by decide +kernel
theorem dX10_does_82 : decode cX10_does 82 = .ok (.aload_n 0, 1) := by decide +kernel
theorem dX10_does_83 : decode cX10_does 83 = .ok (.invokevirtual 306, 3) := by decide +kernel
theorem dX10_does_86 : decode cX10_does 86 = .ok (.pop, 1) := by decide +kernel
theorem dX10_does_87 : decode cX10_does 87 = .ok (.iconst 1, 1) := by decide +kernel
theorem dX10_does_88 : decode cX10_does 88 = .ok (.ireturn, 1) := by decide +kernel
theorem dX10_does_89 : decode cX10_does 89 = .ok (.aload_n 0, 1) := by decide +kernel
theorem dX10_does_90 : decode cX10_does 90 = .ok (.getfield 19, 3) := by decide +kernel
theorem dX10_does_93 : decode cX10_does 93 = .ok (.iload_n 1, 1) := by decide +kernel
theorem dX10_does_94 : decode cX10_does 94 = .ok (.iaload, 1) := by decide +kernel
theorem dX10_does_95 : decode cX10_does 95 = .ok (.iconst 2, 1) := by decide +kernel
theorem dX10_does_96 : decode cX10_does 96 = .ok (.if_icmp .ne 12, 3) := by decide +kernel
theorem dX10_does_99 : decode cX10_does 99 = .ok (.aload_n 0, 1) := by decide +kernel
theorem dX10_does_100 : decode cX10_does 100 = .ok (.getfield 22, 3) := by decide +kernel
theorem dX10_does_103 : decode cX10_does 103 = .ok (.iload_n 1, 1) := by decide +kernel
theorem dX10_does_104 : decode cX10_does 104 = .ok (.iaload, 1) := by decide +kernel
theorem dX10_does_105 : decode cX10_does 105 = .ok (.goto 13, 3) := by decide +kernel
theorem dX10_does_108 : decode cX10_does 108 = .ok (.aload_n 0, 1) := by decide +kernel
theorem dX10_does_109 : decode cX10_does 109 = .ok (.aload_n 0, 1) := by decide +kernel
theorem dX10_does_110 : decode cX10_does 110 = .ok (.getfield 22, 3) := by decide +kernel
theorem dX10_does_113 : decode cX10_does 113 = .ok (.iload_n 1, 1) := by decide +kernel
theorem dX10_does_114 : decode cX10_does 114 = .ok (.iaload, 1) := by decide +kernel
theorem dX10_does_115 : decode cX10_does 115 = .ok (.invokevirtual 320, 3) := by decide +kernel
theorem dX10_does_118 : decode cX10_does 118 = .ok (.istore_n 3, 1) := by decide +kernel
theorem dX10_does_119 : decode cX10_does 119 = .ok (.iload_n 3, 1) := by decide +kernel
theorem dX10_does_120 : decode cX10_does 120 = .ok (.bipush (-4), 2) := by decide +kernel
theorem dX10_does_122 : decode cX10_does 122 = .ok (.if_icmp .ne 5, 3) := by decide +kernel
theorem dX10_does_125 : decode cX10_does 125 = .ok (.iconst 0, 1) := by decide +kernel
theorem dX10_does_126 : decode cX10_does 126 = .ok (.ireturn, 1) := by decide +kernel
theorem dX10_does_127 : decode cX10_does 127 = .ok (.aload_n 0, 1) := by decide +kernel
theorem dX10_does_128 : decode cX10_does 128 = .ok (.iload_n 3, 1) := by decide +kernel
theorem dX10_does_129 : decode cX10_does 129 = .ok (.iload_n 2, 1) := by decide +kernel
theorem dX10_does_130 : decode cX10_does 130 = .ok (.invokevirtual 314, 3) := by decide +kernel
theorem dX10_does_133 : decode cX10_does 133 = .ok (.pop, 1) := by decide +kernel
theorem dX10_does_134 : decode cX10_does 134 = .ok (.iconst 1, 1) := by decide +kernel
theorem dX10_does_135 : decode cX10_does 135 = .ok (.ireturn, 1) := by decide +kernel
def j_X10_does_118 (a : Nat) (l2 : Int32) (s0 : Int32) (g : zG) : Option (Int32 × zG) :=
  if s0 = (-4) then (some ((0, g))) else (zb (f_X10_moves a s0 l2 g) (fun v2 g3 => some ((1, g3))))
def j_X10_does_79 (a : Nat)  (g : zG) : Option (Int32 × zG) :=
  some ((1, g))
def l_X10_does_60 (a : Nat) (l3 : Int32) (g : zG) : Option ((Int32 × zG) ⊕ (zG)) :=
  if 40 ≤ l3 then (some (.inr g)) else (zc (zin l3 40) (zl (zsi g (g.2.1 a 37) l3.toNatClampNeg 0) (fun g22 => zl (l3 + 1) (fun v23 => some (.inl (v23, g22))))))
def f_X10_does (a : Nat) (x1 : Int32) (x2 : Int32) (g : zG) : Option (Int32 × zG) :=
  zc (zin x1 24) (if (g.1 (g.2.1 a 5) x1.toNatClampNeg) = 0 then (zb (f_X10_puts a x1 g) (fun v6 g7 => some ((1, g7)))) else (zc (zin x1 24) (if (g.1 (g.2.1 a 5) x1.toNatClampNeg) = 1 then (zb (f_X10_canGo a g) (fun v10 g11 => if v10 = 0 then (some ((0, g11))) else (if x2 = 0 then (zb (f_X10_goes a g11) (fun v14 g15 => some ((1, g15)))) else (zc (zin 4 8) (zb (f_X10_strikes a (g11.1 (g11.2.1 a 2) (4 : Int32).toNatClampNeg) g11) (fun v17 g18 => zl (zsi g18 a 34 ((g11.1 a 34) + v17)) (fun g19 => zk (zw zN (fun s => l_X10_does_60 a s.1 s.2) (0, g19)) (fun x => j_X10_does_79 a x)))))))) else (zc (zin x1 24) (if (g.1 (g.2.1 a 5) x1.toNatClampNeg) = 2 then (zc (zin x1 24) (j_X10_does_118 a x2 (g.1 (g.2.1 a 6) x1.toNatClampNeg) g)) else (zc (zin x1 24) (zb (f_X10_toHole a (g.1 (g.2.1 a 6) x1.toNatClampNeg) g) (fun v28 g29 => j_X10_does_118 a x2 v28 g29))))))))
abbrev rm_X10_does : Room := { frames := 4, cells := 0, slots := 0, locals := 94 }
set_option maxRecDepth 100000 in
set_option maxHeartbeats 4000000 in
theorem c_X10_does (l : Launch) (D : zD) (sz : Nat) (τ : zT) (g : zG) (a : Nat) (x1 : Int32) (x2 : Int32) (hta : τ a = some (.inr 10)) : zCon l D yX10_does cX10_does 4 (some .boolean) rm_X10_does 0 0 zrI [.ref a, .int x1, .int x2] sz τ g τ (f_X10_does a x1 x2 g) := by
  refine zCon.of (by decide) (Nat.le_of_ble_eq_true rfl) (fun E r g' hl hR hsz hnm F => ?_)
  have F : zF E D (zA τ sz) cX10_does "TypeChainModel" 4 (some .boolean) := F
  show zSim (fun q : Int32 × zG => q = (r, g')) (f_X10_does a x1 x2 g) (zAt E D (zA τ sz) (zQ E D zrI 0 0 sz τ τ r g') 4 (sz, τ, 0, 0) g 0 [(0, .ref a), (1, .int x1), (2, .int x2)] [])
  have hj_X10_does_118 : ∀ (l2_118 : Int32) (s0_118 : Int32) (g_118 : zG), zSim (fun q : Int32 × zG => q = (r, g')) (j_X10_does_118 a l2_118 s0_118 g_118) (zAt E D (zA τ sz) (zQ E D zrI 0 0 sz τ τ r g') 4 (sz, τ, 0, 0) g_118 118 [(0, .ref a), (2, .int l2_118)] [.int s0_118]) := by
    intro l2_118 s0_118 g_118
    unfold j_X10_does_118
    refine z_istore_n (lv' := [(3, .int s0_118), (0, .ref a), (2, .int l2_118)]) F rfl (by decide) dX10_does_118 rfl ?_
    refine z_iload_n F 0 rfl rfl dX10_does_119 ?_
    refine z_bipush (v := (-4)) F (by decide) dX10_does_120 ?_
    refine z_icmp_ne (tgt := 127) F dX10_does_122 (by decide) (fun c1 => ?_) (fun c1 => ?_)
    · refine z_iconst (v := 0) F (by decide) dX10_does_125 ?_
      exact z_zreturn F rfl rfl rfl rfl rfl (fun h => h) dX10_does_126
    · refine z_aload_n F 1 rfl rfl dX10_does_127 ?_
      refine z_iload_n F 0 rfl rfl dX10_does_128 ?_
      refine z_iload_n F 2 rfl rfl dX10_does_129 ?_
      refine k_X10_moves F (by rw [hR]; exact ⟨by decide, by decide⟩) q_1264 hta ⟨Nat.zero_le _, Nat.zero_le _⟩ (Nat.le_of_ble_eq_true rfl) dX10_does_130 (fun v2 g3 => ?_)
      refine z_pop F rfl dX10_does_133 ?_
      refine z_iconst (v := 1) F (by decide) dX10_does_134 ?_
      exact z_zreturn F rfl rfl rfl rfl rfl (fun h => h) dX10_does_135
  have hj_X10_does_79 : ∀  (g_79 : zG), zSim (fun q : Int32 × zG => q = (r, g')) (j_X10_does_79 a g_79) (zAt E D (zA τ sz) (zQ E D zrI 0 0 sz τ τ r g') 4 (sz, τ, 0, 0) g_79 79 [] []) := by
    intro g_79
    unfold j_X10_does_79
    refine z_goto (tgt := 87) F dX10_does_79 (by decide) ?_
    refine z_iconst (v := 1) F (by decide) dX10_does_87 ?_
    exact z_zreturn F rfl rfl rfl rfl rfl (fun h => h) dX10_does_88
  unfold f_X10_does
  refine z_aload_n F 0 rfl rfl dX10_does_0 ?_
  refine gf_X10_19 F hta dX10_does_1 (fun ht4 => ?_)
  refine z_iload_n F 1 rfl rfl dX10_does_4 ?_
  refine z_iald F ht4 dX10_does_5 ?_
  refine z_if_ne (tgt := 16) F dX10_does_6 (by decide) (fun c5 => ?_) (fun c5 => ?_)
  · refine z_aload_n F 0 rfl rfl dX10_does_9 ?_
    refine z_iload_n F 1 rfl rfl dX10_does_10 ?_
    refine k_X10_puts F (by rw [hR]; exact ⟨by decide, by decide⟩) q_1293 hta ⟨Nat.zero_le _, Nat.zero_le _⟩ (Nat.le_of_ble_eq_true rfl) dX10_does_11 (fun v6 g7 => ?_)
    refine z_iconst (v := 1) F (by decide) dX10_does_14 ?_
    exact z_zreturn F rfl rfl rfl rfl rfl (fun h => h) dX10_does_15
  · refine z_aload_n F 0 rfl rfl dX10_does_16 ?_
    refine gf_X10_19 F hta dX10_does_17 (fun ht8 => ?_)
    refine z_iload_n F 1 rfl rfl dX10_does_20 ?_
    refine z_iald F ht8 dX10_does_21 ?_
    refine z_iconst (v := 1) F (by decide) dX10_does_22 ?_
    refine z_icmp_ne (tgt := 89) F dX10_does_23 (by decide) (fun c9 => ?_) (fun c9 => ?_)
    · refine z_aload_n F 0 rfl rfl dX10_does_26 ?_
      refine k_X10_canGo F (by rw [hR]; exact ⟨by decide, by decide⟩) q_1223 hta ⟨Nat.zero_le _, Nat.zero_le _⟩ (Nat.le_of_ble_eq_true rfl) dX10_does_27 (fun v10 g11 => ?_)
      refine z_if_ne (tgt := 35) F dX10_does_30 (by decide) (fun c12 => ?_) (fun c12 => ?_)
      · refine z_iconst (v := 0) F (by decide) dX10_does_33 ?_
        exact z_zreturn F rfl rfl rfl rfl rfl (fun h => h) dX10_does_34
      · refine z_iload_n F 2 rfl rfl dX10_does_35 ?_
        refine z_if_eq (tgt := 82) F dX10_does_36 (by decide) (fun c13 => ?_) (fun c13 => ?_)
        · refine z_aload_n F 0 rfl rfl dX10_does_82 ?_
          refine k_X10_goes F (by rw [hR]; exact ⟨by decide, by decide⟩) q_1235 hta ⟨Nat.zero_le _, Nat.zero_le _⟩ (Nat.le_of_ble_eq_true rfl) dX10_does_83 (fun v14 g15 => ?_)
          refine z_pop F rfl dX10_does_86 ?_
          refine z_iconst (v := 1) F (by decide) dX10_does_87 ?_
          exact z_zreturn F rfl rfl rfl rfl rfl (fun h => h) dX10_does_88
        · refine z_aload_n F 0 rfl rfl dX10_does_39 ?_
          refine z_dup F rfl dX10_does_40 ?_
          refine gf_X10_279 F hta dX10_does_41 ?_
          refine z_aload_n F 0 rfl rfl dX10_does_44 ?_
          refine z_aload_n F 0 rfl rfl dX10_does_45 ?_
          refine gf_X10_13 F hta dX10_does_46 (fun ht16 => ?_)
          refine z_iconst (v := 4) F (by decide) dX10_does_49 ?_
          refine z_iald F ht16 dX10_does_50 ?_
          refine k_X10_strikes F (by rw [hR]; exact ⟨by decide, by decide⟩) q_1227 hta ⟨Nat.zero_le _, Nat.zero_le _⟩ (Nat.le_of_ble_eq_true rfl) dX10_does_51 (fun v17 g18 => ?_)
          refine z_iadd F dX10_does_54 ?_
          refine pf_X10_279 F hta dX10_does_55 ?_
          refine z_letg (fun g19 => ?_)
          refine z_iconst (v := 0) F (by decide) dX10_does_58 ?_
          refine z_istore_n (lv' := [(3, .int 0), (0, .ref a), (1, .int x1), (2, .int x2)]) F rfl (by decide) dX10_does_59 rfl ?_
          refine z_sub (lv' := [(0, .ref a), (3, .int 0)]) [1, 0] rfl ?_
          refine z_loop (P := fun s : Int32 × zG => zAt E D (zA τ sz) (zQ E D zrI 0 0 sz τ τ r g') 4 (sz, τ, 0, 0) s.2 60 [(0, .ref a), (3, .int s.1)] []) (Px := fun x : zG => zAt E D (zA τ sz) (zQ E D zrI 0 0 sz τ τ r g') 4 (sz, τ, 0, 0) x 79 [] []) (0, g19) (fun s => ?_) (fun x => ?_)
          · obtain ⟨l3_60, g_60⟩ := s
            show zSim (zKl (fun s : Int32 × zG => zAt E D (zA τ sz) (zQ E D zrI 0 0 sz τ τ r g') 4 (sz, τ, 0, 0) s.2 60 [(0, .ref a), (3, .int s.1)] []) (fun x : zG => zAt E D (zA τ sz) (zQ E D zrI 0 0 sz τ τ r g') 4 (sz, τ, 0, 0) x 79 [] [])) (l_X10_does_60 a l3_60 g_60) (zAt E D (zA τ sz) (zQ E D zrI 0 0 sz τ τ r g') 4 (sz, τ, 0, 0) g_60 60 [(0, .ref a), (3, .int l3_60)] [])
            unfold l_X10_does_60
            refine z_iload_n F 1 rfl rfl dX10_does_60 ?_
            refine z_bipush (v := 40) F (by decide) dX10_does_61 ?_
            refine z_icmp_ge (tgt := 79) F dX10_does_63 (by decide) (fun c20 => ?_) (fun c20 => ?_)
            · refine z_sub (lv' := []) [] rfl ?_
              exact z_back (fun h => h)
            · refine z_aload_n F 0 rfl rfl dX10_does_66 ?_
              refine gf_X10_71 F hta dX10_does_67 (fun ht21 => ?_)
              refine z_iload_n F 1 rfl rfl dX10_does_70 ?_
              refine z_iconst (v := 0) F (by decide) dX10_does_71 ?_
              refine z_iast F ht21 dX10_does_72 ?_
              refine z_letg (fun g22 => ?_)
              refine z_iincl (lv' := fun v23 => [(3, .int v23), (0, .ref a)]) F 1 rfl (by decide) (by decide) dX10_does_73 (fun _ => rfl) (fun v23 => ?_)
              refine z_goto (tgt := 60) F dX10_does_76 (by decide) ?_
              refine z_sub (lv' := [(0, .ref a), (3, .int v23)]) [1, 0] rfl ?_
              exact z_back (fun h => h)
          · show zSim (fun q : Int32 × zG => q = (r, g')) (j_X10_does_79 a x) (zAt E D (zA τ sz) (zQ E D zrI 0 0 sz τ τ r g') 4 (sz, τ, 0, 0) x 79 [] [])
            exact hj_X10_does_79 x
    · refine z_aload_n F 0 rfl rfl dX10_does_89 ?_
      refine gf_X10_19 F hta dX10_does_90 (fun ht24 => ?_)
      refine z_iload_n F 1 rfl rfl dX10_does_93 ?_
      refine z_iald F ht24 dX10_does_94 ?_
      refine z_iconst (v := 2) F (by decide) dX10_does_95 ?_
      refine z_icmp_ne (tgt := 108) F dX10_does_96 (by decide) (fun c25 => ?_) (fun c25 => ?_)
      · refine z_aload_n F 0 rfl rfl dX10_does_99 ?_
        refine gf_X10_22 F hta dX10_does_100 (fun ht26 => ?_)
        refine z_iload_n F 1 rfl rfl dX10_does_103 ?_
        refine z_iald F ht26 dX10_does_104 ?_
        refine z_goto (tgt := 118) F dX10_does_105 (by decide) ?_
        refine z_sub (lv' := [(0, .ref a), (2, .int x2)]) [0, 2] rfl ?_
        exact hj_X10_does_118 x2 (g.1 (g.2.1 a 6) x1.toNatClampNeg) g
      · refine z_aload_n F 0 rfl rfl dX10_does_108 ?_
        refine z_aload_n F 0 rfl rfl dX10_does_109 ?_
        refine gf_X10_22 F hta dX10_does_110 (fun ht27 => ?_)
        refine z_iload_n F 1 rfl rfl dX10_does_113 ?_
        refine z_iald F ht27 dX10_does_114 ?_
        refine k_X10_toHole F (by rw [hR]; exact ⟨by decide, by decide⟩) q_1273 hta ⟨Nat.zero_le _, Nat.zero_le _⟩ (Nat.le_of_ble_eq_true rfl) dX10_does_115 (fun v28 g29 => ?_)
        refine z_sub (lv' := [(0, .ref a), (2, .int x2)]) [0, 2] rfl ?_
        exact hj_X10_does_118 x2 v28 g29
theorem k_X10_does {ρ : Type} {K : ρ → Prop} {E : zE} {D : zD} {A : Nat → Prop} {Q : State → Prop} {nL : Nat} {κ : zC} {g : zG} {pc : Nat} {lv : List (Nat × Value)} {st : List Value} {cc : ByteArray} {own : String} {ret : Option FieldType} (F : zF E D A cc own nL ret) {index : Nat} {h : Int32 → zG → Option ρ} {a : Nat} {x1 : Int32} {x2 : Int32}  (hR : 4 + 1 ≤ E.2.2.2.1.frames ∧ 8 + (4 + 11) + 94 ≤ E.2.2.2.1.locals) (hl : zTbl (.methodLink own index yX10_does)) (hta : κ.2.1 a = some (.inr 10)) (hc : κ.2.2.1 ≤ E.2.2.2.1.cells ∧ κ.2.2.2 ≤ E.2.2.2.1.slots) (hW : (st.map fun v => v.category).sum ≤ 8) (hd : decode cc pc = .ok (.invokevirtual index, 3)) (kk : ∀ r g', zSim K (h r g') (zAt E D A Q nL κ g' (pc + 3) lv (.int r :: st))) : zSim K (zb (f_X10_does a x1 x2 g) h) (zAt E D A Q nL κ g pc lv (.int x2 :: .int x1 :: .ref a :: st)) :=
  z_callV F (n := 2) (As := [.int x1, .int x2]) (C := (RX10, TX10, 61)) ⟨q_1292, q_14, by decide +kernel, rfl, rfl, hR.1, hR.2⟩ (c_X10_does E.2.1 D κ.1 κ.2.1 g a x1 x2 hta) hl q_1291 q_1417 hta rfl rfl rfl hc hW hd kk _ rfl
theorem dX10_run_0 : decode cX10_run 0 = .ok (.aload_n 0, 1) := by decide +kernel
theorem dX10_run_1 : decode cX10_run 1 = .ok (.getfield 279, 3) := by decide +kernel
theorem dX10_run_4 : decode cX10_run 4 = .ok (.istore_n 1, 1) := by decide +kernel
theorem dX10_run_5 : decode cX10_run 5 = .ok (.aload_n 0, 1) := by decide +kernel
theorem dX10_run_6 : decode cX10_run 6 = .ok (.iconst 1, 1) := by decide +kernel
theorem dX10_run_7 : decode cX10_run 7 = .ok (.putfield 145, 3) := by decide +kernel
theorem dX10_run_10 : decode cX10_run 10 = .ok (.aload_n 0, 1) := by decide +kernel
theorem dX10_run_11 : decode cX10_run 11 = .ok (.iconst 0, 1) := by decide +kernel
theorem dX10_run_12 : decode cX10_run 12 = .ok (.putfield 326, 3) := by decide +kernel
theorem dX10_run_15 : decode cX10_run 15 = .ok (.aload_n 0, 1) := by decide +kernel
theorem dX10_run_16 : decode cX10_run 16 = .ok (.bipush (-4), 2) := by decide +kernel
theorem dX10_run_18 : decode cX10_run 18 = .ok (.putfield 329, 3) := by decide +kernel
theorem dX10_run_21 : decode cX10_run 21 = .ok (.iconst 0, 1) := by decide +kernel
theorem dX10_run_22 : decode cX10_run 22 = .ok (.istore_n 2, 1) := by decide +kernel
theorem dX10_run_23 : decode cX10_run 23 = .ok (.iload_n 2, 1) := by decide +kernel
theorem dX10_run_24 : decode cX10_run 24 = .ok (.aload_n 0, 1) := by decide +kernel
theorem dX10_run_25 : decode cX10_run 25 = .ok (.getfield 142, 3) := by decide +kernel
theorem dX10_run_28 : decode cX10_run 28 = .ok (.if_icmp .ge 59, 3) := by decide +kernel
theorem dX10_run_31 : decode cX10_run 31 = .ok (.aload_n 0, 1) := by decide +kernel
theorem dX10_run_32 : decode cX10_run 32 = .ok (.getfield 329, 3) := by decide +kernel
theorem dX10_run_35 : decode cX10_run 35 = .ok (.bipush (-4), 2) := by decide +kernel
theorem dX10_run_37 : decode cX10_run 37 = .ok (.if_icmp .ne 50, 3) := by decide +kernel
theorem dX10_run_40 : decode cX10_run 40 = .ok (.aload_n 0, 1) := by decide +kernel
theorem dX10_run_41 : decode cX10_run 41 = .ok (.iload_n 2, 1) := by decide +kernel
theorem dX10_run_42 : decode cX10_run 42 = .ok (.iconst 0, 1) := by decide +kernel
theorem dX10_run_43 : decode cX10_run 43 = .ok (.invokevirtual 332, 3) := by decide +kernel
theorem dX10_run_46 : decode cX10_run 46 = .ok (.ifCond .eq 33, 3) := by decide +kernel
theorem dX10_run_49 : decode cX10_run 49 = .ok (.aload_n 0, 1) := by decide +kernel
theorem dX10_run_50 : decode cX10_run 50 = .ok (.dup, 1) := by decide +kernel
theorem dX10_run_51 : decode cX10_run 51 = .ok (.getfield 326, 3) := by decide +kernel
theorem dX10_run_54 : decode cX10_run 54 = .ok (.aload_n 0, 1) := by decide +kernel
theorem dX10_run_55 : decode cX10_run 55 = .ok (.getfield 19, 3) := by decide +kernel
theorem dX10_run_58 : decode cX10_run 58 = .ok (.iload_n 2, 1) := by decide +kernel
theorem dX10_run_59 : decode cX10_run 59 = .ok (.iaload, 1) := by decide +kernel
theorem dX10_run_60 : decode cX10_run 60 = .ok (.iconst 1, 1) := by decide +kernel
theorem dX10_run_61 : decode cX10_run 61 = .ok (.if_icmp .ne 7, 3) := by decide +kernel
theorem dX10_run_64 : decode cX10_run 64 = .ok (.iconst 1, 1) := by decide +kernel
theorem dX10_run_65 : decode cX10_run 65 = .ok (.goto 4, 3) := by decide +kernel
theorem dX10_run_68 : decode cX10_run 68 = .ok (.iconst 0, 1) := by decide +kernel
theorem dX10_run_69 : decode cX10_run 69 = .ok (.iadd, 1) := by decide +kernel
theorem dX10_run_70 : decode cX10_run 70 = .ok (.putfield 326, 3) := by decide +kernel
theorem dX10_run_73 : decode cX10_run 73 = .ok (.iinc 2 1, 3) := by decide +kernel
theorem dX10_run_76 : decode cX10_run 76 = .ok (.goto (-53), 3) := by decide +kernel
theorem dX10_run_79 : decode cX10_run 79 = .ok (.aload_n 0, 1) := by decide +kernel
theorem dX10_run_80 : decode cX10_run 80 = .ok (.iload_n 2, 1) := by decide +kernel
theorem dX10_run_81 : decode cX10_run 81 = .ok (.putfield 329, 3) := by decide +kernel
theorem dX10_run_84 : decode cX10_run 84 = .ok (.goto (-61), 3) := by decide +kernel
theorem dX10_run_87 : decode cX10_run 87 = .ok (.aload_n 0, 1) := by decide +kernel
theorem dX10_run_88 : decode cX10_run 88 = .ok (.aload_n 0, 1) := by decide +kernel
theorem dX10_run_89 : decode cX10_run 89 = .ok (.getfield 279, 3) := by decide +kernel
theorem dX10_run_92 : decode cX10_run 92 = .ok (.iload_n 1, 1) := by decide +kernel
theorem dX10_run_93 : decode cX10_run 93 = .ok (.isub, 1) := by decide +kernel
theorem dX10_run_94 : decode cX10_run 94 = .ok (.putfield 336, 3) := by decide +kernel
theorem dX10_run_97 : decode cX10_run 97 = .ok (.iload_n 2, 1) := by decide +kernel
theorem dX10_run_98 : decode cX10_run 98 = .ok (.ireturn, 1) := by decide +kernel
def j_X10_run_87 (a : Nat) (l1 : Int32) (l2 : Int32) (g : zG) : Option (Int32 × zG) :=
  zl (zsi g a 52 ((g.1 a 34) - l1)) (fun g1 => some ((l2, g1)))
def l_X10_run_23 (a : Nat) (l1 : Int32) (l2 : Int32) (g : zG) : Option ((Int32 × zG) ⊕ (Int32 × zG)) :=
  if (g.1 a 4) ≤ l2 then (some (.inr (l2, g))) else (if (g.1 a 54) = (-4) then (zb (f_X10_does a l2 0 g) (fun v8 g9 => if v8 = 0 then (zl (zsi g9 a 54 l2) (fun g11 => some (.inl (l2, g11)))) else (zc (zin l2 24) (if (g9.1 (g9.2.1 a 5) l2.toNatClampNeg) = 1 then (zl (zsi g9 a 53 ((g9.1 a 53) + 1)) (fun g14 => zl (l2 + 1) (fun v15 => some (.inl (v15, g14))))) else (zl (zsi g9 a 53 ((g9.1 a 53) + 0)) (fun g16 => zl (l2 + 1) (fun v17 => some (.inl (v17, g16))))))))) else (some (.inr (l2, g))))
def f_X10_run (a : Nat) (g : zG) : Option (Int32 × zG) :=
  zl (g.1 a 34) (fun v2 => zl (zsi g a 51 1) (fun g3 => zl (zsi g3 a 53 0) (fun g4 => zl (zsi g4 a 54 (-4)) (fun g5 => zk (zw zN (fun s => l_X10_run_23 a v2 s.1 s.2) (0, g5)) (fun x => j_X10_run_87 a v2 x.1 x.2)))))
abbrev rm_X10_run : Room := { frames := 5, cells := 0, slots := 0, locals := 117 }
set_option maxRecDepth 100000 in
set_option maxHeartbeats 4000000 in
theorem c_X10_run (l : Launch) (D : zD) (sz : Nat) (τ : zT) (g : zG) (a : Nat) (hta : τ a = some (.inr 10)) : zCon l D yX10_run cX10_run 3 (some .int) rm_X10_run 0 0 zrI [.ref a] sz τ g τ (f_X10_run a g) := by
  refine zCon.of (by decide) (Nat.le_of_ble_eq_true rfl) (fun E r g' hl hR hsz hnm F => ?_)
  have F : zF E D (zA τ sz) cX10_run "TypeChainModel" 3 (some .int) := F
  show zSim (fun q : Int32 × zG => q = (r, g')) (f_X10_run a g) (zAt E D (zA τ sz) (zQ E D zrI 0 0 sz τ τ r g') 3 (sz, τ, 0, 0) g 0 [(0, .ref a)] [])
  have hj_X10_run_87 : ∀ (l1_87 : Int32) (l2_87 : Int32) (g_87 : zG), zSim (fun q : Int32 × zG => q = (r, g')) (j_X10_run_87 a l1_87 l2_87 g_87) (zAt E D (zA τ sz) (zQ E D zrI 0 0 sz τ τ r g') 3 (sz, τ, 0, 0) g_87 87 [(0, .ref a), (1, .int l1_87), (2, .int l2_87)] []) := by
    intro l1_87 l2_87 g_87
    unfold j_X10_run_87
    refine z_aload_n F 0 rfl rfl dX10_run_87 ?_
    refine z_aload_n F 0 rfl rfl dX10_run_88 ?_
    refine gf_X10_279 F hta dX10_run_89 ?_
    refine z_iload_n F 1 rfl rfl dX10_run_92 ?_
    refine z_isub F dX10_run_93 ?_
    refine pf_X10_336 F hta dX10_run_94 ?_
    refine z_letg (fun g1 => ?_)
    refine z_iload_n F 2 rfl rfl dX10_run_97 ?_
    exact z_ireturn F rfl rfl rfl rfl (fun h => h) dX10_run_98
  unfold f_X10_run
  refine z_aload_n F 0 rfl rfl dX10_run_0 ?_
  refine gf_X10_279 F hta dX10_run_1 ?_
  refine z_leti (fun v2 => ?_)
  refine z_istore_n (lv' := [(1, .int v2), (0, .ref a)]) F rfl (by decide) dX10_run_4 rfl ?_
  refine z_aload_n F 1 rfl rfl dX10_run_5 ?_
  refine z_iconst (v := 1) F (by decide) dX10_run_6 ?_
  refine pf_X10_145 F hta (Or.inr rfl) dX10_run_7 ?_
  refine z_letg (fun g3 => ?_)
  refine z_aload_n F 1 rfl rfl dX10_run_10 ?_
  refine z_iconst (v := 0) F (by decide) dX10_run_11 ?_
  refine pf_X10_326 F hta dX10_run_12 ?_
  refine z_letg (fun g4 => ?_)
  refine z_aload_n F 1 rfl rfl dX10_run_15 ?_
  refine z_bipush (v := (-4)) F (by decide) dX10_run_16 ?_
  refine pf_X10_329 F hta dX10_run_18 ?_
  refine z_letg (fun g5 => ?_)
  refine z_iconst (v := 0) F (by decide) dX10_run_21 ?_
  refine z_istore_n (lv' := [(2, .int 0), (1, .int v2), (0, .ref a)]) F rfl (by decide) dX10_run_22 rfl ?_
  refine z_sub (lv' := [(0, .ref a), (1, .int v2), (2, .int 0)]) [2, 1, 0] rfl ?_
  refine z_loop (P := fun s : Int32 × zG => zAt E D (zA τ sz) (zQ E D zrI 0 0 sz τ τ r g') 3 (sz, τ, 0, 0) s.2 23 [(0, .ref a), (1, .int v2), (2, .int s.1)] []) (Px := fun x : Int32 × zG => zAt E D (zA τ sz) (zQ E D zrI 0 0 sz τ τ r g') 3 (sz, τ, 0, 0) x.2 87 [(0, .ref a), (1, .int v2), (2, .int x.1)] []) (0, g5) (fun s => ?_) (fun x => ?_)
  · obtain ⟨l2_23, g_23⟩ := s
    show zSim (zKl (fun s : Int32 × zG => zAt E D (zA τ sz) (zQ E D zrI 0 0 sz τ τ r g') 3 (sz, τ, 0, 0) s.2 23 [(0, .ref a), (1, .int v2), (2, .int s.1)] []) (fun x : Int32 × zG => zAt E D (zA τ sz) (zQ E D zrI 0 0 sz τ τ r g') 3 (sz, τ, 0, 0) x.2 87 [(0, .ref a), (1, .int v2), (2, .int x.1)] [])) (l_X10_run_23 a v2 l2_23 g_23) (zAt E D (zA τ sz) (zQ E D zrI 0 0 sz τ τ r g') 3 (sz, τ, 0, 0) g_23 23 [(0, .ref a), (1, .int v2), (2, .int l2_23)] [])
    unfold l_X10_run_23
    refine z_iload_n F 2 rfl rfl dX10_run_23 ?_
    refine z_aload_n F 0 rfl rfl dX10_run_24 ?_
    refine gf_X10_142 F hta dX10_run_25 ?_
    refine z_icmp_ge (tgt := 87) F dX10_run_28 (by decide) (fun c6 => ?_) (fun c6 => ?_)
    · exact z_back (fun h => h)
    · refine z_aload_n F 0 rfl rfl dX10_run_31 ?_
      refine gf_X10_329 F hta dX10_run_32 ?_
      refine z_bipush (v := (-4)) F (by decide) dX10_run_35 ?_
      refine z_icmp_ne (tgt := 87) F dX10_run_37 (by decide) (fun c7 => ?_) (fun c7 => ?_)
      · refine z_aload_n F 0 rfl rfl dX10_run_40 ?_
        refine z_iload_n F 2 rfl rfl dX10_run_41 ?_
        refine z_iconst (v := 0) F (by decide) dX10_run_42 ?_
        refine k_X10_does F (by rw [hR]; exact ⟨by decide, by decide⟩) q_1289 hta ⟨Nat.zero_le _, Nat.zero_le _⟩ (Nat.le_of_ble_eq_true rfl) dX10_run_43 (fun v8 g9 => ?_)
        refine z_if_eq (tgt := 79) F dX10_run_46 (by decide) (fun c10 => ?_) (fun c10 => ?_)
        · refine z_aload_n F 0 rfl rfl dX10_run_79 ?_
          refine z_iload_n F 2 rfl rfl dX10_run_80 ?_
          refine pf_X10_329 F hta dX10_run_81 ?_
          refine z_letg (fun g11 => ?_)
          refine z_goto (tgt := 23) F dX10_run_84 (by decide) ?_
          exact z_back (fun h => h)
        · refine z_aload_n F 0 rfl rfl dX10_run_49 ?_
          refine z_dup F rfl dX10_run_50 ?_
          refine gf_X10_326 F hta dX10_run_51 ?_
          refine z_aload_n F 0 rfl rfl dX10_run_54 ?_
          refine gf_X10_19 F hta dX10_run_55 (fun ht12 => ?_)
          refine z_iload_n F 2 rfl rfl dX10_run_58 ?_
          refine z_iald F ht12 dX10_run_59 ?_
          refine z_iconst (v := 1) F (by decide) dX10_run_60 ?_
          refine z_icmp_ne (tgt := 68) F dX10_run_61 (by decide) (fun c13 => ?_) (fun c13 => ?_)
          · refine z_iconst (v := 1) F (by decide) dX10_run_64 ?_
            refine z_goto (tgt := 69) F dX10_run_65 (by decide) ?_
            refine z_iadd F dX10_run_69 ?_
            refine pf_X10_326 F hta dX10_run_70 ?_
            refine z_letg (fun g14 => ?_)
            refine z_iincl (lv' := fun v15 => [(2, .int v15), (0, .ref a), (1, .int v2)]) F 2 rfl (by decide) (by decide) dX10_run_73 (fun _ => rfl) (fun v15 => ?_)
            refine z_goto (tgt := 23) F dX10_run_76 (by decide) ?_
            refine z_sub (lv' := [(0, .ref a), (1, .int v2), (2, .int v15)]) [1, 2, 0] rfl ?_
            exact z_back (fun h => h)
          · refine z_iconst (v := 0) F (by decide) dX10_run_68 ?_
            refine z_iadd F dX10_run_69 ?_
            refine pf_X10_326 F hta dX10_run_70 ?_
            refine z_letg (fun g16 => ?_)
            refine z_iincl (lv' := fun v17 => [(2, .int v17), (0, .ref a), (1, .int v2)]) F 2 rfl (by decide) (by decide) dX10_run_73 (fun _ => rfl) (fun v17 => ?_)
            refine z_goto (tgt := 23) F dX10_run_76 (by decide) ?_
            refine z_sub (lv' := [(0, .ref a), (1, .int v2), (2, .int v17)]) [1, 2, 0] rfl ?_
            exact z_back (fun h => h)
      · exact z_back (fun h => h)
  · show zSim (fun q : Int32 × zG => q = (r, g')) (j_X10_run_87 a v2 x.1 x.2) (zAt E D (zA τ sz) (zQ E D zrI 0 0 sz τ τ r g') 3 (sz, τ, 0, 0) x.2 87 [(0, .ref a), (1, .int v2), (2, .int x.1)] [])
    exact hj_X10_run_87 v2 x.1 x.2
theorem k_X10_run {ρ : Type} {K : ρ → Prop} {E : zE} {D : zD} {A : Nat → Prop} {Q : State → Prop} {nL : Nat} {κ : zC} {g : zG} {pc : Nat} {lv : List (Nat × Value)} {st : List Value} {cc : ByteArray} {own : String} {ret : Option FieldType} (F : zF E D A cc own nL ret) {index : Nat} {h : Int32 → zG → Option ρ} {a : Nat}  (hR : 5 + 1 ≤ E.2.2.2.1.frames ∧ 8 + (3 + 11) + 117 ≤ E.2.2.2.1.locals) (hl : zTbl (.methodLink own index yX10_run)) (hta : κ.2.1 a = some (.inr 10)) (hc : κ.2.2.1 ≤ E.2.2.2.1.cells ∧ κ.2.2.2 ≤ E.2.2.2.1.slots) (hW : (st.map fun v => v.category).sum ≤ 8) (hd : decode cc pc = .ok (.invokevirtual index, 3)) (kk : ∀ r g', zSim K (h r g') (zAt E D A Q nL κ g' (pc + 3) lv (.int r :: st))) : zSim K (zb (f_X10_run a g) h) (zAt E D A Q nL κ g pc lv (.ref a :: st)) :=
  z_callV F (n := 0) (As := []) (C := (RX10, TX10, 61)) ⟨q_1288, q_14, by decide +kernel, rfl, rfl, hR.1, hR.2⟩ (c_X10_run E.2.1 D κ.1 κ.2.1 g a hta) hl q_1286 q_1287 hta rfl rfl rfl hc hW hd kk _ rfl
theorem dX10_ran_0 : decode cX10_ran 0 = .ok (.iload_n 1, 1) := by decide +kernel
theorem dX10_ran_1 : decode cX10_ran 1 = .ok (.i2l, 1) := by decide +kernel
theorem dX10_ran_2 : decode cX10_ran 2 = .ok (.lconst 0, 1) := by decide +kernel
theorem dX10_ran_3 : decode cX10_ran 3 = .ok (.ldc2_w 217, 3) := by decide +kernel
theorem dX10_ran_6 : decode cX10_ran 6 = .ok (.invokestatic 165, 3) := by decide +kernel
theorem dX10_ran_9 : decode cX10_ran 9 = .ok (.ifCond .ne 5, 3) := by decide +kernel
theorem dX10_ran_12 : decode cX10_ran 12 = .ok (.iconst (-1), 1) := by decide +kernel
theorem dX10_ran_13 : decode cX10_ran 13 = .ok (.ireturn, 1) := by decide +kernel
theorem dX10_ran_14 : decode cX10_ran 14 = .ok (.aload_n 0, 1) := by decide +kernel
theorem dX10_ran_15 : decode cX10_ran 15 = .ok (.getfield 145, 3) := by decide +kernel
theorem dX10_ran_18 : decode cX10_ran 18 = .ok (.ifCond .ne 8, 3) := by decide +kernel
theorem dX10_ran_21 : decode cX10_ran 21 = .ok (.bipush (-2), 2) := by decide +kernel
theorem dX10_ran_23 : decode cX10_ran 23 = .ok (.goto 30, 3) := by decide +kernel
theorem dX10_ran_26 : decode cX10_ran 26 = .ok (.iload_n 1, 1) := by decide +kernel
theorem dX10_ran_27 : decode cX10_ran 27 = .ok (.ifCond .ne 10, 3) := by decide +kernel
theorem dX10_ran_30 : decode cX10_ran 30 = .ok (.aload_n 0, 1) := by decide +kernel
theorem dX10_ran_31 : decode cX10_ran 31 = .ok (.getfield 336, 3) := by decide +kernel
theorem dX10_ran_34 : decode cX10_ran 34 = .ok (.goto 19, 3) := by decide +kernel
theorem dX10_ran_37 : decode cX10_ran 37 = .ok (.iload_n 1, 1) := by decide +kernel
theorem dX10_ran_38 : decode cX10_ran 38 = .ok (.iconst 1, 1) := by decide +kernel
theorem dX10_ran_39 : decode cX10_ran 39 = .ok (.if_icmp .ne 10, 3) := by decide +kernel
theorem dX10_ran_42 : decode cX10_ran 42 = .ok (.aload_n 0, 1) := by decide +kernel
theorem dX10_ran_43 : decode cX10_ran 43 = .ok (.getfield 326, 3) := by decide +kernel
theorem dX10_ran_46 : decode cX10_ran 46 = .ok (.goto 7, 3) := by decide +kernel
theorem dX10_ran_49 : decode cX10_ran 49 = .ok (.aload_n 0, 1) := by decide +kernel
theorem dX10_ran_50 : decode cX10_ran 50 = .ok (.getfield 329, 3) := by decide +kernel
theorem dX10_ran_53 : decode cX10_ran 53 = .ok (.ireturn, 1) := by decide +kernel
def f_X10_ran (a : Nat) (x1 : Int32) (g : zG) : Option (Int32 × zG) :=
  zb (f_X10_in x1.toInt64 0 2 g) (fun v1 g2 => if v1 = 0 then (some (((-1), g2))) else (if (g2.1 a 51) = 0 then (some (((-2), g2))) else (if x1 = 0 then (some ((g2.1 a 52, g2))) else (if x1 = 1 then (some ((g2.1 a 53, g2))) else (some ((g2.1 a 54, g2)))))))
abbrev rm_X10_ran : Room := { frames := 1, cells := 0, slots := 0, locals := 25 }
set_option maxRecDepth 100000 in
set_option maxHeartbeats 4000000 in
theorem c_X10_ran (l : Launch) (D : zD) (sz : Nat) (τ : zT) (g : zG) (a : Nat) (x1 : Int32) (hta : τ a = some (.inr 10)) : zCon l D yX10_ran cX10_ran 2 (some .int) rm_X10_ran 0 0 zrI [.ref a, .int x1] sz τ g τ (f_X10_ran a x1 g) := by
  refine zCon.of (by decide) (Nat.le_of_ble_eq_true rfl) (fun E r g' hl hR hsz hnm F => ?_)
  have F : zF E D (zA τ sz) cX10_ran "TypeChainModel" 2 (some .int) := F
  show zSim (fun q : Int32 × zG => q = (r, g')) (f_X10_ran a x1 g) (zAt E D (zA τ sz) (zQ E D zrI 0 0 sz τ τ r g') 2 (sz, τ, 0, 0) g 0 [(0, .ref a), (1, .int x1)] [])
  unfold f_X10_ran
  refine z_iload_n F 1 rfl rfl dX10_ran_0 ?_
  refine z_i2l F dX10_ran_1 ?_
  refine z_lconst (v := 0) F (by decide) dX10_ran_2 ?_
  refine z_ldc2 F q_1129 dX10_ran_3 ?_
  refine k_X10_in F (by rw [hR]; exact ⟨by decide, by decide⟩) q_1082  ⟨Nat.zero_le _, Nat.zero_le _⟩ (Nat.le_of_ble_eq_true rfl) dX10_ran_6 (fun v1 g2 => ?_)
  refine z_if_ne (tgt := 14) F dX10_ran_9 (by decide) (fun c3 => ?_) (fun c3 => ?_)
  · refine z_iconst (v := (-1)) F (by decide) dX10_ran_12 ?_
    exact z_ireturn F rfl rfl rfl rfl (fun h => h) dX10_ran_13
  · refine z_aload_n F 0 rfl rfl dX10_ran_14 ?_
    refine gf_X10_145 F hta dX10_ran_15 ?_
    refine z_if_ne (tgt := 26) F dX10_ran_18 (by decide) (fun c4 => ?_) (fun c4 => ?_)
    · refine z_bipush (v := (-2)) F (by decide) dX10_ran_21 ?_
      refine z_goto (tgt := 53) F dX10_ran_23 (by decide) ?_
      exact z_ireturn F rfl rfl rfl rfl (fun h => h) dX10_ran_53
    · refine z_iload_n F 1 rfl rfl dX10_ran_26 ?_
      refine z_if_ne (tgt := 37) F dX10_ran_27 (by decide) (fun c5 => ?_) (fun c5 => ?_)
      · refine z_aload_n F 0 rfl rfl dX10_ran_30 ?_
        refine gf_X10_336 F hta dX10_ran_31 ?_
        refine z_goto (tgt := 53) F dX10_ran_34 (by decide) ?_
        exact z_ireturn F rfl rfl rfl rfl (fun h => h) dX10_ran_53
      · refine z_iload_n F 1 rfl rfl dX10_ran_37 ?_
        refine z_iconst (v := 1) F (by decide) dX10_ran_38 ?_
        refine z_icmp_ne (tgt := 49) F dX10_ran_39 (by decide) (fun c6 => ?_) (fun c6 => ?_)
        · refine z_aload_n F 0 rfl rfl dX10_ran_42 ?_
          refine gf_X10_326 F hta dX10_ran_43 ?_
          refine z_goto (tgt := 53) F dX10_ran_46 (by decide) ?_
          exact z_ireturn F rfl rfl rfl rfl (fun h => h) dX10_ran_53
        · refine z_aload_n F 0 rfl rfl dX10_ran_49 ?_
          refine gf_X10_329 F hta dX10_ran_50 ?_
          exact z_ireturn F rfl rfl rfl rfl (fun h => h) dX10_ran_53
theorem k_X10_ran {ρ : Type} {K : ρ → Prop} {E : zE} {D : zD} {A : Nat → Prop} {Q : State → Prop} {nL : Nat} {κ : zC} {g : zG} {pc : Nat} {lv : List (Nat × Value)} {st : List Value} {cc : ByteArray} {own : String} {ret : Option FieldType} (F : zF E D A cc own nL ret) {index : Nat} {h : Int32 → zG → Option ρ} {a : Nat} {x1 : Int32}  (hR : 1 + 1 ≤ E.2.2.2.1.frames ∧ 8 + (2 + 11) + 25 ≤ E.2.2.2.1.locals) (hl : zTbl (.methodLink own index yX10_ran)) (hta : κ.2.1 a = some (.inr 10)) (hc : κ.2.2.1 ≤ E.2.2.2.1.cells ∧ κ.2.2.2 ≤ E.2.2.2.1.slots) (hW : (st.map fun v => v.category).sum ≤ 8) (hd : decode cc pc = .ok (.invokevirtual index, 3)) (kk : ∀ r g', zSim K (h r g') (zAt E D A Q nL κ g' (pc + 3) lv (.int r :: st))) : zSim K (zb (f_X10_ran a x1 g) h) (zAt E D A Q nL κ g pc lv (.int x1 :: .ref a :: st)) :=
  z_callV F (n := 1) (As := [.int x1]) (C := (RX10, TX10, 61)) ⟨q_1300, q_14, by decide +kernel, rfl, rfl, hR.1, hR.2⟩ (c_X10_ran E.2.1 D κ.1 κ.2.1 g a x1 hta) hl q_1298 q_1299 hta rfl rfl rfl hc hW hd kk _ rfl
theorem dX10_tries_0 : decode cX10_tries 0 = .ok (.aload_n 0, 1) := by decide +kernel
theorem dX10_tries_1 : decode cX10_tries 1 = .ok (.getfield 279, 3) := by decide +kernel
theorem dX10_tries_4 : decode cX10_tries 4 = .ok (.istore_n 1, 1) := by decide +kernel
theorem dX10_tries_5 : decode cX10_tries 5 = .ok (.aload_n 0, 1) := by decide +kernel
theorem dX10_tries_6 : decode cX10_tries 6 = .ok (.getfield 282, 3) := by decide +kernel
theorem dX10_tries_9 : decode cX10_tries 9 = .ok (.istore_n 2, 1) := by decide +kernel
theorem dX10_tries_10 : decode cX10_tries 10 = .ok (.iconst 0, 1) := by decide +kernel
theorem dX10_tries_11 : decode cX10_tries 11 = .ok (.istore_n 3, 1) := by decide +kernel
theorem dX10_tries_12 : decode cX10_tries 12 = .ok (.iload_n 3, 1) := by decide +kernel
theorem dX10_tries_13 : decode cX10_tries 13 = .ok (.bipush 40, 2) := by decide +kernel
theorem dX10_tries_15 : decode cX10_tries 15 = .ok (.if_icmp .ge 21, 3) := by decide +kernel
theorem dX10_tries_18 : decode cX10_tries 18 = .ok (.aload_n 0, 1) := by decide +kernel
theorem dX10_tries_19 : decode cX10_tries 19 = .ok (.getfield 98, 3) := by decide +kernel
theorem dX10_tries_22 : decode cX10_tries 22 = .ok (.iload_n 3, 1) := by decide +kernel
theorem dX10_tries_23 : decode cX10_tries 23 = .ok (.aload_n 0, 1) := by decide +kernel
theorem dX10_tries_24 : decode cX10_tries 24 = .ok (.getfield 71, 3) := by decide +kernel
theorem dX10_tries_27 : decode cX10_tries 27 = .ok (.iload_n 3, 1) := by decide +kernel
theorem dX10_tries_28 : decode cX10_tries 28 = .ok (.iaload, 1) := by decide +kernel
theorem dX10_tries_29 : decode cX10_tries 29 = .ok (.iastore, 1) := by decide +kernel
theorem dX10_tries_30 : decode cX10_tries 30 = .ok (.iinc 3 1, 3) := by decide +kernel
theorem dX10_tries_33 : decode cX10_tries 33 = .ok (.goto (-21), 3) := by decide +kernel
theorem dX10_tries_36 : decode cX10_tries 36 = .ok (.aload_n 0, 1) := by decide +kernel
theorem dX10_tries_37 : decode cX10_tries 37 = .ok (.invokevirtual 151, 3) := by decide +kernel
theorem dX10_tries_40 : decode cX10_tries 40 = .ok (.iconst 1, 1) := by decide +kernel
theorem dX10_tries_41 : decode cX10_tries 41 = .ok (.istore_n 3, 1) := by decide +kernel
theorem dX10_tries_42 : decode cX10_tries 42 = .ok (.iconst 0, 1) := by decide +kernel
theorem dX10_tries_43 : decode cX10_tries 43 = .ok (.istore 4, 2) := by decide +kernel
theorem dX10_tries_45 : decode cX10_tries 45 = .ok (.iload 4, 2) := by decide +kernel
theorem dX10_tries_47 : decode cX10_tries 47 = .ok (.aload_n 0, 1) := by decide +kernel
theorem dX10_tries_48 : decode cX10_tries 48 = .ok (.getfield 142, 3) := by decide +kernel
theorem dX10_tries_51 : decode cX10_tries 51 = .ok (.if_icmp .ge 21, 3) := by decide +kernel
theorem dX10_tries_54 : decode cX10_tries 54 = .ok (.iload_n 3, 1) := by decide +kernel
theorem dX10_tries_55 : decode cX10_tries 55 = .ok (.ifCond .eq 17, 3) := by decide +kernel
theorem dX10_tries_58 : decode cX10_tries 58 = .ok (.aload_n 0, 1) := by decide +kernel
theorem dX10_tries_59 : decode cX10_tries 59 = .ok (.iload 4, 2) := by decide +kernel
theorem dX10_tries_61 : decode cX10_tries 61 = .ok (.iconst 1, 1) := by decide +kernel
theorem dX10_tries_62 : decode cX10_tries 62 = .ok (.invokevirtual 332, 3) := by decide +kernel
theorem dX10_tries_65 : decode cX10_tries 65 = .ok (.istore_n 3, 1) := by decide +kernel
theorem dX10_tries_66 : decode cX10_tries 66 = .ok (.iinc 4 1, 3) := by decide +kernel
theorem dX10_tries_69 : decode cX10_tries 69 = .ok (.goto (-24), 3) := by decide +kernel
theorem dX10_tries_72 : decode cX10_tries 72 = .ok (.iload_n 3, 1) := by decide +kernel
theorem dX10_tries_73 : decode cX10_tries 73 = .ok (.ifCond .eq 10, 3) := by decide +kernel
theorem dX10_tries_76 : decode cX10_tries 76 = .ok (.aload_n 0, 1) := by decide +kernel
theorem dX10_tries_77 : decode cX10_tries 77 = .ok (.getfield 279, 3) := by decide +kernel
theorem dX10_tries_80 : decode cX10_tries 80 = .ok (.goto 6, 3) := by decide +kernel
theorem dX10_tries_83 : decode cX10_tries 83 = .ok (.ldc_w 339, 3) := by decide +kernel
theorem dX10_tries_86 : decode cX10_tries 86 = .ok (.istore 4, 2) := by decide +kernel
theorem dX10_tries_88 : decode cX10_tries 88 = .ok (.aload_n 0, 1) := by decide +kernel
theorem dX10_tries_89 : decode cX10_tries 89 = .ok (.iload_n 1, 1) := by decide +kernel
theorem dX10_tries_90 : decode cX10_tries 90 = .ok (.putfield 279, 3) := by decide +kernel
theorem dX10_tries_93 : decode cX10_tries 93 = .ok (.aload_n 0, 1) := by decide +kernel
theorem dX10_tries_94 : decode cX10_tries 94 = .ok (.iload_n 2, 1) := by decide +kernel
theorem dX10_tries_95 : decode cX10_tries 95 = .ok (.putfield 282, 3) := by decide +kernel
theorem dX10_tries_98 : decode cX10_tries 98 = .ok (.iconst 0, 1) := by decide +kernel
theorem dX10_tries_99 : decode cX10_tries 99 = .ok (.istore 5, 2) := by decide +kernel
theorem dX10_tries_101 : decode cX10_tries 101 = .ok (.iload 5, 2) := by decide +kernel
theorem dX10_tries_103 : decode cX10_tries 103 = .ok (.bipush 40, 2) := by decide +kernel
theorem dX10_tries_105 : decode cX10_tries 105 = .ok (.if_icmp .ge 23, 3) := by decide +kernel
theorem dX10_tries_108 : decode cX10_tries 108 = .ok (.aload_n 0, 1) := by decide +kernel
theorem dX10_tries_109 : decode cX10_tries 109 = .ok (.getfield 71, 3) := by decide +kernel
theorem dX10_tries_112 : decode cX10_tries 112 = .ok (.iload 5, 2) := by decide +kernel
theorem dX10_tries_114 : decode cX10_tries 114 = .ok (.aload_n 0, 1) := by decide +kernel
theorem dX10_tries_115 : decode cX10_tries 115 = .ok (.getfield 98, 3) := by decide +kernel
theorem dX10_tries_118 : decode cX10_tries 118 = .ok (.iload 5, 2) := by decide +kernel
theorem dX10_tries_120 : decode cX10_tries 120 = .ok (.iaload, 1) := by decide +kernel
theorem dX10_tries_121 : decode cX10_tries 121 = .ok (.iastore, 1) := by decide +kernel
theorem dX10_tries_122 : decode cX10_tries 122 = .ok (.iinc 5 1, 3) := by decide +kernel
theorem dX10_tries_125 : decode cX10_tries 125 = .ok (.goto (-24), 3) := by decide +kernel
theorem dX10_tries_128 : decode cX10_tries 128 = .ok (.iload 4, 2) := by decide +kernel
theorem dX10_tries_130 : decode cX10_tries 130 = .ok (.ireturn, 1) := by decide +kernel
def j_X10_tries_128 (a : Nat) (l4 : Int32) (g : zG) : Option (Int32 × zG) :=
  some ((l4, g))
def l_X10_tries_101 (a : Nat) (l4 : Int32) (l5 : Int32) (g : zG) : Option ((Int32 × zG) ⊕ (zG)) :=
  if 40 ≤ l5 then (some (.inr g)) else (zc (zin l5 40) (zc (zin l5 40) (zl (zsi g (g.2.1 a 37) l5.toNatClampNeg (g.1 (g.2.1 a 55) l5.toNatClampNeg)) (fun g6 => zl (l5 + 1) (fun v7 => some (.inl (v7, g6)))))))
def j_X10_tries_86 (a : Nat) (l1 : Int32) (l2 : Int32) (s0 : Int32) (g : zG) : Option (Int32 × zG) :=
  zl (zsi g a 34 l1) (fun g1 => zl (zsi g1 a 35 l2) (fun g2 => zk (zw zN (fun s => l_X10_tries_101 a s0 s.1 s.2) (0, g2)) (fun x => j_X10_tries_128 a s0 x)))
def j_X10_tries_72 (a : Nat) (l1 : Int32) (l2 : Int32) (l3 : Int32) (g : zG) : Option (Int32 × zG) :=
  if l3 = 0 then (j_X10_tries_86 a l1 l2 1000000000 g) else (j_X10_tries_86 a l1 l2 (g.1 a 34) g)
def l_X10_tries_45 (a : Nat) (l1 : Int32) (l2 : Int32) (l3 : Int32) (l4 : Int32) (g : zG) : Option ((Int32 × Int32 × zG) ⊕ (Int32 × zG)) :=
  if (g.1 a 4) ≤ l4 then (some (.inr (l3, g))) else (if l3 = 0 then (some (.inr (l3, g))) else (zb (f_X10_does a l4 1 g) (fun v13 g14 => zl (l4 + 1) (fun v15 => some (.inl (v13, v15, g14))))))
def j_X10_tries_36 (a : Nat) (l1 : Int32) (l2 : Int32) (g : zG) : Option (Int32 × zG) :=
  zb (f_X10_begins a g) (fun v9 g10 => zk (zw zN (fun s => l_X10_tries_45 a l1 l2 s.1 s.2.1 s.2.2) (1, 0, g10)) (fun x => j_X10_tries_72 a l1 l2 x.1 x.2))
def l_X10_tries_12 (a : Nat) (l1 : Int32) (l2 : Int32) (l3 : Int32) (g : zG) : Option ((Int32 × zG) ⊕ (zG)) :=
  if 40 ≤ l3 then (some (.inr g)) else (zc (zin l3 40) (zc (zin l3 40) (zl (zsi g (g.2.1 a 55) l3.toNatClampNeg (g.1 (g.2.1 a 37) l3.toNatClampNeg)) (fun g21 => zl (l3 + 1) (fun v22 => some (.inl (v22, g21)))))))
def f_X10_tries (a : Nat) (g : zG) : Option (Int32 × zG) :=
  zl (g.1 a 34) (fun v16 => zl (g.1 a 35) (fun v17 => zk (zw zN (fun s => l_X10_tries_12 a v16 v17 s.1 s.2) (0, g)) (fun x => j_X10_tries_36 a v16 v17 x)))
abbrev rm_X10_tries : Room := { frames := 5, cells := 0, slots := 0, locals := 117 }
set_option maxRecDepth 100000 in
set_option maxHeartbeats 4000000 in
theorem c_X10_tries (l : Launch) (D : zD) (sz : Nat) (τ : zT) (g : zG) (a : Nat) (hta : τ a = some (.inr 10)) : zCon l D yX10_tries cX10_tries 6 (some .int) rm_X10_tries 0 0 zrI [.ref a] sz τ g τ (f_X10_tries a g) := by
  refine zCon.of (by decide) (Nat.le_of_ble_eq_true rfl) (fun E r g' hl hR hsz hnm F => ?_)
  have F : zF E D (zA τ sz) cX10_tries "TypeChainModel" 6 (some .int) := F
  show zSim (fun q : Int32 × zG => q = (r, g')) (f_X10_tries a g) (zAt E D (zA τ sz) (zQ E D zrI 0 0 sz τ τ r g') 6 (sz, τ, 0, 0) g 0 [(0, .ref a)] [])
  have hj_X10_tries_128 : ∀ (l4_128 : Int32) (g_128 : zG), zSim (fun q : Int32 × zG => q = (r, g')) (j_X10_tries_128 a l4_128 g_128) (zAt E D (zA τ sz) (zQ E D zrI 0 0 sz τ τ r g') 6 (sz, τ, 0, 0) g_128 128 [(4, .int l4_128)] []) := by
    intro l4_128 g_128
    unfold j_X10_tries_128
    refine z_iload F 0 rfl dX10_tries_128 ?_
    exact z_ireturn F rfl rfl rfl rfl (fun h => h) dX10_tries_130
  have hj_X10_tries_86 : ∀ (l1_86 : Int32) (l2_86 : Int32) (s0_86 : Int32) (g_86 : zG), zSim (fun q : Int32 × zG => q = (r, g')) (j_X10_tries_86 a l1_86 l2_86 s0_86 g_86) (zAt E D (zA τ sz) (zQ E D zrI 0 0 sz τ τ r g') 6 (sz, τ, 0, 0) g_86 86 [(0, .ref a), (1, .int l1_86), (2, .int l2_86)] [.int s0_86]) := by
    intro l1_86 l2_86 s0_86 g_86
    unfold j_X10_tries_86
    refine z_istore (lv' := [(4, .int s0_86), (0, .ref a), (1, .int l1_86), (2, .int l2_86)]) F (by decide) dX10_tries_86 rfl ?_
    refine z_aload_n F 1 rfl rfl dX10_tries_88 ?_
    refine z_iload_n F 2 rfl rfl dX10_tries_89 ?_
    refine pf_X10_279 F hta dX10_tries_90 ?_
    refine z_letg (fun g1 => ?_)
    refine z_aload_n F 1 rfl rfl dX10_tries_93 ?_
    refine z_iload_n F 3 rfl rfl dX10_tries_94 ?_
    refine pf_X10_282 F hta dX10_tries_95 ?_
    refine z_letg (fun g2 => ?_)
    refine z_iconst (v := 0) F (by decide) dX10_tries_98 ?_
    refine z_istore (lv' := [(5, .int 0), (4, .int s0_86), (0, .ref a), (1, .int l1_86), (2, .int l2_86)]) F (by decide) dX10_tries_99 rfl ?_
    refine z_sub (lv' := [(0, .ref a), (4, .int s0_86), (5, .int 0)]) [2, 1, 0] rfl ?_
    refine z_loop (P := fun s : Int32 × zG => zAt E D (zA τ sz) (zQ E D zrI 0 0 sz τ τ r g') 6 (sz, τ, 0, 0) s.2 101 [(0, .ref a), (4, .int s0_86), (5, .int s.1)] []) (Px := fun x : zG => zAt E D (zA τ sz) (zQ E D zrI 0 0 sz τ τ r g') 6 (sz, τ, 0, 0) x 128 [(4, .int s0_86)] []) (0, g2) (fun s => ?_) (fun x => ?_)
    · obtain ⟨l5_101, g_101⟩ := s
      show zSim (zKl (fun s : Int32 × zG => zAt E D (zA τ sz) (zQ E D zrI 0 0 sz τ τ r g') 6 (sz, τ, 0, 0) s.2 101 [(0, .ref a), (4, .int s0_86), (5, .int s.1)] []) (fun x : zG => zAt E D (zA τ sz) (zQ E D zrI 0 0 sz τ τ r g') 6 (sz, τ, 0, 0) x 128 [(4, .int s0_86)] [])) (l_X10_tries_101 a s0_86 l5_101 g_101) (zAt E D (zA τ sz) (zQ E D zrI 0 0 sz τ τ r g') 6 (sz, τ, 0, 0) g_101 101 [(0, .ref a), (4, .int s0_86), (5, .int l5_101)] [])
      unfold l_X10_tries_101
      refine z_iload F 2 rfl dX10_tries_101 ?_
      refine z_bipush (v := 40) F (by decide) dX10_tries_103 ?_
      refine z_icmp_ge (tgt := 128) F dX10_tries_105 (by decide) (fun c3 => ?_) (fun c3 => ?_)
      · refine z_sub (lv' := [(4, .int s0_86)]) [1] rfl ?_
        exact z_back (fun h => h)
      · refine z_aload_n F 0 rfl rfl dX10_tries_108 ?_
        refine gf_X10_71 F hta dX10_tries_109 (fun ht4 => ?_)
        refine z_iload F 2 rfl dX10_tries_112 ?_
        refine z_aload_n F 0 rfl rfl dX10_tries_114 ?_
        refine gf_X10_98 F hta dX10_tries_115 (fun ht5 => ?_)
        refine z_iload F 2 rfl dX10_tries_118 ?_
        refine z_iald F ht5 dX10_tries_120 ?_
        refine z_iast F ht4 dX10_tries_121 ?_
        refine z_letg (fun g6 => ?_)
        refine z_iincl (lv' := fun v7 => [(5, .int v7), (0, .ref a), (4, .int s0_86)]) F 2 rfl (by decide) (by decide) dX10_tries_122 (fun _ => rfl) (fun v7 => ?_)
        refine z_goto (tgt := 101) F dX10_tries_125 (by decide) ?_
        refine z_sub (lv' := [(0, .ref a), (4, .int s0_86), (5, .int v7)]) [1, 2, 0] rfl ?_
        exact z_back (fun h => h)
    · show zSim (fun q : Int32 × zG => q = (r, g')) (j_X10_tries_128 a s0_86 x) (zAt E D (zA τ sz) (zQ E D zrI 0 0 sz τ τ r g') 6 (sz, τ, 0, 0) x 128 [(4, .int s0_86)] [])
      exact hj_X10_tries_128 s0_86 x
  have hj_X10_tries_72 : ∀ (l1_72 : Int32) (l2_72 : Int32) (l3_72 : Int32) (g_72 : zG), zSim (fun q : Int32 × zG => q = (r, g')) (j_X10_tries_72 a l1_72 l2_72 l3_72 g_72) (zAt E D (zA τ sz) (zQ E D zrI 0 0 sz τ τ r g') 6 (sz, τ, 0, 0) g_72 72 [(0, .ref a), (1, .int l1_72), (2, .int l2_72), (3, .int l3_72)] []) := by
    intro l1_72 l2_72 l3_72 g_72
    unfold j_X10_tries_72
    refine z_iload_n F 3 rfl rfl dX10_tries_72 ?_
    refine z_if_eq (tgt := 83) F dX10_tries_73 (by decide) (fun c8 => ?_) (fun c8 => ?_)
    · refine z_ldcw F q_1314 dX10_tries_83 ?_
      refine z_sub (lv' := [(0, .ref a), (1, .int l1_72), (2, .int l2_72)]) [0, 1, 2] rfl ?_
      exact hj_X10_tries_86 l1_72 l2_72 1000000000 g_72
    · refine z_aload_n F 0 rfl rfl dX10_tries_76 ?_
      refine gf_X10_279 F hta dX10_tries_77 ?_
      refine z_goto (tgt := 86) F dX10_tries_80 (by decide) ?_
      refine z_sub (lv' := [(0, .ref a), (1, .int l1_72), (2, .int l2_72)]) [0, 1, 2] rfl ?_
      exact hj_X10_tries_86 l1_72 l2_72 (g_72.1 a 34) g_72
  have hj_X10_tries_36 : ∀ (l1_36 : Int32) (l2_36 : Int32) (g_36 : zG), zSim (fun q : Int32 × zG => q = (r, g')) (j_X10_tries_36 a l1_36 l2_36 g_36) (zAt E D (zA τ sz) (zQ E D zrI 0 0 sz τ τ r g') 6 (sz, τ, 0, 0) g_36 36 [(0, .ref a), (1, .int l1_36), (2, .int l2_36)] []) := by
    intro l1_36 l2_36 g_36
    unfold j_X10_tries_36
    refine z_aload_n F 0 rfl rfl dX10_tries_36 ?_
    refine k_X10_begins F (by rw [hR]; exact ⟨by decide, by decide⟩) q_880 hta ⟨Nat.zero_le _, Nat.zero_le _⟩ (Nat.le_of_ble_eq_true rfl) dX10_tries_37 (fun v9 g10 => ?_)
    refine z_iconst (v := 1) F (by decide) dX10_tries_40 ?_
    refine z_istore_n (lv' := [(3, .int 1), (0, .ref a), (1, .int l1_36), (2, .int l2_36)]) F rfl (by decide) dX10_tries_41 rfl ?_
    refine z_iconst (v := 0) F (by decide) dX10_tries_42 ?_
    refine z_istore (lv' := [(4, .int 0), (3, .int 1), (0, .ref a), (1, .int l1_36), (2, .int l2_36)]) F (by decide) dX10_tries_43 rfl ?_
    refine z_sub (lv' := [(0, .ref a), (1, .int l1_36), (2, .int l2_36), (3, .int 1), (4, .int 0)]) [2, 3, 4, 1, 0] rfl ?_
    refine z_loop (P := fun s : Int32 × Int32 × zG => zAt E D (zA τ sz) (zQ E D zrI 0 0 sz τ τ r g') 6 (sz, τ, 0, 0) s.2.2 45 [(0, .ref a), (1, .int l1_36), (2, .int l2_36), (3, .int s.1), (4, .int s.2.1)] []) (Px := fun x : Int32 × zG => zAt E D (zA τ sz) (zQ E D zrI 0 0 sz τ τ r g') 6 (sz, τ, 0, 0) x.2 72 [(0, .ref a), (1, .int l1_36), (2, .int l2_36), (3, .int x.1)] []) (1, 0, g10) (fun s => ?_) (fun x => ?_)
    · obtain ⟨l3_45, l4_45, g_45⟩ := s
      show zSim (zKl (fun s : Int32 × Int32 × zG => zAt E D (zA τ sz) (zQ E D zrI 0 0 sz τ τ r g') 6 (sz, τ, 0, 0) s.2.2 45 [(0, .ref a), (1, .int l1_36), (2, .int l2_36), (3, .int s.1), (4, .int s.2.1)] []) (fun x : Int32 × zG => zAt E D (zA τ sz) (zQ E D zrI 0 0 sz τ τ r g') 6 (sz, τ, 0, 0) x.2 72 [(0, .ref a), (1, .int l1_36), (2, .int l2_36), (3, .int x.1)] [])) (l_X10_tries_45 a l1_36 l2_36 l3_45 l4_45 g_45) (zAt E D (zA τ sz) (zQ E D zrI 0 0 sz τ τ r g') 6 (sz, τ, 0, 0) g_45 45 [(0, .ref a), (1, .int l1_36), (2, .int l2_36), (3, .int l3_45), (4, .int l4_45)] [])
      unfold l_X10_tries_45
      refine z_iload F 4 rfl dX10_tries_45 ?_
      refine z_aload_n F 0 rfl rfl dX10_tries_47 ?_
      refine gf_X10_142 F hta dX10_tries_48 ?_
      refine z_icmp_ge (tgt := 72) F dX10_tries_51 (by decide) (fun c11 => ?_) (fun c11 => ?_)
      · refine z_sub (lv' := [(0, .ref a), (1, .int l1_36), (2, .int l2_36), (3, .int l3_45)]) [0, 1, 2, 3] rfl ?_
        exact z_back (fun h => h)
      · refine z_iload_n F 3 rfl rfl dX10_tries_54 ?_
        refine z_if_eq (tgt := 72) F dX10_tries_55 (by decide) (fun c12 => ?_) (fun c12 => ?_)
        · refine z_sub (lv' := [(0, .ref a), (1, .int l1_36), (2, .int l2_36), (3, .int l3_45)]) [0, 1, 2, 3] rfl ?_
          exact z_back (fun h => h)
        · refine z_aload_n F 0 rfl rfl dX10_tries_58 ?_
          refine z_iload F 4 rfl dX10_tries_59 ?_
          refine z_iconst (v := 1) F (by decide) dX10_tries_61 ?_
          refine k_X10_does F (by rw [hR]; exact ⟨by decide, by decide⟩) q_1289 hta ⟨Nat.zero_le _, Nat.zero_le _⟩ (Nat.le_of_ble_eq_true rfl) dX10_tries_62 (fun v13 g14 => ?_)
          refine z_istore_n (lv' := [(3, .int v13), (0, .ref a), (1, .int l1_36), (2, .int l2_36), (4, .int l4_45)]) F rfl (by decide) dX10_tries_65 rfl ?_
          refine z_iincl (lv' := fun v15 => [(4, .int v15), (3, .int v13), (0, .ref a), (1, .int l1_36), (2, .int l2_36)]) F 4 rfl (by decide) (by decide) dX10_tries_66 (fun _ => rfl) (fun v15 => ?_)
          refine z_goto (tgt := 45) F dX10_tries_69 (by decide) ?_
          refine z_sub (lv' := [(0, .ref a), (1, .int l1_36), (2, .int l2_36), (3, .int v13), (4, .int v15)]) [2, 3, 4, 1, 0] rfl ?_
          exact z_back (fun h => h)
    · show zSim (fun q : Int32 × zG => q = (r, g')) (j_X10_tries_72 a l1_36 l2_36 x.1 x.2) (zAt E D (zA τ sz) (zQ E D zrI 0 0 sz τ τ r g') 6 (sz, τ, 0, 0) x.2 72 [(0, .ref a), (1, .int l1_36), (2, .int l2_36), (3, .int x.1)] [])
      exact hj_X10_tries_72 l1_36 l2_36 x.1 x.2
  unfold f_X10_tries
  refine z_aload_n F 0 rfl rfl dX10_tries_0 ?_
  refine gf_X10_279 F hta dX10_tries_1 ?_
  refine z_leti (fun v16 => ?_)
  refine z_istore_n (lv' := [(1, .int v16), (0, .ref a)]) F rfl (by decide) dX10_tries_4 rfl ?_
  refine z_aload_n F 1 rfl rfl dX10_tries_5 ?_
  refine gf_X10_282 F hta dX10_tries_6 ?_
  refine z_leti (fun v17 => ?_)
  refine z_istore_n (lv' := [(2, .int v17), (1, .int v16), (0, .ref a)]) F rfl (by decide) dX10_tries_9 rfl ?_
  refine z_iconst (v := 0) F (by decide) dX10_tries_10 ?_
  refine z_istore_n (lv' := [(3, .int 0), (2, .int v17), (1, .int v16), (0, .ref a)]) F rfl (by decide) dX10_tries_11 rfl ?_
  refine z_sub (lv' := [(0, .ref a), (1, .int v16), (2, .int v17), (3, .int 0)]) [3, 2, 1, 0] rfl ?_
  refine z_loop (P := fun s : Int32 × zG => zAt E D (zA τ sz) (zQ E D zrI 0 0 sz τ τ r g') 6 (sz, τ, 0, 0) s.2 12 [(0, .ref a), (1, .int v16), (2, .int v17), (3, .int s.1)] []) (Px := fun x : zG => zAt E D (zA τ sz) (zQ E D zrI 0 0 sz τ τ r g') 6 (sz, τ, 0, 0) x 36 [(0, .ref a), (1, .int v16), (2, .int v17)] []) (0, g) (fun s => ?_) (fun x => ?_)
  · obtain ⟨l3_12, g_12⟩ := s
    show zSim (zKl (fun s : Int32 × zG => zAt E D (zA τ sz) (zQ E D zrI 0 0 sz τ τ r g') 6 (sz, τ, 0, 0) s.2 12 [(0, .ref a), (1, .int v16), (2, .int v17), (3, .int s.1)] []) (fun x : zG => zAt E D (zA τ sz) (zQ E D zrI 0 0 sz τ τ r g') 6 (sz, τ, 0, 0) x 36 [(0, .ref a), (1, .int v16), (2, .int v17)] [])) (l_X10_tries_12 a v16 v17 l3_12 g_12) (zAt E D (zA τ sz) (zQ E D zrI 0 0 sz τ τ r g') 6 (sz, τ, 0, 0) g_12 12 [(0, .ref a), (1, .int v16), (2, .int v17), (3, .int l3_12)] [])
    unfold l_X10_tries_12
    refine z_iload_n F 3 rfl rfl dX10_tries_12 ?_
    refine z_bipush (v := 40) F (by decide) dX10_tries_13 ?_
    refine z_icmp_ge (tgt := 36) F dX10_tries_15 (by decide) (fun c18 => ?_) (fun c18 => ?_)
    · refine z_sub (lv' := [(0, .ref a), (1, .int v16), (2, .int v17)]) [0, 1, 2] rfl ?_
      exact z_back (fun h => h)
    · refine z_aload_n F 0 rfl rfl dX10_tries_18 ?_
      refine gf_X10_98 F hta dX10_tries_19 (fun ht19 => ?_)
      refine z_iload_n F 3 rfl rfl dX10_tries_22 ?_
      refine z_aload_n F 0 rfl rfl dX10_tries_23 ?_
      refine gf_X10_71 F hta dX10_tries_24 (fun ht20 => ?_)
      refine z_iload_n F 3 rfl rfl dX10_tries_27 ?_
      refine z_iald F ht20 dX10_tries_28 ?_
      refine z_iast F ht19 dX10_tries_29 ?_
      refine z_letg (fun g21 => ?_)
      refine z_iincl (lv' := fun v22 => [(3, .int v22), (0, .ref a), (1, .int v16), (2, .int v17)]) F 3 rfl (by decide) (by decide) dX10_tries_30 (fun _ => rfl) (fun v22 => ?_)
      refine z_goto (tgt := 12) F dX10_tries_33 (by decide) ?_
      refine z_sub (lv' := [(0, .ref a), (1, .int v16), (2, .int v17), (3, .int v22)]) [1, 2, 3, 0] rfl ?_
      exact z_back (fun h => h)
  · show zSim (fun q : Int32 × zG => q = (r, g')) (j_X10_tries_36 a v16 v17 x) (zAt E D (zA τ sz) (zQ E D zrI 0 0 sz τ τ r g') 6 (sz, τ, 0, 0) x 36 [(0, .ref a), (1, .int v16), (2, .int v17)] [])
    exact hj_X10_tries_36 v16 v17 x
theorem k_X10_tries {ρ : Type} {K : ρ → Prop} {E : zE} {D : zD} {A : Nat → Prop} {Q : State → Prop} {nL : Nat} {κ : zC} {g : zG} {pc : Nat} {lv : List (Nat × Value)} {st : List Value} {cc : ByteArray} {own : String} {ret : Option FieldType} (F : zF E D A cc own nL ret) {index : Nat} {h : Int32 → zG → Option ρ} {a : Nat}  (hR : 5 + 1 ≤ E.2.2.2.1.frames ∧ 8 + (6 + 11) + 117 ≤ E.2.2.2.1.locals) (hl : zTbl (.methodLink own index yX10_tries)) (hta : κ.2.1 a = some (.inr 10)) (hc : κ.2.2.1 ≤ E.2.2.2.1.cells ∧ κ.2.2.2 ≤ E.2.2.2.1.slots) (hW : (st.map fun v => v.category).sum ≤ 8) (hd : decode cc pc = .ok (.invokevirtual index, 3)) (kk : ∀ r g', zSim K (h r g') (zAt E D A Q nL κ g' (pc + 3) lv (.int r :: st))) : zSim K (zb (f_X10_tries a g) h) (zAt E D A Q nL κ g pc lv (.ref a :: st)) :=
  z_callV F (n := 0) (As := []) (C := (RX10, TX10, 61)) ⟨q_1318, q_14, by decide +kernel, rfl, rfl, hR.1, hR.2⟩ (c_X10_tries E.2.1 D κ.1 κ.2.1 g a hta) hl q_1317 q_1421 hta rfl rfl rfl hc hW hd kk _ rfl
theorem dX10_keepChain_0 : decode cX10_keepChain 0 = .ok (.iconst 0, 1) := by decide +kernel
theorem dX10_keepChain_1 : decode cX10_keepChain 1 = .ok (.istore_n 1, 1) := by decide +kernel
theorem dX10_keepChain_2 : decode cX10_keepChain 2 = .ok (.iload_n 1, 1) := by decide +kernel
theorem dX10_keepChain_3 : decode cX10_keepChain 3 = .ok (.bipush 49, 2) := by decide +kernel
theorem dX10_keepChain_5 : decode cX10_keepChain 5 = .ok (.if_icmp .ge 21, 3) := by decide +kernel
theorem dX10_keepChain_8 : decode cX10_keepChain 8 = .ok (.aload_n 0, 1) := by decide +kernel
theorem dX10_keepChain_9 : decode cX10_keepChain 9 = .ok (.getfield 101, 3) := by decide +kernel
theorem dX10_keepChain_12 : decode cX10_keepChain 12 = .ok (.iload_n 1, 1) := by decide +kernel
theorem dX10_keepChain_13 : decode cX10_keepChain 13 = .ok (.aload_n 0, 1) := by decide +kernel
theorem dX10_keepChain_14 : decode cX10_keepChain 14 = .ok (.getfield 7, 3) := by decide +kernel
theorem dX10_keepChain_17 : decode cX10_keepChain 17 = .ok (.iload_n 1, 1) := by decide +kernel
theorem dX10_keepChain_18 : decode cX10_keepChain 18 = .ok (.iaload, 1) := by decide +kernel
theorem dX10_keepChain_19 : decode cX10_keepChain 19 = .ok (.iastore, 1) := by decide +kernel
theorem dX10_keepChain_20 : decode cX10_keepChain 20 = .ok (.iinc 1 1, 3) := by decide +kernel
theorem dX10_keepChain_23 : decode cX10_keepChain 23 = .ok (.goto (-21), 3) := by decide +kernel
theorem dX10_keepChain_26 : decode cX10_keepChain 26 = .ok (.return_, 1) := by decide +kernel
def j_X10_keepChain_26 (a : Nat)  (g : zG) : Option (Int32 × zG) :=
  some ((0, g))
def l_X10_keepChain_2 (a : Nat) (l1 : Int32) (g : zG) : Option ((Int32 × zG) ⊕ (zG)) :=
  if 49 ≤ l1 then (some (.inr g)) else (zc (zin l1 49) (zc (zin l1 49) (zl (zsi g (g.2.1 a 56) l1.toNatClampNeg (g.1 (g.2.1 a 1) l1.toNatClampNeg)) (fun g4 => zl (l1 + 1) (fun v5 => some (.inl (v5, g4)))))))
def f_X10_keepChain (a : Nat) (g : zG) : Option (Int32 × zG) :=
  zk (zw zN (fun s => l_X10_keepChain_2 a s.1 s.2) (0, g)) (fun x => j_X10_keepChain_26 a x)
abbrev rm_X10_keepChain : Room := { frames := 0, cells := 0, slots := 0, locals := 0 }
set_option maxRecDepth 100000 in
set_option maxHeartbeats 4000000 in
theorem c_X10_keepChain (l : Launch) (D : zD) (sz : Nat) (τ : zT) (g : zG) (a : Nat) (hta : τ a = some (.inr 10)) : zCon l D yX10_keepChain cX10_keepChain 2 none rm_X10_keepChain 0 0 zrV [.ref a] sz τ g τ (f_X10_keepChain a g) := by
  refine zCon.of (by decide) (Nat.le_of_ble_eq_true rfl) (fun E r g' hl hR hsz hnm F => ?_)
  have F : zF E D (zA τ sz) cX10_keepChain "TypeChainModel" 2 none := F
  show zSim (fun q : Int32 × zG => q = (r, g')) (f_X10_keepChain a g) (zAt E D (zA τ sz) (zQ E D zrV 0 0 sz τ τ r g') 2 (sz, τ, 0, 0) g 0 [(0, .ref a)] [])
  have hj_X10_keepChain_26 : ∀  (g_26 : zG), zSim (fun q : Int32 × zG => q = (r, g')) (j_X10_keepChain_26 a g_26) (zAt E D (zA τ sz) (zQ E D zrV 0 0 sz τ τ r g') 2 (sz, τ, 0, 0) g_26 26 [] []) := by
    intro g_26
    unfold j_X10_keepChain_26
    exact z_vreturn F rfl rfl rfl rfl (fun h => h) dX10_keepChain_26
  unfold f_X10_keepChain
  refine z_iconst (v := 0) F (by decide) dX10_keepChain_0 ?_
  refine z_istore_n (lv' := [(1, .int 0), (0, .ref a)]) F rfl (by decide) dX10_keepChain_1 rfl ?_
  refine z_sub (lv' := [(0, .ref a), (1, .int 0)]) [1, 0] rfl ?_
  refine z_loop (P := fun s : Int32 × zG => zAt E D (zA τ sz) (zQ E D zrV 0 0 sz τ τ r g') 2 (sz, τ, 0, 0) s.2 2 [(0, .ref a), (1, .int s.1)] []) (Px := fun x : zG => zAt E D (zA τ sz) (zQ E D zrV 0 0 sz τ τ r g') 2 (sz, τ, 0, 0) x 26 [] []) (0, g) (fun s => ?_) (fun x => ?_)
  · obtain ⟨l1_2, g_2⟩ := s
    show zSim (zKl (fun s : Int32 × zG => zAt E D (zA τ sz) (zQ E D zrV 0 0 sz τ τ r g') 2 (sz, τ, 0, 0) s.2 2 [(0, .ref a), (1, .int s.1)] []) (fun x : zG => zAt E D (zA τ sz) (zQ E D zrV 0 0 sz τ τ r g') 2 (sz, τ, 0, 0) x 26 [] [])) (l_X10_keepChain_2 a l1_2 g_2) (zAt E D (zA τ sz) (zQ E D zrV 0 0 sz τ τ r g') 2 (sz, τ, 0, 0) g_2 2 [(0, .ref a), (1, .int l1_2)] [])
    unfold l_X10_keepChain_2
    refine z_iload_n F 1 rfl rfl dX10_keepChain_2 ?_
    refine z_bipush (v := 49) F (by decide) dX10_keepChain_3 ?_
    refine z_icmp_ge (tgt := 26) F dX10_keepChain_5 (by decide) (fun c1 => ?_) (fun c1 => ?_)
    · refine z_sub (lv' := []) [] rfl ?_
      exact z_back (fun h => h)
    · refine z_aload_n F 0 rfl rfl dX10_keepChain_8 ?_
      refine gf_X10_101 F hta dX10_keepChain_9 (fun ht2 => ?_)
      refine z_iload_n F 1 rfl rfl dX10_keepChain_12 ?_
      refine z_aload_n F 0 rfl rfl dX10_keepChain_13 ?_
      refine gf_X10_7 F hta dX10_keepChain_14 (fun ht3 => ?_)
      refine z_iload_n F 1 rfl rfl dX10_keepChain_17 ?_
      refine z_iald F ht3 dX10_keepChain_18 ?_
      refine z_iast F ht2 dX10_keepChain_19 ?_
      refine z_letg (fun g4 => ?_)
      refine z_iincl (lv' := fun v5 => [(1, .int v5), (0, .ref a)]) F 1 rfl (by decide) (by decide) dX10_keepChain_20 (fun _ => rfl) (fun v5 => ?_)
      refine z_goto (tgt := 2) F dX10_keepChain_23 (by decide) ?_
      refine z_sub (lv' := [(0, .ref a), (1, .int v5)]) [1, 0] rfl ?_
      exact z_back (fun h => h)
  · show zSim (fun q : Int32 × zG => q = (r, g')) (j_X10_keepChain_26 a x) (zAt E D (zA τ sz) (zQ E D zrV 0 0 sz τ τ r g') 2 (sz, τ, 0, 0) x 26 [] [])
    exact hj_X10_keepChain_26 x
theorem k_X10_keepChain {ρ : Type} {K : ρ → Prop} {E : zE} {D : zD} {A : Nat → Prop} {Q : State → Prop} {nL : Nat} {κ : zC} {g : zG} {pc : Nat} {lv : List (Nat × Value)} {st : List Value} {cc : ByteArray} {own : String} {ret : Option FieldType} (F : zF E D A cc own nL ret) {index : Nat} {h : Int32 → zG → Option ρ} {a : Nat}  (hR : 0 + 1 ≤ E.2.2.2.1.frames ∧ 8 + (2 + 11) + 0 ≤ E.2.2.2.1.locals) (hl : zTbl (.methodLink own index yX10_keepChain)) (hta : κ.2.1 a = some (.inr 10)) (hc : κ.2.2.1 ≤ E.2.2.2.1.cells ∧ κ.2.2.2 ≤ E.2.2.2.1.slots) (hW : (st.map fun v => v.category).sum ≤ 8) (hd : decode cc pc = .ok (.invokevirtual index, 3)) (kk : ∀ r g', zSim K (h r g') (zAt E D A Q nL κ g' (pc + 3) lv (st))) : zSim K (zb (f_X10_keepChain a g) h) (zAt E D A Q nL κ g pc lv (.ref a :: st)) :=
  z_callV F (n := 0) (As := []) (C := (RX10, TX10, 61)) ⟨q_1309, q_14, by decide +kernel, rfl, rfl, hR.1, hR.2⟩ (c_X10_keepChain E.2.1 D κ.1 κ.2.1 g a hta) hl q_1308 q_1419 hta rfl rfl rfl hc hW hd kk _ rfl
theorem dX10_chainAgain_0 : decode cX10_chainAgain 0 = .ok (.iconst 0, 1) := by decide +kernel
theorem dX10_chainAgain_1 : decode cX10_chainAgain 1 = .ok (.istore_n 1, 1) := by decide +kernel
theorem dX10_chainAgain_2 : decode cX10_chainAgain 2 = .ok (.iload_n 1, 1) := by decide +kernel
theorem dX10_chainAgain_3 : decode cX10_chainAgain 3 = .ok (.bipush 49, 2) := by decide +kernel
theorem dX10_chainAgain_5 : decode cX10_chainAgain 5 = .ok (.if_icmp .ge 21, 3) := by decide +kernel
theorem dX10_chainAgain_8 : decode cX10_chainAgain 8 = .ok (.aload_n 0, 1) := by decide +kernel
theorem dX10_chainAgain_9 : decode cX10_chainAgain 9 = .ok (.getfield 7, 3) := by decide +kernel
theorem dX10_chainAgain_12 : decode cX10_chainAgain 12 = .ok (.iload_n 1, 1) := by decide +kernel
theorem dX10_chainAgain_13 : decode cX10_chainAgain 13 = .ok (.aload_n 0, 1) := by decide +kernel
theorem dX10_chainAgain_14 : decode cX10_chainAgain 14 = .ok (.getfield 101, 3) := by decide +kernel
theorem dX10_chainAgain_17 : decode cX10_chainAgain 17 = .ok (.iload_n 1, 1) := by decide +kernel
theorem dX10_chainAgain_18 : decode cX10_chainAgain 18 = .ok (.iaload, 1) := by decide +kernel
theorem dX10_chainAgain_19 : decode cX10_chainAgain 19 = .ok (.iastore, 1) := by decide +kernel
theorem dX10_chainAgain_20 : decode cX10_chainAgain 20 = .ok (.iinc 1 1, 3) := by decide +kernel
theorem dX10_chainAgain_23 : decode cX10_chainAgain 23 = .ok (.goto (-21), 3) := by decide +kernel
theorem dX10_chainAgain_26 : decode cX10_chainAgain 26 = .ok (.return_, 1) := by decide +kernel
def j_X10_chainAgain_26 (a : Nat)  (g : zG) : Option (Int32 × zG) :=
  some ((0, g))
def l_X10_chainAgain_2 (a : Nat) (l1 : Int32) (g : zG) : Option ((Int32 × zG) ⊕ (zG)) :=
  if 49 ≤ l1 then (some (.inr g)) else (zc (zin l1 49) (zc (zin l1 49) (zl (zsi g (g.2.1 a 1) l1.toNatClampNeg (g.1 (g.2.1 a 56) l1.toNatClampNeg)) (fun g4 => zl (l1 + 1) (fun v5 => some (.inl (v5, g4)))))))
def f_X10_chainAgain (a : Nat) (g : zG) : Option (Int32 × zG) :=
  zk (zw zN (fun s => l_X10_chainAgain_2 a s.1 s.2) (0, g)) (fun x => j_X10_chainAgain_26 a x)
abbrev rm_X10_chainAgain : Room := { frames := 0, cells := 0, slots := 0, locals := 0 }
set_option maxRecDepth 100000 in
set_option maxHeartbeats 4000000 in
theorem c_X10_chainAgain (l : Launch) (D : zD) (sz : Nat) (τ : zT) (g : zG) (a : Nat) (hta : τ a = some (.inr 10)) : zCon l D yX10_chainAgain cX10_chainAgain 2 none rm_X10_chainAgain 0 0 zrV [.ref a] sz τ g τ (f_X10_chainAgain a g) := by
  refine zCon.of (by decide) (Nat.le_of_ble_eq_true rfl) (fun E r g' hl hR hsz hnm F => ?_)
  have F : zF E D (zA τ sz) cX10_chainAgain "TypeChainModel" 2 none := F
  show zSim (fun q : Int32 × zG => q = (r, g')) (f_X10_chainAgain a g) (zAt E D (zA τ sz) (zQ E D zrV 0 0 sz τ τ r g') 2 (sz, τ, 0, 0) g 0 [(0, .ref a)] [])
  have hj_X10_chainAgain_26 : ∀  (g_26 : zG), zSim (fun q : Int32 × zG => q = (r, g')) (j_X10_chainAgain_26 a g_26) (zAt E D (zA τ sz) (zQ E D zrV 0 0 sz τ τ r g') 2 (sz, τ, 0, 0) g_26 26 [] []) := by
    intro g_26
    unfold j_X10_chainAgain_26
    exact z_vreturn F rfl rfl rfl rfl (fun h => h) dX10_chainAgain_26
  unfold f_X10_chainAgain
  refine z_iconst (v := 0) F (by decide) dX10_chainAgain_0 ?_
  refine z_istore_n (lv' := [(1, .int 0), (0, .ref a)]) F rfl (by decide) dX10_chainAgain_1 rfl ?_
  refine z_sub (lv' := [(0, .ref a), (1, .int 0)]) [1, 0] rfl ?_
  refine z_loop (P := fun s : Int32 × zG => zAt E D (zA τ sz) (zQ E D zrV 0 0 sz τ τ r g') 2 (sz, τ, 0, 0) s.2 2 [(0, .ref a), (1, .int s.1)] []) (Px := fun x : zG => zAt E D (zA τ sz) (zQ E D zrV 0 0 sz τ τ r g') 2 (sz, τ, 0, 0) x 26 [] []) (0, g) (fun s => ?_) (fun x => ?_)
  · obtain ⟨l1_2, g_2⟩ := s
    show zSim (zKl (fun s : Int32 × zG => zAt E D (zA τ sz) (zQ E D zrV 0 0 sz τ τ r g') 2 (sz, τ, 0, 0) s.2 2 [(0, .ref a), (1, .int s.1)] []) (fun x : zG => zAt E D (zA τ sz) (zQ E D zrV 0 0 sz τ τ r g') 2 (sz, τ, 0, 0) x 26 [] [])) (l_X10_chainAgain_2 a l1_2 g_2) (zAt E D (zA τ sz) (zQ E D zrV 0 0 sz τ τ r g') 2 (sz, τ, 0, 0) g_2 2 [(0, .ref a), (1, .int l1_2)] [])
    unfold l_X10_chainAgain_2
    refine z_iload_n F 1 rfl rfl dX10_chainAgain_2 ?_
    refine z_bipush (v := 49) F (by decide) dX10_chainAgain_3 ?_
    refine z_icmp_ge (tgt := 26) F dX10_chainAgain_5 (by decide) (fun c1 => ?_) (fun c1 => ?_)
    · refine z_sub (lv' := []) [] rfl ?_
      exact z_back (fun h => h)
    · refine z_aload_n F 0 rfl rfl dX10_chainAgain_8 ?_
      refine gf_X10_7 F hta dX10_chainAgain_9 (fun ht2 => ?_)
      refine z_iload_n F 1 rfl rfl dX10_chainAgain_12 ?_
      refine z_aload_n F 0 rfl rfl dX10_chainAgain_13 ?_
      refine gf_X10_101 F hta dX10_chainAgain_14 (fun ht3 => ?_)
      refine z_iload_n F 1 rfl rfl dX10_chainAgain_17 ?_
      refine z_iald F ht3 dX10_chainAgain_18 ?_
      refine z_iast F ht2 dX10_chainAgain_19 ?_
      refine z_letg (fun g4 => ?_)
      refine z_iincl (lv' := fun v5 => [(1, .int v5), (0, .ref a)]) F 1 rfl (by decide) (by decide) dX10_chainAgain_20 (fun _ => rfl) (fun v5 => ?_)
      refine z_goto (tgt := 2) F dX10_chainAgain_23 (by decide) ?_
      refine z_sub (lv' := [(0, .ref a), (1, .int v5)]) [1, 0] rfl ?_
      exact z_back (fun h => h)
  · show zSim (fun q : Int32 × zG => q = (r, g')) (j_X10_chainAgain_26 a x) (zAt E D (zA τ sz) (zQ E D zrV 0 0 sz τ τ r g') 2 (sz, τ, 0, 0) x 26 [] [])
    exact hj_X10_chainAgain_26 x
theorem k_X10_chainAgain {ρ : Type} {K : ρ → Prop} {E : zE} {D : zD} {A : Nat → Prop} {Q : State → Prop} {nL : Nat} {κ : zC} {g : zG} {pc : Nat} {lv : List (Nat × Value)} {st : List Value} {cc : ByteArray} {own : String} {ret : Option FieldType} (F : zF E D A cc own nL ret) {index : Nat} {h : Int32 → zG → Option ρ} {a : Nat}  (hR : 0 + 1 ≤ E.2.2.2.1.frames ∧ 8 + (2 + 11) + 0 ≤ E.2.2.2.1.locals) (hl : zTbl (.methodLink own index yX10_chainAgain)) (hta : κ.2.1 a = some (.inr 10)) (hc : κ.2.2.1 ≤ E.2.2.2.1.cells ∧ κ.2.2.2 ≤ E.2.2.2.1.slots) (hW : (st.map fun v => v.category).sum ≤ 8) (hd : decode cc pc = .ok (.invokevirtual index, 3)) (kk : ∀ r g', zSim K (h r g') (zAt E D A Q nL κ g' (pc + 3) lv (st))) : zSim K (zb (f_X10_chainAgain a g) h) (zAt E D A Q nL κ g pc lv (.ref a :: st)) :=
  z_callV F (n := 0) (As := []) (C := (RX10, TX10, 61)) ⟨q_1326, q_14, by decide +kernel, rfl, rfl, hR.1, hR.2⟩ (c_X10_chainAgain E.2.1 D κ.1 κ.2.1 g a hta) hl q_1325 q_1423 hta rfl rfl rfl hc hW hd kk _ rfl
theorem dX10_swaps_0 : decode cX10_swaps 0 = .ok (.aload_n 0, 1) := by decide +kernel
theorem dX10_swaps_1 : decode cX10_swaps 1 = .ok (.getfield 7, 3) := by decide +kernel
theorem dX10_swaps_4 : decode cX10_swaps 4 = .ok (.iload_n 1, 1) := by decide +kernel
theorem dX10_swaps_5 : decode cX10_swaps 5 = .ok (.iaload, 1) := by decide +kernel
theorem dX10_swaps_6 : decode cX10_swaps 6 = .ok (.istore_n 3, 1) := by decide +kernel
theorem dX10_swaps_7 : decode cX10_swaps 7 = .ok (.aload_n 0, 1) := by decide +kernel
theorem dX10_swaps_8 : decode cX10_swaps 8 = .ok (.getfield 7, 3) := by decide +kernel
theorem dX10_swaps_11 : decode cX10_swaps 11 = .ok (.iload_n 1, 1) := by decide +kernel
theorem dX10_swaps_12 : decode cX10_swaps 12 = .ok (.aload_n 0, 1) := by decide +kernel
theorem dX10_swaps_13 : decode cX10_swaps 13 = .ok (.getfield 7, 3) := by decide +kernel
theorem dX10_swaps_16 : decode cX10_swaps 16 = .ok (.iload_n 2, 1) := by decide +kernel
theorem dX10_swaps_17 : decode cX10_swaps 17 = .ok (.iaload, 1) := by decide +kernel
theorem dX10_swaps_18 : decode cX10_swaps 18 = .ok (.iastore, 1) := by decide +kernel
theorem dX10_swaps_19 : decode cX10_swaps 19 = .ok (.aload_n 0, 1) := by decide +kernel
theorem dX10_swaps_20 : decode cX10_swaps 20 = .ok (.getfield 7, 3) := by decide +kernel
theorem dX10_swaps_23 : decode cX10_swaps 23 = .ok (.iload_n 2, 1) := by decide +kernel
theorem dX10_swaps_24 : decode cX10_swaps 24 = .ok (.iload_n 3, 1) := by decide +kernel
theorem dX10_swaps_25 : decode cX10_swaps 25 = .ok (.iastore, 1) := by decide +kernel
theorem dX10_swaps_26 : decode cX10_swaps 26 = .ok (.return_, 1) := by decide +kernel
def f_X10_swaps (a : Nat) (x1 : Int32) (x2 : Int32) (g : zG) : Option (Int32 × zG) :=
  zc (zin x1 49) (zl (g.1 (g.2.1 a 1) x1.toNatClampNeg) (fun v2 => zc (zin x2 49) (zc (zin x1 49) (zl (zsi g (g.2.1 a 1) x1.toNatClampNeg (g.1 (g.2.1 a 1) x2.toNatClampNeg)) (fun g5 => zc (zin x2 49) (zl (zsi g5 (g5.2.1 a 1) x2.toNatClampNeg v2) (fun g7 => some ((0, g7)))))))))
abbrev rm_X10_swaps : Room := { frames := 0, cells := 0, slots := 0, locals := 0 }
set_option maxRecDepth 100000 in
set_option maxHeartbeats 4000000 in
theorem c_X10_swaps (l : Launch) (D : zD) (sz : Nat) (τ : zT) (g : zG) (a : Nat) (x1 : Int32) (x2 : Int32) (hta : τ a = some (.inr 10)) : zCon l D yX10_swaps cX10_swaps 4 none rm_X10_swaps 0 0 zrV [.ref a, .int x1, .int x2] sz τ g τ (f_X10_swaps a x1 x2 g) := by
  refine zCon.of (by decide) (Nat.le_of_ble_eq_true rfl) (fun E r g' hl hR hsz hnm F => ?_)
  have F : zF E D (zA τ sz) cX10_swaps "TypeChainModel" 4 none := F
  show zSim (fun q : Int32 × zG => q = (r, g')) (f_X10_swaps a x1 x2 g) (zAt E D (zA τ sz) (zQ E D zrV 0 0 sz τ τ r g') 4 (sz, τ, 0, 0) g 0 [(0, .ref a), (1, .int x1), (2, .int x2)] [])
  unfold f_X10_swaps
  refine z_aload_n F 0 rfl rfl dX10_swaps_0 ?_
  refine gf_X10_7 F hta dX10_swaps_1 (fun ht1 => ?_)
  refine z_iload_n F 1 rfl rfl dX10_swaps_4 ?_
  refine z_iald F ht1 dX10_swaps_5 ?_
  refine z_leti (fun v2 => ?_)
  refine z_istore_n (lv' := [(3, .int v2), (0, .ref a), (1, .int x1), (2, .int x2)]) F rfl (by decide) dX10_swaps_6 rfl ?_
  refine z_aload_n F 1 rfl rfl dX10_swaps_7 ?_
  refine gf_X10_7 F hta dX10_swaps_8 (fun ht3 => ?_)
  refine z_iload_n F 2 rfl rfl dX10_swaps_11 ?_
  refine z_aload_n F 1 rfl rfl dX10_swaps_12 ?_
  refine gf_X10_7 F hta dX10_swaps_13 (fun ht4 => ?_)
  refine z_iload_n F 3 rfl rfl dX10_swaps_16 ?_
  refine z_iald F ht4 dX10_swaps_17 ?_
  refine z_iast F ht3 dX10_swaps_18 ?_
  refine z_letg (fun g5 => ?_)
  refine z_aload_n F 1 rfl rfl dX10_swaps_19 ?_
  refine gf_X10_7 F hta dX10_swaps_20 (fun ht6 => ?_)
  refine z_iload_n F 3 rfl rfl dX10_swaps_23 ?_
  refine z_iload_n F 0 rfl rfl dX10_swaps_24 ?_
  refine z_iast F ht6 dX10_swaps_25 ?_
  refine z_letg (fun g7 => ?_)
  exact z_vreturn F rfl rfl rfl rfl (fun h => h) dX10_swaps_26
theorem k_X10_swaps {ρ : Type} {K : ρ → Prop} {E : zE} {D : zD} {A : Nat → Prop} {Q : State → Prop} {nL : Nat} {κ : zC} {g : zG} {pc : Nat} {lv : List (Nat × Value)} {st : List Value} {cc : ByteArray} {own : String} {ret : Option FieldType} (F : zF E D A cc own nL ret) {index : Nat} {h : Int32 → zG → Option ρ} {a : Nat} {x1 : Int32} {x2 : Int32}  (hR : 0 + 1 ≤ E.2.2.2.1.frames ∧ 8 + (4 + 11) + 0 ≤ E.2.2.2.1.locals) (hl : zTbl (.methodLink own index yX10_swaps)) (hta : κ.2.1 a = some (.inr 10)) (hc : κ.2.2.1 ≤ E.2.2.2.1.cells ∧ κ.2.2.2 ≤ E.2.2.2.1.slots) (hW : (st.map fun v => v.category).sum ≤ 8) (hd : decode cc pc = .ok (.invokevirtual index, 3)) (kk : ∀ r g', zSim K (h r g') (zAt E D A Q nL κ g' (pc + 3) lv (st))) : zSim K (zb (f_X10_swaps a x1 x2 g) h) (zAt E D A Q nL κ g pc lv (.int x2 :: .int x1 :: .ref a :: st)) :=
  z_callV F (n := 2) (As := [.int x1, .int x2]) (C := (RX10, TX10, 61)) ⟨q_1313, q_14, by decide +kernel, rfl, rfl, hR.1, hR.2⟩ (c_X10_swaps E.2.1 D κ.1 κ.2.1 g a x1 x2 hta) hl q_1312 q_1420 hta rfl rfl rfl hc hW hd kk _ rfl
theorem dX10_twice_0 : decode cX10_twice 0 = .ok (.iload_n 1, 1) := by decide +kernel
theorem dX10_twice_1 : decode cX10_twice 1 = .ok (.i2l, 1) := by decide +kernel
theorem dX10_twice_2 : decode cX10_twice 2 = .ok (.lconst 0, 1) := by decide +kernel
theorem dX10_twice_3 : decode cX10_twice 3 = .ok (.ldc2_w 217, 3) := by decide +kernel
theorem dX10_twice_6 : decode cX10_twice 6 = .ok (.invokestatic 165, 3) := by decide +kernel
theorem dX10_twice_9 : decode cX10_twice 9 = .ok (.ifCond .ne 7, 3) := by decide +kernel
theorem dX10_twice_12 : decode cX10_twice 12 = .ok (.ldc_w 357, 3) := by decide +kernel
theorem dX10_twice_15 : decode cX10_twice 15 = .ok (.ireturn, 1) := by decide +kernel
theorem dX10_twice_16 : decode cX10_twice 16 = .ok (.aload_n 0, 1) := by decide +kernel
theorem dX10_twice_17 : decode cX10_twice 17 = .ok (.getfield 139, 3) := by decide +kernel
theorem dX10_twice_20 : decode cX10_twice 20 = .ok (.bipush 48, 2) := by decide +kernel
theorem dX10_twice_22 : decode cX10_twice 22 = .ok (.if_icmp .eq 10, 3) := by decide +kernel
theorem dX10_twice_25 : decode cX10_twice 25 = .ok (.aload_n 0, 1) := by decide +kernel
theorem dX10_twice_26 : decode cX10_twice 26 = .ok (.getfield 142, 3) := by decide +kernel
theorem dX10_twice_29 : decode cX10_twice 29 = .ok (.ifCond .ne 7, 3) := by decide +kernel
theorem dX10_twice_32 : decode cX10_twice 32 = .ok (.ldc_w 358, 3) := by decide +kernel
theorem dX10_twice_35 : decode cX10_twice 35 = .ok (.ireturn, 1) := by decide +kernel
theorem dX10_twice_36 : decode cX10_twice 36 = .ok (.aload_n 0, 1) := by decide +kernel
theorem dX10_twice_37 : decode cX10_twice 37 = .ok (.invokevirtual 348, 3) := by decide +kernel
theorem dX10_twice_40 : decode cX10_twice 40 = .ok (.istore_n 2, 1) := by decide +kernel
theorem dX10_twice_41 : decode cX10_twice 41 = .ok (.bipush (-4), 2) := by decide +kernel
theorem dX10_twice_43 : decode cX10_twice 43 = .ok (.istore_n 3, 1) := by decide +kernel
theorem dX10_twice_44 : decode cX10_twice 44 = .ok (.ldc_w 339, 3) := by decide +kernel
theorem dX10_twice_47 : decode cX10_twice 47 = .ok (.istore 4, 2) := by decide +kernel
theorem dX10_twice_49 : decode cX10_twice 49 = .ok (.aload_n 0, 1) := by decide +kernel
theorem dX10_twice_50 : decode cX10_twice 50 = .ok (.invokevirtual 345, 3) := by decide +kernel
theorem dX10_twice_53 : decode cX10_twice 53 = .ok (.aload_n 0, 1) := by decide +kernel
theorem dX10_twice_54 : decode cX10_twice 54 = .ok (.dup, 1) := by decide +kernel
theorem dX10_twice_55 : decode cX10_twice 55 = .ok (.getfield 139, 3) := by decide +kernel
theorem dX10_twice_58 : decode cX10_twice 58 = .ok (.iconst 1, 1) := by decide +kernel
theorem dX10_twice_59 : decode cX10_twice 59 = .ok (.iadd, 1) := by decide +kernel
theorem dX10_twice_60 : decode cX10_twice 60 = .ok (.putfield 139, 3) := by decide +kernel
theorem dX10_twice_63 : decode cX10_twice 63 = .ok (.iconst 1, 1) := by decide +kernel
theorem dX10_twice_64 : decode cX10_twice 64 = .ok (.istore 5, 2) := by decide +kernel
theorem dX10_twice_66 : decode cX10_twice 66 = .ok (.iload 5, 2) := by decide +kernel
theorem dX10_twice_68 : decode cX10_twice 68 = .ok (.bipush 26, 2) := by decide +kernel
theorem dX10_twice_70 : decode cX10_twice 70 = .ok (.if_icmp .gt 58, 3) := by decide +kernel
theorem dX10_twice_73 : decode cX10_twice 73 = .ok (.aload_n 0, 1) := by decide +kernel
theorem dX10_twice_74 : decode cX10_twice 74 = .ok (.getfield 7, 3) := by decide +kernel
theorem dX10_twice_77 : decode cX10_twice 77 = .ok (.aload_n 0, 1) := by decide +kernel
theorem dX10_twice_78 : decode cX10_twice 78 = .ok (.getfield 139, 3) := by decide +kernel
theorem dX10_twice_81 : decode cX10_twice 81 = .ok (.iconst 1, 1) := by decide +kernel
theorem dX10_twice_82 : decode cX10_twice 82 = .ok (.isub, 1) := by decide +kernel
theorem dX10_twice_83 : decode cX10_twice 83 = .ok (.iload 5, 2) := by decide +kernel
theorem dX10_twice_85 : decode cX10_twice 85 = .ok (.iastore, 1) := by decide +kernel
theorem dX10_twice_86 : decode cX10_twice 86 = .ok (.aload_n 0, 1) := by decide +kernel
theorem dX10_twice_87 : decode cX10_twice 87 = .ok (.invokevirtual 348, 3) := by decide +kernel
theorem dX10_twice_90 : decode cX10_twice 90 = .ok (.istore 6, 2) := by decide +kernel
theorem dX10_twice_92 : decode cX10_twice 92 = .ok (.iload 6, 2) := by decide +kernel
theorem dX10_twice_94 : decode cX10_twice 94 = .ok (.iload 4, 2) := by decide +kernel
theorem dX10_twice_96 : decode cX10_twice 96 = .ok (.if_icmp .ge 8, 3) := by decide +kernel
theorem dX10_twice_99 : decode cX10_twice 99 = .ok (.iload 5, 2) := by decide +kernel
theorem dX10_twice_101 : decode cX10_twice 101 = .ok (.goto 4, 3) := by decide +kernel
theorem dX10_twice_104 : decode cX10_twice 104 = .ok (.iload_n 3, 1) := by decide +kernel
theorem dX10_twice_105 : decode cX10_twice 105 = .ok (.istore_n 3, 1) := by decide +kernel
theorem dX10_twice_106 : decode cX10_twice 106 = .ok (.iload 6, 2) := by decide +kernel
theorem dX10_twice_108 : decode cX10_twice 108 = .ok (.iload 4, 2) := by decide +kernel
theorem dX10_twice_110 : decode cX10_twice 110 = .ok (.if_icmp .ge 8, 3) := by decide +kernel
theorem dX10_twice_113 : decode cX10_twice 113 = .ok (.iload 6, 2) := by decide +kernel
theorem dX10_twice_115 : decode cX10_twice 115 = .ok (.goto 5, 3) := by decide +kernel
theorem dX10_twice_118 : decode cX10_twice 118 = .ok (.iload 4, 2) := by decide +kernel
theorem dX10_twice_120 : decode cX10_twice 120 = .ok (.istore 4, 2) := by decide +kernel
theorem dX10_twice_122 : decode cX10_twice 122 = .ok (.iinc 5 1, 3) := by decide +kernel
theorem dX10_twice_125 : decode cX10_twice 125 = .ok (.goto (-59), 3) := by decide +kernel
theorem dX10_twice_128 : decode cX10_twice 128 = .ok (.aload_n 0, 1) := by decide +kernel
theorem dX10_twice_129 : decode cX10_twice 129 = .ok (.dup, 1) := by decide +kernel
theorem dX10_twice_130 : decode cX10_twice 130 = .ok (.getfield 139, 3) := by decide +kernel
theorem dX10_twice_133 : decode cX10_twice 133 = .ok (.iconst 1, 1) := by decide +kernel
theorem dX10_twice_134 : decode cX10_twice 134 = .ok (.isub, 1) := by decide +kernel
theorem dX10_twice_135 : decode cX10_twice 135 = .ok (.putfield 139, 3) := by decide +kernel
theorem dX10_twice_138 : decode cX10_twice 138 = .ok (.aload_n 0, 1) := by decide +kernel
theorem dX10_twice_139 : decode cX10_twice 139 = .ok (.invokevirtual 354, 3) := by decide +kernel
theorem dX10_twice_142 : decode cX10_twice 142 = .ok (.iload_n 3, 1) := by decide +kernel
theorem dX10_twice_143 : decode cX10_twice 143 = .ok (.bipush (-4), 2) := by decide +kernel
theorem dX10_twice_145 : decode cX10_twice 145 = .ok (.if_icmp .ne 7, 3) := by decide +kernel
theorem dX10_twice_148 : decode cX10_twice 148 = .ok (.ldc_w 358, 3) := by decide +kernel
theorem dX10_twice_151 : decode cX10_twice 151 = .ok (.ireturn, 1) := by decide +kernel
theorem dX10_twice_152 : decode cX10_twice 152 = .ok (.iload_n 1, 1) := by decide +kernel
theorem dX10_twice_153 : decode cX10_twice 153 = .ok (.ifCond .ne 7, 3) := by decide +kernel
theorem dX10_twice_156 : decode cX10_twice 156 = .ok (.iload_n 3, 1) := by decide +kernel
theorem dX10_twice_157 : decode cX10_twice 157 = .ok (.goto 30, 3) := by decide +kernel
theorem dX10_twice_160 : decode cX10_twice 160 = .ok (.iload_n 1, 1) := by decide +kernel
theorem dX10_twice_161 : decode cX10_twice 161 = .ok (.iconst 1, 1) := by decide +kernel
theorem dX10_twice_162 : decode cX10_twice 162 = .ok (.if_icmp .ne 8, 3) := by decide +kernel
theorem dX10_twice_165 : decode cX10_twice 165 = .ok (.iload 4, 2) := by decide +kernel
theorem dX10_twice_167 : decode cX10_twice 167 = .ok (.goto 20, 3) := by decide +kernel
theorem dX10_twice_170 : decode cX10_twice 170 = .ok (.iload_n 2, 1) := by decide +kernel
theorem dX10_twice_171 : decode cX10_twice 171 = .ok (.ldc_w 339, 3) := by decide +kernel
theorem dX10_twice_174 : decode cX10_twice 174 = .ok (.if_icmp .ne 9, 3) := by decide +kernel
theorem dX10_twice_177 : decode cX10_twice 177 = .ok (.ldc_w 359, 3) := by decide +kernel
theorem dX10_twice_180 : decode cX10_twice 180 = .ok (.goto 7, 3) := by decide +kernel
theorem dX10_twice_183 : decode cX10_twice 183 = .ok (.iload_n 2, 1) := by decide +kernel
theorem dX10_twice_184 : decode cX10_twice 184 = .ok (.iload 4, 2) := by decide +kernel
theorem dX10_twice_186 : decode cX10_twice 186 = .ok (.isub, 1) := by decide +kernel
theorem dX10_twice_187 : decode cX10_twice 187 = .ok (.ireturn, 1) := by decide +kernel
def j_X10_twice_128 (a : Nat) (l1 : Int32) (l2 : Int32) (l3 : Int32) (l4 : Int32) (g : zG) : Option (Int32 × zG) :=
  zl (zsi g a 0 ((g.1 a 0) - 1)) (fun g1 => zb (f_X10_chainAgain a g1) (fun v2 g3 => if l3 = (-4) then (some (((-1000002), g3))) else (if l1 = 0 then (some ((l3, g3))) else (if l1 = 1 then (some ((l4, g3))) else (if l2 = 1000000000 then (some (((-1000004), g3))) else (some ((l2 - l4, g3))))))))
def j_X10_twice_105_66 (a : Nat) (l1 : Int32) (l2 : Int32) (l4 : Int32) (l5 : Int32) (l6 : Int32) (s0 : Int32) (g : zG) : Option ((Int32 × Int32 × Int32 × zG) ⊕ (Int32 × Int32 × zG)) :=
  if l4 ≤ l6 then (zl (l5 + 1) (fun v19 => some (.inl (s0, l4, v19, g)))) else (zl (l5 + 1) (fun v20 => some (.inl (s0, l6, v20, g))))
def l_X10_twice_66 (a : Nat) (l1 : Int32) (l2 : Int32) (l3 : Int32) (l4 : Int32) (l5 : Int32) (g : zG) : Option ((Int32 × Int32 × Int32 × zG) ⊕ (Int32 × Int32 × zG)) :=
  if 26 < l5 then (some (.inr (l3, l4, g))) else (zc (zin ((g.1 a 0) - 1) 49) (zl (zsi g (g.2.1 a 1) ((g.1 a 0) - 1).toNatClampNeg l5) (fun g23 => zb (f_X10_tries a g23) (fun v24 g25 => if l4 ≤ v24 then (j_X10_twice_105_66 a l1 l2 l4 l5 v24 l3 g25) else (j_X10_twice_105_66 a l1 l2 l4 l5 v24 l5 g25)))))
def f_X10_twice (a : Nat) (x1 : Int32) (g : zG) : Option (Int32 × zG) :=
  zb (f_X10_in x1.toInt64 0 2 g) (fun v8 g9 => if v8 = 0 then (some (((-1000000), g9))) else (if (g9.1 a 0) = 48 then (some (((-1000002), g9))) else (if (g9.1 a 4) = 0 then (some (((-1000002), g9))) else (zb (f_X10_tries a g9) (fun v13 g14 => zb (f_X10_keepChain a g14) (fun v15 g16 => zl (zsi g16 a 0 ((g16.1 a 0) + 1)) (fun g17 => zk (zw zN (fun s => l_X10_twice_66 a x1 v13 s.1 s.2.1 s.2.2.1 s.2.2.2) ((-4), 1000000000, 1, g17)) (fun x => j_X10_twice_128 a x1 v13 x.1 x.2.1 x.2.2))))))))
abbrev rm_X10_twice : Room := { frames := 6, cells := 0, slots := 0, locals := 142 }
set_option maxRecDepth 100000 in
set_option maxHeartbeats 4000000 in
theorem c_X10_twice (l : Launch) (D : zD) (sz : Nat) (τ : zT) (g : zG) (a : Nat) (x1 : Int32) (hta : τ a = some (.inr 10)) : zCon l D yX10_twice cX10_twice 7 (some .int) rm_X10_twice 0 0 zrI [.ref a, .int x1] sz τ g τ (f_X10_twice a x1 g) := by
  refine zCon.of (by decide) (Nat.le_of_ble_eq_true rfl) (fun E r g' hl hR hsz hnm F => ?_)
  have F : zF E D (zA τ sz) cX10_twice "TypeChainModel" 7 (some .int) := F
  show zSim (fun q : Int32 × zG => q = (r, g')) (f_X10_twice a x1 g) (zAt E D (zA τ sz) (zQ E D zrI 0 0 sz τ τ r g') 7 (sz, τ, 0, 0) g 0 [(0, .ref a), (1, .int x1)] [])
  have hj_X10_twice_128 : ∀ (l1_128 : Int32) (l2_128 : Int32) (l3_128 : Int32) (l4_128 : Int32) (g_128 : zG), zSim (fun q : Int32 × zG => q = (r, g')) (j_X10_twice_128 a l1_128 l2_128 l3_128 l4_128 g_128) (zAt E D (zA τ sz) (zQ E D zrI 0 0 sz τ τ r g') 7 (sz, τ, 0, 0) g_128 128 [(0, .ref a), (1, .int l1_128), (2, .int l2_128), (3, .int l3_128), (4, .int l4_128)] []) := by
    intro l1_128 l2_128 l3_128 l4_128 g_128
    unfold j_X10_twice_128
    refine z_aload_n F 0 rfl rfl dX10_twice_128 ?_
    refine z_dup F rfl dX10_twice_129 ?_
    refine gf_X10_139 F hta dX10_twice_130 ?_
    refine z_iconst (v := 1) F (by decide) dX10_twice_133 ?_
    refine z_isub F dX10_twice_134 ?_
    refine pf_X10_139 F hta dX10_twice_135 ?_
    refine z_letg (fun g1 => ?_)
    refine z_aload_n F 0 rfl rfl dX10_twice_138 ?_
    refine k_X10_chainAgain F (by rw [hR]; exact ⟨by decide, by decide⟩) q_1323 hta ⟨Nat.zero_le _, Nat.zero_le _⟩ (Nat.le_of_ble_eq_true rfl) dX10_twice_139 (fun v2 g3 => ?_)
    refine z_iload_n F 3 rfl rfl dX10_twice_142 ?_
    refine z_bipush (v := (-4)) F (by decide) dX10_twice_143 ?_
    refine z_icmp_ne (tgt := 152) F dX10_twice_145 (by decide) (fun c4 => ?_) (fun c4 => ?_)
    · refine z_ldcw F q_1332 dX10_twice_148 ?_
      exact z_ireturn F rfl rfl rfl rfl (fun h => h) dX10_twice_151
    · refine z_iload_n F 1 rfl rfl dX10_twice_152 ?_
      refine z_if_ne (tgt := 160) F dX10_twice_153 (by decide) (fun c5 => ?_) (fun c5 => ?_)
      · refine z_iload_n F 3 rfl rfl dX10_twice_156 ?_
        refine z_goto (tgt := 187) F dX10_twice_157 (by decide) ?_
        exact z_ireturn F rfl rfl rfl rfl (fun h => h) dX10_twice_187
      · refine z_iload_n F 1 rfl rfl dX10_twice_160 ?_
        refine z_iconst (v := 1) F (by decide) dX10_twice_161 ?_
        refine z_icmp_ne (tgt := 170) F dX10_twice_162 (by decide) (fun c6 => ?_) (fun c6 => ?_)
        · refine z_iload F 4 rfl dX10_twice_165 ?_
          refine z_goto (tgt := 187) F dX10_twice_167 (by decide) ?_
          exact z_ireturn F rfl rfl rfl rfl (fun h => h) dX10_twice_187
        · refine z_iload_n F 2 rfl rfl dX10_twice_170 ?_
          refine z_ldcw F q_1314 dX10_twice_171 ?_
          refine z_icmp_ne (tgt := 183) F dX10_twice_174 (by decide) (fun c7 => ?_) (fun c7 => ?_)
          · refine z_ldcw F q_1333 dX10_twice_177 ?_
            refine z_goto (tgt := 187) F dX10_twice_180 (by decide) ?_
            exact z_ireturn F rfl rfl rfl rfl (fun h => h) dX10_twice_187
          · refine z_iload_n F 2 rfl rfl dX10_twice_183 ?_
            refine z_iload F 4 rfl dX10_twice_184 ?_
            refine z_isub F dX10_twice_186 ?_
            exact z_ireturn F rfl rfl rfl rfl (fun h => h) dX10_twice_187
  unfold f_X10_twice
  refine z_iload_n F 1 rfl rfl dX10_twice_0 ?_
  refine z_i2l F dX10_twice_1 ?_
  refine z_lconst (v := 0) F (by decide) dX10_twice_2 ?_
  refine z_ldc2 F q_1129 dX10_twice_3 ?_
  refine k_X10_in F (by rw [hR]; exact ⟨by decide, by decide⟩) q_1082  ⟨Nat.zero_le _, Nat.zero_le _⟩ (Nat.le_of_ble_eq_true rfl) dX10_twice_6 (fun v8 g9 => ?_)
  refine z_if_ne (tgt := 16) F dX10_twice_9 (by decide) (fun c10 => ?_) (fun c10 => ?_)
  · refine z_ldcw F q_1331 dX10_twice_12 ?_
    exact z_ireturn F rfl rfl rfl rfl (fun h => h) dX10_twice_15
  · refine z_aload_n F 0 rfl rfl dX10_twice_16 ?_
    refine gf_X10_139 F hta dX10_twice_17 ?_
    refine z_bipush (v := 48) F (by decide) dX10_twice_20 ?_
    refine z_icmp_eq (tgt := 32) F dX10_twice_22 (by decide) (fun c11 => ?_) (fun c11 => ?_)
    · refine z_ldcw F q_1332 dX10_twice_32 ?_
      exact z_ireturn F rfl rfl rfl rfl (fun h => h) dX10_twice_35
    · refine z_aload_n F 0 rfl rfl dX10_twice_25 ?_
      refine gf_X10_142 F hta dX10_twice_26 ?_
      refine z_if_ne (tgt := 36) F dX10_twice_29 (by decide) (fun c12 => ?_) (fun c12 => ?_)
      · refine z_ldcw F q_1332 dX10_twice_32 ?_
        exact z_ireturn F rfl rfl rfl rfl (fun h => h) dX10_twice_35
      · refine z_aload_n F 0 rfl rfl dX10_twice_36 ?_
        refine k_X10_tries F (by rw [hR]; exact ⟨by decide, by decide⟩) q_1315 hta ⟨Nat.zero_le _, Nat.zero_le _⟩ (Nat.le_of_ble_eq_true rfl) dX10_twice_37 (fun v13 g14 => ?_)
        refine z_istore_n (lv' := [(2, .int v13), (0, .ref a), (1, .int x1)]) F rfl (by decide) dX10_twice_40 rfl ?_
        refine z_bipush (v := (-4)) F (by decide) dX10_twice_41 ?_
        refine z_istore_n (lv' := [(3, .int (-4)), (2, .int v13), (0, .ref a), (1, .int x1)]) F rfl (by decide) dX10_twice_43 rfl ?_
        refine z_ldcw F q_1314 dX10_twice_44 ?_
        refine z_istore (lv' := [(4, .int 1000000000), (3, .int (-4)), (2, .int v13), (0, .ref a), (1, .int x1)]) F (by decide) dX10_twice_47 rfl ?_
        refine z_aload_n F 3 rfl rfl dX10_twice_49 ?_
        refine k_X10_keepChain F (by rw [hR]; exact ⟨by decide, by decide⟩) q_1306 hta ⟨Nat.zero_le _, Nat.zero_le _⟩ (Nat.le_of_ble_eq_true rfl) dX10_twice_50 (fun v15 g16 => ?_)
        refine z_aload_n F 3 rfl rfl dX10_twice_53 ?_
        refine z_dup F rfl dX10_twice_54 ?_
        refine gf_X10_139 F hta dX10_twice_55 ?_
        refine z_iconst (v := 1) F (by decide) dX10_twice_58 ?_
        refine z_iadd F dX10_twice_59 ?_
        refine pf_X10_139 F hta dX10_twice_60 ?_
        refine z_letg (fun g17 => ?_)
        refine z_iconst (v := 1) F (by decide) dX10_twice_63 ?_
        refine z_istore (lv' := [(5, .int 1), (4, .int 1000000000), (3, .int (-4)), (2, .int v13), (0, .ref a), (1, .int x1)]) F (by decide) dX10_twice_64 rfl ?_
        refine z_sub (lv' := [(0, .ref a), (1, .int x1), (2, .int v13), (3, .int (-4)), (4, .int 1000000000), (5, .int 1)]) [4, 5, 3, 2, 1, 0] rfl ?_
        refine z_loop (P := fun s : Int32 × Int32 × Int32 × zG => zAt E D (zA τ sz) (zQ E D zrI 0 0 sz τ τ r g') 7 (sz, τ, 0, 0) s.2.2.2 66 [(0, .ref a), (1, .int x1), (2, .int v13), (3, .int s.1), (4, .int s.2.1), (5, .int s.2.2.1)] []) (Px := fun x : Int32 × Int32 × zG => zAt E D (zA τ sz) (zQ E D zrI 0 0 sz τ τ r g') 7 (sz, τ, 0, 0) x.2.2 128 [(0, .ref a), (1, .int x1), (2, .int v13), (3, .int x.1), (4, .int x.2.1)] []) ((-4), 1000000000, 1, g17) (fun s => ?_) (fun x => ?_)
        · obtain ⟨l3_66, l4_66, l5_66, g_66⟩ := s
          show zSim (zKl (fun s : Int32 × Int32 × Int32 × zG => zAt E D (zA τ sz) (zQ E D zrI 0 0 sz τ τ r g') 7 (sz, τ, 0, 0) s.2.2.2 66 [(0, .ref a), (1, .int x1), (2, .int v13), (3, .int s.1), (4, .int s.2.1), (5, .int s.2.2.1)] []) (fun x : Int32 × Int32 × zG => zAt E D (zA τ sz) (zQ E D zrI 0 0 sz τ τ r g') 7 (sz, τ, 0, 0) x.2.2 128 [(0, .ref a), (1, .int x1), (2, .int v13), (3, .int x.1), (4, .int x.2.1)] [])) (l_X10_twice_66 a x1 v13 l3_66 l4_66 l5_66 g_66) (zAt E D (zA τ sz) (zQ E D zrI 0 0 sz τ τ r g') 7 (sz, τ, 0, 0) g_66 66 [(0, .ref a), (1, .int x1), (2, .int v13), (3, .int l3_66), (4, .int l4_66), (5, .int l5_66)] [])
          have hj_X10_twice_105_66 : ∀ (l4_105 : Int32) (l5_105 : Int32) (l6_105 : Int32) (s0_105 : Int32) (g_105 : zG), zSim (zKl (fun s : Int32 × Int32 × Int32 × zG => zAt E D (zA τ sz) (zQ E D zrI 0 0 sz τ τ r g') 7 (sz, τ, 0, 0) s.2.2.2 66 [(0, .ref a), (1, .int x1), (2, .int v13), (3, .int s.1), (4, .int s.2.1), (5, .int s.2.2.1)] []) (fun x : Int32 × Int32 × zG => zAt E D (zA τ sz) (zQ E D zrI 0 0 sz τ τ r g') 7 (sz, τ, 0, 0) x.2.2 128 [(0, .ref a), (1, .int x1), (2, .int v13), (3, .int x.1), (4, .int x.2.1)] [])) (j_X10_twice_105_66 a x1 v13 l4_105 l5_105 l6_105 s0_105 g_105) (zAt E D (zA τ sz) (zQ E D zrI 0 0 sz τ τ r g') 7 (sz, τ, 0, 0) g_105 105 [(0, .ref a), (1, .int x1), (2, .int v13), (4, .int l4_105), (5, .int l5_105), (6, .int l6_105)] [.int s0_105]) := by
            intro l4_105 l5_105 l6_105 s0_105 g_105
            unfold j_X10_twice_105_66
            refine z_istore_n (lv' := [(3, .int s0_105), (0, .ref a), (1, .int x1), (2, .int v13), (4, .int l4_105), (5, .int l5_105), (6, .int l6_105)]) F rfl (by decide) dX10_twice_105 rfl ?_
            refine z_iload F 6 rfl dX10_twice_106 ?_
            refine z_iload F 4 rfl dX10_twice_108 ?_
            refine z_icmp_ge (tgt := 118) F dX10_twice_110 (by decide) (fun c18 => ?_) (fun c18 => ?_)
            · refine z_iload F 4 rfl dX10_twice_118 ?_
              refine z_istore (lv' := [(4, .int l4_105), (3, .int s0_105), (0, .ref a), (1, .int x1), (2, .int v13), (5, .int l5_105), (6, .int l6_105)]) F (by decide) dX10_twice_120 rfl ?_
              refine z_iincl (lv' := fun v19 => [(5, .int v19), (4, .int l4_105), (3, .int s0_105), (0, .ref a), (1, .int x1), (2, .int v13), (6, .int l6_105)]) F 5 rfl (by decide) (by decide) dX10_twice_122 (fun _ => rfl) (fun v19 => ?_)
              refine z_goto (tgt := 66) F dX10_twice_125 (by decide) ?_
              refine z_sub (lv' := [(0, .ref a), (1, .int x1), (2, .int v13), (3, .int s0_105), (4, .int l4_105), (5, .int v19)]) [3, 4, 5, 2, 1, 0] rfl ?_
              exact z_back (fun h => h)
            · refine z_iload F 6 rfl dX10_twice_113 ?_
              refine z_goto (tgt := 120) F dX10_twice_115 (by decide) ?_
              refine z_istore (lv' := [(4, .int l6_105), (3, .int s0_105), (0, .ref a), (1, .int x1), (2, .int v13), (5, .int l5_105), (6, .int l6_105)]) F (by decide) dX10_twice_120 rfl ?_
              refine z_iincl (lv' := fun v20 => [(5, .int v20), (4, .int l6_105), (3, .int s0_105), (0, .ref a), (1, .int x1), (2, .int v13), (6, .int l6_105)]) F 5 rfl (by decide) (by decide) dX10_twice_122 (fun _ => rfl) (fun v20 => ?_)
              refine z_goto (tgt := 66) F dX10_twice_125 (by decide) ?_
              refine z_sub (lv' := [(0, .ref a), (1, .int x1), (2, .int v13), (3, .int s0_105), (4, .int l6_105), (5, .int v20)]) [3, 4, 5, 2, 1, 0] rfl ?_
              exact z_back (fun h => h)
          unfold l_X10_twice_66
          refine z_iload F 5 rfl dX10_twice_66 ?_
          refine z_bipush (v := 26) F (by decide) dX10_twice_68 ?_
          refine z_icmp_gt (tgt := 128) F dX10_twice_70 (by decide) (fun c21 => ?_) (fun c21 => ?_)
          · refine z_sub (lv' := [(0, .ref a), (1, .int x1), (2, .int v13), (3, .int l3_66), (4, .int l4_66)]) [0, 1, 2, 3, 4] rfl ?_
            exact z_back (fun h => h)
          · refine z_aload_n F 0 rfl rfl dX10_twice_73 ?_
            refine gf_X10_7 F hta dX10_twice_74 (fun ht22 => ?_)
            refine z_aload_n F 0 rfl rfl dX10_twice_77 ?_
            refine gf_X10_139 F hta dX10_twice_78 ?_
            refine z_iconst (v := 1) F (by decide) dX10_twice_81 ?_
            refine z_isub F dX10_twice_82 ?_
            refine z_iload F 5 rfl dX10_twice_83 ?_
            refine z_iast F ht22 dX10_twice_85 ?_
            refine z_letg (fun g23 => ?_)
            refine z_aload_n F 0 rfl rfl dX10_twice_86 ?_
            refine k_X10_tries F (by rw [hR]; exact ⟨by decide, by decide⟩) q_1315 hta ⟨Nat.zero_le _, Nat.zero_le _⟩ (Nat.le_of_ble_eq_true rfl) dX10_twice_87 (fun v24 g25 => ?_)
            refine z_istore (lv' := [(6, .int v24), (0, .ref a), (1, .int x1), (2, .int v13), (3, .int l3_66), (4, .int l4_66), (5, .int l5_66)]) F (by decide) dX10_twice_90 rfl ?_
            refine z_iload F 0 rfl dX10_twice_92 ?_
            refine z_iload F 5 rfl dX10_twice_94 ?_
            refine z_icmp_ge (tgt := 104) F dX10_twice_96 (by decide) (fun c26 => ?_) (fun c26 => ?_)
            · refine z_iload_n F 4 rfl rfl dX10_twice_104 ?_
              refine z_sub (lv' := [(0, .ref a), (1, .int x1), (2, .int v13), (4, .int l4_66), (5, .int l5_66), (6, .int v24)]) [1, 2, 3, 5, 6, 0] rfl ?_
              exact hj_X10_twice_105_66 l4_66 l5_66 v24 l3_66 g25
            · refine z_iload F 6 rfl dX10_twice_99 ?_
              refine z_goto (tgt := 105) F dX10_twice_101 (by decide) ?_
              refine z_sub (lv' := [(0, .ref a), (1, .int x1), (2, .int v13), (4, .int l4_66), (5, .int l5_66), (6, .int v24)]) [1, 2, 3, 5, 6, 0] rfl ?_
              exact hj_X10_twice_105_66 l4_66 l5_66 v24 l5_66 g25
        · show zSim (fun q : Int32 × zG => q = (r, g')) (j_X10_twice_128 a x1 v13 x.1 x.2.1 x.2.2) (zAt E D (zA τ sz) (zQ E D zrI 0 0 sz τ τ r g') 7 (sz, τ, 0, 0) x.2.2 128 [(0, .ref a), (1, .int x1), (2, .int v13), (3, .int x.1), (4, .int x.2.1)] [])
          exact hj_X10_twice_128 x1 v13 x.1 x.2.1 x.2.2
theorem k_X10_twice {ρ : Type} {K : ρ → Prop} {E : zE} {D : zD} {A : Nat → Prop} {Q : State → Prop} {nL : Nat} {κ : zC} {g : zG} {pc : Nat} {lv : List (Nat × Value)} {st : List Value} {cc : ByteArray} {own : String} {ret : Option FieldType} (F : zF E D A cc own nL ret) {index : Nat} {h : Int32 → zG → Option ρ} {a : Nat} {x1 : Int32}  (hR : 6 + 1 ≤ E.2.2.2.1.frames ∧ 8 + (7 + 11) + 142 ≤ E.2.2.2.1.locals) (hl : zTbl (.methodLink own index yX10_twice)) (hta : κ.2.1 a = some (.inr 10)) (hc : κ.2.2.1 ≤ E.2.2.2.1.cells ∧ κ.2.2.2 ≤ E.2.2.2.1.slots) (hW : (st.map fun v => v.category).sum ≤ 8) (hd : decode cc pc = .ok (.invokevirtual index, 3)) (kk : ∀ r g', zSim K (h r g') (zAt E D A Q nL κ g' (pc + 3) lv (.int r :: st))) : zSim K (zb (f_X10_twice a x1 g) h) (zAt E D A Q nL κ g pc lv (.int x1 :: .ref a :: st)) :=
  z_callV F (n := 1) (As := [.int x1]) (C := (RX10, TX10, 61)) ⟨q_1330, q_14, by decide +kernel, rfl, rfl, hR.1, hR.2⟩ (c_X10_twice E.2.1 D κ.1 κ.2.1 g a x1 hta) hl q_1328 q_1329 hta rfl rfl rfl hc hW hd kk _ rfl
theorem dX10_isSheet_0 : decode cX10_isSheet 0 = .ok (.iload_n 0, 1) := by decide +kernel
theorem dX10_isSheet_1 : decode cX10_isSheet 1 = .ok (.i2l, 1) := by decide +kernel
theorem dX10_isSheet_2 : decode cX10_isSheet 2 = .ok (.lconst 0, 1) := by decide +kernel
theorem dX10_isSheet_3 : decode cX10_isSheet 3 = .ok (.ldc2_w 360, 3) := by decide +kernel
theorem dX10_isSheet_6 : decode cX10_isSheet 6 = .ok (.invokestatic 165, 3) := by decide +kernel
theorem dX10_isSheet_9 : decode cX10_isSheet 9 = .ok (.ifCond .eq 19, 3) := by decide +kernel
theorem dX10_isSheet_12 : decode cX10_isSheet 12 = .ok (.iload_n 1, 1) := by decide +kernel
theorem dX10_isSheet_13 : decode cX10_isSheet 13 = .ok (.i2l, 1) := by decide +kernel
theorem dX10_isSheet_14 : decode cX10_isSheet 14 = .ok (.lconst 0, 1) := by decide +kernel
theorem dX10_isSheet_15 : decode cX10_isSheet 15 = .ok (.ldc2_w 217, 3) := by decide +kernel
theorem dX10_isSheet_18 : decode cX10_isSheet 18 = .ok (.invokestatic 165, 3) := by decide +kernel
theorem dX10_isSheet_21 : decode cX10_isSheet 21 = .ok (.ifCond .eq 7, 3) := by decide +kernel
theorem dX10_isSheet_24 : decode cX10_isSheet 24 = .ok (.iconst 1, 1) := by decide +kernel
theorem dX10_isSheet_25 : decode cX10_isSheet 25 = .ok (.goto 4, 3) := by decide +kernel
theorem dX10_isSheet_28 : decode cX10_isSheet 28 = .ok (.iconst 0, 1) := by decide +kernel
theorem dX10_isSheet_29 : decode cX10_isSheet 29 = .ok (.ireturn, 1) := by decide +kernel
def f_X10_isSheet (x1 : Int32) (x2 : Int32) (g : zG) : Option (Int32 × zG) :=
  zb (f_X10_in x1.toInt64 0 3 g) (fun v1 g2 => if v1 = 0 then (some ((0, g2))) else (zb (f_X10_in x2.toInt64 0 2 g2) (fun v4 g5 => if v4 = 0 then (some ((0, g5))) else (some ((1, g5))))))
abbrev rm_X10_isSheet : Room := { frames := 1, cells := 0, slots := 0, locals := 25 }
set_option maxRecDepth 100000 in
set_option maxHeartbeats 4000000 in
theorem c_X10_isSheet (l : Launch) (D : zD) (sz : Nat) (τ : zT) (g : zG) (x1 : Int32) (x2 : Int32) : zCon l D yX10_isSheet cX10_isSheet 2 (some .boolean) rm_X10_isSheet 0 0 zrI [.int x1, .int x2] sz τ g τ (f_X10_isSheet x1 x2 g) := by
  refine zCon.of (by decide) (Nat.le_of_ble_eq_true rfl) (fun E r g' hl hR hsz hnm F => ?_)
  have F : zF E D (zA τ sz) cX10_isSheet "TypeChainModel" 2 (some .boolean) := F
  show zSim (fun q : Int32 × zG => q = (r, g')) (f_X10_isSheet x1 x2 g) (zAt E D (zA τ sz) (zQ E D zrI 0 0 sz τ τ r g') 2 (sz, τ, 0, 0) g 0 [(0, .int x1), (1, .int x2)] [])
  unfold f_X10_isSheet
  refine z_iload_n F 0 rfl rfl dX10_isSheet_0 ?_
  refine z_i2l F dX10_isSheet_1 ?_
  refine z_lconst (v := 0) F (by decide) dX10_isSheet_2 ?_
  refine z_ldc2 F q_1341 dX10_isSheet_3 ?_
  refine k_X10_in F (by rw [hR]; exact ⟨by decide, by decide⟩) q_1082  ⟨Nat.zero_le _, Nat.zero_le _⟩ (Nat.le_of_ble_eq_true rfl) dX10_isSheet_6 (fun v1 g2 => ?_)
  refine z_if_eq (tgt := 28) F dX10_isSheet_9 (by decide) (fun c3 => ?_) (fun c3 => ?_)
  · refine z_iconst (v := 0) F (by decide) dX10_isSheet_28 ?_
    exact z_zreturn F rfl rfl rfl rfl rfl (fun h => h) dX10_isSheet_29
  · refine z_iload_n F 1 rfl rfl dX10_isSheet_12 ?_
    refine z_i2l F dX10_isSheet_13 ?_
    refine z_lconst (v := 0) F (by decide) dX10_isSheet_14 ?_
    refine z_ldc2 F q_1129 dX10_isSheet_15 ?_
    refine k_X10_in F (by rw [hR]; exact ⟨by decide, by decide⟩) q_1082  ⟨Nat.zero_le _, Nat.zero_le _⟩ (Nat.le_of_ble_eq_true rfl) dX10_isSheet_18 (fun v4 g5 => ?_)
    refine z_if_eq (tgt := 28) F dX10_isSheet_21 (by decide) (fun c6 => ?_) (fun c6 => ?_)
    · refine z_iconst (v := 0) F (by decide) dX10_isSheet_28 ?_
      exact z_zreturn F rfl rfl rfl rfl rfl (fun h => h) dX10_isSheet_29
    · refine z_iconst (v := 1) F (by decide) dX10_isSheet_24 ?_
      refine z_goto (tgt := 29) F dX10_isSheet_25 (by decide) ?_
      exact z_zreturn F rfl rfl rfl rfl rfl (fun h => h) dX10_isSheet_29
theorem k_X10_isSheet {ρ : Type} {K : ρ → Prop} {E : zE} {D : zD} {A : Nat → Prop} {Q : State → Prop} {nL : Nat} {κ : zC} {g : zG} {pc : Nat} {lv : List (Nat × Value)} {st : List Value} {cc : ByteArray} {own : String} {ret : Option FieldType} (F : zF E D A cc own nL ret) {index : Nat} {h : Int32 → zG → Option ρ} {x1 : Int32} {x2 : Int32}  (hR : 1 + 1 ≤ E.2.2.2.1.frames ∧ 8 + (2 + 11) + 25 ≤ E.2.2.2.1.locals) (hl : zTbl (.methodLink own index yX10_isSheet)) (hc : κ.2.2.1 ≤ E.2.2.2.1.cells ∧ κ.2.2.2 ≤ E.2.2.2.1.slots) (hW : (st.map fun v => v.category).sum ≤ 8) (hd : decode cc pc = .ok (.invokestatic index, 3)) (kk : ∀ r g', zSim K (h r g') (zAt E D A Q nL κ g' (pc + 3) lv (.int r :: st))) : zSim K (zb (f_X10_isSheet x1 x2 g) h) (zAt E D A Q nL κ g pc lv (.int x2 :: .int x1 :: st)) :=
  z_callS F (n := 2) (As := [.int x1, .int x2]) ⟨q_1340, q_14, by decide +kernel, rfl, rfl, hR.1, hR.2⟩ (c_X10_isSheet E.2.1 D κ.1 κ.2.1 g x1 x2 ) hl q_1339 rfl hc hW hd kk _ rfl
theorem dX10_sheet_0 : decode cX10_sheet 0 = .ok (.iload_n 1, 1) := by decide +kernel
theorem dX10_sheet_1 : decode cX10_sheet 1 = .ok (.iload_n 2, 1) := by decide +kernel
theorem dX10_sheet_2 : decode cX10_sheet 2 = .ok (.invokestatic 362, 3) := by decide +kernel
theorem dX10_sheet_5 : decode cX10_sheet 5 = .ok (.ifCond .eq 9, 3) := by decide +kernel
theorem dX10_sheet_8 : decode cX10_sheet 8 = .ok (.iload_n 3, 1) := by decide +kernel
theorem dX10_sheet_9 : decode cX10_sheet 9 = .ok (.bipush 40, 2) := by decide +kernel
theorem dX10_sheet_11 : decode cX10_sheet 11 = .ok (.if_icmp .le 5, 3) := by decide +kernel
theorem dX10_sheet_14 : decode cX10_sheet 14 = .ok (.iconst (-1), 1) := by decide +kernel
theorem dX10_sheet_15 : decode cX10_sheet 15 = .ok (.ireturn, 1) := by decide +kernel
theorem dX10_sheet_16 : decode cX10_sheet 16 = .ok (.iload_n 3, 1) := by decide +kernel
theorem dX10_sheet_17 : decode cX10_sheet 17 = .ok (.ifCond .ge 6, 3) := by decide +kernel
theorem dX10_sheet_20 : decode cX10_sheet 20 = .ok (.bipush (-14), 2) := by decide +kernel
theorem dX10_sheet_22 : decode cX10_sheet 22 = .ok (.ireturn, 1) := by decide +kernel
theorem dX10_sheet_23 : decode cX10_sheet 23 = .ok (.aload_n 0, 1) := by decide +kernel
theorem dX10_sheet_24 : decode cX10_sheet 24 = .ok (.getfield 107, 3) := by decide +kernel
theorem dX10_sheet_27 : decode cX10_sheet 27 = .ok (.iload_n 1, 1) := by decide +kernel
theorem dX10_sheet_28 : decode cX10_sheet 28 = .ok (.iload_n 2, 1) := by decide +kernel
theorem dX10_sheet_29 : decode cX10_sheet 29 = .ok (.iastore, 1) := by decide +kernel
theorem dX10_sheet_30 : decode cX10_sheet 30 = .ok (.aload_n 0, 1) := by decide +kernel
theorem dX10_sheet_31 : decode cX10_sheet 31 = .ok (.getfield 110, 3) := by decide +kernel
theorem dX10_sheet_34 : decode cX10_sheet 34 = .ok (.iload_n 1, 1) := by decide +kernel
theorem dX10_sheet_35 : decode cX10_sheet 35 = .ok (.iload_n 3, 1) := by decide +kernel
theorem dX10_sheet_36 : decode cX10_sheet 36 = .ok (.iastore, 1) := by decide +kernel
theorem dX10_sheet_37 : decode cX10_sheet 37 = .ok (.iconst 0, 1) := by decide +kernel
theorem dX10_sheet_38 : decode cX10_sheet 38 = .ok (.istore 4, 2) := by decide +kernel
theorem dX10_sheet_40 : decode cX10_sheet 40 = .ok (.iload 4, 2) := by decide +kernel
theorem dX10_sheet_42 : decode cX10_sheet 42 = .ok (.bipush 40, 2) := by decide +kernel
theorem dX10_sheet_44 : decode cX10_sheet 44 = .ok (.if_icmp .ge 22, 3) := by decide +kernel
theorem dX10_sheet_47 : decode cX10_sheet 47 = .ok (.aload_n 0, 1) := by decide +kernel
theorem dX10_sheet_48 : decode cX10_sheet 48 = .ok (.getfield 113, 3) := by decide +kernel
theorem dX10_sheet_51 : decode cX10_sheet 51 = .ok (.bipush 40, 2) := by decide +kernel
theorem dX10_sheet_53 : decode cX10_sheet 53 = .ok (.iload_n 1, 1) := by decide +kernel
theorem dX10_sheet_54 : decode cX10_sheet 54 = .ok (.imul, 1) := by decide +kernel
theorem dX10_sheet_55 : decode cX10_sheet 55 = .ok (.iload 4, 2) := by decide +kernel
theorem dX10_sheet_57 : decode cX10_sheet 57 = .ok (.iadd, 1) := by decide +kernel
theorem dX10_sheet_58 : decode cX10_sheet 58 = .ok (.iconst 0, 1) := by decide +kernel
theorem dX10_sheet_59 : decode cX10_sheet 59 = .ok (.iastore, 1) := by decide +kernel
theorem dX10_sheet_60 : decode cX10_sheet 60 = .ok (.iinc 4 1, 3) := by decide +kernel
theorem dX10_sheet_63 : decode cX10_sheet 63 = .ok (.goto (-23), 3) := by decide +kernel
theorem dX10_sheet_66 : decode cX10_sheet 66 = .ok (.iconst 1, 1) := by decide +kernel
theorem dX10_sheet_67 : decode cX10_sheet 67 = .ok (.ireturn, 1) := by decide +kernel
def j_X10_sheet_66 (a : Nat)  (g : zG) : Option (Int32 × zG) :=
  some ((1, g))
def l_X10_sheet_40 (a : Nat) (l1 : Int32) (l4 : Int32) (g : zG) : Option ((Int32 × zG) ⊕ (zG)) :=
  if 40 ≤ l4 then (some (.inr g)) else (zc (zin ((40 * l1) + l4) 160) (zl (zsi g (g.2.1 a 60) ((40 * l1) + l4).toNatClampNeg 0) (fun g12 => zl (l4 + 1) (fun v13 => some (.inl (v13, g12))))))
def f_X10_sheet (a : Nat) (x1 : Int32) (x2 : Int32) (x3 : Int32) (g : zG) : Option (Int32 × zG) :=
  zb (f_X10_isSheet x1 x2 g) (fun v1 g2 => if v1 = 0 then (some (((-1), g2))) else (if x3 ≤ 40 then (if 0 ≤ x3 then (zc (zin x1 4) (zl (zsi g2 (g2.2.1 a 58) x1.toNatClampNeg x2) (fun g7 => zc (zin x1 4) (zl (zsi g7 (g7.2.1 a 59) x1.toNatClampNeg x3) (fun g9 => zk (zw zN (fun s => l_X10_sheet_40 a x1 s.1 s.2) (0, g9)) (fun x => j_X10_sheet_66 a x)))))) else (some (((-14), g2)))) else (some (((-1), g2)))))
abbrev rm_X10_sheet : Room := { frames := 2, cells := 0, slots := 0, locals := 46 }
set_option maxRecDepth 100000 in
set_option maxHeartbeats 4000000 in
theorem c_X10_sheet (l : Launch) (D : zD) (sz : Nat) (τ : zT) (g : zG) (a : Nat) (x1 : Int32) (x2 : Int32) (x3 : Int32) (hta : τ a = some (.inr 10)) : zCon l D yX10_sheet cX10_sheet 5 (some .int) rm_X10_sheet 0 0 zrI [.ref a, .int x1, .int x2, .int x3] sz τ g τ (f_X10_sheet a x1 x2 x3 g) := by
  refine zCon.of (by decide) (Nat.le_of_ble_eq_true rfl) (fun E r g' hl hR hsz hnm F => ?_)
  have F : zF E D (zA τ sz) cX10_sheet "TypeChainModel" 5 (some .int) := F
  show zSim (fun q : Int32 × zG => q = (r, g')) (f_X10_sheet a x1 x2 x3 g) (zAt E D (zA τ sz) (zQ E D zrI 0 0 sz τ τ r g') 5 (sz, τ, 0, 0) g 0 [(0, .ref a), (1, .int x1), (2, .int x2), (3, .int x3)] [])
  have hj_X10_sheet_66 : ∀  (g_66 : zG), zSim (fun q : Int32 × zG => q = (r, g')) (j_X10_sheet_66 a g_66) (zAt E D (zA τ sz) (zQ E D zrI 0 0 sz τ τ r g') 5 (sz, τ, 0, 0) g_66 66 [] []) := by
    intro g_66
    unfold j_X10_sheet_66
    refine z_iconst (v := 1) F (by decide) dX10_sheet_66 ?_
    exact z_ireturn F rfl rfl rfl rfl (fun h => h) dX10_sheet_67
  unfold f_X10_sheet
  refine z_iload_n F 1 rfl rfl dX10_sheet_0 ?_
  refine z_iload_n F 2 rfl rfl dX10_sheet_1 ?_
  refine k_X10_isSheet F (by rw [hR]; exact ⟨by decide, by decide⟩) q_1338  ⟨Nat.zero_le _, Nat.zero_le _⟩ (Nat.le_of_ble_eq_true rfl) dX10_sheet_2 (fun v1 g2 => ?_)
  refine z_if_eq (tgt := 14) F dX10_sheet_5 (by decide) (fun c3 => ?_) (fun c3 => ?_)
  · refine z_iconst (v := (-1)) F (by decide) dX10_sheet_14 ?_
    exact z_ireturn F rfl rfl rfl rfl (fun h => h) dX10_sheet_15
  · refine z_iload_n F 3 rfl rfl dX10_sheet_8 ?_
    refine z_bipush (v := 40) F (by decide) dX10_sheet_9 ?_
    refine z_icmp_le (tgt := 16) F dX10_sheet_11 (by decide) (fun c4 => ?_) (fun c4 => ?_)
    · refine z_iload_n F 3 rfl rfl dX10_sheet_16 ?_
      refine z_if_ge (tgt := 23) F dX10_sheet_17 (by decide) (fun c5 => ?_) (fun c5 => ?_)
      · refine z_aload_n F 0 rfl rfl dX10_sheet_23 ?_
        refine gf_X10_107 F hta dX10_sheet_24 (fun ht6 => ?_)
        refine z_iload_n F 1 rfl rfl dX10_sheet_27 ?_
        refine z_iload_n F 2 rfl rfl dX10_sheet_28 ?_
        refine z_iast F ht6 dX10_sheet_29 ?_
        refine z_letg (fun g7 => ?_)
        refine z_aload_n F 0 rfl rfl dX10_sheet_30 ?_
        refine gf_X10_110 F hta dX10_sheet_31 (fun ht8 => ?_)
        refine z_iload_n F 1 rfl rfl dX10_sheet_34 ?_
        refine z_iload_n F 3 rfl rfl dX10_sheet_35 ?_
        refine z_iast F ht8 dX10_sheet_36 ?_
        refine z_letg (fun g9 => ?_)
        refine z_iconst (v := 0) F (by decide) dX10_sheet_37 ?_
        refine z_istore (lv' := [(4, .int 0), (0, .ref a), (1, .int x1), (2, .int x2), (3, .int x3)]) F (by decide) dX10_sheet_38 rfl ?_
        refine z_sub (lv' := [(0, .ref a), (1, .int x1), (4, .int 0)]) [1, 2, 0] rfl ?_
        refine z_loop (P := fun s : Int32 × zG => zAt E D (zA τ sz) (zQ E D zrI 0 0 sz τ τ r g') 5 (sz, τ, 0, 0) s.2 40 [(0, .ref a), (1, .int x1), (4, .int s.1)] []) (Px := fun x : zG => zAt E D (zA τ sz) (zQ E D zrI 0 0 sz τ τ r g') 5 (sz, τ, 0, 0) x 66 [] []) (0, g9) (fun s => ?_) (fun x => ?_)
        · obtain ⟨l4_40, g_40⟩ := s
          show zSim (zKl (fun s : Int32 × zG => zAt E D (zA τ sz) (zQ E D zrI 0 0 sz τ τ r g') 5 (sz, τ, 0, 0) s.2 40 [(0, .ref a), (1, .int x1), (4, .int s.1)] []) (fun x : zG => zAt E D (zA τ sz) (zQ E D zrI 0 0 sz τ τ r g') 5 (sz, τ, 0, 0) x 66 [] [])) (l_X10_sheet_40 a x1 l4_40 g_40) (zAt E D (zA τ sz) (zQ E D zrI 0 0 sz τ τ r g') 5 (sz, τ, 0, 0) g_40 40 [(0, .ref a), (1, .int x1), (4, .int l4_40)] [])
          unfold l_X10_sheet_40
          refine z_iload F 2 rfl dX10_sheet_40 ?_
          refine z_bipush (v := 40) F (by decide) dX10_sheet_42 ?_
          refine z_icmp_ge (tgt := 66) F dX10_sheet_44 (by decide) (fun c10 => ?_) (fun c10 => ?_)
          · refine z_sub (lv' := []) [] rfl ?_
            exact z_back (fun h => h)
          · refine z_aload_n F 0 rfl rfl dX10_sheet_47 ?_
            refine gf_X10_113 F hta dX10_sheet_48 (fun ht11 => ?_)
            refine z_bipush (v := 40) F (by decide) dX10_sheet_51 ?_
            refine z_iload_n F 1 rfl rfl dX10_sheet_53 ?_
            refine z_imul F dX10_sheet_54 ?_
            refine z_iload F 2 rfl dX10_sheet_55 ?_
            refine z_iadd F dX10_sheet_57 ?_
            refine z_iconst (v := 0) F (by decide) dX10_sheet_58 ?_
            refine z_iast F ht11 dX10_sheet_59 ?_
            refine z_letg (fun g12 => ?_)
            refine z_iincl (lv' := fun v13 => [(4, .int v13), (0, .ref a), (1, .int x1)]) F 2 rfl (by decide) (by decide) dX10_sheet_60 (fun _ => rfl) (fun v13 => ?_)
            refine z_goto (tgt := 40) F dX10_sheet_63 (by decide) ?_
            refine z_sub (lv' := [(0, .ref a), (1, .int x1), (4, .int v13)]) [1, 2, 0] rfl ?_
            exact z_back (fun h => h)
        · show zSim (fun q : Int32 × zG => q = (r, g')) (j_X10_sheet_66 a x) (zAt E D (zA τ sz) (zQ E D zrI 0 0 sz τ τ r g') 5 (sz, τ, 0, 0) x 66 [] [])
          exact hj_X10_sheet_66 x
      · refine z_bipush (v := (-14)) F (by decide) dX10_sheet_20 ?_
        exact z_ireturn F rfl rfl rfl rfl (fun h => h) dX10_sheet_22
    · refine z_iconst (v := (-1)) F (by decide) dX10_sheet_14 ?_
      exact z_ireturn F rfl rfl rfl rfl (fun h => h) dX10_sheet_15
theorem k_X10_sheet {ρ : Type} {K : ρ → Prop} {E : zE} {D : zD} {A : Nat → Prop} {Q : State → Prop} {nL : Nat} {κ : zC} {g : zG} {pc : Nat} {lv : List (Nat × Value)} {st : List Value} {cc : ByteArray} {own : String} {ret : Option FieldType} (F : zF E D A cc own nL ret) {index : Nat} {h : Int32 → zG → Option ρ} {a : Nat} {x1 : Int32} {x2 : Int32} {x3 : Int32}  (hR : 2 + 1 ≤ E.2.2.2.1.frames ∧ 8 + (5 + 11) + 46 ≤ E.2.2.2.1.locals) (hl : zTbl (.methodLink own index yX10_sheet)) (hta : κ.2.1 a = some (.inr 10)) (hc : κ.2.2.1 ≤ E.2.2.2.1.cells ∧ κ.2.2.2 ≤ E.2.2.2.1.slots) (hW : (st.map fun v => v.category).sum ≤ 8) (hd : decode cc pc = .ok (.invokevirtual index, 3)) (kk : ∀ r g', zSim K (h r g') (zAt E D A Q nL κ g' (pc + 3) lv (.int r :: st))) : zSim K (zb (f_X10_sheet a x1 x2 x3 g) h) (zAt E D A Q nL κ g pc lv (.int x3 :: .int x2 :: .int x1 :: .ref a :: st)) :=
  z_callV F (n := 3) (As := [.int x1, .int x2, .int x3]) (C := (RX10, TX10, 61)) ⟨q_1337, q_14, by decide +kernel, rfl, rfl, hR.1, hR.2⟩ (c_X10_sheet E.2.1 D κ.1 κ.2.1 g a x1 x2 x3 hta) hl q_1335 q_1336 hta rfl rfl rfl hc hW hd kk _ rfl
theorem dX10_lay_0 : decode cX10_lay 0 = .ok (.iload_n 1, 1) := by decide +kernel
theorem dX10_lay_1 : decode cX10_lay 1 = .ok (.iconst 0, 1) := by decide +kernel
theorem dX10_lay_2 : decode cX10_lay 2 = .ok (.invokestatic 362, 3) := by decide +kernel
theorem dX10_lay_5 : decode cX10_lay 5 = .ok (.ifCond .ne 5, 3) := by decide +kernel
theorem dX10_lay_8 : decode cX10_lay 8 = .ok (.iconst (-1), 1) := by decide +kernel
theorem dX10_lay_9 : decode cX10_lay 9 = .ok (.ireturn, 1) := by decide +kernel
theorem dX10_lay_10 : decode cX10_lay 10 = .ok (.aload_n 0, 1) := by decide +kernel
theorem dX10_lay_11 : decode cX10_lay 11 = .ok (.getfield 107, 3) := by decide +kernel
theorem dX10_lay_14 : decode cX10_lay 14 = .ok (.iload_n 1, 1) := by decide +kernel
theorem dX10_lay_15 : decode cX10_lay 15 = .ok (.iaload, 1) := by decide +kernel
theorem dX10_lay_16 : decode cX10_lay 16 = .ok (.bipush (-4), 2) := by decide +kernel
theorem dX10_lay_18 : decode cX10_lay 18 = .ok (.if_icmp .ne 6, 3) := by decide +kernel
theorem dX10_lay_21 : decode cX10_lay 21 = .ok (.bipush (-11), 2) := by decide +kernel
theorem dX10_lay_23 : decode cX10_lay 23 = .ok (.ireturn, 1) := by decide +kernel
theorem dX10_lay_24 : decode cX10_lay 24 = .ok (.iload_n 2, 1) := by decide +kernel
theorem dX10_lay_25 : decode cX10_lay 25 = .ok (.i2l, 1) := by decide +kernel
theorem dX10_lay_26 : decode cX10_lay 26 = .ok (.lconst 0, 1) := by decide +kernel
theorem dX10_lay_27 : decode cX10_lay 27 = .ok (.aload_n 0, 1) := by decide +kernel
theorem dX10_lay_28 : decode cX10_lay 28 = .ok (.getfield 110, 3) := by decide +kernel
theorem dX10_lay_31 : decode cX10_lay 31 = .ok (.iload_n 1, 1) := by decide +kernel
theorem dX10_lay_32 : decode cX10_lay 32 = .ok (.iaload, 1) := by decide +kernel
theorem dX10_lay_33 : decode cX10_lay 33 = .ok (.iconst 1, 1) := by decide +kernel
theorem dX10_lay_34 : decode cX10_lay 34 = .ok (.isub, 1) := by decide +kernel
theorem dX10_lay_35 : decode cX10_lay 35 = .ok (.i2l, 1) := by decide +kernel
theorem dX10_lay_36 : decode cX10_lay 36 = .ok (.invokestatic 165, 3) := by decide +kernel
theorem dX10_lay_39 : decode cX10_lay 39 = .ok (.ifCond .ne 6, 3) := by decide +kernel
theorem dX10_lay_42 : decode cX10_lay 42 = .ok (.bipush (-12), 2) := by decide +kernel
theorem dX10_lay_44 : decode cX10_lay 44 = .ok (.ireturn, 1) := by decide +kernel
theorem dX10_lay_45 : decode cX10_lay 45 = .ok (.aload_n 0, 1) := by decide +kernel
theorem dX10_lay_46 : decode cX10_lay 46 = .ok (.getfield 113, 3) := by decide +kernel
theorem dX10_lay_49 : decode cX10_lay 49 = .ok (.bipush 40, 2) := by decide +kernel
theorem dX10_lay_51 : decode cX10_lay 51 = .ok (.iload_n 1, 1) := by decide +kernel
theorem dX10_lay_52 : decode cX10_lay 52 = .ok (.imul, 1) := by decide +kernel
theorem dX10_lay_53 : decode cX10_lay 53 = .ok (.iload_n 2, 1) := by decide +kernel
theorem dX10_lay_54 : decode cX10_lay 54 = .ok (.iadd, 1) := by decide +kernel
theorem dX10_lay_55 : decode cX10_lay 55 = .ok (.aload_n 0, 1) := by decide +kernel
theorem dX10_lay_56 : decode cX10_lay 56 = .ok (.getfield 107, 3) := by decide +kernel
theorem dX10_lay_59 : decode cX10_lay 59 = .ok (.iload_n 1, 1) := by decide +kernel
theorem dX10_lay_60 : decode cX10_lay 60 = .ok (.iaload, 1) := by decide +kernel
theorem dX10_lay_61 : decode cX10_lay 61 = .ok (.ifCond .ne 8, 3) := by decide +kernel
theorem dX10_lay_64 : decode cX10_lay 64 = .ok (.iload_n 3, 1) := by decide +kernel
theorem dX10_lay_65 : decode cX10_lay 65 = .ok (.i2b, 1) := by decide +kernel
theorem dX10_lay_66 : decode cX10_lay 66 = .ok (.goto 19, 3) := by decide +kernel
theorem dX10_lay_69 : decode cX10_lay 69 = .ok (.aload_n 0, 1) := by decide +kernel
theorem dX10_lay_70 : decode cX10_lay 70 = .ok (.getfield 107, 3) := by decide +kernel
theorem dX10_lay_73 : decode cX10_lay 73 = .ok (.iload_n 1, 1) := by decide +kernel
theorem dX10_lay_74 : decode cX10_lay 74 = .ok (.iaload, 1) := by decide +kernel
theorem dX10_lay_75 : decode cX10_lay 75 = .ok (.iconst 1, 1) := by decide +kernel
theorem dX10_lay_76 : decode cX10_lay 76 = .ok (.if_icmp .ne 8, 3) := by decide +kernel
theorem dX10_lay_79 : decode cX10_lay 79 = .ok (.iload_n 3, 1) := by decide +kernel
theorem dX10_lay_80 : decode cX10_lay 80 = .ok (.i2s, 1) := by decide +kernel
theorem dX10_lay_81 : decode cX10_lay 81 = .ok (.goto 4, 3) := by decide +kernel
theorem dX10_lay_84 : decode cX10_lay 84 = .ok (.iload_n 3, 1) := by decide +kernel
theorem dX10_lay_85 : decode cX10_lay 85 = .ok (.iastore, 1) := by decide +kernel
theorem dX10_lay_86 : decode cX10_lay 86 = .ok (.iconst 1, 1) := by decide +kernel
theorem dX10_lay_87 : decode cX10_lay 87 = .ok (.ireturn, 1) := by decide +kernel
def f_X10_lay (a : Nat) (x1 : Int32) (x2 : Int32) (x3 : Int32) (g : zG) : Option (Int32 × zG) :=
  zb (f_X10_isSheet x1 0 g) (fun v1 g2 => if v1 = 0 then (some (((-1), g2))) else (zc (zin x1 4) (if (g2.1 (g2.2.1 a 58) x1.toNatClampNeg) = (-4) then (some (((-11), g2))) else (zc (zin x1 4) (zb (f_X10_in x2.toInt64 0 (((g2.1 (g2.2.1 a 59) x1.toNatClampNeg) - 1).toInt64) g2) (fun v7 g8 => if v7 = 0 then (some (((-12), g8))) else (zc (zin x1 4) (if (g8.1 (g8.2.1 a 58) x1.toNatClampNeg) = 0 then (zc (zin ((40 * x1) + x2) 160) (zl (zsi g8 (g8.2.1 a 60) ((40 * x1) + x2).toNatClampNeg x3.toInt8.toInt32) (fun g13 => some ((1, g13))))) else (zc (zin x1 4) (if (g8.1 (g8.2.1 a 58) x1.toNatClampNeg) = 1 then (zc (zin ((40 * x1) + x2) 160) (zl (zsi g8 (g8.2.1 a 60) ((40 * x1) + x2).toNatClampNeg x3.toInt16.toInt32) (fun g16 => some ((1, g16))))) else (zc (zin ((40 * x1) + x2) 160) (zl (zsi g8 (g8.2.1 a 60) ((40 * x1) + x2).toNatClampNeg x3) (fun g17 => some ((1, g17)))))))))))))))
abbrev rm_X10_lay : Room := { frames := 2, cells := 0, slots := 0, locals := 46 }
set_option maxRecDepth 100000 in
set_option maxHeartbeats 4000000 in
theorem c_X10_lay (l : Launch) (D : zD) (sz : Nat) (τ : zT) (g : zG) (a : Nat) (x1 : Int32) (x2 : Int32) (x3 : Int32) (hta : τ a = some (.inr 10)) : zCon l D yX10_lay cX10_lay 4 (some .int) rm_X10_lay 0 0 zrI [.ref a, .int x1, .int x2, .int x3] sz τ g τ (f_X10_lay a x1 x2 x3 g) := by
  refine zCon.of (by decide) (Nat.le_of_ble_eq_true rfl) (fun E r g' hl hR hsz hnm F => ?_)
  have F : zF E D (zA τ sz) cX10_lay "TypeChainModel" 4 (some .int) := F
  show zSim (fun q : Int32 × zG => q = (r, g')) (f_X10_lay a x1 x2 x3 g) (zAt E D (zA τ sz) (zQ E D zrI 0 0 sz τ τ r g') 4 (sz, τ, 0, 0) g 0 [(0, .ref a), (1, .int x1), (2, .int x2), (3, .int x3)] [])
  unfold f_X10_lay
  refine z_iload_n F 1 rfl rfl dX10_lay_0 ?_
  refine z_iconst (v := 0) F (by decide) dX10_lay_1 ?_
  refine k_X10_isSheet F (by rw [hR]; exact ⟨by decide, by decide⟩) q_1338  ⟨Nat.zero_le _, Nat.zero_le _⟩ (Nat.le_of_ble_eq_true rfl) dX10_lay_2 (fun v1 g2 => ?_)
  refine z_if_ne (tgt := 10) F dX10_lay_5 (by decide) (fun c3 => ?_) (fun c3 => ?_)
  · refine z_iconst (v := (-1)) F (by decide) dX10_lay_8 ?_
    exact z_ireturn F rfl rfl rfl rfl (fun h => h) dX10_lay_9
  · refine z_aload_n F 0 rfl rfl dX10_lay_10 ?_
    refine gf_X10_107 F hta dX10_lay_11 (fun ht4 => ?_)
    refine z_iload_n F 1 rfl rfl dX10_lay_14 ?_
    refine z_iald F ht4 dX10_lay_15 ?_
    refine z_bipush (v := (-4)) F (by decide) dX10_lay_16 ?_
    refine z_icmp_ne (tgt := 24) F dX10_lay_18 (by decide) (fun c5 => ?_) (fun c5 => ?_)
    · refine z_bipush (v := (-11)) F (by decide) dX10_lay_21 ?_
      exact z_ireturn F rfl rfl rfl rfl (fun h => h) dX10_lay_23
    · refine z_iload_n F 2 rfl rfl dX10_lay_24 ?_
      refine z_i2l F dX10_lay_25 ?_
      refine z_lconst (v := 0) F (by decide) dX10_lay_26 ?_
      refine z_aload_n F 0 rfl rfl dX10_lay_27 ?_
      refine gf_X10_110 F hta dX10_lay_28 (fun ht6 => ?_)
      refine z_iload_n F 1 rfl rfl dX10_lay_31 ?_
      refine z_iald F ht6 dX10_lay_32 ?_
      refine z_iconst (v := 1) F (by decide) dX10_lay_33 ?_
      refine z_isub F dX10_lay_34 ?_
      refine z_i2l F dX10_lay_35 ?_
      refine k_X10_in F (by rw [hR]; exact ⟨by decide, by decide⟩) q_1082  ⟨Nat.zero_le _, Nat.zero_le _⟩ (Nat.le_of_ble_eq_true rfl) dX10_lay_36 (fun v7 g8 => ?_)
      refine z_if_ne (tgt := 45) F dX10_lay_39 (by decide) (fun c9 => ?_) (fun c9 => ?_)
      · refine z_bipush (v := (-12)) F (by decide) dX10_lay_42 ?_
        exact z_ireturn F rfl rfl rfl rfl (fun h => h) dX10_lay_44
      · refine z_aload_n F 0 rfl rfl dX10_lay_45 ?_
        refine gf_X10_113 F hta dX10_lay_46 (fun ht10 => ?_)
        refine z_bipush (v := 40) F (by decide) dX10_lay_49 ?_
        refine z_iload_n F 1 rfl rfl dX10_lay_51 ?_
        refine z_imul F dX10_lay_52 ?_
        refine z_iload_n F 2 rfl rfl dX10_lay_53 ?_
        refine z_iadd F dX10_lay_54 ?_
        refine z_aload_n F 0 rfl rfl dX10_lay_55 ?_
        refine gf_X10_107 F hta dX10_lay_56 (fun ht11 => ?_)
        refine z_iload_n F 1 rfl rfl dX10_lay_59 ?_
        refine z_iald F ht11 dX10_lay_60 ?_
        refine z_if_ne (tgt := 69) F dX10_lay_61 (by decide) (fun c12 => ?_) (fun c12 => ?_)
        · refine z_iload_n F 3 rfl rfl dX10_lay_64 ?_
          refine z_i2b F dX10_lay_65 ?_
          refine z_goto (tgt := 85) F dX10_lay_66 (by decide) ?_
          refine z_iast F ht10 dX10_lay_85 ?_
          refine z_letg (fun g13 => ?_)
          refine z_iconst (v := 1) F (by decide) dX10_lay_86 ?_
          exact z_ireturn F rfl rfl rfl rfl (fun h => h) dX10_lay_87
        · refine z_aload_n F 0 rfl rfl dX10_lay_69 ?_
          refine gf_X10_107 F hta dX10_lay_70 (fun ht14 => ?_)
          refine z_iload_n F 1 rfl rfl dX10_lay_73 ?_
          refine z_iald F ht14 dX10_lay_74 ?_
          refine z_iconst (v := 1) F (by decide) dX10_lay_75 ?_
          refine z_icmp_ne (tgt := 84) F dX10_lay_76 (by decide) (fun c15 => ?_) (fun c15 => ?_)
          · refine z_iload_n F 3 rfl rfl dX10_lay_79 ?_
            refine z_i2s F dX10_lay_80 ?_
            refine z_goto (tgt := 85) F dX10_lay_81 (by decide) ?_
            refine z_iast F ht10 dX10_lay_85 ?_
            refine z_letg (fun g16 => ?_)
            refine z_iconst (v := 1) F (by decide) dX10_lay_86 ?_
            exact z_ireturn F rfl rfl rfl rfl (fun h => h) dX10_lay_87
          · refine z_iload_n F 3 rfl rfl dX10_lay_84 ?_
            refine z_iast F ht10 dX10_lay_85 ?_
            refine z_letg (fun g17 => ?_)
            refine z_iconst (v := 1) F (by decide) dX10_lay_86 ?_
            exact z_ireturn F rfl rfl rfl rfl (fun h => h) dX10_lay_87
theorem k_X10_lay {ρ : Type} {K : ρ → Prop} {E : zE} {D : zD} {A : Nat → Prop} {Q : State → Prop} {nL : Nat} {κ : zC} {g : zG} {pc : Nat} {lv : List (Nat × Value)} {st : List Value} {cc : ByteArray} {own : String} {ret : Option FieldType} (F : zF E D A cc own nL ret) {index : Nat} {h : Int32 → zG → Option ρ} {a : Nat} {x1 : Int32} {x2 : Int32} {x3 : Int32}  (hR : 2 + 1 ≤ E.2.2.2.1.frames ∧ 8 + (4 + 11) + 46 ≤ E.2.2.2.1.locals) (hl : zTbl (.methodLink own index yX10_lay)) (hta : κ.2.1 a = some (.inr 10)) (hc : κ.2.2.1 ≤ E.2.2.2.1.cells ∧ κ.2.2.2 ≤ E.2.2.2.1.slots) (hW : (st.map fun v => v.category).sum ≤ 8) (hd : decode cc pc = .ok (.invokevirtual index, 3)) (kk : ∀ r g', zSim K (h r g') (zAt E D A Q nL κ g' (pc + 3) lv (.int r :: st))) : zSim K (zb (f_X10_lay a x1 x2 x3 g) h) (zAt E D A Q nL κ g pc lv (.int x3 :: .int x2 :: .int x1 :: .ref a :: st)) :=
  z_callV F (n := 3) (As := [.int x1, .int x2, .int x3]) (C := (RX10, TX10, 61)) ⟨q_1345, q_14, by decide +kernel, rfl, rfl, hR.1, hR.2⟩ (c_X10_lay E.2.1 D κ.1 κ.2.1 g a x1 x2 x3 hta) hl q_1343 q_1344 hta rfl rfl rfl hc hW hd kk _ rfl
theorem dX10_lettersNow_0 : decode cX10_lettersNow 0 = .ok (.iconst 0, 1) := by decide +kernel
theorem dX10_lettersNow_1 : decode cX10_lettersNow 1 = .ok (.istore_n 1, 1) := by decide +kernel
theorem dX10_lettersNow_2 : decode cX10_lettersNow 2 = .ok (.iconst 0, 1) := by decide +kernel
theorem dX10_lettersNow_3 : decode cX10_lettersNow 3 = .ok (.istore_n 2, 1) := by decide +kernel
theorem dX10_lettersNow_4 : decode cX10_lettersNow 4 = .ok (.iload_n 2, 1) := by decide +kernel
theorem dX10_lettersNow_5 : decode cX10_lettersNow 5 = .ok (.aload_n 0, 1) := by decide +kernel
theorem dX10_lettersNow_6 : decode cX10_lettersNow 6 = .ok (.getfield 13, 3) := by decide +kernel
theorem dX10_lettersNow_9 : decode cX10_lettersNow 9 = .ok (.iconst 3, 1) := by decide +kernel
theorem dX10_lettersNow_10 : decode cX10_lettersNow 10 = .ok (.iaload, 1) := by decide +kernel
theorem dX10_lettersNow_11 : decode cX10_lettersNow 11 = .ok (.if_icmp .ge 26, 3) := by decide +kernel
theorem dX10_lettersNow_14 : decode cX10_lettersNow 14 = .ok (.iload_n 1, 1) := by decide +kernel
theorem dX10_lettersNow_15 : decode cX10_lettersNow 15 = .ok (.aload_n 0, 1) := by decide +kernel
theorem dX10_lettersNow_16 : decode cX10_lettersNow 16 = .ok (.getfield 71, 3) := by decide +kernel
theorem dX10_lettersNow_19 : decode cX10_lettersNow 19 = .ok (.iload_n 2, 1) := by decide +kernel
theorem dX10_lettersNow_20 : decode cX10_lettersNow 20 = .ok (.iaload, 1) := by decide +kernel
theorem dX10_lettersNow_21 : decode cX10_lettersNow 21 = .ok (.ifCond .ne 7, 3) := by decide +kernel
theorem dX10_lettersNow_24 : decode cX10_lettersNow 24 = .ok (.iconst 0, 1) := by decide +kernel
theorem dX10_lettersNow_25 : decode cX10_lettersNow 25 = .ok (.goto 4, 3) := by decide +kernel
theorem dX10_lettersNow_28 : decode cX10_lettersNow 28 = .ok (.iconst 1, 1) := by decide +kernel
theorem dX10_lettersNow_29 : decode cX10_lettersNow 29 = .ok (.iadd, 1) := by decide +kernel
theorem dX10_lettersNow_30 : decode cX10_lettersNow 30 = .ok (.istore_n 1, 1) := by decide +kernel
theorem dX10_lettersNow_31 : decode cX10_lettersNow 31 = .ok (.iinc 2 1, 3) := by decide +kernel
theorem dX10_lettersNow_34 : decode cX10_lettersNow 34 = .ok (.goto (-30), 3) := by decide +kernel
theorem dX10_lettersNow_37 : decode cX10_lettersNow 37 = .ok (.iload_n 1, 1) := by decide +kernel
theorem dX10_lettersNow_38 : decode cX10_lettersNow 38 = .ok (.ireturn, 1) := by decide +kernel
def j_X10_lettersNow_37 (a : Nat) (l1 : Int32) (g : zG) : Option (Int32 × zG) :=
  some ((l1, g))
def l_X10_lettersNow_4 (a : Nat) (g : zG) (l1 : Int32) (l2 : Int32) : Option ((Int32 × Int32) ⊕ (Int32)) :=
  zc (zin 3 8) (if (g.1 (g.2.1 a 2) (3 : Int32).toNatClampNeg) ≤ l2 then (some (.inr l1)) else (zc (zin l2 40) (if (g.1 (g.2.1 a 37) l2.toNatClampNeg) = 0 then (zl (l1 + 0) (fun v5 => zl (l2 + 1) (fun v6 => some (.inl (v5, v6))))) else (zl (l1 + 1) (fun v7 => zl (l2 + 1) (fun v8 => some (.inl (v7, v8))))))))
def f_X10_lettersNow (a : Nat) (g : zG) : Option (Int32 × zG) :=
  zk (zw zN (fun s => l_X10_lettersNow_4 a g s.1 s.2) (0, 0)) (fun x => j_X10_lettersNow_37 a x g)
abbrev rm_X10_lettersNow : Room := { frames := 0, cells := 0, slots := 0, locals := 0 }
set_option maxRecDepth 100000 in
set_option maxHeartbeats 4000000 in
theorem c_X10_lettersNow (l : Launch) (D : zD) (sz : Nat) (τ : zT) (g : zG) (a : Nat) (hta : τ a = some (.inr 10)) : zCon l D yX10_lettersNow cX10_lettersNow 3 (some .int) rm_X10_lettersNow 0 0 zrI [.ref a] sz τ g τ (f_X10_lettersNow a g) := by
  refine zCon.of (by decide) (Nat.le_of_ble_eq_true rfl) (fun E r g' hl hR hsz hnm F => ?_)
  have F : zF E D (zA τ sz) cX10_lettersNow "TypeChainModel" 3 (some .int) := F
  show zSim (fun q : Int32 × zG => q = (r, g')) (f_X10_lettersNow a g) (zAt E D (zA τ sz) (zQ E D zrI 0 0 sz τ τ r g') 3 (sz, τ, 0, 0) g 0 [(0, .ref a)] [])
  have hj_X10_lettersNow_37 : ∀ (l1_37 : Int32) (g_37 : zG), zSim (fun q : Int32 × zG => q = (r, g')) (j_X10_lettersNow_37 a l1_37 g_37) (zAt E D (zA τ sz) (zQ E D zrI 0 0 sz τ τ r g') 3 (sz, τ, 0, 0) g_37 37 [(1, .int l1_37)] []) := by
    intro l1_37 g_37
    unfold j_X10_lettersNow_37
    refine z_iload_n F 0 rfl rfl dX10_lettersNow_37 ?_
    exact z_ireturn F rfl rfl rfl rfl (fun h => h) dX10_lettersNow_38
  unfold f_X10_lettersNow
  refine z_iconst (v := 0) F (by decide) dX10_lettersNow_0 ?_
  refine z_istore_n (lv' := [(1, .int 0), (0, .ref a)]) F rfl (by decide) dX10_lettersNow_1 rfl ?_
  refine z_iconst (v := 0) F (by decide) dX10_lettersNow_2 ?_
  refine z_istore_n (lv' := [(2, .int 0), (1, .int 0), (0, .ref a)]) F rfl (by decide) dX10_lettersNow_3 rfl ?_
  refine z_sub (lv' := [(0, .ref a), (1, .int 0), (2, .int 0)]) [2, 1, 0] rfl ?_
  refine z_loop (P := fun s : Int32 × Int32 => zAt E D (zA τ sz) (zQ E D zrI 0 0 sz τ τ r g') 3 (sz, τ, 0, 0) g 4 [(0, .ref a), (1, .int s.1), (2, .int s.2)] []) (Px := fun x : Int32 => zAt E D (zA τ sz) (zQ E D zrI 0 0 sz τ τ r g') 3 (sz, τ, 0, 0) g 37 [(1, .int x)] []) (0, 0) (fun s => ?_) (fun x => ?_)
  · obtain ⟨l1_4, l2_4⟩ := s
    show zSim (zKl (fun s : Int32 × Int32 => zAt E D (zA τ sz) (zQ E D zrI 0 0 sz τ τ r g') 3 (sz, τ, 0, 0) g 4 [(0, .ref a), (1, .int s.1), (2, .int s.2)] []) (fun x : Int32 => zAt E D (zA τ sz) (zQ E D zrI 0 0 sz τ τ r g') 3 (sz, τ, 0, 0) g 37 [(1, .int x)] [])) (l_X10_lettersNow_4 a g l1_4 l2_4) (zAt E D (zA τ sz) (zQ E D zrI 0 0 sz τ τ r g') 3 (sz, τ, 0, 0) g 4 [(0, .ref a), (1, .int l1_4), (2, .int l2_4)] [])
    unfold l_X10_lettersNow_4
    refine z_iload_n F 2 rfl rfl dX10_lettersNow_4 ?_
    refine z_aload_n F 0 rfl rfl dX10_lettersNow_5 ?_
    refine gf_X10_13 F hta dX10_lettersNow_6 (fun ht1 => ?_)
    refine z_iconst (v := 3) F (by decide) dX10_lettersNow_9 ?_
    refine z_iald F ht1 dX10_lettersNow_10 ?_
    refine z_icmp_ge (tgt := 37) F dX10_lettersNow_11 (by decide) (fun c2 => ?_) (fun c2 => ?_)
    · refine z_sub (lv' := [(1, .int l1_4)]) [1] rfl ?_
      exact z_back (fun h => h)
    · refine z_iload_n F 1 rfl rfl dX10_lettersNow_14 ?_
      refine z_aload_n F 0 rfl rfl dX10_lettersNow_15 ?_
      refine gf_X10_71 F hta dX10_lettersNow_16 (fun ht3 => ?_)
      refine z_iload_n F 2 rfl rfl dX10_lettersNow_19 ?_
      refine z_iald F ht3 dX10_lettersNow_20 ?_
      refine z_if_ne (tgt := 28) F dX10_lettersNow_21 (by decide) (fun c4 => ?_) (fun c4 => ?_)
      · refine z_iconst (v := 0) F (by decide) dX10_lettersNow_24 ?_
        refine z_goto (tgt := 29) F dX10_lettersNow_25 (by decide) ?_
        refine z_iadd F dX10_lettersNow_29 ?_
        refine z_leti (fun v5 => ?_)
        refine z_istore_n (lv' := [(1, .int v5), (0, .ref a), (2, .int l2_4)]) F rfl (by decide) dX10_lettersNow_30 rfl ?_
        refine z_iincl (lv' := fun v6 => [(2, .int v6), (1, .int v5), (0, .ref a)]) F 2 rfl (by decide) (by decide) dX10_lettersNow_31 (fun _ => rfl) (fun v6 => ?_)
        refine z_goto (tgt := 4) F dX10_lettersNow_34 (by decide) ?_
        refine z_sub (lv' := [(0, .ref a), (1, .int v5), (2, .int v6)]) [2, 1, 0] rfl ?_
        exact z_back (fun h => h)
      · refine z_iconst (v := 1) F (by decide) dX10_lettersNow_28 ?_
        refine z_iadd F dX10_lettersNow_29 ?_
        refine z_leti (fun v7 => ?_)
        refine z_istore_n (lv' := [(1, .int v7), (0, .ref a), (2, .int l2_4)]) F rfl (by decide) dX10_lettersNow_30 rfl ?_
        refine z_iincl (lv' := fun v8 => [(2, .int v8), (1, .int v7), (0, .ref a)]) F 2 rfl (by decide) (by decide) dX10_lettersNow_31 (fun _ => rfl) (fun v8 => ?_)
        refine z_goto (tgt := 4) F dX10_lettersNow_34 (by decide) ?_
        refine z_sub (lv' := [(0, .ref a), (1, .int v7), (2, .int v8)]) [2, 1, 0] rfl ?_
        exact z_back (fun h => h)
  · show zSim (fun q : Int32 × zG => q = (r, g')) (j_X10_lettersNow_37 a x g) (zAt E D (zA τ sz) (zQ E D zrI 0 0 sz τ τ r g') 3 (sz, τ, 0, 0) g 37 [(1, .int x)] [])
    exact hj_X10_lettersNow_37 x g
theorem k_X10_lettersNow {ρ : Type} {K : ρ → Prop} {E : zE} {D : zD} {A : Nat → Prop} {Q : State → Prop} {nL : Nat} {κ : zC} {g : zG} {pc : Nat} {lv : List (Nat × Value)} {st : List Value} {cc : ByteArray} {own : String} {ret : Option FieldType} (F : zF E D A cc own nL ret) {index : Nat} {h : Int32 → zG → Option ρ} {a : Nat}  (hR : 0 + 1 ≤ E.2.2.2.1.frames ∧ 8 + (3 + 11) + 0 ≤ E.2.2.2.1.locals) (hl : zTbl (.methodLink own index yX10_lettersNow)) (hta : κ.2.1 a = some (.inr 10)) (hc : κ.2.2.1 ≤ E.2.2.2.1.cells ∧ κ.2.2.2 ≤ E.2.2.2.1.slots) (hW : (st.map fun v => v.category).sum ≤ 8) (hd : decode cc pc = .ok (.invokevirtual index, 3)) (kk : ∀ r g', zSim K (h r g') (zAt E D A Q nL κ g' (pc + 3) lv (.int r :: st))) : zSim K (zb (f_X10_lettersNow a g) h) (zAt E D A Q nL κ g pc lv (.ref a :: st)) :=
  z_callV F (n := 0) (As := []) (C := (RX10, TX10, 61)) ⟨q_1353, q_14, by decide +kernel, rfl, rfl, hR.1, hR.2⟩ (c_X10_lettersNow E.2.1 D κ.1 κ.2.1 g a hta) hl q_1352 q_1424 hta rfl rfl rfl hc hW hd kk _ rfl
theorem dX10_read_0 : decode cX10_read 0 = .ok (.iload_n 1, 1) := by decide +kernel
theorem dX10_read_1 : decode cX10_read 1 = .ok (.iload_n 2, 1) := by decide +kernel
theorem dX10_read_2 : decode cX10_read 2 = .ok (.invokestatic 362, 3) := by decide +kernel
theorem dX10_read_5 : decode cX10_read 5 = .ok (.ifCond .ne 5, 3) := by decide +kernel
theorem dX10_read_8 : decode cX10_read 8 = .ok (.iconst (-1), 1) := by decide +kernel
theorem dX10_read_9 : decode cX10_read 9 = .ok (.ireturn, 1) := by decide +kernel
theorem dX10_read_10 : decode cX10_read 10 = .ok (.aload_n 0, 1) := by decide +kernel
theorem dX10_read_11 : decode cX10_read 11 = .ok (.getfield 107, 3) := by decide +kernel
theorem dX10_read_14 : decode cX10_read 14 = .ok (.iload_n 1, 1) := by decide +kernel
theorem dX10_read_15 : decode cX10_read 15 = .ok (.iaload, 1) := by decide +kernel
theorem dX10_read_16 : decode cX10_read 16 = .ok (.iload_n 2, 1) := by decide +kernel
theorem dX10_read_17 : decode cX10_read 17 = .ok (.if_icmp .eq 22, 3) := by decide +kernel
theorem dX10_read_20 : decode cX10_read 20 = .ok (.aload_n 0, 1) := by decide +kernel
theorem dX10_read_21 : decode cX10_read 21 = .ok (.getfield 107, 3) := by decide +kernel
theorem dX10_read_24 : decode cX10_read 24 = .ok (.iload_n 1, 1) := by decide +kernel
theorem dX10_read_25 : decode cX10_read 25 = .ok (.iaload, 1) := by decide +kernel
theorem dX10_read_26 : decode cX10_read 26 = .ok (.bipush (-4), 2) := by decide +kernel
theorem dX10_read_28 : decode cX10_read 28 = .ok (.if_icmp .ne 8, 3) := by decide +kernel
theorem dX10_read_31 : decode cX10_read 31 = .ok (.bipush (-11), 2) := by decide +kernel
theorem dX10_read_33 : decode cX10_read 33 = .ok (.goto 5, 3) := by decide +kernel
theorem dX10_read_36 : decode cX10_read 36 = .ok (.bipush (-13), 2) := by decide +kernel
theorem dX10_read_38 : decode cX10_read 38 = .ok (.ireturn, 1) := by decide +kernel
theorem dX10_read_39 : decode cX10_read 39 = .ok (.iconst 0, 1) := by decide +kernel
theorem dX10_read_40 : decode cX10_read 40 = .ok (.istore 4, 2) := by decide +kernel
theorem dX10_read_42 : decode cX10_read 42 = .ok (.iload 4, 2) := by decide +kernel
theorem dX10_read_44 : decode cX10_read 44 = .ok (.aload_n 0, 1) := by decide +kernel
theorem dX10_read_45 : decode cX10_read 45 = .ok (.getfield 13, 3) := by decide +kernel
theorem dX10_read_48 : decode cX10_read 48 = .ok (.iconst 3, 1) := by decide +kernel
theorem dX10_read_49 : decode cX10_read 49 = .ok (.iaload, 1) := by decide +kernel
theorem dX10_read_50 : decode cX10_read 50 = .ok (.if_icmp .ge 70, 3) := by decide +kernel
theorem dX10_read_53 : decode cX10_read 53 = .ok (.iload_n 3, 1) := by decide +kernel
theorem dX10_read_54 : decode cX10_read 54 = .ok (.i2l, 1) := by decide +kernel
theorem dX10_read_55 : decode cX10_read 55 = .ok (.iload 4, 2) := by decide +kernel
theorem dX10_read_57 : decode cX10_read 57 = .ok (.i2l, 1) := by decide +kernel
theorem dX10_read_58 : decode cX10_read 58 = .ok (.ladd, 1) := by decide +kernel
theorem dX10_read_59 : decode cX10_read 59 = .ok (.lstore 5, 2) := by decide +kernel
theorem dX10_read_61 : decode cX10_read 61 = .ok (.lload 5, 2) := by decide +kernel
theorem dX10_read_63 : decode cX10_read 63 = .ok (.lconst 0, 1) := by decide +kernel
theorem dX10_read_64 : decode cX10_read 64 = .ok (.lcmp, 1) := by decide +kernel
theorem dX10_read_65 : decode cX10_read 65 = .ok (.ifCond .lt 16, 3) := by decide +kernel
theorem dX10_read_68 : decode cX10_read 68 = .ok (.lload 5, 2) := by decide +kernel
theorem dX10_read_70 : decode cX10_read 70 = .ok (.aload_n 0, 1) := by decide +kernel
theorem dX10_read_71 : decode cX10_read 71 = .ok (.getfield 110, 3) := by decide +kernel
theorem dX10_read_74 : decode cX10_read 74 = .ok (.iload_n 1, 1) := by decide +kernel
theorem dX10_read_75 : decode cX10_read 75 = .ok (.iaload, 1) := by decide +kernel
theorem dX10_read_76 : decode cX10_read 76 = .ok (.i2l, 1) := by decide +kernel
theorem dX10_read_77 : decode cX10_read 77 = .ok (.lcmp, 1) := by decide +kernel
theorem dX10_read_78 : decode cX10_read 78 = .ok (.ifCond .lt 6, 3) := by decide +kernel
theorem dX10_read_81 : decode cX10_read 81 = .ok (.bipush (-12), 2) := by decide +kernel
theorem dX10_read_83 : decode cX10_read 83 = .ok (.ireturn, 1) := by decide +kernel
theorem dX10_read_84 : decode cX10_read 84 = .ok (.aload_n 0, 1) := by decide +kernel
theorem dX10_read_85 : decode cX10_read 85 = .ok (.getfield 113, 3) := by decide +kernel
theorem dX10_read_88 : decode cX10_read 88 = .ok (.bipush 40, 2) := by decide +kernel
theorem dX10_read_90 : decode cX10_read 90 = .ok (.iload_n 1, 1) := by decide +kernel
theorem dX10_read_91 : decode cX10_read 91 = .ok (.imul, 1) := by decide +kernel
theorem dX10_read_92 : decode cX10_read 92 = .ok (.lload 5, 2) := by decide +kernel
theorem dX10_read_94 : decode cX10_read 94 = .ok (.l2i, 1) := by decide +kernel
theorem dX10_read_95 : decode cX10_read 95 = .ok (.iadd, 1) := by decide +kernel
theorem dX10_read_96 : decode cX10_read 96 = .ok (.iaload, 1) := by decide +kernel
theorem dX10_read_97 : decode cX10_read 97 = .ok (.i2l, 1) := by decide +kernel
theorem dX10_read_98 : decode cX10_read 98 = .ok (.lconst 0, 1) := by decide +kernel
theorem dX10_read_99 : decode cX10_read 99 = .ok (.ldc2_w 266, 3) := by decide +kernel
theorem dX10_read_102 : decode cX10_read 102 = .ok (.invokestatic 165, 3) := by decide +kernel
theorem dX10_read_105 : decode cX10_read 105 = .ok (.ifCond .ne 9, 3) := by decide +kernel
theorem dX10_read_108 : decode cX10_read 108 = .ok (.bipush (-20), 2) := by decide +kernel
theorem dX10_read_110 : decode cX10_read 110 = .ok (.iload 4, 2) := by decide +kernel
theorem dX10_read_112 : decode cX10_read 112 = .ok (.isub, 1) := by decide +kernel
theorem dX10_read_113 : decode cX10_read 113 = .ok (.ireturn, 1) := by decide +kernel
theorem dX10_read_114 : decode cX10_read 114 = .ok (.iinc 4 1, 3) := by decide +kernel
theorem dX10_read_117 : decode cX10_read 117 = .ok (.goto (-75), 3) := by decide +kernel
theorem dX10_read_120 : decode cX10_read 120 = .ok (.iconst 0, 1) := by decide +kernel
theorem dX10_read_121 : decode cX10_read 121 = .ok (.istore 4, 2) := by decide +kernel
theorem dX10_read_123 : decode cX10_read 123 = .ok (.iload 4, 2) := by decide +kernel
theorem dX10_read_125 : decode cX10_read 125 = .ok (.aload_n 0, 1) := by decide +kernel
theorem dX10_read_126 : decode cX10_read 126 = .ok (.getfield 13, 3) := by decide +kernel
theorem dX10_read_129 : decode cX10_read 129 = .ok (.iconst 3, 1) := by decide +kernel
theorem dX10_read_130 : decode cX10_read 130 = .ok (.iaload, 1) := by decide +kernel
theorem dX10_read_131 : decode cX10_read 131 = .ok (.if_icmp .ge 30, 3) := by decide +kernel
theorem dX10_read_134 : decode cX10_read 134 = .ok (.aload_n 0, 1) := by decide +kernel
theorem dX10_read_135 : decode cX10_read 135 = .ok (.getfield 71, 3) := by decide +kernel
theorem dX10_read_138 : decode cX10_read 138 = .ok (.iload 4, 2) := by decide +kernel
theorem dX10_read_140 : decode cX10_read 140 = .ok (.aload_n 0, 1) := by decide +kernel
theorem dX10_read_141 : decode cX10_read 141 = .ok (.getfield 113, 3) := by decide +kernel
theorem dX10_read_144 : decode cX10_read 144 = .ok (.bipush 40, 2) := by decide +kernel
theorem dX10_read_146 : decode cX10_read 146 = .ok (.iload_n 1, 1) := by decide +kernel
theorem dX10_read_147 : decode cX10_read 147 = .ok (.imul, 1) := by decide +kernel
theorem dX10_read_148 : decode cX10_read 148 = .ok (.iload_n 3, 1) := by decide +kernel
theorem dX10_read_149 : decode cX10_read 149 = .ok (.iadd, 1) := by decide +kernel
theorem dX10_read_150 : decode cX10_read 150 = .ok (.iload 4, 2) := by decide +kernel
theorem dX10_read_152 : decode cX10_read 152 = .ok (.iadd, 1) := by decide +kernel
theorem dX10_read_153 : decode cX10_read 153 = .ok (.iaload, 1) := by decide +kernel
theorem dX10_read_154 : decode cX10_read 154 = .ok (.iastore, 1) := by decide +kernel
theorem dX10_read_155 : decode cX10_read 155 = .ok (.iinc 4 1, 3) := by decide +kernel
theorem dX10_read_158 : decode cX10_read 158 = .ok (.goto (-35), 3) := by decide +kernel
theorem dX10_read_161 : decode cX10_read 161 = .ok (.aload_n 0, 1) := by decide +kernel
theorem dX10_read_162 : decode cX10_read 162 = .ok (.invokevirtual 365, 3) := by decide +kernel
theorem dX10_read_165 : decode cX10_read 165 = .ok (.ireturn, 1) := by decide +kernel
def j_X10_read_161 (a : Nat)  (g : zG) : Option (Int32 × zG) :=
  zb (f_X10_lettersNow a g) (fun v1 g2 => some ((v1, g2)))
def l_X10_read_123 (a : Nat) (l1 : Int32) (l3 : Int32) (l4 : Int32) (g : zG) : Option ((Int32 × zG) ⊕ (zG)) :=
  zc (zin 3 8) (if (g.1 (g.2.1 a 2) (3 : Int32).toNatClampNeg) ≤ l4 then (some (.inr g)) else (zc (zin (((40 * l1) + l3) + l4) 160) (zc (zin l4 40) (zl (zsi g (g.2.1 a 37) l4.toNatClampNeg (g.1 (g.2.1 a 60) (((40 * l1) + l3) + l4).toNatClampNeg)) (fun g7 => zl (l4 + 1) (fun v8 => some (.inl (v8, g7))))))))
def j_X10_read_120 (a : Nat) (l1 : Int32) (l3 : Int32) (g : zG) : Option (Int32 × zG) :=
  zk (zw zN (fun s => l_X10_read_123 a l1 l3 s.1 s.2) (0, g)) (fun x => j_X10_read_161 a x)
def l_X10_read_42 (a : Nat) (l1 : Int32) (l3 : Int32) (l4 : Int32) (g : zG) : Option ((Int32 × zG) ⊕ ((zG) ⊕ (Int32 × zG))) :=
  zc (zin 3 8) (if (g.1 (g.2.1 a 2) (3 : Int32).toNatClampNeg) ≤ l4 then (some (.inr (.inl g))) else (zl (l3.toInt64 + l4.toInt64) (fun v16 => if (lg_cmp v16 0) < 0 then (some (.inr (.inr ((-12), g)))) else (zc (zin l1 4) (if (lg_cmp v16 ((g.1 (g.2.1 a 59) l1.toNatClampNeg).toInt64)) < 0 then (zc (zin ((40 * l1) + v16.toInt32) 160) (zb (f_X10_in ((g.1 (g.2.1 a 60) ((40 * l1) + v16.toInt32).toNatClampNeg).toInt64) 0 26 g) (fun v21 g22 => if v21 = 0 then (some (.inr (.inr ((-20) - l4, g22)))) else (zl (l4 + 1) (fun v24 => some (.inl (v24, g22))))))) else (some (.inr (.inr ((-12), g)))))))))
def f_X10_read (a : Nat) (x1 : Int32) (x2 : Int32) (x3 : Int32) (g : zG) : Option (Int32 × zG) :=
  zb (f_X10_isSheet x1 x2 g) (fun v9 g10 => if v9 = 0 then (some (((-1), g10))) else (zc (zin x1 4) (if (g10.1 (g10.2.1 a 58) x1.toNatClampNeg) = x2 then (zk2 (zw zN (fun s => l_X10_read_42 a x1 x3 s.1 s.2) (0, g10)) (fun x => j_X10_read_120 a x1 x3 x)) else (zc (zin x1 4) (if (g10.1 (g10.2.1 a 58) x1.toNatClampNeg) = (-4) then (some (((-11), g10))) else (some (((-13), g10))))))))
abbrev rm_X10_read : Room := { frames := 2, cells := 0, slots := 0, locals := 46 }
set_option maxRecDepth 100000 in
set_option maxHeartbeats 4000000 in
theorem c_X10_read (l : Launch) (D : zD) (sz : Nat) (τ : zT) (g : zG) (a : Nat) (x1 : Int32) (x2 : Int32) (x3 : Int32) (hta : τ a = some (.inr 10)) : zCon l D yX10_read cX10_read 7 (some .int) rm_X10_read 0 0 zrI [.ref a, .int x1, .int x2, .int x3] sz τ g τ (f_X10_read a x1 x2 x3 g) := by
  refine zCon.of (by decide) (Nat.le_of_ble_eq_true rfl) (fun E r g' hl hR hsz hnm F => ?_)
  have F : zF E D (zA τ sz) cX10_read "TypeChainModel" 7 (some .int) := F
  show zSim (fun q : Int32 × zG => q = (r, g')) (f_X10_read a x1 x2 x3 g) (zAt E D (zA τ sz) (zQ E D zrI 0 0 sz τ τ r g') 7 (sz, τ, 0, 0) g 0 [(0, .ref a), (1, .int x1), (2, .int x2), (3, .int x3)] [])
  have hj_X10_read_161 : ∀  (g_161 : zG), zSim (fun q : Int32 × zG => q = (r, g')) (j_X10_read_161 a g_161) (zAt E D (zA τ sz) (zQ E D zrI 0 0 sz τ τ r g') 7 (sz, τ, 0, 0) g_161 161 [(0, .ref a)] []) := by
    intro g_161
    unfold j_X10_read_161
    refine z_aload_n F 0 rfl rfl dX10_read_161 ?_
    refine k_X10_lettersNow F (by rw [hR]; exact ⟨by decide, by decide⟩) q_1350 hta ⟨Nat.zero_le _, Nat.zero_le _⟩ (Nat.le_of_ble_eq_true rfl) dX10_read_162 (fun v1 g2 => ?_)
    exact z_ireturn F rfl rfl rfl rfl (fun h => h) dX10_read_165
  have hj_X10_read_120 : ∀ (l1_120 : Int32) (l3_120 : Int32) (g_120 : zG), zSim (fun q : Int32 × zG => q = (r, g')) (j_X10_read_120 a l1_120 l3_120 g_120) (zAt E D (zA τ sz) (zQ E D zrI 0 0 sz τ τ r g') 7 (sz, τ, 0, 0) g_120 120 [(0, .ref a), (1, .int l1_120), (3, .int l3_120)] []) := by
    intro l1_120 l3_120 g_120
    unfold j_X10_read_120
    refine z_iconst (v := 0) F (by decide) dX10_read_120 ?_
    refine z_istore (lv' := [(4, .int 0), (0, .ref a), (1, .int l1_120), (3, .int l3_120)]) F (by decide) dX10_read_121 rfl ?_
    refine z_sub (lv' := [(0, .ref a), (1, .int l1_120), (3, .int l3_120), (4, .int 0)]) [1, 2, 3, 0] rfl ?_
    refine z_loop (P := fun s : Int32 × zG => zAt E D (zA τ sz) (zQ E D zrI 0 0 sz τ τ r g') 7 (sz, τ, 0, 0) s.2 123 [(0, .ref a), (1, .int l1_120), (3, .int l3_120), (4, .int s.1)] []) (Px := fun x : zG => zAt E D (zA τ sz) (zQ E D zrI 0 0 sz τ τ r g') 7 (sz, τ, 0, 0) x 161 [(0, .ref a)] []) (0, g_120) (fun s => ?_) (fun x => ?_)
    · obtain ⟨l4_123, g_123⟩ := s
      show zSim (zKl (fun s : Int32 × zG => zAt E D (zA τ sz) (zQ E D zrI 0 0 sz τ τ r g') 7 (sz, τ, 0, 0) s.2 123 [(0, .ref a), (1, .int l1_120), (3, .int l3_120), (4, .int s.1)] []) (fun x : zG => zAt E D (zA τ sz) (zQ E D zrI 0 0 sz τ τ r g') 7 (sz, τ, 0, 0) x 161 [(0, .ref a)] [])) (l_X10_read_123 a l1_120 l3_120 l4_123 g_123) (zAt E D (zA τ sz) (zQ E D zrI 0 0 sz τ τ r g') 7 (sz, τ, 0, 0) g_123 123 [(0, .ref a), (1, .int l1_120), (3, .int l3_120), (4, .int l4_123)] [])
      unfold l_X10_read_123
      refine z_iload F 3 rfl dX10_read_123 ?_
      refine z_aload_n F 0 rfl rfl dX10_read_125 ?_
      refine gf_X10_13 F hta dX10_read_126 (fun ht3 => ?_)
      refine z_iconst (v := 3) F (by decide) dX10_read_129 ?_
      refine z_iald F ht3 dX10_read_130 ?_
      refine z_icmp_ge (tgt := 161) F dX10_read_131 (by decide) (fun c4 => ?_) (fun c4 => ?_)
      · refine z_sub (lv' := [(0, .ref a)]) [0] rfl ?_
        exact z_back (fun h => h)
      · refine z_aload_n F 0 rfl rfl dX10_read_134 ?_
        refine gf_X10_71 F hta dX10_read_135 (fun ht5 => ?_)
        refine z_iload F 3 rfl dX10_read_138 ?_
        refine z_aload_n F 0 rfl rfl dX10_read_140 ?_
        refine gf_X10_113 F hta dX10_read_141 (fun ht6 => ?_)
        refine z_bipush (v := 40) F (by decide) dX10_read_144 ?_
        refine z_iload_n F 1 rfl rfl dX10_read_146 ?_
        refine z_imul F dX10_read_147 ?_
        refine z_iload_n F 2 rfl rfl dX10_read_148 ?_
        refine z_iadd F dX10_read_149 ?_
        refine z_iload F 3 rfl dX10_read_150 ?_
        refine z_iadd F dX10_read_152 ?_
        refine z_iald F ht6 dX10_read_153 ?_
        refine z_iast F ht5 dX10_read_154 ?_
        refine z_letg (fun g7 => ?_)
        refine z_iincl (lv' := fun v8 => [(4, .int v8), (0, .ref a), (1, .int l1_120), (3, .int l3_120)]) F 3 rfl (by decide) (by decide) dX10_read_155 (fun _ => rfl) (fun v8 => ?_)
        refine z_goto (tgt := 123) F dX10_read_158 (by decide) ?_
        refine z_sub (lv' := [(0, .ref a), (1, .int l1_120), (3, .int l3_120), (4, .int v8)]) [1, 2, 3, 0] rfl ?_
        exact z_back (fun h => h)
    · show zSim (fun q : Int32 × zG => q = (r, g')) (j_X10_read_161 a x) (zAt E D (zA τ sz) (zQ E D zrI 0 0 sz τ τ r g') 7 (sz, τ, 0, 0) x 161 [(0, .ref a)] [])
      exact hj_X10_read_161 x
  unfold f_X10_read
  refine z_iload_n F 1 rfl rfl dX10_read_0 ?_
  refine z_iload_n F 2 rfl rfl dX10_read_1 ?_
  refine k_X10_isSheet F (by rw [hR]; exact ⟨by decide, by decide⟩) q_1338  ⟨Nat.zero_le _, Nat.zero_le _⟩ (Nat.le_of_ble_eq_true rfl) dX10_read_2 (fun v9 g10 => ?_)
  refine z_if_ne (tgt := 10) F dX10_read_5 (by decide) (fun c11 => ?_) (fun c11 => ?_)
  · refine z_iconst (v := (-1)) F (by decide) dX10_read_8 ?_
    exact z_ireturn F rfl rfl rfl rfl (fun h => h) dX10_read_9
  · refine z_aload_n F 0 rfl rfl dX10_read_10 ?_
    refine gf_X10_107 F hta dX10_read_11 (fun ht12 => ?_)
    refine z_iload_n F 1 rfl rfl dX10_read_14 ?_
    refine z_iald F ht12 dX10_read_15 ?_
    refine z_iload_n F 2 rfl rfl dX10_read_16 ?_
    refine z_icmp_eq (tgt := 39) F dX10_read_17 (by decide) (fun c13 => ?_) (fun c13 => ?_)
    · refine z_iconst (v := 0) F (by decide) dX10_read_39 ?_
      refine z_istore (lv' := [(4, .int 0), (0, .ref a), (1, .int x1), (2, .int x2), (3, .int x3)]) F (by decide) dX10_read_40 rfl ?_
      refine z_sub (lv' := [(0, .ref a), (1, .int x1), (3, .int x3), (4, .int 0)]) [1, 2, 4, 0] rfl ?_
      refine z_loop2 (P := fun s : Int32 × zG => zAt E D (zA τ sz) (zQ E D zrI 0 0 sz τ τ r g') 7 (sz, τ, 0, 0) s.2 42 [(0, .ref a), (1, .int x1), (3, .int x3), (4, .int s.1)] []) (Px := fun x : zG => zAt E D (zA τ sz) (zQ E D zrI 0 0 sz τ τ r g') 7 (sz, τ, 0, 0) x 120 [(0, .ref a), (1, .int x1), (3, .int x3)] []) (0, g10) (fun s => ?_) (fun x => ?_)
      · obtain ⟨l4_42, g_42⟩ := s
        show zSim (zKl (fun s : Int32 × zG => zAt E D (zA τ sz) (zQ E D zrI 0 0 sz τ τ r g') 7 (sz, τ, 0, 0) s.2 42 [(0, .ref a), (1, .int x1), (3, .int x3), (4, .int s.1)] []) (zKl (fun x : zG => zAt E D (zA τ sz) (zQ E D zrI 0 0 sz τ τ r g') 7 (sz, τ, 0, 0) x 120 [(0, .ref a), (1, .int x1), (3, .int x3)] []) (fun q : Int32 × zG => q = (r, g')))) (l_X10_read_42 a x1 x3 l4_42 g_42) (zAt E D (zA τ sz) (zQ E D zrI 0 0 sz τ τ r g') 7 (sz, τ, 0, 0) g_42 42 [(0, .ref a), (1, .int x1), (3, .int x3), (4, .int l4_42)] [])
        unfold l_X10_read_42
        refine z_iload F 3 rfl dX10_read_42 ?_
        refine z_aload_n F 0 rfl rfl dX10_read_44 ?_
        refine gf_X10_13 F hta dX10_read_45 (fun ht14 => ?_)
        refine z_iconst (v := 3) F (by decide) dX10_read_48 ?_
        refine z_iald F ht14 dX10_read_49 ?_
        refine z_icmp_ge (tgt := 120) F dX10_read_50 (by decide) (fun c15 => ?_) (fun c15 => ?_)
        · refine z_sub (lv' := [(0, .ref a), (1, .int x1), (3, .int x3)]) [0, 1, 2] rfl ?_
          exact z_back (fun h => h)
        · refine z_iload_n F 2 rfl rfl dX10_read_53 ?_
          refine z_i2l F dX10_read_54 ?_
          refine z_iload F 3 rfl dX10_read_55 ?_
          refine z_i2l F dX10_read_57 ?_
          refine z_ladd F dX10_read_58 ?_
          refine z_letl (fun v16 => ?_)
          refine z_lstore (lv' := [(5, .long v16), (0, .ref a), (1, .int x1), (3, .int x3), (4, .int l4_42)]) F (by decide) dX10_read_59 rfl ?_
          refine z_lload F 0 rfl dX10_read_61 ?_
          refine z_lconst (v := 0) F (by decide) dX10_read_63 ?_
          refine z_lcmp F dX10_read_64 ?_
          refine z_if_lt (tgt := 81) F dX10_read_65 (by decide) (fun c17 => ?_) (fun c17 => ?_)
          · refine z_bipush (v := (-12)) F (by decide) dX10_read_81 ?_
            exact z_ireturn F rfl rfl rfl rfl (fun h => h) dX10_read_83
          · refine z_lload F 0 rfl dX10_read_68 ?_
            refine z_aload_n F 1 rfl rfl dX10_read_70 ?_
            refine gf_X10_110 F hta dX10_read_71 (fun ht18 => ?_)
            refine z_iload_n F 2 rfl rfl dX10_read_74 ?_
            refine z_iald F ht18 dX10_read_75 ?_
            refine z_i2l F dX10_read_76 ?_
            refine z_lcmp F dX10_read_77 ?_
            refine z_if_lt (tgt := 84) F dX10_read_78 (by decide) (fun c19 => ?_) (fun c19 => ?_)
            · refine z_aload_n F 1 rfl rfl dX10_read_84 ?_
              refine gf_X10_113 F hta dX10_read_85 (fun ht20 => ?_)
              refine z_bipush (v := 40) F (by decide) dX10_read_88 ?_
              refine z_iload_n F 2 rfl rfl dX10_read_90 ?_
              refine z_imul F dX10_read_91 ?_
              refine z_lload F 0 rfl dX10_read_92 ?_
              refine z_l2i F dX10_read_94 ?_
              refine z_iadd F dX10_read_95 ?_
              refine z_iald F ht20 dX10_read_96 ?_
              refine z_i2l F dX10_read_97 ?_
              refine z_lconst (v := 0) F (by decide) dX10_read_98 ?_
              refine z_ldc2 F q_1195 dX10_read_99 ?_
              refine k_X10_in F (by rw [hR]; exact ⟨by decide, by decide⟩) q_1082  ⟨Nat.zero_le _, Nat.zero_le _⟩ (Nat.le_of_ble_eq_true rfl) dX10_read_102 (fun v21 g22 => ?_)
              refine z_if_ne (tgt := 114) F dX10_read_105 (by decide) (fun c23 => ?_) (fun c23 => ?_)
              · refine z_bipush (v := (-20)) F (by decide) dX10_read_108 ?_
                refine z_iload F 4 rfl dX10_read_110 ?_
                refine z_isub F dX10_read_112 ?_
                exact z_ireturn F rfl rfl rfl rfl (fun h => h) dX10_read_113
              · refine z_iincl (lv' := fun v24 => [(4, .int v24), (5, .long v16), (0, .ref a), (1, .int x1), (3, .int x3)]) F 4 rfl (by decide) (by decide) dX10_read_114 (fun _ => rfl) (fun v24 => ?_)
                refine z_goto (tgt := 42) F dX10_read_117 (by decide) ?_
                refine z_sub (lv' := [(0, .ref a), (1, .int x1), (3, .int x3), (4, .int v24)]) [2, 3, 4, 0] rfl ?_
                exact z_back (fun h => h)
            · refine z_bipush (v := (-12)) F (by decide) dX10_read_81 ?_
              exact z_ireturn F rfl rfl rfl rfl (fun h => h) dX10_read_83
      · show zSim (fun q : Int32 × zG => q = (r, g')) (j_X10_read_120 a x1 x3 x) (zAt E D (zA τ sz) (zQ E D zrI 0 0 sz τ τ r g') 7 (sz, τ, 0, 0) x 120 [(0, .ref a), (1, .int x1), (3, .int x3)] [])
        exact hj_X10_read_120 x1 x3 x
    · refine z_aload_n F 0 rfl rfl dX10_read_20 ?_
      refine gf_X10_107 F hta dX10_read_21 (fun ht25 => ?_)
      refine z_iload_n F 1 rfl rfl dX10_read_24 ?_
      refine z_iald F ht25 dX10_read_25 ?_
      refine z_bipush (v := (-4)) F (by decide) dX10_read_26 ?_
      refine z_icmp_ne (tgt := 36) F dX10_read_28 (by decide) (fun c26 => ?_) (fun c26 => ?_)
      · refine z_bipush (v := (-11)) F (by decide) dX10_read_31 ?_
        refine z_goto (tgt := 38) F dX10_read_33 (by decide) ?_
        exact z_ireturn F rfl rfl rfl rfl (fun h => h) dX10_read_38
      · refine z_bipush (v := (-13)) F (by decide) dX10_read_36 ?_
        exact z_ireturn F rfl rfl rfl rfl (fun h => h) dX10_read_38
theorem k_X10_read {ρ : Type} {K : ρ → Prop} {E : zE} {D : zD} {A : Nat → Prop} {Q : State → Prop} {nL : Nat} {κ : zC} {g : zG} {pc : Nat} {lv : List (Nat × Value)} {st : List Value} {cc : ByteArray} {own : String} {ret : Option FieldType} (F : zF E D A cc own nL ret) {index : Nat} {h : Int32 → zG → Option ρ} {a : Nat} {x1 : Int32} {x2 : Int32} {x3 : Int32}  (hR : 2 + 1 ≤ E.2.2.2.1.frames ∧ 8 + (7 + 11) + 46 ≤ E.2.2.2.1.locals) (hl : zTbl (.methodLink own index yX10_read)) (hta : κ.2.1 a = some (.inr 10)) (hc : κ.2.2.1 ≤ E.2.2.2.1.cells ∧ κ.2.2.2 ≤ E.2.2.2.1.slots) (hW : (st.map fun v => v.category).sum ≤ 8) (hd : decode cc pc = .ok (.invokevirtual index, 3)) (kk : ∀ r g', zSim K (h r g') (zAt E D A Q nL κ g' (pc + 3) lv (.int r :: st))) : zSim K (zb (f_X10_read a x1 x2 x3 g) h) (zAt E D A Q nL κ g pc lv (.int x3 :: .int x2 :: .int x1 :: .ref a :: st)) :=
  z_callV F (n := 3) (As := [.int x1, .int x2, .int x3]) (C := (RX10, TX10, 61)) ⟨q_1349, q_14, by decide +kernel, rfl, rfl, hR.1, hR.2⟩ (c_X10_read E.2.1 D κ.1 κ.2.1 g a x1 x2 x3 hta) hl q_1347 q_1348 hta rfl rfl rfl hc hW hd kk _ rfl
theorem dX10_count_0 : decode cX10_count 0 = .ok (.iconst 0, 1) := by decide +kernel
theorem dX10_count_1 : decode cX10_count 1 = .ok (.istore_n 2, 1) := by decide +kernel
theorem dX10_count_2 : decode cX10_count 2 = .ok (.iconst 0, 1) := by decide +kernel
theorem dX10_count_3 : decode cX10_count 3 = .ok (.istore_n 3, 1) := by decide +kernel
theorem dX10_count_4 : decode cX10_count 4 = .ok (.iconst 0, 1) := by decide +kernel
theorem dX10_count_5 : decode cX10_count 5 = .ok (.istore 4, 2) := by decide +kernel
theorem dX10_count_7 : decode cX10_count 7 = .ok (.iload 4, 2) := by decide +kernel
theorem dX10_count_9 : decode cX10_count 9 = .ok (.aload_n 0, 1) := by decide +kernel
theorem dX10_count_10 : decode cX10_count 10 = .ok (.getfield 139, 3) := by decide +kernel
theorem dX10_count_13 : decode cX10_count 13 = .ok (.if_icmp .ge 21, 3) := by decide +kernel
theorem dX10_count_16 : decode cX10_count 16 = .ok (.iload_n 2, 1) := by decide +kernel
theorem dX10_count_17 : decode cX10_count 17 = .ok (.iconst 1, 1) := by decide +kernel
theorem dX10_count_18 : decode cX10_count 18 = .ok (.aload_n 0, 1) := by decide +kernel
theorem dX10_count_19 : decode cX10_count 19 = .ok (.getfield 7, 3) := by decide +kernel
theorem dX10_count_22 : decode cX10_count 22 = .ok (.iload 4, 2) := by decide +kernel
theorem dX10_count_24 : decode cX10_count 24 = .ok (.iaload, 1) := by decide +kernel
theorem dX10_count_25 : decode cX10_count 25 = .ok (.ishl, 1) := by decide +kernel
theorem dX10_count_26 : decode cX10_count 26 = .ok (.ior, 1) := by decide +kernel
theorem dX10_count_27 : decode cX10_count 27 = .ok (.istore_n 2, 1) := by decide +kernel
theorem dX10_count_28 : decode cX10_count 28 = .ok (.iinc 4 1, 3) := by decide +kernel
theorem dX10_count_31 : decode cX10_count 31 = .ok (.goto (-24), 3) := by decide +kernel
theorem dX10_count_34 : decode cX10_count 34 = .ok (.iconst 0, 1) := by decide +kernel
theorem dX10_count_35 : decode cX10_count 35 = .ok (.istore 4, 2) := by decide +kernel
theorem dX10_count_37 : decode cX10_count 37 = .ok (.iload 4, 2) := by decide +kernel
theorem dX10_count_39 : decode cX10_count 39 = .ok (.aload_n 0, 1) := by decide +kernel
theorem dX10_count_40 : decode cX10_count 40 = .ok (.getfield 13, 3) := by decide +kernel
theorem dX10_count_43 : decode cX10_count 43 = .ok (.bipush 7, 2) := by decide +kernel
theorem dX10_count_45 : decode cX10_count 45 = .ok (.iaload, 1) := by decide +kernel
theorem dX10_count_46 : decode cX10_count 46 = .ok (.if_icmp .ge 22, 3) := by decide +kernel
theorem dX10_count_49 : decode cX10_count 49 = .ok (.iload_n 3, 1) := by decide +kernel
theorem dX10_count_50 : decode cX10_count 50 = .ok (.aload_n 0, 1) := by decide +kernel
theorem dX10_count_51 : decode cX10_count 51 = .ok (.getfield 16, 3) := by decide +kernel
theorem dX10_count_54 : decode cX10_count 54 = .ok (.iload 4, 2) := by decide +kernel
theorem dX10_count_56 : decode cX10_count 56 = .ok (.iaload, 1) := by decide +kernel
theorem dX10_count_57 : decode cX10_count 57 = .ok (.invokestatic 368, 3) := by decide +kernel
theorem dX10_count_60 : decode cX10_count 60 = .ok (.iadd, 1) := by decide +kernel
theorem dX10_count_61 : decode cX10_count 61 = .ok (.istore_n 3, 1) := by decide +kernel
theorem dX10_count_62 : decode cX10_count 62 = .ok (.iinc 4 1, 3) := by decide +kernel
theorem dX10_count_65 : decode cX10_count 65 = .ok (.goto (-28), 3) := by decide +kernel
theorem dX10_count_68 : decode cX10_count 68 = .ok (.iload_n 1, 1) := by decide +kernel
theorem dX10_count_69 : decode cX10_count 69 = .ok (.tableswitch 75 0 4 #[35, 40, 45, 47, 52], 35) := by decide +kernel
theorem dX10_count_104 : decode cX10_count 104 = .ok (.aload_n 0, 1) := by decide +kernel
theorem dX10_count_105 : decode cX10_count 105 = .ok (.invokevirtual 365, 3) := by decide +kernel
theorem dX10_count_108 : decode cX10_count 108 = .ok (.ireturn, 1) := by decide +kernel
theorem dX10_count_109 : decode cX10_count 109 = .ok (.iload_n 2, 1) := by decide +kernel
theorem dX10_count_110 : decode cX10_count 110 = .ok (.invokestatic 368, 3) := by decide +kernel
theorem dX10_count_113 : decode cX10_count 113 = .ok (.ireturn, 1) := by decide +kernel
theorem dX10_count_114 : decode cX10_count 114 = .ok (.iload_n 3, 1) := by decide +kernel
theorem dX10_count_115 : decode cX10_count 115 = .ok (.ireturn, 1) := by decide +kernel
theorem dX10_count_116 : decode cX10_count 116 = .ok (.aload_n 0, 1) := by decide +kernel
theorem dX10_count_117 : decode cX10_count 117 = .ok (.getfield 160, 3) := by decide +kernel
theorem dX10_count_120 : decode cX10_count 120 = .ok (.ireturn, 1) := by decide +kernel
theorem dX10_count_121 : decode cX10_count 121 = .ok (.aload_n 0, 1) := by decide +kernel
theorem dX10_count_122 : decode cX10_count 122 = .ok (.getfield 107, 3) := by decide +kernel
theorem dX10_count_125 : decode cX10_count 125 = .ok (.iconst 0, 1) := by decide +kernel
theorem dX10_count_126 : decode cX10_count 126 = .ok (.iaload, 1) := by decide +kernel
theorem dX10_count_127 : decode cX10_count 127 = .ok (.bipush (-4), 2) := by decide +kernel
theorem dX10_count_129 : decode cX10_count 129 = .ok (.if_icmp .ne 8, 3) := by decide +kernel
theorem dX10_count_132 : decode cX10_count 132 = .ok (.bipush (-4), 2) := by decide +kernel
theorem dX10_count_134 : decode cX10_count 134 = .ok (.goto 9, 3) := by decide +kernel
theorem dX10_count_137 : decode cX10_count 137 = .ok (.aload_n 0, 1) := by decide +kernel
theorem dX10_count_138 : decode cX10_count 138 = .ok (.getfield 110, 3) := by decide +kernel
theorem dX10_count_141 : decode cX10_count 141 = .ok (.iconst 0, 1) := by decide +kernel
theorem dX10_count_142 : decode cX10_count 142 = .ok (.iaload, 1) := by decide +kernel
theorem dX10_count_143 : decode cX10_count 143 = .ok (.ireturn, 1) := by decide +kernel
theorem dX10_count_144 : decode cX10_count 144 = .ok (.iconst (-1), 1) := by decide +kernel
theorem dX10_count_145 : decode cX10_count 145 = .ok (.ireturn, 1) := by decide +kernel
def j_X10_count_68 (a : Nat) (l1 : Int32) (l2 : Int32) (l3 : Int32) (g : zG) : Option (Int32 × zG) :=
  if l1 = 0 then (zb (f_X10_lettersNow a g) (fun v2 g3 => some ((v2, g3)))) else (if l1 = 1 then (zb (f_X10_countOf l2 g) (fun v5 g6 => some ((v5, g6)))) else (if l1 = 2 then (some ((l3, g))) else (if l1 = 3 then (some ((g.1 a 27, g))) else (if l1 = 4 then (zc (zin 0 4) (if (g.1 (g.2.1 a 58) (0 : Int32).toNatClampNeg) = (-4) then (some (((-4), g))) else (zc (zin 0 4) (some ((g.1 (g.2.1 a 59) (0 : Int32).toNatClampNeg, g)))))) else (some (((-1), g)))))))
def l_X10_count_37 (a : Nat) (l1 : Int32) (l2 : Int32) (l3 : Int32) (l4 : Int32) (g : zG) : Option ((Int32 × Int32 × zG) ⊕ (Int32 × zG)) :=
  zc (zin 7 8) (if (g.1 (g.2.1 a 2) (7 : Int32).toNatClampNeg) ≤ l4 then (some (.inr (l3, g))) else (zc (zin l4 60) (zb (f_X10_countOf (g.1 (g.2.1 a 3) l4.toNatClampNeg) g) (fun v16 g17 => zl (l3 + v16) (fun v18 => zl (l4 + 1) (fun v19 => some (.inl (v18, v19, g17))))))))
def j_X10_count_34 (a : Nat) (l1 : Int32) (l2 : Int32) (l3 : Int32) (g : zG) : Option (Int32 × zG) :=
  zk (zw zN (fun s => l_X10_count_37 a l1 l2 s.1 s.2.1 s.2.2) (l3, 0, g)) (fun x => j_X10_count_68 a l1 l2 x.1 x.2)
def l_X10_count_7 (a : Nat) (l1 : Int32) (l3 : Int32) (g : zG) (l2 : Int32) (l4 : Int32) : Option ((Int32 × Int32) ⊕ (Int32)) :=
  if (g.1 a 0) ≤ l4 then (some (.inr l2)) else (zc (zin l4 49) (zl (l2 ||| (zshl 1 (g.1 (g.2.1 a 1) l4.toNatClampNeg))) (fun v22 => zl (l4 + 1) (fun v23 => some (.inl (v22, v23))))))
def f_X10_count (a : Nat) (x1 : Int32) (g : zG) : Option (Int32 × zG) :=
  zk (zw zN (fun s => l_X10_count_7 a x1 0 g s.1 s.2) (0, 0)) (fun x => j_X10_count_34 a x1 x 0 g)
abbrev rm_X10_count : Room := { frames := 1, cells := 0, slots := 0, locals := 22 }
set_option maxRecDepth 100000 in
set_option maxHeartbeats 4000000 in
theorem c_X10_count (l : Launch) (D : zD) (sz : Nat) (τ : zT) (g : zG) (a : Nat) (x1 : Int32) (hta : τ a = some (.inr 10)) : zCon l D yX10_count cX10_count 5 (some .int) rm_X10_count 0 0 zrI [.ref a, .int x1] sz τ g τ (f_X10_count a x1 g) := by
  refine zCon.of (by decide) (Nat.le_of_ble_eq_true rfl) (fun E r g' hl hR hsz hnm F => ?_)
  have F : zF E D (zA τ sz) cX10_count "TypeChainModel" 5 (some .int) := F
  show zSim (fun q : Int32 × zG => q = (r, g')) (f_X10_count a x1 g) (zAt E D (zA τ sz) (zQ E D zrI 0 0 sz τ τ r g') 5 (sz, τ, 0, 0) g 0 [(0, .ref a), (1, .int x1)] [])
  have hj_X10_count_68 : ∀ (l1_68 : Int32) (l2_68 : Int32) (l3_68 : Int32) (g_68 : zG), zSim (fun q : Int32 × zG => q = (r, g')) (j_X10_count_68 a l1_68 l2_68 l3_68 g_68) (zAt E D (zA τ sz) (zQ E D zrI 0 0 sz τ τ r g') 5 (sz, τ, 0, 0) g_68 68 [(0, .ref a), (1, .int l1_68), (2, .int l2_68), (3, .int l3_68)] []) := by
    intro l1_68 l2_68 l3_68 g_68
    unfold j_X10_count_68
    refine z_iload_n F 1 rfl rfl dX10_count_68 ?_
    refine z_ite (fun c1 => ?_) (fun c1 => ?_)
    · refine z_tableIn (tgt := 104) F 0 c1 dX10_count_69 (by decide) (by decide) rfl (by decide) ?_
      refine z_aload_n F 0 rfl rfl dX10_count_104 ?_
      refine k_X10_lettersNow F (by rw [hR]; exact ⟨by decide, by decide⟩) q_1350 hta ⟨Nat.zero_le _, Nat.zero_le _⟩ (Nat.le_of_ble_eq_true rfl) dX10_count_105 (fun v2 g3 => ?_)
      exact z_ireturn F rfl rfl rfl rfl (fun h => h) dX10_count_108
    ·
      refine z_ite (fun c4 => ?_) (fun c4 => ?_)
      · refine z_tableIn (tgt := 109) F 1 c4 dX10_count_69 (by decide) (by decide) rfl (by decide) ?_
        refine z_iload_n F 2 rfl rfl dX10_count_109 ?_
        refine k_X10_countOf F (by rw [hR]; exact ⟨by decide, by decide⟩) q_1358  ⟨Nat.zero_le _, Nat.zero_le _⟩ (Nat.le_of_ble_eq_true rfl) dX10_count_110 (fun v5 g6 => ?_)
        exact z_ireturn F rfl rfl rfl rfl (fun h => h) dX10_count_113
      ·
        refine z_ite (fun c7 => ?_) (fun c7 => ?_)
        · refine z_tableIn (tgt := 114) F 2 c7 dX10_count_69 (by decide) (by decide) rfl (by decide) ?_
          refine z_iload_n F 3 rfl rfl dX10_count_114 ?_
          exact z_ireturn F rfl rfl rfl rfl (fun h => h) dX10_count_115
        ·
          refine z_ite (fun c8 => ?_) (fun c8 => ?_)
          · refine z_tableIn (tgt := 116) F 3 c8 dX10_count_69 (by decide) (by decide) rfl (by decide) ?_
            refine z_aload_n F 0 rfl rfl dX10_count_116 ?_
            refine gf_X10_160 F hta dX10_count_117 ?_
            exact z_ireturn F rfl rfl rfl rfl (fun h => h) dX10_count_120
          ·
            refine z_ite (fun c9 => ?_) (fun c9 => ?_)
            · refine z_tableIn (tgt := 121) F 4 c9 dX10_count_69 (by decide) (by decide) rfl (by decide) ?_
              refine z_aload_n F 0 rfl rfl dX10_count_121 ?_
              refine gf_X10_107 F hta dX10_count_122 (fun ht10 => ?_)
              refine z_iconst (v := 0) F (by decide) dX10_count_125 ?_
              refine z_iald F ht10 dX10_count_126 ?_
              refine z_bipush (v := (-4)) F (by decide) dX10_count_127 ?_
              refine z_icmp_ne (tgt := 137) F dX10_count_129 (by decide) (fun c11 => ?_) (fun c11 => ?_)
              · refine z_bipush (v := (-4)) F (by decide) dX10_count_132 ?_
                refine z_goto (tgt := 143) F dX10_count_134 (by decide) ?_
                exact z_ireturn F rfl rfl rfl rfl (fun h => h) dX10_count_143
              · refine z_aload_n F 0 rfl rfl dX10_count_137 ?_
                refine gf_X10_110 F hta dX10_count_138 (fun ht12 => ?_)
                refine z_iconst (v := 0) F (by decide) dX10_count_141 ?_
                refine z_iald F ht12 dX10_count_142 ?_
                exact z_ireturn F rfl rfl rfl rfl (fun h => h) dX10_count_143
            ·
              refine z_tableOut (tgt := 144) F dX10_count_69 (by have e0 := lv_neT (a := 0) c1 (by decide); have e1 := lv_neT (a := 1) c4 (by decide); have e2 := lv_neT (a := 2) c7 (by decide); have e3 := lv_neT (a := 3) c8 (by decide); have e4 := lv_neT (a := 4) c9 (by decide); omega) (by decide) ?_
              refine z_iconst (v := (-1)) F (by decide) dX10_count_144 ?_
              exact z_ireturn F rfl rfl rfl rfl (fun h => h) dX10_count_145
  have hj_X10_count_34 : ∀ (l1_34 : Int32) (l2_34 : Int32) (l3_34 : Int32) (g_34 : zG), zSim (fun q : Int32 × zG => q = (r, g')) (j_X10_count_34 a l1_34 l2_34 l3_34 g_34) (zAt E D (zA τ sz) (zQ E D zrI 0 0 sz τ τ r g') 5 (sz, τ, 0, 0) g_34 34 [(0, .ref a), (1, .int l1_34), (2, .int l2_34), (3, .int l3_34)] []) := by
    intro l1_34 l2_34 l3_34 g_34
    unfold j_X10_count_34
    refine z_iconst (v := 0) F (by decide) dX10_count_34 ?_
    refine z_istore (lv' := [(4, .int 0), (0, .ref a), (1, .int l1_34), (2, .int l2_34), (3, .int l3_34)]) F (by decide) dX10_count_35 rfl ?_
    refine z_sub (lv' := [(0, .ref a), (1, .int l1_34), (2, .int l2_34), (3, .int l3_34), (4, .int 0)]) [1, 2, 3, 4, 0] rfl ?_
    refine z_loop (P := fun s : Int32 × Int32 × zG => zAt E D (zA τ sz) (zQ E D zrI 0 0 sz τ τ r g') 5 (sz, τ, 0, 0) s.2.2 37 [(0, .ref a), (1, .int l1_34), (2, .int l2_34), (3, .int s.1), (4, .int s.2.1)] []) (Px := fun x : Int32 × zG => zAt E D (zA τ sz) (zQ E D zrI 0 0 sz τ τ r g') 5 (sz, τ, 0, 0) x.2 68 [(0, .ref a), (1, .int l1_34), (2, .int l2_34), (3, .int x.1)] []) (l3_34, 0, g_34) (fun s => ?_) (fun x => ?_)
    · obtain ⟨l3_37, l4_37, g_37⟩ := s
      show zSim (zKl (fun s : Int32 × Int32 × zG => zAt E D (zA τ sz) (zQ E D zrI 0 0 sz τ τ r g') 5 (sz, τ, 0, 0) s.2.2 37 [(0, .ref a), (1, .int l1_34), (2, .int l2_34), (3, .int s.1), (4, .int s.2.1)] []) (fun x : Int32 × zG => zAt E D (zA τ sz) (zQ E D zrI 0 0 sz τ τ r g') 5 (sz, τ, 0, 0) x.2 68 [(0, .ref a), (1, .int l1_34), (2, .int l2_34), (3, .int x.1)] [])) (l_X10_count_37 a l1_34 l2_34 l3_37 l4_37 g_37) (zAt E D (zA τ sz) (zQ E D zrI 0 0 sz τ τ r g') 5 (sz, τ, 0, 0) g_37 37 [(0, .ref a), (1, .int l1_34), (2, .int l2_34), (3, .int l3_37), (4, .int l4_37)] [])
      unfold l_X10_count_37
      refine z_iload F 4 rfl dX10_count_37 ?_
      refine z_aload_n F 0 rfl rfl dX10_count_39 ?_
      refine gf_X10_13 F hta dX10_count_40 (fun ht13 => ?_)
      refine z_bipush (v := 7) F (by decide) dX10_count_43 ?_
      refine z_iald F ht13 dX10_count_45 ?_
      refine z_icmp_ge (tgt := 68) F dX10_count_46 (by decide) (fun c14 => ?_) (fun c14 => ?_)
      · refine z_sub (lv' := [(0, .ref a), (1, .int l1_34), (2, .int l2_34), (3, .int l3_37)]) [0, 1, 2, 3] rfl ?_
        exact z_back (fun h => h)
      · refine z_iload_n F 3 rfl rfl dX10_count_49 ?_
        refine z_aload_n F 0 rfl rfl dX10_count_50 ?_
        refine gf_X10_16 F hta dX10_count_51 (fun ht15 => ?_)
        refine z_iload F 4 rfl dX10_count_54 ?_
        refine z_iald F ht15 dX10_count_56 ?_
        refine k_X10_countOf F (by rw [hR]; exact ⟨by decide, by decide⟩) q_1358  ⟨Nat.zero_le _, Nat.zero_le _⟩ (Nat.le_of_ble_eq_true rfl) dX10_count_57 (fun v16 g17 => ?_)
        refine z_iadd F dX10_count_60 ?_
        refine z_leti (fun v18 => ?_)
        refine z_istore_n (lv' := [(3, .int v18), (0, .ref a), (1, .int l1_34), (2, .int l2_34), (4, .int l4_37)]) F rfl (by decide) dX10_count_61 rfl ?_
        refine z_iincl (lv' := fun v19 => [(4, .int v19), (3, .int v18), (0, .ref a), (1, .int l1_34), (2, .int l2_34)]) F 4 rfl (by decide) (by decide) dX10_count_62 (fun _ => rfl) (fun v19 => ?_)
        refine z_goto (tgt := 37) F dX10_count_65 (by decide) ?_
        refine z_sub (lv' := [(0, .ref a), (1, .int l1_34), (2, .int l2_34), (3, .int v18), (4, .int v19)]) [2, 3, 4, 1, 0] rfl ?_
        exact z_back (fun h => h)
    · show zSim (fun q : Int32 × zG => q = (r, g')) (j_X10_count_68 a l1_34 l2_34 x.1 x.2) (zAt E D (zA τ sz) (zQ E D zrI 0 0 sz τ τ r g') 5 (sz, τ, 0, 0) x.2 68 [(0, .ref a), (1, .int l1_34), (2, .int l2_34), (3, .int x.1)] [])
      exact hj_X10_count_68 l1_34 l2_34 x.1 x.2
  unfold f_X10_count
  refine z_iconst (v := 0) F (by decide) dX10_count_0 ?_
  refine z_istore_n (lv' := [(2, .int 0), (0, .ref a), (1, .int x1)]) F rfl (by decide) dX10_count_1 rfl ?_
  refine z_iconst (v := 0) F (by decide) dX10_count_2 ?_
  refine z_istore_n (lv' := [(3, .int 0), (2, .int 0), (0, .ref a), (1, .int x1)]) F rfl (by decide) dX10_count_3 rfl ?_
  refine z_iconst (v := 0) F (by decide) dX10_count_4 ?_
  refine z_istore (lv' := [(4, .int 0), (3, .int 0), (2, .int 0), (0, .ref a), (1, .int x1)]) F (by decide) dX10_count_5 rfl ?_
  refine z_sub (lv' := [(0, .ref a), (1, .int x1), (2, .int 0), (3, .int 0), (4, .int 0)]) [3, 4, 2, 1, 0] rfl ?_
  refine z_loop (P := fun s : Int32 × Int32 => zAt E D (zA τ sz) (zQ E D zrI 0 0 sz τ τ r g') 5 (sz, τ, 0, 0) g 7 [(0, .ref a), (1, .int x1), (2, .int s.1), (3, .int 0), (4, .int s.2)] []) (Px := fun x : Int32 => zAt E D (zA τ sz) (zQ E D zrI 0 0 sz τ τ r g') 5 (sz, τ, 0, 0) g 34 [(0, .ref a), (1, .int x1), (2, .int x), (3, .int 0)] []) (0, 0) (fun s => ?_) (fun x => ?_)
  · obtain ⟨l2_7, l4_7⟩ := s
    show zSim (zKl (fun s : Int32 × Int32 => zAt E D (zA τ sz) (zQ E D zrI 0 0 sz τ τ r g') 5 (sz, τ, 0, 0) g 7 [(0, .ref a), (1, .int x1), (2, .int s.1), (3, .int 0), (4, .int s.2)] []) (fun x : Int32 => zAt E D (zA τ sz) (zQ E D zrI 0 0 sz τ τ r g') 5 (sz, τ, 0, 0) g 34 [(0, .ref a), (1, .int x1), (2, .int x), (3, .int 0)] [])) (l_X10_count_7 a x1 0 g l2_7 l4_7) (zAt E D (zA τ sz) (zQ E D zrI 0 0 sz τ τ r g') 5 (sz, τ, 0, 0) g 7 [(0, .ref a), (1, .int x1), (2, .int l2_7), (3, .int 0), (4, .int l4_7)] [])
    unfold l_X10_count_7
    refine z_iload F 4 rfl dX10_count_7 ?_
    refine z_aload_n F 0 rfl rfl dX10_count_9 ?_
    refine gf_X10_139 F hta dX10_count_10 ?_
    refine z_icmp_ge (tgt := 34) F dX10_count_13 (by decide) (fun c20 => ?_) (fun c20 => ?_)
    · refine z_sub (lv' := [(0, .ref a), (1, .int x1), (2, .int l2_7), (3, .int 0)]) [0, 1, 2, 3] rfl ?_
      exact z_back (fun h => h)
    · refine z_iload_n F 2 rfl rfl dX10_count_16 ?_
      refine z_iconst (v := 1) F (by decide) dX10_count_17 ?_
      refine z_aload_n F 0 rfl rfl dX10_count_18 ?_
      refine gf_X10_7 F hta dX10_count_19 (fun ht21 => ?_)
      refine z_iload F 4 rfl dX10_count_22 ?_
      refine z_iald F ht21 dX10_count_24 ?_
      refine z_ishl F dX10_count_25 ?_
      refine z_ior F dX10_count_26 ?_
      refine z_leti (fun v22 => ?_)
      refine z_istore_n (lv' := [(2, .int v22), (0, .ref a), (1, .int x1), (3, .int 0), (4, .int l4_7)]) F rfl (by decide) dX10_count_27 rfl ?_
      refine z_iincl (lv' := fun v23 => [(4, .int v23), (2, .int v22), (0, .ref a), (1, .int x1), (3, .int 0)]) F 4 rfl (by decide) (by decide) dX10_count_28 (fun _ => rfl) (fun v23 => ?_)
      refine z_goto (tgt := 7) F dX10_count_31 (by decide) ?_
      refine z_sub (lv' := [(0, .ref a), (1, .int x1), (2, .int v22), (3, .int 0), (4, .int v23)]) [2, 3, 1, 4, 0] rfl ?_
      exact z_back (fun h => h)
  · show zSim (fun q : Int32 × zG => q = (r, g')) (j_X10_count_34 a x1 x 0 g) (zAt E D (zA τ sz) (zQ E D zrI 0 0 sz τ τ r g') 5 (sz, τ, 0, 0) g 34 [(0, .ref a), (1, .int x1), (2, .int x), (3, .int 0)] [])
    exact hj_X10_count_34 x1 x 0 g
theorem k_X10_count {ρ : Type} {K : ρ → Prop} {E : zE} {D : zD} {A : Nat → Prop} {Q : State → Prop} {nL : Nat} {κ : zC} {g : zG} {pc : Nat} {lv : List (Nat × Value)} {st : List Value} {cc : ByteArray} {own : String} {ret : Option FieldType} (F : zF E D A cc own nL ret) {index : Nat} {h : Int32 → zG → Option ρ} {a : Nat} {x1 : Int32}  (hR : 1 + 1 ≤ E.2.2.2.1.frames ∧ 8 + (5 + 11) + 22 ≤ E.2.2.2.1.locals) (hl : zTbl (.methodLink own index yX10_count)) (hta : κ.2.1 a = some (.inr 10)) (hc : κ.2.2.1 ≤ E.2.2.2.1.cells ∧ κ.2.2.2 ≤ E.2.2.2.1.slots) (hW : (st.map fun v => v.category).sum ≤ 8) (hd : decode cc pc = .ok (.invokevirtual index, 3)) (kk : ∀ r g', zSim K (h r g') (zAt E D A Q nL κ g' (pc + 3) lv (.int r :: st))) : zSim K (zb (f_X10_count a x1 g) h) (zAt E D A Q nL κ g pc lv (.int x1 :: .ref a :: st)) :=
  z_callV F (n := 1) (As := [.int x1]) (C := (RX10, TX10, 61)) ⟨q_1357, q_14, by decide +kernel, rfl, rfl, hR.1, hR.2⟩ (c_X10_count E.2.1 D κ.1 κ.2.1 g a x1 hta) hl q_1355 q_1356 hta rfl rfl rfl hc hW hd kk _ rfl
theorem dX10_keepDraft_0 : decode cX10_keepDraft 0 = .ok (.aload_n 0, 1) := by decide +kernel
theorem dX10_keepDraft_1 : decode cX10_keepDraft 1 = .ok (.aload_n 0, 1) := by decide +kernel
theorem dX10_keepDraft_2 : decode cX10_keepDraft 2 = .ok (.getfield 122, 3) := by decide +kernel
theorem dX10_keepDraft_5 : decode cX10_keepDraft 5 = .ok (.putfield 139, 3) := by decide +kernel
theorem dX10_keepDraft_8 : decode cX10_keepDraft 8 = .ok (.aload_n 0, 1) := by decide +kernel
theorem dX10_keepDraft_9 : decode cX10_keepDraft 9 = .ok (.aload_n 0, 1) := by decide +kernel
theorem dX10_keepDraft_10 : decode cX10_keepDraft 10 = .ok (.getfield 130, 3) := by decide +kernel
theorem dX10_keepDraft_13 : decode cX10_keepDraft 13 = .ok (.putfield 142, 3) := by decide +kernel
theorem dX10_keepDraft_16 : decode cX10_keepDraft 16 = .ok (.iconst 0, 1) := by decide +kernel
theorem dX10_keepDraft_17 : decode cX10_keepDraft 17 = .ok (.istore_n 1, 1) := by decide +kernel
theorem dX10_keepDraft_18 : decode cX10_keepDraft 18 = .ok (.iload_n 1, 1) := by decide +kernel
theorem dX10_keepDraft_19 : decode cX10_keepDraft 19 = .ok (.bipush 49, 2) := by decide +kernel
theorem dX10_keepDraft_21 : decode cX10_keepDraft 21 = .ok (.if_icmp .ge 21, 3) := by decide +kernel
theorem dX10_keepDraft_24 : decode cX10_keepDraft 24 = .ok (.aload_n 0, 1) := by decide +kernel
theorem dX10_keepDraft_25 : decode cX10_keepDraft 25 = .ok (.getfield 7, 3) := by decide +kernel
theorem dX10_keepDraft_28 : decode cX10_keepDraft 28 = .ok (.iload_n 1, 1) := by decide +kernel
theorem dX10_keepDraft_29 : decode cX10_keepDraft 29 = .ok (.aload_n 0, 1) := by decide +kernel
theorem dX10_keepDraft_30 : decode cX10_keepDraft 30 = .ok (.getfield 34, 3) := by decide +kernel
theorem dX10_keepDraft_33 : decode cX10_keepDraft 33 = .ok (.iload_n 1, 1) := by decide +kernel
theorem dX10_keepDraft_34 : decode cX10_keepDraft 34 = .ok (.iaload, 1) := by decide +kernel
theorem dX10_keepDraft_35 : decode cX10_keepDraft 35 = .ok (.iastore, 1) := by decide +kernel
theorem dX10_keepDraft_36 : decode cX10_keepDraft 36 = .ok (.iinc 1 1, 3) := by decide +kernel
theorem dX10_keepDraft_39 : decode cX10_keepDraft 39 = .ok (.goto (-21), 3) := by decide +kernel
theorem dX10_keepDraft_42 : decode cX10_keepDraft 42 = .ok (.iconst 0, 1) := by decide +kernel
theorem dX10_keepDraft_43 : decode cX10_keepDraft 43 = .ok (.istore_n 1, 1) := by decide +kernel
theorem dX10_keepDraft_44 : decode cX10_keepDraft 44 = .ok (.iload_n 1, 1) := by decide +kernel
theorem dX10_keepDraft_45 : decode cX10_keepDraft 45 = .ok (.bipush 8, 2) := by decide +kernel
theorem dX10_keepDraft_47 : decode cX10_keepDraft 47 = .ok (.if_icmp .ge 21, 3) := by decide +kernel
theorem dX10_keepDraft_50 : decode cX10_keepDraft 50 = .ok (.aload_n 0, 1) := by decide +kernel
theorem dX10_keepDraft_51 : decode cX10_keepDraft 51 = .ok (.getfield 13, 3) := by decide +kernel
theorem dX10_keepDraft_54 : decode cX10_keepDraft 54 = .ok (.iload_n 1, 1) := by decide +kernel
theorem dX10_keepDraft_55 : decode cX10_keepDraft 55 = .ok (.aload_n 0, 1) := by decide +kernel
theorem dX10_keepDraft_56 : decode cX10_keepDraft 56 = .ok (.getfield 37, 3) := by decide +kernel
theorem dX10_keepDraft_59 : decode cX10_keepDraft 59 = .ok (.iload_n 1, 1) := by decide +kernel
theorem dX10_keepDraft_60 : decode cX10_keepDraft 60 = .ok (.iaload, 1) := by decide +kernel
theorem dX10_keepDraft_61 : decode cX10_keepDraft 61 = .ok (.iastore, 1) := by decide +kernel
theorem dX10_keepDraft_62 : decode cX10_keepDraft 62 = .ok (.iinc 1 1, 3) := by decide +kernel
theorem dX10_keepDraft_65 : decode cX10_keepDraft 65 = .ok (.goto (-21), 3) := by decide +kernel
theorem dX10_keepDraft_68 : decode cX10_keepDraft 68 = .ok (.iconst 0, 1) := by decide +kernel
theorem dX10_keepDraft_69 : decode cX10_keepDraft 69 = .ok (.istore_n 1, 1) := by decide +kernel
theorem dX10_keepDraft_70 : decode cX10_keepDraft 70 = .ok (.iload_n 1, 1) := by decide +kernel
theorem dX10_keepDraft_71 : decode cX10_keepDraft 71 = .ok (.bipush 60, 2) := by decide +kernel
theorem dX10_keepDraft_73 : decode cX10_keepDraft 73 = .ok (.if_icmp .ge 40, 3) := by decide +kernel
theorem dX10_keepDraft_76 : decode cX10_keepDraft 76 = .ok (.aload_n 0, 1) := by decide +kernel
theorem dX10_keepDraft_77 : decode cX10_keepDraft 77 = .ok (.getfield 16, 3) := by decide +kernel
theorem dX10_keepDraft_80 : decode cX10_keepDraft 80 = .ok (.iload_n 1, 1) := by decide +kernel
theorem dX10_keepDraft_81 : decode cX10_keepDraft 81 = .ok (.aload_n 0, 1) := by decide +kernel
theorem dX10_keepDraft_82 : decode cX10_keepDraft 82 = .ok (.getfield 126, 3) := by decide +kernel
theorem dX10_keepDraft_85 : decode cX10_keepDraft 85 = .ok (.ifCond .eq 12, 3) := by decide +kernel
theorem dX10_keepDraft_88 : decode cX10_keepDraft 88 = .ok (.aload_n 0, 1) := by decide +kernel
theorem dX10_keepDraft_89 : decode cX10_keepDraft 89 = .ok (.getfield 40, 3) := by decide +kernel
theorem dX10_keepDraft_92 : decode cX10_keepDraft 92 = .ok (.iload_n 1, 1) := by decide +kernel
theorem dX10_keepDraft_93 : decode cX10_keepDraft 93 = .ok (.iaload, 1) := by decide +kernel
theorem dX10_keepDraft_94 : decode cX10_keepDraft 94 = .ok (.goto 12, 3) := by decide +kernel
theorem dX10_keepDraft_97 : decode cX10_keepDraft 97 = .ok (.iload_n 1, 1) := by decide +kernel
theorem dX10_keepDraft_98 : decode cX10_keepDraft 98 = .ok (.ifCond .ne 7, 3) := by decide +kernel
theorem dX10_keepDraft_101 : decode cX10_keepDraft 101 = .ok (.iconst 1, 1) := by decide +kernel
theorem dX10_keepDraft_102 : decode cX10_keepDraft 102 = .ok (.goto 4, 3) := by decide +kernel
theorem dX10_keepDraft_105 : decode cX10_keepDraft 105 = .ok (.iconst 0, 1) := by decide +kernel
theorem dX10_keepDraft_106 : decode cX10_keepDraft 106 = .ok (.iastore, 1) := by decide +kernel
theorem dX10_keepDraft_107 : decode cX10_keepDraft 107 = .ok (.iinc 1 1, 3) := by decide +kernel
theorem dX10_keepDraft_110 : decode cX10_keepDraft 110 = .ok (.goto (-40), 3) := by decide +kernel
theorem dX10_keepDraft_113 : decode cX10_keepDraft 113 = .ok (.iconst 0, 1) := by decide +kernel
theorem dX10_keepDraft_114 : decode cX10_keepDraft 114 = .ok (.istore_n 1, 1) := by decide +kernel
theorem dX10_keepDraft_115 : decode cX10_keepDraft 115 = .ok (.iload_n 1, 1) := by decide +kernel
theorem dX10_keepDraft_116 : decode cX10_keepDraft 116 = .ok (.bipush 24, 2) := by decide +kernel
theorem dX10_keepDraft_118 : decode cX10_keepDraft 118 = .ok (.if_icmp .ge 57, 3) := by decide +kernel
theorem dX10_keepDraft_121 : decode cX10_keepDraft 121 = .ok (.aload_n 0, 1) := by decide +kernel
theorem dX10_keepDraft_122 : decode cX10_keepDraft 122 = .ok (.getfield 19, 3) := by decide +kernel
theorem dX10_keepDraft_125 : decode cX10_keepDraft 125 = .ok (.iload_n 1, 1) := by decide +kernel
theorem dX10_keepDraft_126 : decode cX10_keepDraft 126 = .ok (.aload_n 0, 1) := by decide +kernel
theorem dX10_keepDraft_127 : decode cX10_keepDraft 127 = .ok (.getfield 43, 3) := by decide +kernel
theorem dX10_keepDraft_130 : decode cX10_keepDraft 130 = .ok (.iload_n 1, 1) := by decide +kernel
theorem dX10_keepDraft_131 : decode cX10_keepDraft 131 = .ok (.iaload, 1) := by decide +kernel
theorem dX10_keepDraft_132 : decode cX10_keepDraft 132 = .ok (.iastore, 1) := by decide +kernel
theorem dX10_keepDraft_133 : decode cX10_keepDraft 133 = .ok (.aload_n 0, 1) := by decide +kernel
theorem dX10_keepDraft_134 : decode cX10_keepDraft 134 = .ok (.getfield 22, 3) := by decide +kernel
theorem dX10_keepDraft_137 : decode cX10_keepDraft 137 = .ok (.iload_n 1, 1) := by decide +kernel
theorem dX10_keepDraft_138 : decode cX10_keepDraft 138 = .ok (.aload_n 0, 1) := by decide +kernel
theorem dX10_keepDraft_139 : decode cX10_keepDraft 139 = .ok (.getfield 46, 3) := by decide +kernel
theorem dX10_keepDraft_142 : decode cX10_keepDraft 142 = .ok (.iload_n 1, 1) := by decide +kernel
theorem dX10_keepDraft_143 : decode cX10_keepDraft 143 = .ok (.iaload, 1) := by decide +kernel
theorem dX10_keepDraft_144 : decode cX10_keepDraft 144 = .ok (.iastore, 1) := by decide +kernel
theorem dX10_keepDraft_145 : decode cX10_keepDraft 145 = .ok (.aload_n 0, 1) := by decide +kernel
theorem dX10_keepDraft_146 : decode cX10_keepDraft 146 = .ok (.getfield 25, 3) := by decide +kernel
theorem dX10_keepDraft_149 : decode cX10_keepDraft 149 = .ok (.iload_n 1, 1) := by decide +kernel
theorem dX10_keepDraft_150 : decode cX10_keepDraft 150 = .ok (.aload_n 0, 1) := by decide +kernel
theorem dX10_keepDraft_151 : decode cX10_keepDraft 151 = .ok (.getfield 49, 3) := by decide +kernel
theorem dX10_keepDraft_154 : decode cX10_keepDraft 154 = .ok (.iload_n 1, 1) := by decide +kernel
theorem dX10_keepDraft_155 : decode cX10_keepDraft 155 = .ok (.iaload, 1) := by decide +kernel
theorem dX10_keepDraft_156 : decode cX10_keepDraft 156 = .ok (.iastore, 1) := by decide +kernel
theorem dX10_keepDraft_157 : decode cX10_keepDraft 157 = .ok (.aload_n 0, 1) := by decide +kernel
theorem dX10_keepDraft_158 : decode cX10_keepDraft 158 = .ok (.getfield 28, 3) := by decide +kernel
theorem dX10_keepDraft_161 : decode cX10_keepDraft 161 = .ok (.iload_n 1, 1) := by decide +kernel
theorem dX10_keepDraft_162 : decode cX10_keepDraft 162 = .ok (.aload_n 0, 1) := by decide +kernel
theorem dX10_keepDraft_163 : decode cX10_keepDraft 163 = .ok (.getfield 52, 3) := by decide +kernel
theorem dX10_keepDraft_166 : decode cX10_keepDraft 166 = .ok (.iload_n 1, 1) := by decide +kernel
theorem dX10_keepDraft_167 : decode cX10_keepDraft 167 = .ok (.iaload, 1) := by decide +kernel
theorem dX10_keepDraft_168 : decode cX10_keepDraft 168 = .ok (.iastore, 1) := by decide +kernel
theorem dX10_keepDraft_169 : decode cX10_keepDraft 169 = .ok (.iinc 1 1, 3) := by decide +kernel
theorem dX10_keepDraft_172 : decode cX10_keepDraft 172 = .ok (.goto (-57), 3) := by decide +kernel
theorem dX10_keepDraft_175 : decode cX10_keepDraft 175 = .ok (.iconst 0, 1) := by decide +kernel
theorem dX10_keepDraft_176 : decode cX10_keepDraft 176 = .ok (.istore_n 1, 1) := by decide +kernel
theorem dX10_keepDraft_177 : decode cX10_keepDraft 177 = .ok (.iload_n 1, 1) := by decide +kernel
theorem dX10_keepDraft_178 : decode cX10_keepDraft 178 = .ok (.sipush 240, 3) := by decide +kernel
theorem dX10_keepDraft_181 : decode cX10_keepDraft 181 = .ok (.if_icmp .ge 21, 3) := by decide +kernel
theorem dX10_keepDraft_184 : decode cX10_keepDraft 184 = .ok (.aload_n 0, 1) := by decide +kernel
theorem dX10_keepDraft_185 : decode cX10_keepDraft 185 = .ok (.getfield 31, 3) := by decide +kernel
theorem dX10_keepDraft_188 : decode cX10_keepDraft 188 = .ok (.iload_n 1, 1) := by decide +kernel
theorem dX10_keepDraft_189 : decode cX10_keepDraft 189 = .ok (.aload_n 0, 1) := by decide +kernel
theorem dX10_keepDraft_190 : decode cX10_keepDraft 190 = .ok (.getfield 55, 3) := by decide +kernel
theorem dX10_keepDraft_193 : decode cX10_keepDraft 193 = .ok (.iload_n 1, 1) := by decide +kernel
theorem dX10_keepDraft_194 : decode cX10_keepDraft 194 = .ok (.iaload, 1) := by decide +kernel
theorem dX10_keepDraft_195 : decode cX10_keepDraft 195 = .ok (.iastore, 1) := by decide +kernel
theorem dX10_keepDraft_196 : decode cX10_keepDraft 196 = .ok (.iinc 1 1, 3) := by decide +kernel
theorem dX10_keepDraft_199 : decode cX10_keepDraft 199 = .ok (.goto (-22), 3) := by decide +kernel
theorem dX10_keepDraft_202 : decode cX10_keepDraft 202 = .ok (.aload_n 0, 1) := by decide +kernel
theorem dX10_keepDraft_203 : decode cX10_keepDraft 203 = .ok (.iconst 0, 1) := by decide +kernel
theorem dX10_keepDraft_204 : decode cX10_keepDraft 204 = .ok (.putfield 145, 3) := by decide +kernel
theorem dX10_keepDraft_207 : decode cX10_keepDraft 207 = .ok (.aload_n 0, 1) := by decide +kernel
theorem dX10_keepDraft_208 : decode cX10_keepDraft 208 = .ok (.iconst 0, 1) := by decide +kernel
theorem dX10_keepDraft_209 : decode cX10_keepDraft 209 = .ok (.putfield 148, 3) := by decide +kernel
theorem dX10_keepDraft_212 : decode cX10_keepDraft 212 = .ok (.aload_n 0, 1) := by decide +kernel
theorem dX10_keepDraft_213 : decode cX10_keepDraft 213 = .ok (.invokevirtual 151, 3) := by decide +kernel
theorem dX10_keepDraft_216 : decode cX10_keepDraft 216 = .ok (.aload_n 0, 1) := by decide +kernel
theorem dX10_keepDraft_217 : decode cX10_keepDraft 217 = .ok (.iconst 1, 1) := by decide +kernel
theorem dX10_keepDraft_218 : decode cX10_keepDraft 218 = .ok (.putfield 154, 3) := by decide +kernel
theorem dX10_keepDraft_221 : decode cX10_keepDraft 221 = .ok (.aload_n 0, 1) := by decide +kernel
theorem dX10_keepDraft_222 : decode cX10_keepDraft 222 = .ok (.invokevirtual 157, 3) := by decide +kernel
theorem dX10_keepDraft_225 : decode cX10_keepDraft 225 = .ok (.return_, 1) := by decide +kernel
def j_X10_keepDraft_202 (a : Nat)  (g : zG) : Option (Int32 × zG) :=
  zl (zsi g a 51 0) (fun g1 => zl (zsi g1 a 44 0) (fun g2 => zb (f_X10_begins a g2) (fun v3 g4 => zl (zsi g4 a 36 1) (fun g5 => zb (f_X10_blankPage a g5) (fun v6 g7 => some ((0, g7)))))))
def l_X10_keepDraft_177 (a : Nat) (l1 : Int32) (g : zG) : Option ((Int32 × zG) ⊕ (zG)) :=
  if 240 ≤ l1 then (some (.inr g)) else (zc (zin l1 240) (zc (zin l1 240) (zl (zsi g (g.2.1 a 9) l1.toNatClampNeg (g.1 (g.2.1 a 21) l1.toNatClampNeg)) (fun g11 => zl (l1 + 1) (fun v12 => some (.inl (v12, g11)))))))
def j_X10_keepDraft_175 (a : Nat)  (g : zG) : Option (Int32 × zG) :=
  zk (zw zN (fun s => l_X10_keepDraft_177 a s.1 s.2) (0, g)) (fun x => j_X10_keepDraft_202 a x)
def l_X10_keepDraft_115 (a : Nat) (l1 : Int32) (g : zG) : Option ((Int32 × zG) ⊕ (zG)) :=
  if 24 ≤ l1 then (some (.inr g)) else (zc (zin l1 24) (zc (zin l1 24) (zl (zsi g (g.2.1 a 5) l1.toNatClampNeg (g.1 (g.2.1 a 16) l1.toNatClampNeg)) (fun g16 => zc (zin l1 24) (zc (zin l1 24) (zl (zsi g16 (g16.2.1 a 6) l1.toNatClampNeg (g16.1 (g16.2.1 a 17) l1.toNatClampNeg)) (fun g19 => zc (zin l1 24) (zc (zin l1 24) (zl (zsi g19 (g19.2.1 a 7) l1.toNatClampNeg (g19.1 (g19.2.1 a 18) l1.toNatClampNeg)) (fun g22 => zc (zin l1 24) (zc (zin l1 24) (zl (zsi g22 (g22.2.1 a 8) l1.toNatClampNeg (g22.1 (g22.2.1 a 19) l1.toNatClampNeg)) (fun g25 => zl (l1 + 1) (fun v26 => some (.inl (v26, g25))))))))))))))))
def j_X10_keepDraft_113 (a : Nat)  (g : zG) : Option (Int32 × zG) :=
  zk (zw zN (fun s => l_X10_keepDraft_115 a s.1 s.2) (0, g)) (fun x => j_X10_keepDraft_175 a x)
def l_X10_keepDraft_70 (a : Nat) (l1 : Int32) (g : zG) : Option ((Int32 × zG) ⊕ (zG)) :=
  if 60 ≤ l1 then (some (.inr g)) else (if (g.1 a 14) = 0 then (if l1 = 0 then (zc (zin l1 60) (zl (zsi g (g.2.1 a 3) l1.toNatClampNeg 1) (fun g31 => zl (l1 + 1) (fun v32 => some (.inl (v32, g31)))))) else (zc (zin l1 60) (zl (zsi g (g.2.1 a 3) l1.toNatClampNeg 0) (fun g33 => zl (l1 + 1) (fun v34 => some (.inl (v34, g33))))))) else (zc (zin l1 60) (zc (zin l1 60) (zl (zsi g (g.2.1 a 3) l1.toNatClampNeg (g.1 (g.2.1 a 13) l1.toNatClampNeg)) (fun g36 => zl (l1 + 1) (fun v37 => some (.inl (v37, g36))))))))
def j_X10_keepDraft_68 (a : Nat)  (g : zG) : Option (Int32 × zG) :=
  zk (zw zN (fun s => l_X10_keepDraft_70 a s.1 s.2) (0, g)) (fun x => j_X10_keepDraft_113 a x)
def l_X10_keepDraft_44 (a : Nat) (l1 : Int32) (g : zG) : Option ((Int32 × zG) ⊕ (zG)) :=
  if 8 ≤ l1 then (some (.inr g)) else (zc (zin l1 8) (zc (zin l1 8) (zl (zsi g (g.2.1 a 2) l1.toNatClampNeg (g.1 (g.2.1 a 12) l1.toNatClampNeg)) (fun g41 => zl (l1 + 1) (fun v42 => some (.inl (v42, g41)))))))
def j_X10_keepDraft_42 (a : Nat)  (g : zG) : Option (Int32 × zG) :=
  zk (zw zN (fun s => l_X10_keepDraft_44 a s.1 s.2) (0, g)) (fun x => j_X10_keepDraft_68 a x)
def l_X10_keepDraft_18 (a : Nat) (l1 : Int32) (g : zG) : Option ((Int32 × zG) ⊕ (zG)) :=
  if 49 ≤ l1 then (some (.inr g)) else (zc (zin l1 49) (zc (zin l1 49) (zl (zsi g (g.2.1 a 1) l1.toNatClampNeg (g.1 (g.2.1 a 11) l1.toNatClampNeg)) (fun g48 => zl (l1 + 1) (fun v49 => some (.inl (v49, g48)))))))
def f_X10_keepDraft (a : Nat) (g : zG) : Option (Int32 × zG) :=
  zl (zsi g a 0 (g.1 a 10)) (fun g43 => zl (zsi g43 a 4 (g43.1 a 15)) (fun g44 => zk (zw zN (fun s => l_X10_keepDraft_18 a s.1 s.2) (0, g44)) (fun x => j_X10_keepDraft_42 a x)))
abbrev rm_X10_keepDraft : Room := { frames := 1, cells := 0, slots := 0, locals := 21 }
set_option maxRecDepth 100000 in
set_option maxHeartbeats 4000000 in
theorem c_X10_keepDraft (l : Launch) (D : zD) (sz : Nat) (τ : zT) (g : zG) (a : Nat) (hta : τ a = some (.inr 10)) : zCon l D yX10_keepDraft cX10_keepDraft 2 none rm_X10_keepDraft 0 0 zrV [.ref a] sz τ g τ (f_X10_keepDraft a g) := by
  refine zCon.of (by decide) (Nat.le_of_ble_eq_true rfl) (fun E r g' hl hR hsz hnm F => ?_)
  have F : zF E D (zA τ sz) cX10_keepDraft "TypeChainModel" 2 none := F
  show zSim (fun q : Int32 × zG => q = (r, g')) (f_X10_keepDraft a g) (zAt E D (zA τ sz) (zQ E D zrV 0 0 sz τ τ r g') 2 (sz, τ, 0, 0) g 0 [(0, .ref a)] [])
  have hj_X10_keepDraft_202 : ∀  (g_202 : zG), zSim (fun q : Int32 × zG => q = (r, g')) (j_X10_keepDraft_202 a g_202) (zAt E D (zA τ sz) (zQ E D zrV 0 0 sz τ τ r g') 2 (sz, τ, 0, 0) g_202 202 [(0, .ref a)] []) := by
    intro g_202
    unfold j_X10_keepDraft_202
    refine z_aload_n F 0 rfl rfl dX10_keepDraft_202 ?_
    refine z_iconst (v := 0) F (by decide) dX10_keepDraft_203 ?_
    refine pf_X10_145 F hta (Or.inl rfl) dX10_keepDraft_204 ?_
    refine z_letg (fun g1 => ?_)
    refine z_aload_n F 0 rfl rfl dX10_keepDraft_207 ?_
    refine z_iconst (v := 0) F (by decide) dX10_keepDraft_208 ?_
    refine pf_X10_148 F hta (Or.inl rfl) dX10_keepDraft_209 ?_
    refine z_letg (fun g2 => ?_)
    refine z_aload_n F 0 rfl rfl dX10_keepDraft_212 ?_
    refine k_X10_begins F (by rw [hR]; exact ⟨by decide, by decide⟩) q_880 hta ⟨Nat.zero_le _, Nat.zero_le _⟩ (Nat.le_of_ble_eq_true rfl) dX10_keepDraft_213 (fun v3 g4 => ?_)
    refine z_aload_n F 0 rfl rfl dX10_keepDraft_216 ?_
    refine z_iconst (v := 1) F (by decide) dX10_keepDraft_217 ?_
    refine pf_X10_154 F hta dX10_keepDraft_218 ?_
    refine z_letg (fun g5 => ?_)
    refine z_aload_n F 0 rfl rfl dX10_keepDraft_221 ?_
    refine k_X10_blankPage F (by rw [hR]; exact ⟨by decide, by decide⟩) q_884 hta ⟨Nat.zero_le _, Nat.zero_le _⟩ (Nat.le_of_ble_eq_true rfl) dX10_keepDraft_222 (fun v6 g7 => ?_)
    exact z_vreturn F rfl rfl rfl rfl (fun h => h) dX10_keepDraft_225
  have hj_X10_keepDraft_175 : ∀  (g_175 : zG), zSim (fun q : Int32 × zG => q = (r, g')) (j_X10_keepDraft_175 a g_175) (zAt E D (zA τ sz) (zQ E D zrV 0 0 sz τ τ r g') 2 (sz, τ, 0, 0) g_175 175 [(0, .ref a)] []) := by
    intro g_175
    unfold j_X10_keepDraft_175
    refine z_iconst (v := 0) F (by decide) dX10_keepDraft_175 ?_
    refine z_istore_n (lv' := [(1, .int 0), (0, .ref a)]) F rfl (by decide) dX10_keepDraft_176 rfl ?_
    refine z_sub (lv' := [(0, .ref a), (1, .int 0)]) [1, 0] rfl ?_
    refine z_loop (P := fun s : Int32 × zG => zAt E D (zA τ sz) (zQ E D zrV 0 0 sz τ τ r g') 2 (sz, τ, 0, 0) s.2 177 [(0, .ref a), (1, .int s.1)] []) (Px := fun x : zG => zAt E D (zA τ sz) (zQ E D zrV 0 0 sz τ τ r g') 2 (sz, τ, 0, 0) x 202 [(0, .ref a)] []) (0, g_175) (fun s => ?_) (fun x => ?_)
    · obtain ⟨l1_177, g_177⟩ := s
      show zSim (zKl (fun s : Int32 × zG => zAt E D (zA τ sz) (zQ E D zrV 0 0 sz τ τ r g') 2 (sz, τ, 0, 0) s.2 177 [(0, .ref a), (1, .int s.1)] []) (fun x : zG => zAt E D (zA τ sz) (zQ E D zrV 0 0 sz τ τ r g') 2 (sz, τ, 0, 0) x 202 [(0, .ref a)] [])) (l_X10_keepDraft_177 a l1_177 g_177) (zAt E D (zA τ sz) (zQ E D zrV 0 0 sz τ τ r g') 2 (sz, τ, 0, 0) g_177 177 [(0, .ref a), (1, .int l1_177)] [])
      unfold l_X10_keepDraft_177
      refine z_iload_n F 1 rfl rfl dX10_keepDraft_177 ?_
      refine z_sipush (v := 240) F (by decide) dX10_keepDraft_178 ?_
      refine z_icmp_ge (tgt := 202) F dX10_keepDraft_181 (by decide) (fun c8 => ?_) (fun c8 => ?_)
      · refine z_sub (lv' := [(0, .ref a)]) [0] rfl ?_
        exact z_back (fun h => h)
      · refine z_aload_n F 0 rfl rfl dX10_keepDraft_184 ?_
        refine gf_X10_31 F hta dX10_keepDraft_185 (fun ht9 => ?_)
        refine z_iload_n F 1 rfl rfl dX10_keepDraft_188 ?_
        refine z_aload_n F 0 rfl rfl dX10_keepDraft_189 ?_
        refine gf_X10_55 F hta dX10_keepDraft_190 (fun ht10 => ?_)
        refine z_iload_n F 1 rfl rfl dX10_keepDraft_193 ?_
        refine z_iald F ht10 dX10_keepDraft_194 ?_
        refine z_iast F ht9 dX10_keepDraft_195 ?_
        refine z_letg (fun g11 => ?_)
        refine z_iincl (lv' := fun v12 => [(1, .int v12), (0, .ref a)]) F 1 rfl (by decide) (by decide) dX10_keepDraft_196 (fun _ => rfl) (fun v12 => ?_)
        refine z_goto (tgt := 177) F dX10_keepDraft_199 (by decide) ?_
        refine z_sub (lv' := [(0, .ref a), (1, .int v12)]) [1, 0] rfl ?_
        exact z_back (fun h => h)
    · show zSim (fun q : Int32 × zG => q = (r, g')) (j_X10_keepDraft_202 a x) (zAt E D (zA τ sz) (zQ E D zrV 0 0 sz τ τ r g') 2 (sz, τ, 0, 0) x 202 [(0, .ref a)] [])
      exact hj_X10_keepDraft_202 x
  have hj_X10_keepDraft_113 : ∀  (g_113 : zG), zSim (fun q : Int32 × zG => q = (r, g')) (j_X10_keepDraft_113 a g_113) (zAt E D (zA τ sz) (zQ E D zrV 0 0 sz τ τ r g') 2 (sz, τ, 0, 0) g_113 113 [(0, .ref a)] []) := by
    intro g_113
    unfold j_X10_keepDraft_113
    refine z_iconst (v := 0) F (by decide) dX10_keepDraft_113 ?_
    refine z_istore_n (lv' := [(1, .int 0), (0, .ref a)]) F rfl (by decide) dX10_keepDraft_114 rfl ?_
    refine z_sub (lv' := [(0, .ref a), (1, .int 0)]) [1, 0] rfl ?_
    refine z_loop (P := fun s : Int32 × zG => zAt E D (zA τ sz) (zQ E D zrV 0 0 sz τ τ r g') 2 (sz, τ, 0, 0) s.2 115 [(0, .ref a), (1, .int s.1)] []) (Px := fun x : zG => zAt E D (zA τ sz) (zQ E D zrV 0 0 sz τ τ r g') 2 (sz, τ, 0, 0) x 175 [(0, .ref a)] []) (0, g_113) (fun s => ?_) (fun x => ?_)
    · obtain ⟨l1_115, g_115⟩ := s
      show zSim (zKl (fun s : Int32 × zG => zAt E D (zA τ sz) (zQ E D zrV 0 0 sz τ τ r g') 2 (sz, τ, 0, 0) s.2 115 [(0, .ref a), (1, .int s.1)] []) (fun x : zG => zAt E D (zA τ sz) (zQ E D zrV 0 0 sz τ τ r g') 2 (sz, τ, 0, 0) x 175 [(0, .ref a)] [])) (l_X10_keepDraft_115 a l1_115 g_115) (zAt E D (zA τ sz) (zQ E D zrV 0 0 sz τ τ r g') 2 (sz, τ, 0, 0) g_115 115 [(0, .ref a), (1, .int l1_115)] [])
      unfold l_X10_keepDraft_115
      refine z_iload_n F 1 rfl rfl dX10_keepDraft_115 ?_
      refine z_bipush (v := 24) F (by decide) dX10_keepDraft_116 ?_
      refine z_icmp_ge (tgt := 175) F dX10_keepDraft_118 (by decide) (fun c13 => ?_) (fun c13 => ?_)
      · refine z_sub (lv' := [(0, .ref a)]) [0] rfl ?_
        exact z_back (fun h => h)
      · refine z_aload_n F 0 rfl rfl dX10_keepDraft_121 ?_
        refine gf_X10_19 F hta dX10_keepDraft_122 (fun ht14 => ?_)
        refine z_iload_n F 1 rfl rfl dX10_keepDraft_125 ?_
        refine z_aload_n F 0 rfl rfl dX10_keepDraft_126 ?_
        refine gf_X10_43 F hta dX10_keepDraft_127 (fun ht15 => ?_)
        refine z_iload_n F 1 rfl rfl dX10_keepDraft_130 ?_
        refine z_iald F ht15 dX10_keepDraft_131 ?_
        refine z_iast F ht14 dX10_keepDraft_132 ?_
        refine z_letg (fun g16 => ?_)
        refine z_aload_n F 0 rfl rfl dX10_keepDraft_133 ?_
        refine gf_X10_22 F hta dX10_keepDraft_134 (fun ht17 => ?_)
        refine z_iload_n F 1 rfl rfl dX10_keepDraft_137 ?_
        refine z_aload_n F 0 rfl rfl dX10_keepDraft_138 ?_
        refine gf_X10_46 F hta dX10_keepDraft_139 (fun ht18 => ?_)
        refine z_iload_n F 1 rfl rfl dX10_keepDraft_142 ?_
        refine z_iald F ht18 dX10_keepDraft_143 ?_
        refine z_iast F ht17 dX10_keepDraft_144 ?_
        refine z_letg (fun g19 => ?_)
        refine z_aload_n F 0 rfl rfl dX10_keepDraft_145 ?_
        refine gf_X10_25 F hta dX10_keepDraft_146 (fun ht20 => ?_)
        refine z_iload_n F 1 rfl rfl dX10_keepDraft_149 ?_
        refine z_aload_n F 0 rfl rfl dX10_keepDraft_150 ?_
        refine gf_X10_49 F hta dX10_keepDraft_151 (fun ht21 => ?_)
        refine z_iload_n F 1 rfl rfl dX10_keepDraft_154 ?_
        refine z_iald F ht21 dX10_keepDraft_155 ?_
        refine z_iast F ht20 dX10_keepDraft_156 ?_
        refine z_letg (fun g22 => ?_)
        refine z_aload_n F 0 rfl rfl dX10_keepDraft_157 ?_
        refine gf_X10_28 F hta dX10_keepDraft_158 (fun ht23 => ?_)
        refine z_iload_n F 1 rfl rfl dX10_keepDraft_161 ?_
        refine z_aload_n F 0 rfl rfl dX10_keepDraft_162 ?_
        refine gf_X10_52 F hta dX10_keepDraft_163 (fun ht24 => ?_)
        refine z_iload_n F 1 rfl rfl dX10_keepDraft_166 ?_
        refine z_iald F ht24 dX10_keepDraft_167 ?_
        refine z_iast F ht23 dX10_keepDraft_168 ?_
        refine z_letg (fun g25 => ?_)
        refine z_iincl (lv' := fun v26 => [(1, .int v26), (0, .ref a)]) F 1 rfl (by decide) (by decide) dX10_keepDraft_169 (fun _ => rfl) (fun v26 => ?_)
        refine z_goto (tgt := 115) F dX10_keepDraft_172 (by decide) ?_
        refine z_sub (lv' := [(0, .ref a), (1, .int v26)]) [1, 0] rfl ?_
        exact z_back (fun h => h)
    · show zSim (fun q : Int32 × zG => q = (r, g')) (j_X10_keepDraft_175 a x) (zAt E D (zA τ sz) (zQ E D zrV 0 0 sz τ τ r g') 2 (sz, τ, 0, 0) x 175 [(0, .ref a)] [])
      exact hj_X10_keepDraft_175 x
  have hj_X10_keepDraft_68 : ∀  (g_68 : zG), zSim (fun q : Int32 × zG => q = (r, g')) (j_X10_keepDraft_68 a g_68) (zAt E D (zA τ sz) (zQ E D zrV 0 0 sz τ τ r g') 2 (sz, τ, 0, 0) g_68 68 [(0, .ref a)] []) := by
    intro g_68
    unfold j_X10_keepDraft_68
    refine z_iconst (v := 0) F (by decide) dX10_keepDraft_68 ?_
    refine z_istore_n (lv' := [(1, .int 0), (0, .ref a)]) F rfl (by decide) dX10_keepDraft_69 rfl ?_
    refine z_sub (lv' := [(0, .ref a), (1, .int 0)]) [1, 0] rfl ?_
    refine z_loop (P := fun s : Int32 × zG => zAt E D (zA τ sz) (zQ E D zrV 0 0 sz τ τ r g') 2 (sz, τ, 0, 0) s.2 70 [(0, .ref a), (1, .int s.1)] []) (Px := fun x : zG => zAt E D (zA τ sz) (zQ E D zrV 0 0 sz τ τ r g') 2 (sz, τ, 0, 0) x 113 [(0, .ref a)] []) (0, g_68) (fun s => ?_) (fun x => ?_)
    · obtain ⟨l1_70, g_70⟩ := s
      show zSim (zKl (fun s : Int32 × zG => zAt E D (zA τ sz) (zQ E D zrV 0 0 sz τ τ r g') 2 (sz, τ, 0, 0) s.2 70 [(0, .ref a), (1, .int s.1)] []) (fun x : zG => zAt E D (zA τ sz) (zQ E D zrV 0 0 sz τ τ r g') 2 (sz, τ, 0, 0) x 113 [(0, .ref a)] [])) (l_X10_keepDraft_70 a l1_70 g_70) (zAt E D (zA τ sz) (zQ E D zrV 0 0 sz τ τ r g') 2 (sz, τ, 0, 0) g_70 70 [(0, .ref a), (1, .int l1_70)] [])
      unfold l_X10_keepDraft_70
      refine z_iload_n F 1 rfl rfl dX10_keepDraft_70 ?_
      refine z_bipush (v := 60) F (by decide) dX10_keepDraft_71 ?_
      refine z_icmp_ge (tgt := 113) F dX10_keepDraft_73 (by decide) (fun c27 => ?_) (fun c27 => ?_)
      · refine z_sub (lv' := [(0, .ref a)]) [0] rfl ?_
        exact z_back (fun h => h)
      · refine z_aload_n F 0 rfl rfl dX10_keepDraft_76 ?_
        refine gf_X10_16 F hta dX10_keepDraft_77 (fun ht28 => ?_)
        refine z_iload_n F 1 rfl rfl dX10_keepDraft_80 ?_
        refine z_aload_n F 0 rfl rfl dX10_keepDraft_81 ?_
        refine gf_X10_126 F hta dX10_keepDraft_82 ?_
        refine z_if_eq (tgt := 97) F dX10_keepDraft_85 (by decide) (fun c29 => ?_) (fun c29 => ?_)
        · refine z_iload_n F 1 rfl rfl dX10_keepDraft_97 ?_
          refine z_if_ne (tgt := 105) F dX10_keepDraft_98 (by decide) (fun c30 => ?_) (fun c30 => ?_)
          · refine z_iconst (v := 1) F (by decide) dX10_keepDraft_101 ?_
            refine z_goto (tgt := 106) F dX10_keepDraft_102 (by decide) ?_
            refine z_iast F ht28 dX10_keepDraft_106 ?_
            refine z_letg (fun g31 => ?_)
            refine z_iincl (lv' := fun v32 => [(1, .int v32), (0, .ref a)]) F 1 rfl (by decide) (by decide) dX10_keepDraft_107 (fun _ => rfl) (fun v32 => ?_)
            refine z_goto (tgt := 70) F dX10_keepDraft_110 (by decide) ?_
            refine z_sub (lv' := [(0, .ref a), (1, .int v32)]) [1, 0] rfl ?_
            exact z_back (fun h => h)
          · refine z_iconst (v := 0) F (by decide) dX10_keepDraft_105 ?_
            refine z_iast F ht28 dX10_keepDraft_106 ?_
            refine z_letg (fun g33 => ?_)
            refine z_iincl (lv' := fun v34 => [(1, .int v34), (0, .ref a)]) F 1 rfl (by decide) (by decide) dX10_keepDraft_107 (fun _ => rfl) (fun v34 => ?_)
            refine z_goto (tgt := 70) F dX10_keepDraft_110 (by decide) ?_
            refine z_sub (lv' := [(0, .ref a), (1, .int v34)]) [1, 0] rfl ?_
            exact z_back (fun h => h)
        · refine z_aload_n F 0 rfl rfl dX10_keepDraft_88 ?_
          refine gf_X10_40 F hta dX10_keepDraft_89 (fun ht35 => ?_)
          refine z_iload_n F 1 rfl rfl dX10_keepDraft_92 ?_
          refine z_iald F ht35 dX10_keepDraft_93 ?_
          refine z_goto (tgt := 106) F dX10_keepDraft_94 (by decide) ?_
          refine z_iast F ht28 dX10_keepDraft_106 ?_
          refine z_letg (fun g36 => ?_)
          refine z_iincl (lv' := fun v37 => [(1, .int v37), (0, .ref a)]) F 1 rfl (by decide) (by decide) dX10_keepDraft_107 (fun _ => rfl) (fun v37 => ?_)
          refine z_goto (tgt := 70) F dX10_keepDraft_110 (by decide) ?_
          refine z_sub (lv' := [(0, .ref a), (1, .int v37)]) [1, 0] rfl ?_
          exact z_back (fun h => h)
    · show zSim (fun q : Int32 × zG => q = (r, g')) (j_X10_keepDraft_113 a x) (zAt E D (zA τ sz) (zQ E D zrV 0 0 sz τ τ r g') 2 (sz, τ, 0, 0) x 113 [(0, .ref a)] [])
      exact hj_X10_keepDraft_113 x
  have hj_X10_keepDraft_42 : ∀  (g_42 : zG), zSim (fun q : Int32 × zG => q = (r, g')) (j_X10_keepDraft_42 a g_42) (zAt E D (zA τ sz) (zQ E D zrV 0 0 sz τ τ r g') 2 (sz, τ, 0, 0) g_42 42 [(0, .ref a)] []) := by
    intro g_42
    unfold j_X10_keepDraft_42
    refine z_iconst (v := 0) F (by decide) dX10_keepDraft_42 ?_
    refine z_istore_n (lv' := [(1, .int 0), (0, .ref a)]) F rfl (by decide) dX10_keepDraft_43 rfl ?_
    refine z_sub (lv' := [(0, .ref a), (1, .int 0)]) [1, 0] rfl ?_
    refine z_loop (P := fun s : Int32 × zG => zAt E D (zA τ sz) (zQ E D zrV 0 0 sz τ τ r g') 2 (sz, τ, 0, 0) s.2 44 [(0, .ref a), (1, .int s.1)] []) (Px := fun x : zG => zAt E D (zA τ sz) (zQ E D zrV 0 0 sz τ τ r g') 2 (sz, τ, 0, 0) x 68 [(0, .ref a)] []) (0, g_42) (fun s => ?_) (fun x => ?_)
    · obtain ⟨l1_44, g_44⟩ := s
      show zSim (zKl (fun s : Int32 × zG => zAt E D (zA τ sz) (zQ E D zrV 0 0 sz τ τ r g') 2 (sz, τ, 0, 0) s.2 44 [(0, .ref a), (1, .int s.1)] []) (fun x : zG => zAt E D (zA τ sz) (zQ E D zrV 0 0 sz τ τ r g') 2 (sz, τ, 0, 0) x 68 [(0, .ref a)] [])) (l_X10_keepDraft_44 a l1_44 g_44) (zAt E D (zA τ sz) (zQ E D zrV 0 0 sz τ τ r g') 2 (sz, τ, 0, 0) g_44 44 [(0, .ref a), (1, .int l1_44)] [])
      unfold l_X10_keepDraft_44
      refine z_iload_n F 1 rfl rfl dX10_keepDraft_44 ?_
      refine z_bipush (v := 8) F (by decide) dX10_keepDraft_45 ?_
      refine z_icmp_ge (tgt := 68) F dX10_keepDraft_47 (by decide) (fun c38 => ?_) (fun c38 => ?_)
      · refine z_sub (lv' := [(0, .ref a)]) [0] rfl ?_
        exact z_back (fun h => h)
      · refine z_aload_n F 0 rfl rfl dX10_keepDraft_50 ?_
        refine gf_X10_13 F hta dX10_keepDraft_51 (fun ht39 => ?_)
        refine z_iload_n F 1 rfl rfl dX10_keepDraft_54 ?_
        refine z_aload_n F 0 rfl rfl dX10_keepDraft_55 ?_
        refine gf_X10_37 F hta dX10_keepDraft_56 (fun ht40 => ?_)
        refine z_iload_n F 1 rfl rfl dX10_keepDraft_59 ?_
        refine z_iald F ht40 dX10_keepDraft_60 ?_
        refine z_iast F ht39 dX10_keepDraft_61 ?_
        refine z_letg (fun g41 => ?_)
        refine z_iincl (lv' := fun v42 => [(1, .int v42), (0, .ref a)]) F 1 rfl (by decide) (by decide) dX10_keepDraft_62 (fun _ => rfl) (fun v42 => ?_)
        refine z_goto (tgt := 44) F dX10_keepDraft_65 (by decide) ?_
        refine z_sub (lv' := [(0, .ref a), (1, .int v42)]) [1, 0] rfl ?_
        exact z_back (fun h => h)
    · show zSim (fun q : Int32 × zG => q = (r, g')) (j_X10_keepDraft_68 a x) (zAt E D (zA τ sz) (zQ E D zrV 0 0 sz τ τ r g') 2 (sz, τ, 0, 0) x 68 [(0, .ref a)] [])
      exact hj_X10_keepDraft_68 x
  unfold f_X10_keepDraft
  refine z_aload_n F 0 rfl rfl dX10_keepDraft_0 ?_
  refine z_aload_n F 0 rfl rfl dX10_keepDraft_1 ?_
  refine gf_X10_122 F hta dX10_keepDraft_2 ?_
  refine pf_X10_139 F hta dX10_keepDraft_5 ?_
  refine z_letg (fun g43 => ?_)
  refine z_aload_n F 0 rfl rfl dX10_keepDraft_8 ?_
  refine z_aload_n F 0 rfl rfl dX10_keepDraft_9 ?_
  refine gf_X10_130 F hta dX10_keepDraft_10 ?_
  refine pf_X10_142 F hta dX10_keepDraft_13 ?_
  refine z_letg (fun g44 => ?_)
  refine z_iconst (v := 0) F (by decide) dX10_keepDraft_16 ?_
  refine z_istore_n (lv' := [(1, .int 0), (0, .ref a)]) F rfl (by decide) dX10_keepDraft_17 rfl ?_
  refine z_sub (lv' := [(0, .ref a), (1, .int 0)]) [1, 0] rfl ?_
  refine z_loop (P := fun s : Int32 × zG => zAt E D (zA τ sz) (zQ E D zrV 0 0 sz τ τ r g') 2 (sz, τ, 0, 0) s.2 18 [(0, .ref a), (1, .int s.1)] []) (Px := fun x : zG => zAt E D (zA τ sz) (zQ E D zrV 0 0 sz τ τ r g') 2 (sz, τ, 0, 0) x 42 [(0, .ref a)] []) (0, g44) (fun s => ?_) (fun x => ?_)
  · obtain ⟨l1_18, g_18⟩ := s
    show zSim (zKl (fun s : Int32 × zG => zAt E D (zA τ sz) (zQ E D zrV 0 0 sz τ τ r g') 2 (sz, τ, 0, 0) s.2 18 [(0, .ref a), (1, .int s.1)] []) (fun x : zG => zAt E D (zA τ sz) (zQ E D zrV 0 0 sz τ τ r g') 2 (sz, τ, 0, 0) x 42 [(0, .ref a)] [])) (l_X10_keepDraft_18 a l1_18 g_18) (zAt E D (zA τ sz) (zQ E D zrV 0 0 sz τ τ r g') 2 (sz, τ, 0, 0) g_18 18 [(0, .ref a), (1, .int l1_18)] [])
    unfold l_X10_keepDraft_18
    refine z_iload_n F 1 rfl rfl dX10_keepDraft_18 ?_
    refine z_bipush (v := 49) F (by decide) dX10_keepDraft_19 ?_
    refine z_icmp_ge (tgt := 42) F dX10_keepDraft_21 (by decide) (fun c45 => ?_) (fun c45 => ?_)
    · refine z_sub (lv' := [(0, .ref a)]) [0] rfl ?_
      exact z_back (fun h => h)
    · refine z_aload_n F 0 rfl rfl dX10_keepDraft_24 ?_
      refine gf_X10_7 F hta dX10_keepDraft_25 (fun ht46 => ?_)
      refine z_iload_n F 1 rfl rfl dX10_keepDraft_28 ?_
      refine z_aload_n F 0 rfl rfl dX10_keepDraft_29 ?_
      refine gf_X10_34 F hta dX10_keepDraft_30 (fun ht47 => ?_)
      refine z_iload_n F 1 rfl rfl dX10_keepDraft_33 ?_
      refine z_iald F ht47 dX10_keepDraft_34 ?_
      refine z_iast F ht46 dX10_keepDraft_35 ?_
      refine z_letg (fun g48 => ?_)
      refine z_iincl (lv' := fun v49 => [(1, .int v49), (0, .ref a)]) F 1 rfl (by decide) (by decide) dX10_keepDraft_36 (fun _ => rfl) (fun v49 => ?_)
      refine z_goto (tgt := 18) F dX10_keepDraft_39 (by decide) ?_
      refine z_sub (lv' := [(0, .ref a), (1, .int v49)]) [1, 0] rfl ?_
      exact z_back (fun h => h)
  · show zSim (fun q : Int32 × zG => q = (r, g')) (j_X10_keepDraft_42 a x) (zAt E D (zA τ sz) (zQ E D zrV 0 0 sz τ τ r g') 2 (sz, τ, 0, 0) x 42 [(0, .ref a)] [])
    exact hj_X10_keepDraft_42 x
theorem k_X10_keepDraft {ρ : Type} {K : ρ → Prop} {E : zE} {D : zD} {A : Nat → Prop} {Q : State → Prop} {nL : Nat} {κ : zC} {g : zG} {pc : Nat} {lv : List (Nat × Value)} {st : List Value} {cc : ByteArray} {own : String} {ret : Option FieldType} (F : zF E D A cc own nL ret) {index : Nat} {h : Int32 → zG → Option ρ} {a : Nat}  (hR : 1 + 1 ≤ E.2.2.2.1.frames ∧ 8 + (2 + 11) + 21 ≤ E.2.2.2.1.locals) (hl : zTbl (.methodLink own index yX10_keepDraft)) (hta : κ.2.1 a = some (.inr 10)) (hc : κ.2.2.1 ≤ E.2.2.2.1.cells ∧ κ.2.2.2 ≤ E.2.2.2.1.slots) (hW : (st.map fun v => v.category).sum ≤ 8) (hd : decode cc pc = .ok (.invokevirtual index, 3)) (kk : ∀ r g', zSim K (h r g') (zAt E D A Q nL κ g' (pc + 3) lv (st))) : zSim K (zb (f_X10_keepDraft a g) h) (zAt E D A Q nL κ g pc lv (.ref a :: st)) :=
  z_callV F (n := 0) (As := []) (C := (RX10, TX10, 61)) ⟨q_879, q_14, by decide +kernel, rfl, rfl, hR.1, hR.2⟩ (c_X10_keepDraft E.2.1 D κ.1 κ.2.1 g a hta) hl q_878 q_1390 hta rfl rfl rfl hc hW hd kk _ rfl
theorem dX10_text_0 : decode cX10_text 0 = .ok (.iconst 0, 1) := by decide +kernel
theorem dX10_text_1 : decode cX10_text 1 = .ok (.istore_n 1, 1) := by decide +kernel
theorem dX10_text_2 : decode cX10_text 2 = .ok (.aload_n 0, 1) := by decide +kernel
theorem dX10_text_3 : decode cX10_text 3 = .ok (.iconst 0, 1) := by decide +kernel
theorem dX10_text_4 : decode cX10_text 4 = .ok (.putfield 169, 3) := by decide +kernel
theorem dX10_text_7 : decode cX10_text 7 = .ok (.aload_n 0, 1) := by decide +kernel
theorem dX10_text_8 : decode cX10_text 8 = .ok (.iconst 0, 1) := by decide +kernel
theorem dX10_text_9 : decode cX10_text 9 = .ok (.putfield 178, 3) := by decide +kernel
theorem dX10_text_12 : decode cX10_text 12 = .ok (.aload_n 0, 1) := by decide +kernel
theorem dX10_text_13 : decode cX10_text 13 = .ok (.invokevirtual 116, 3) := by decide +kernel
theorem dX10_text_16 : decode cX10_text 16 = .ok (.aload_n 0, 1) := by decide +kernel
theorem dX10_text_17 : decode cX10_text 17 = .ok (.invokevirtual 211, 3) := by decide +kernel
theorem dX10_text_20 : decode cX10_text 20 = .ok (.aload_n 0, 1) := by decide +kernel
theorem dX10_text_21 : decode cX10_text 21 = .ok (.getfield 169, 3) := by decide +kernel
theorem dX10_text_24 : decode cX10_text 24 = .ok (.ifCond .ne 20, 3) := by decide +kernel
theorem dX10_text_27 : decode cX10_text 27 = .ok (.aload_n 0, 1) := by decide +kernel
theorem dX10_text_28 : decode cX10_text 28 = .ok (.getfield 193, 3) := by decide +kernel
theorem dX10_text_31 : decode cX10_text 31 = .ok (.ifCond .eq 13, 3) := by decide +kernel
theorem dX10_text_34 : decode cX10_text 34 = .ok (.aload_n 0, 1) := by decide +kernel
theorem dX10_text_35 : decode cX10_text 35 = .ok (.invokevirtual 247, 3) := by decide +kernel
theorem dX10_text_38 : decode cX10_text 38 = .ok (.iinc 1 1, 3) := by decide +kernel
theorem dX10_text_41 : decode cX10_text 41 = .ok (.goto (-21), 3) := by decide +kernel
theorem dX10_text_44 : decode cX10_text 44 = .ok (.aload_n 0, 1) := by decide +kernel
theorem dX10_text_45 : decode cX10_text 45 = .ok (.iconst 0, 1) := by decide +kernel
theorem dX10_text_46 : decode cX10_text 46 = .ok (.putfield 160, 3) := by decide +kernel
theorem dX10_text_49 : decode cX10_text 49 = .ok (.iconst 0, 1) := by decide +kernel
theorem dX10_text_50 : decode cX10_text 50 = .ok (.istore_n 2, 1) := by decide +kernel
theorem dX10_text_51 : decode cX10_text 51 = .ok (.iload_n 2, 1) := by decide +kernel
theorem dX10_text_52 : decode cX10_text 52 = .ok (.aload_n 0, 1) := by decide +kernel
theorem dX10_text_53 : decode cX10_text 53 = .ok (.getfield 136, 3) := by decide +kernel
theorem dX10_text_56 : decode cX10_text 56 = .ok (.if_icmp .ge 92, 3) := by decide +kernel
theorem dX10_text_59 : decode cX10_text 59 = .ok (.aload_n 0, 1) := by decide +kernel
theorem dX10_text_60 : decode cX10_text 60 = .ok (.getfield 169, 3) := by decide +kernel
theorem dX10_text_63 : decode cX10_text 63 = .ok (.ifCond .ne 85, 3) := by decide +kernel
theorem dX10_text_66 : decode cX10_text 66 = .ok (.aload_n 0, 1) := by decide +kernel
theorem dX10_text_67 : decode cX10_text 67 = .ok (.getfield 62, 3) := by decide +kernel
theorem dX10_text_70 : decode cX10_text 70 = .ok (.iload_n 2, 1) := by decide +kernel
theorem dX10_text_71 : decode cX10_text 71 = .ok (.iaload, 1) := by decide +kernel
theorem dX10_text_72 : decode cX10_text 72 = .ok (.istore_n 3, 1) := by decide +kernel
theorem dX10_text_73 : decode cX10_text 73 = .ok (.aload_n 0, 1) := by decide +kernel
theorem dX10_text_74 : decode cX10_text 74 = .ok (.iload_n 3, 1) := by decide +kernel
theorem dX10_text_75 : decode cX10_text 75 = .ok (.ifCond .lt 19, 3) := by decide +kernel
theorem dX10_text_78 : decode cX10_text 78 = .ok (.iload_n 3, 1) := by decide +kernel
theorem dX10_text_79 : decode cX10_text 79 = .ok (.aload_n 0, 1) := by decide +kernel
theorem dX10_text_80 : decode cX10_text 80 = .ok (.getfield 37, 3) := by decide +kernel
theorem dX10_text_83 : decode cX10_text 83 = .ok (.bipush 7, 2) := by decide +kernel
theorem dX10_text_85 : decode cX10_text 85 = .ok (.iaload, 1) := by decide +kernel
theorem dX10_text_86 : decode cX10_text 86 = .ok (.if_icmp .lt 8, 3) := by decide +kernel
theorem dX10_text_89 : decode cX10_text 89 = .ok (.bipush 6, 2) := by decide +kernel
theorem dX10_text_91 : decode cX10_text 91 = .ok (.goto 24, 3) := by decide +kernel
theorem dX10_text_94 : decode cX10_text 94 = .ok (.iload_n 3, 1) := by decide +kernel
theorem dX10_text_95 : decode cX10_text 95 = .ok (.ifCond .ge 19, 3) := by decide +kernel
theorem dX10_text_98 : decode cX10_text 98 = .ok (.iload_n 3, 1) := by decide +kernel
theorem dX10_text_99 : decode cX10_text 99 = .ok (.ineg, 1) := by decide +kernel
theorem dX10_text_100 : decode cX10_text 100 = .ok (.aload_n 0, 1) := by decide +kernel
theorem dX10_text_101 : decode cX10_text 101 = .ok (.getfield 37, 3) := by decide +kernel
theorem dX10_text_104 : decode cX10_text 104 = .ok (.iconst 3, 1) := by decide +kernel
theorem dX10_text_105 : decode cX10_text 105 = .ok (.iaload, 1) := by decide +kernel
theorem dX10_text_106 : decode cX10_text 106 = .ok (.if_icmp .le 8, 3) := by decide +kernel
theorem dX10_text_109 : decode cX10_text 109 = .ok (.bipush 7, 2) := by decide +kernel
theorem dX10_text_111 : decode cX10_text 111 = .ok (.goto 4, 3) := by decide +kernel
theorem dX10_text_114 : decode cX10_text 114 = .ok (.iconst 0, 1) := by decide +kernel
theorem dX10_text_115 : decode cX10_text 115 = .ok (.putfield 169, 3) := by decide +kernel
theorem dX10_text_118 : decode cX10_text 118 = .ok (.aload_n 0, 1) := by decide +kernel
theorem dX10_text_119 : decode cX10_text 119 = .ok (.aload_n 0, 1) := by decide +kernel
theorem dX10_text_120 : decode cX10_text 120 = .ok (.getfield 169, 3) := by decide +kernel
theorem dX10_text_123 : decode cX10_text 123 = .ok (.ifCond .le 12, 3) := by decide +kernel
theorem dX10_text_126 : decode cX10_text 126 = .ok (.aload_n 0, 1) := by decide +kernel
theorem dX10_text_127 : decode cX10_text 127 = .ok (.getfield 65, 3) := by decide +kernel
theorem dX10_text_130 : decode cX10_text 130 = .ok (.iload_n 2, 1) := by decide +kernel
theorem dX10_text_131 : decode cX10_text 131 = .ok (.iaload, 1) := by decide +kernel
theorem dX10_text_132 : decode cX10_text 132 = .ok (.goto 7, 3) := by decide +kernel
theorem dX10_text_135 : decode cX10_text 135 = .ok (.aload_n 0, 1) := by decide +kernel
theorem dX10_text_136 : decode cX10_text 136 = .ok (.getfield 175, 3) := by decide +kernel
theorem dX10_text_139 : decode cX10_text 139 = .ok (.putfield 175, 3) := by decide +kernel
theorem dX10_text_142 : decode cX10_text 142 = .ok (.iinc 2 1, 3) := by decide +kernel
theorem dX10_text_145 : decode cX10_text 145 = .ok (.goto (-94), 3) := by decide +kernel
theorem dX10_text_148 : decode cX10_text 148 = .ok (.aload_n 0, 1) := by decide +kernel
theorem dX10_text_149 : decode cX10_text 149 = .ok (.getfield 169, 3) := by decide +kernel
theorem dX10_text_152 : decode cX10_text 152 = .ok (.ifCond .le 11, 3) := by decide +kernel
theorem dX10_text_155 : decode cX10_text 155 = .ok (.bipush (-10), 2) := by decide +kernel
theorem dX10_text_157 : decode cX10_text 157 = .ok (.aload_n 0, 1) := by decide +kernel
theorem dX10_text_158 : decode cX10_text 158 = .ok (.getfield 175, 3) := by decide +kernel
theorem dX10_text_161 : decode cX10_text 161 = .ok (.isub, 1) := by decide +kernel
theorem dX10_text_162 : decode cX10_text 162 = .ok (.ireturn, 1) := by decide +kernel
theorem dX10_text_163 : decode cX10_text 163 = .ok (.aload_n 0, 1) := by decide +kernel
theorem dX10_text_164 : decode cX10_text 164 = .ok (.invokevirtual 119, 3) := by decide +kernel
theorem dX10_text_167 : decode cX10_text 167 = .ok (.iload_n 1, 1) := by decide +kernel
theorem dX10_text_168 : decode cX10_text 168 = .ok (.ireturn, 1) := by decide +kernel
def j_X10_text_148 (a : Nat) (l1 : Int32) (g : zG) : Option (Int32 × zG) :=
  if (g.1 a 32) ≤ 0 then (zb (f_X10_keepDraft a g) (fun v2 g3 => some ((l1, g3)))) else (some (((-10) - (g.1 a 33), g)))
def j_X10_text_115_51 (a : Nat) (l1 : Int32) (l2 : Int32) (s0 : Nat) (s1 : Int32) (g : zG) : Option ((Int32 × zG) ⊕ (zG)) :=
  zl (zsi g s0 32 s1) (fun g5 => if (g5.1 a 32) ≤ 0 then (zl (zsi g5 a 33 (g5.1 a 33)) (fun g7 => zl (l2 + 1) (fun v8 => some (.inl (v8, g7))))) else (zc (zin l2 64) (zl (zsi g5 a 33 (g5.1 (g5.2.1 a 25) l2.toNatClampNeg)) (fun g10 => zl (l2 + 1) (fun v11 => some (.inl (v11, g10)))))))
def j_X10_text_114_51 (a : Nat) (l1 : Int32) (l2 : Int32) (s0 : Nat) (g : zG) : Option ((Int32 × zG) ⊕ (zG)) :=
  j_X10_text_115_51 a l1 l2 s0 0 g
def j_X10_text_94_51 (a : Nat) (l1 : Int32) (l2 : Int32) (l3 : Int32) (s0 : Nat) (g : zG) : Option ((Int32 × zG) ⊕ (zG)) :=
  if 0 ≤ l3 then (j_X10_text_114_51 a l1 l2 s0 g) else (zc (zin 3 8) (if (-l3) ≤ (g.1 (g.2.1 a 12) (3 : Int32).toNatClampNeg) then (j_X10_text_114_51 a l1 l2 s0 g) else (j_X10_text_115_51 a l1 l2 s0 7 g)))
def l_X10_text_51 (a : Nat) (l1 : Int32) (l2 : Int32) (g : zG) : Option ((Int32 × zG) ⊕ (zG)) :=
  if (g.1 a 23) ≤ l2 then (some (.inr g)) else (if (g.1 a 32) = 0 then (zc (zin l2 64) (zl (g.1 (g.2.1 a 24) l2.toNatClampNeg) (fun v18 => if v18 < 0 then (j_X10_text_94_51 a l1 l2 v18 a g) else (zc (zin 7 8) (if v18 < (g.1 (g.2.1 a 12) (7 : Int32).toNatClampNeg) then (j_X10_text_94_51 a l1 l2 v18 a g) else (j_X10_text_115_51 a l1 l2 a 6 g)))))) else (some (.inr g)))
def j_X10_text_44 (a : Nat) (l1 : Int32) (g : zG) : Option (Int32 × zG) :=
  zl (zsi g a 27 0) (fun g4 => zk (zw zN (fun s => l_X10_text_51 a l1 s.1 s.2) (0, g4)) (fun x => j_X10_text_148 a l1 x))
def l_X10_text_20 (a : Nat) (l1 : Int32) (g : zG) : Option ((Int32 × zG) ⊕ (Int32 × zG)) :=
  if (g.1 a 32) = 0 then (if (g.1 a 30) = 0 then (some (.inr (l1, g))) else (zb (f_X10_readLine a g) (fun v30 g31 => zl (l1 + 1) (fun v32 => some (.inl (v32, g31)))))) else (some (.inr (l1, g)))
def f_X10_text (a : Nat) (g : zG) : Option (Int32 × zG) :=
  zl (zsi g a 32 0) (fun g22 => zl (zsi g22 a 28 0) (fun g23 => zb (f_X10_firstDraft a g23) (fun v24 g25 => zb (f_X10_next a g25) (fun v26 g27 => zk (zw zN (fun s => l_X10_text_20 a s.1 s.2) (0, g27)) (fun x => j_X10_text_44 a x.1 x.2)))))
abbrev rm_X10_text : Room := { frames := 5, cells := 0, slots := 0, locals := 115 }
set_option maxRecDepth 100000 in
set_option maxHeartbeats 4000000 in
theorem c_X10_text (l : Launch) (D : zD) (sz : Nat) (τ : zT) (g : zG) (a : Nat) (hta : τ a = some (.inr 10)) : zCon l D yX10_text cX10_text 4 (some .int) rm_X10_text 0 0 zrI [.ref a] sz τ g τ (f_X10_text a g) := by
  refine zCon.of (by decide) (Nat.le_of_ble_eq_true rfl) (fun E r g' hl hR hsz hnm F => ?_)
  have F : zF E D (zA τ sz) cX10_text "TypeChainModel" 4 (some .int) := F
  show zSim (fun q : Int32 × zG => q = (r, g')) (f_X10_text a g) (zAt E D (zA τ sz) (zQ E D zrI 0 0 sz τ τ r g') 4 (sz, τ, 0, 0) g 0 [(0, .ref a)] [])
  have hj_X10_text_148 : ∀ (l1_148 : Int32) (g_148 : zG), zSim (fun q : Int32 × zG => q = (r, g')) (j_X10_text_148 a l1_148 g_148) (zAt E D (zA τ sz) (zQ E D zrI 0 0 sz τ τ r g') 4 (sz, τ, 0, 0) g_148 148 [(0, .ref a), (1, .int l1_148)] []) := by
    intro l1_148 g_148
    unfold j_X10_text_148
    refine z_aload_n F 0 rfl rfl dX10_text_148 ?_
    refine gf_X10_169 F hta dX10_text_149 ?_
    refine z_if_le (tgt := 163) F dX10_text_152 (by decide) (fun c1 => ?_) (fun c1 => ?_)
    · refine z_aload_n F 0 rfl rfl dX10_text_163 ?_
      refine k_X10_keepDraft F (by rw [hR]; exact ⟨by decide, by decide⟩) q_876 hta ⟨Nat.zero_le _, Nat.zero_le _⟩ (Nat.le_of_ble_eq_true rfl) dX10_text_164 (fun v2 g3 => ?_)
      refine z_iload_n F 1 rfl rfl dX10_text_167 ?_
      exact z_ireturn F rfl rfl rfl rfl (fun h => h) dX10_text_168
    · refine z_bipush (v := (-10)) F (by decide) dX10_text_155 ?_
      refine z_aload_n F 0 rfl rfl dX10_text_157 ?_
      refine gf_X10_175 F hta dX10_text_158 ?_
      refine z_isub F dX10_text_161 ?_
      exact z_ireturn F rfl rfl rfl rfl (fun h => h) dX10_text_162
  have hj_X10_text_44 : ∀ (l1_44 : Int32) (g_44 : zG), zSim (fun q : Int32 × zG => q = (r, g')) (j_X10_text_44 a l1_44 g_44) (zAt E D (zA τ sz) (zQ E D zrI 0 0 sz τ τ r g') 4 (sz, τ, 0, 0) g_44 44 [(0, .ref a), (1, .int l1_44)] []) := by
    intro l1_44 g_44
    unfold j_X10_text_44
    refine z_aload_n F 0 rfl rfl dX10_text_44 ?_
    refine z_iconst (v := 0) F (by decide) dX10_text_45 ?_
    refine pf_X10_160 F hta dX10_text_46 ?_
    refine z_letg (fun g4 => ?_)
    refine z_iconst (v := 0) F (by decide) dX10_text_49 ?_
    refine z_istore_n (lv' := [(2, .int 0), (0, .ref a), (1, .int l1_44)]) F rfl (by decide) dX10_text_50 rfl ?_
    refine z_sub (lv' := [(0, .ref a), (1, .int l1_44), (2, .int 0)]) [1, 2, 0] rfl ?_
    refine z_loop (P := fun s : Int32 × zG => zAt E D (zA τ sz) (zQ E D zrI 0 0 sz τ τ r g') 4 (sz, τ, 0, 0) s.2 51 [(0, .ref a), (1, .int l1_44), (2, .int s.1)] []) (Px := fun x : zG => zAt E D (zA τ sz) (zQ E D zrI 0 0 sz τ τ r g') 4 (sz, τ, 0, 0) x 148 [(0, .ref a), (1, .int l1_44)] []) (0, g4) (fun s => ?_) (fun x => ?_)
    · obtain ⟨l2_51, g_51⟩ := s
      show zSim (zKl (fun s : Int32 × zG => zAt E D (zA τ sz) (zQ E D zrI 0 0 sz τ τ r g') 4 (sz, τ, 0, 0) s.2 51 [(0, .ref a), (1, .int l1_44), (2, .int s.1)] []) (fun x : zG => zAt E D (zA τ sz) (zQ E D zrI 0 0 sz τ τ r g') 4 (sz, τ, 0, 0) x 148 [(0, .ref a), (1, .int l1_44)] [])) (l_X10_text_51 a l1_44 l2_51 g_51) (zAt E D (zA τ sz) (zQ E D zrI 0 0 sz τ τ r g') 4 (sz, τ, 0, 0) g_51 51 [(0, .ref a), (1, .int l1_44), (2, .int l2_51)] [])
      have hj_X10_text_115_51 : ∀ (l2_115 : Int32) (s0_115 : Nat) (s1_115 : Int32) (g_115 : zG), τ s0_115 = some (.inr 10) → zSim (zKl (fun s : Int32 × zG => zAt E D (zA τ sz) (zQ E D zrI 0 0 sz τ τ r g') 4 (sz, τ, 0, 0) s.2 51 [(0, .ref a), (1, .int l1_44), (2, .int s.1)] []) (fun x : zG => zAt E D (zA τ sz) (zQ E D zrI 0 0 sz τ τ r g') 4 (sz, τ, 0, 0) x 148 [(0, .ref a), (1, .int l1_44)] [])) (j_X10_text_115_51 a l1_44 l2_115 s0_115 s1_115 g_115) (zAt E D (zA τ sz) (zQ E D zrI 0 0 sz τ τ r g') 4 (sz, τ, 0, 0) g_115 115 [(0, .ref a), (1, .int l1_44), (2, .int l2_115)] [.int s1_115, .ref s0_115]) := by
        intro l2_115 s0_115 s1_115 g_115 ht_s0_115
        unfold j_X10_text_115_51
        refine pf_X10_169 F ht_s0_115 dX10_text_115 ?_
        refine z_letg (fun g5 => ?_)
        refine z_aload_n F 0 rfl rfl dX10_text_118 ?_
        refine z_aload_n F 0 rfl rfl dX10_text_119 ?_
        refine gf_X10_169 F hta dX10_text_120 ?_
        refine z_if_le (tgt := 135) F dX10_text_123 (by decide) (fun c6 => ?_) (fun c6 => ?_)
        · refine z_aload_n F 0 rfl rfl dX10_text_135 ?_
          refine gf_X10_175 F hta dX10_text_136 ?_
          refine pf_X10_175 F hta dX10_text_139 ?_
          refine z_letg (fun g7 => ?_)
          refine z_iincl (lv' := fun v8 => [(2, .int v8), (0, .ref a), (1, .int l1_44)]) F 2 rfl (by decide) (by decide) dX10_text_142 (fun _ => rfl) (fun v8 => ?_)
          refine z_goto (tgt := 51) F dX10_text_145 (by decide) ?_
          refine z_sub (lv' := [(0, .ref a), (1, .int l1_44), (2, .int v8)]) [1, 2, 0] rfl ?_
          exact z_back (fun h => h)
        · refine z_aload_n F 0 rfl rfl dX10_text_126 ?_
          refine gf_X10_65 F hta dX10_text_127 (fun ht9 => ?_)
          refine z_iload_n F 2 rfl rfl dX10_text_130 ?_
          refine z_iald F ht9 dX10_text_131 ?_
          refine z_goto (tgt := 139) F dX10_text_132 (by decide) ?_
          refine pf_X10_175 F hta dX10_text_139 ?_
          refine z_letg (fun g10 => ?_)
          refine z_iincl (lv' := fun v11 => [(2, .int v11), (0, .ref a), (1, .int l1_44)]) F 2 rfl (by decide) (by decide) dX10_text_142 (fun _ => rfl) (fun v11 => ?_)
          refine z_goto (tgt := 51) F dX10_text_145 (by decide) ?_
          refine z_sub (lv' := [(0, .ref a), (1, .int l1_44), (2, .int v11)]) [1, 2, 0] rfl ?_
          exact z_back (fun h => h)
      have hj_X10_text_114_51 : ∀ (l2_114 : Int32) (s0_114 : Nat) (g_114 : zG), τ s0_114 = some (.inr 10) → zSim (zKl (fun s : Int32 × zG => zAt E D (zA τ sz) (zQ E D zrI 0 0 sz τ τ r g') 4 (sz, τ, 0, 0) s.2 51 [(0, .ref a), (1, .int l1_44), (2, .int s.1)] []) (fun x : zG => zAt E D (zA τ sz) (zQ E D zrI 0 0 sz τ τ r g') 4 (sz, τ, 0, 0) x 148 [(0, .ref a), (1, .int l1_44)] [])) (j_X10_text_114_51 a l1_44 l2_114 s0_114 g_114) (zAt E D (zA τ sz) (zQ E D zrI 0 0 sz τ τ r g') 4 (sz, τ, 0, 0) g_114 114 [(0, .ref a), (1, .int l1_44), (2, .int l2_114)] [.ref s0_114]) := by
        intro l2_114 s0_114 g_114 ht_s0_114
        unfold j_X10_text_114_51
        refine z_iconst (v := 0) F (by decide) dX10_text_114 ?_
        exact hj_X10_text_115_51 l2_114 s0_114 0 g_114 ht_s0_114
      have hj_X10_text_94_51 : ∀ (l2_94 : Int32) (l3_94 : Int32) (s0_94 : Nat) (g_94 : zG), τ s0_94 = some (.inr 10) → zSim (zKl (fun s : Int32 × zG => zAt E D (zA τ sz) (zQ E D zrI 0 0 sz τ τ r g') 4 (sz, τ, 0, 0) s.2 51 [(0, .ref a), (1, .int l1_44), (2, .int s.1)] []) (fun x : zG => zAt E D (zA τ sz) (zQ E D zrI 0 0 sz τ τ r g') 4 (sz, τ, 0, 0) x 148 [(0, .ref a), (1, .int l1_44)] [])) (j_X10_text_94_51 a l1_44 l2_94 l3_94 s0_94 g_94) (zAt E D (zA τ sz) (zQ E D zrI 0 0 sz τ τ r g') 4 (sz, τ, 0, 0) g_94 94 [(0, .ref a), (1, .int l1_44), (2, .int l2_94), (3, .int l3_94)] [.ref s0_94]) := by
        intro l2_94 l3_94 s0_94 g_94 ht_s0_94
        unfold j_X10_text_94_51
        refine z_iload_n F 3 rfl rfl dX10_text_94 ?_
        refine z_if_ge (tgt := 114) F dX10_text_95 (by decide) (fun c12 => ?_) (fun c12 => ?_)
        · refine z_sub (lv' := [(0, .ref a), (1, .int l1_44), (2, .int l2_94)]) [0, 1, 2] rfl ?_
          exact hj_X10_text_114_51 l2_94 s0_94 g_94 ht_s0_94
        · refine z_iload_n F 3 rfl rfl dX10_text_98 ?_
          refine z_ineg F dX10_text_99 ?_
          refine z_aload_n F 0 rfl rfl dX10_text_100 ?_
          refine gf_X10_37 F hta dX10_text_101 (fun ht13 => ?_)
          refine z_iconst (v := 3) F (by decide) dX10_text_104 ?_
          refine z_iald F ht13 dX10_text_105 ?_
          refine z_icmp_le (tgt := 114) F dX10_text_106 (by decide) (fun c14 => ?_) (fun c14 => ?_)
          · refine z_sub (lv' := [(0, .ref a), (1, .int l1_44), (2, .int l2_94)]) [0, 1, 2] rfl ?_
            exact hj_X10_text_114_51 l2_94 s0_94 g_94 ht_s0_94
          · refine z_bipush (v := 7) F (by decide) dX10_text_109 ?_
            refine z_goto (tgt := 115) F dX10_text_111 (by decide) ?_
            refine z_sub (lv' := [(0, .ref a), (1, .int l1_44), (2, .int l2_94)]) [0, 1, 2] rfl ?_
            exact hj_X10_text_115_51 l2_94 s0_94 7 g_94 ht_s0_94
      unfold l_X10_text_51
      refine z_iload_n F 2 rfl rfl dX10_text_51 ?_
      refine z_aload_n F 0 rfl rfl dX10_text_52 ?_
      refine gf_X10_136 F hta dX10_text_53 ?_
      refine z_icmp_ge (tgt := 148) F dX10_text_56 (by decide) (fun c15 => ?_) (fun c15 => ?_)
      · refine z_sub (lv' := [(0, .ref a), (1, .int l1_44)]) [0, 1] rfl ?_
        exact z_back (fun h => h)
      · refine z_aload_n F 0 rfl rfl dX10_text_59 ?_
        refine gf_X10_169 F hta dX10_text_60 ?_
        refine z_if_ne (tgt := 148) F dX10_text_63 (by decide) (fun c16 => ?_) (fun c16 => ?_)
        · refine z_aload_n F 0 rfl rfl dX10_text_66 ?_
          refine gf_X10_62 F hta dX10_text_67 (fun ht17 => ?_)
          refine z_iload_n F 2 rfl rfl dX10_text_70 ?_
          refine z_iald F ht17 dX10_text_71 ?_
          refine z_leti (fun v18 => ?_)
          refine z_istore_n (lv' := [(3, .int v18), (0, .ref a), (1, .int l1_44), (2, .int l2_51)]) F rfl (by decide) dX10_text_72 rfl ?_
          refine z_aload_n F 1 rfl rfl dX10_text_73 ?_
          refine z_iload_n F 0 rfl rfl dX10_text_74 ?_
          refine z_if_lt (tgt := 94) F dX10_text_75 (by decide) (fun c19 => ?_) (fun c19 => ?_)
          · refine z_sub (lv' := [(0, .ref a), (1, .int l1_44), (2, .int l2_51), (3, .int v18)]) [1, 2, 3, 0] rfl ?_
            exact hj_X10_text_94_51 l2_51 v18 a g_51 hta
          · refine z_iload_n F 0 rfl rfl dX10_text_78 ?_
            refine z_aload_n F 1 rfl rfl dX10_text_79 ?_
            refine gf_X10_37 F hta dX10_text_80 (fun ht20 => ?_)
            refine z_bipush (v := 7) F (by decide) dX10_text_83 ?_
            refine z_iald F ht20 dX10_text_85 ?_
            refine z_icmp_lt (tgt := 94) F dX10_text_86 (by decide) (fun c21 => ?_) (fun c21 => ?_)
            · refine z_sub (lv' := [(0, .ref a), (1, .int l1_44), (2, .int l2_51), (3, .int v18)]) [1, 2, 3, 0] rfl ?_
              exact hj_X10_text_94_51 l2_51 v18 a g_51 hta
            · refine z_bipush (v := 6) F (by decide) dX10_text_89 ?_
              refine z_goto (tgt := 115) F dX10_text_91 (by decide) ?_
              refine z_sub (lv' := [(0, .ref a), (1, .int l1_44), (2, .int l2_51)]) [1, 2, 3] rfl ?_
              exact hj_X10_text_115_51 l2_51 a 6 g_51 hta
        · refine z_sub (lv' := [(0, .ref a), (1, .int l1_44)]) [0, 1] rfl ?_
          exact z_back (fun h => h)
    · show zSim (fun q : Int32 × zG => q = (r, g')) (j_X10_text_148 a l1_44 x) (zAt E D (zA τ sz) (zQ E D zrI 0 0 sz τ τ r g') 4 (sz, τ, 0, 0) x 148 [(0, .ref a), (1, .int l1_44)] [])
      exact hj_X10_text_148 l1_44 x
  unfold f_X10_text
  refine z_iconst (v := 0) F (by decide) dX10_text_0 ?_
  refine z_istore_n (lv' := [(1, .int 0), (0, .ref a)]) F rfl (by decide) dX10_text_1 rfl ?_
  refine z_aload_n F 1 rfl rfl dX10_text_2 ?_
  refine z_iconst (v := 0) F (by decide) dX10_text_3 ?_
  refine pf_X10_169 F hta dX10_text_4 ?_
  refine z_letg (fun g22 => ?_)
  refine z_aload_n F 1 rfl rfl dX10_text_7 ?_
  refine z_iconst (v := 0) F (by decide) dX10_text_8 ?_
  refine pf_X10_178 F hta dX10_text_9 ?_
  refine z_letg (fun g23 => ?_)
  refine z_aload_n F 1 rfl rfl dX10_text_12 ?_
  refine k_X10_firstDraft F (by rw [hR]; exact ⟨by decide, by decide⟩) q_872 hta ⟨Nat.zero_le _, Nat.zero_le _⟩ (Nat.le_of_ble_eq_true rfl) dX10_text_13 (fun v24 g25 => ?_)
  refine z_aload_n F 1 rfl rfl dX10_text_16 ?_
  refine k_X10_next F (by rw [hR]; exact ⟨by decide, by decide⟩) q_1089 hta ⟨Nat.zero_le _, Nat.zero_le _⟩ (Nat.le_of_ble_eq_true rfl) dX10_text_17 (fun v26 g27 => ?_)
  refine z_sub (lv' := [(0, .ref a), (1, .int 0)]) [1, 0] rfl ?_
  refine z_loop (P := fun s : Int32 × zG => zAt E D (zA τ sz) (zQ E D zrI 0 0 sz τ τ r g') 4 (sz, τ, 0, 0) s.2 20 [(0, .ref a), (1, .int s.1)] []) (Px := fun x : Int32 × zG => zAt E D (zA τ sz) (zQ E D zrI 0 0 sz τ τ r g') 4 (sz, τ, 0, 0) x.2 44 [(0, .ref a), (1, .int x.1)] []) (0, g27) (fun s => ?_) (fun x => ?_)
  · obtain ⟨l1_20, g_20⟩ := s
    show zSim (zKl (fun s : Int32 × zG => zAt E D (zA τ sz) (zQ E D zrI 0 0 sz τ τ r g') 4 (sz, τ, 0, 0) s.2 20 [(0, .ref a), (1, .int s.1)] []) (fun x : Int32 × zG => zAt E D (zA τ sz) (zQ E D zrI 0 0 sz τ τ r g') 4 (sz, τ, 0, 0) x.2 44 [(0, .ref a), (1, .int x.1)] [])) (l_X10_text_20 a l1_20 g_20) (zAt E D (zA τ sz) (zQ E D zrI 0 0 sz τ τ r g') 4 (sz, τ, 0, 0) g_20 20 [(0, .ref a), (1, .int l1_20)] [])
    unfold l_X10_text_20
    refine z_aload_n F 0 rfl rfl dX10_text_20 ?_
    refine gf_X10_169 F hta dX10_text_21 ?_
    refine z_if_ne (tgt := 44) F dX10_text_24 (by decide) (fun c28 => ?_) (fun c28 => ?_)
    · refine z_aload_n F 0 rfl rfl dX10_text_27 ?_
      refine gf_X10_193 F hta dX10_text_28 ?_
      refine z_if_eq (tgt := 44) F dX10_text_31 (by decide) (fun c29 => ?_) (fun c29 => ?_)
      · exact z_back (fun h => h)
      · refine z_aload_n F 0 rfl rfl dX10_text_34 ?_
        refine k_X10_readLine F (by rw [hR]; exact ⟨by decide, by decide⟩) q_1105 hta ⟨Nat.zero_le _, Nat.zero_le _⟩ (Nat.le_of_ble_eq_true rfl) dX10_text_35 (fun v30 g31 => ?_)
        refine z_iincl (lv' := fun v32 => [(1, .int v32), (0, .ref a)]) F 1 rfl (by decide) (by decide) dX10_text_38 (fun _ => rfl) (fun v32 => ?_)
        refine z_goto (tgt := 20) F dX10_text_41 (by decide) ?_
        refine z_sub (lv' := [(0, .ref a), (1, .int v32)]) [1, 0] rfl ?_
        exact z_back (fun h => h)
    · exact z_back (fun h => h)
  · show zSim (fun q : Int32 × zG => q = (r, g')) (j_X10_text_44 a x.1 x.2) (zAt E D (zA τ sz) (zQ E D zrI 0 0 sz τ τ r g') 4 (sz, τ, 0, 0) x.2 44 [(0, .ref a), (1, .int x.1)] [])
    exact hj_X10_text_44 x.1 x.2
theorem k_X10_text {ρ : Type} {K : ρ → Prop} {E : zE} {D : zD} {A : Nat → Prop} {Q : State → Prop} {nL : Nat} {κ : zC} {g : zG} {pc : Nat} {lv : List (Nat × Value)} {st : List Value} {cc : ByteArray} {own : String} {ret : Option FieldType} (F : zF E D A cc own nL ret) {index : Nat} {h : Int32 → zG → Option ρ} {a : Nat}  (hR : 5 + 1 ≤ E.2.2.2.1.frames ∧ 8 + (4 + 11) + 115 ≤ E.2.2.2.1.locals) (hl : zTbl (.methodLink own index yX10_text)) (hta : κ.2.1 a = some (.inr 10)) (hc : κ.2.2.1 ≤ E.2.2.2.1.cells ∧ κ.2.2.2 ≤ E.2.2.2.1.slots) (hW : (st.map fun v => v.category).sum ≤ 8) (hd : decode cc pc = .ok (.invokevirtual index, 3)) (kk : ∀ r g', zSim K (h r g') (zAt E D A Q nL κ g' (pc + 3) lv (.int r :: st))) : zSim K (zb (f_X10_text a g) h) (zAt E D A Q nL κ g pc lv (.ref a :: st)) :=
  z_callV F (n := 0) (As := []) (C := (RX10, TX10, 61)) ⟨q_1088, q_14, by decide +kernel, rfl, rfl, hR.1, hR.2⟩ (c_X10_text E.2.1 D κ.1 κ.2.1 g a hta) hl q_1086 q_1087 hta rfl rfl rfl hc hW hd kk _ rfl
theorem dX10_goesOn_0 : decode cX10_goesOn 0 = .ok (.aload_n 0, 1) := by decide +kernel
theorem dX10_goesOn_1 : decode cX10_goesOn 1 = .ok (.getfield 139, 3) := by decide +kernel
theorem dX10_goesOn_4 : decode cX10_goesOn 4 = .ok (.iconst 2, 1) := by decide +kernel
theorem dX10_goesOn_5 : decode cX10_goesOn 5 = .ok (.isub, 1) := by decide +kernel
theorem dX10_goesOn_6 : decode cX10_goesOn 6 = .ok (.istore_n 1, 1) := by decide +kernel
theorem dX10_goesOn_7 : decode cX10_goesOn 7 = .ok (.iload_n 1, 1) := by decide +kernel
theorem dX10_goesOn_8 : decode cX10_goesOn 8 = .ok (.ifCond .lt 26, 3) := by decide +kernel
theorem dX10_goesOn_11 : decode cX10_goesOn 11 = .ok (.aload_n 0, 1) := by decide +kernel
theorem dX10_goesOn_12 : decode cX10_goesOn 12 = .ok (.getfield 7, 3) := by decide +kernel
theorem dX10_goesOn_15 : decode cX10_goesOn 15 = .ok (.iload_n 1, 1) := by decide +kernel
theorem dX10_goesOn_16 : decode cX10_goesOn 16 = .ok (.iaload, 1) := by decide +kernel
theorem dX10_goesOn_17 : decode cX10_goesOn 17 = .ok (.aload_n 0, 1) := by decide +kernel
theorem dX10_goesOn_18 : decode cX10_goesOn 18 = .ok (.getfield 7, 3) := by decide +kernel
theorem dX10_goesOn_21 : decode cX10_goesOn 21 = .ok (.iload_n 1, 1) := by decide +kernel
theorem dX10_goesOn_22 : decode cX10_goesOn 22 = .ok (.iconst 1, 1) := by decide +kernel
theorem dX10_goesOn_23 : decode cX10_goesOn 23 = .ok (.iadd, 1) := by decide +kernel
theorem dX10_goesOn_24 : decode cX10_goesOn 24 = .ok (.iaload, 1) := by decide +kernel
theorem dX10_goesOn_25 : decode cX10_goesOn 25 = .ok (.if_icmp .lt 9, 3) := by decide +kernel
theorem dX10_goesOn_28 : decode cX10_goesOn 28 = .ok (.iinc 1 (-1), 3) := by decide +kernel
theorem dX10_goesOn_31 : decode cX10_goesOn 31 = .ok (.goto (-24), 3) := by decide +kernel
theorem dX10_goesOn_34 : decode cX10_goesOn 34 = .ok (.iload_n 1, 1) := by decide +kernel
theorem dX10_goesOn_35 : decode cX10_goesOn 35 = .ok (.ifCond .ge 5, 3) := by decide +kernel
theorem dX10_goesOn_38 : decode cX10_goesOn 38 = .ok (.iconst 0, 1) := by decide +kernel
theorem dX10_goesOn_39 : decode cX10_goesOn 39 = .ok (.ireturn, 1) := by decide +kernel
theorem dX10_goesOn_40 : decode cX10_goesOn 40 = .ok (.aload_n 0, 1) := by decide +kernel
theorem dX10_goesOn_41 : decode cX10_goesOn 41 = .ok (.getfield 139, 3) := by decide +kernel
theorem dX10_goesOn_44 : decode cX10_goesOn 44 = .ok (.iconst 1, 1) := by decide +kernel
theorem dX10_goesOn_45 : decode cX10_goesOn 45 = .ok (.isub, 1) := by decide +kernel
theorem dX10_goesOn_46 : decode cX10_goesOn 46 = .ok (.istore_n 2, 1) := by decide +kernel
theorem dX10_goesOn_47 : decode cX10_goesOn 47 = .ok (.aload_n 0, 1) := by decide +kernel
theorem dX10_goesOn_48 : decode cX10_goesOn 48 = .ok (.getfield 7, 3) := by decide +kernel
theorem dX10_goesOn_51 : decode cX10_goesOn 51 = .ok (.iload_n 2, 1) := by decide +kernel
theorem dX10_goesOn_52 : decode cX10_goesOn 52 = .ok (.iaload, 1) := by decide +kernel
theorem dX10_goesOn_53 : decode cX10_goesOn 53 = .ok (.aload_n 0, 1) := by decide +kernel
theorem dX10_goesOn_54 : decode cX10_goesOn 54 = .ok (.getfield 7, 3) := by decide +kernel
theorem dX10_goesOn_57 : decode cX10_goesOn 57 = .ok (.iload_n 1, 1) := by decide +kernel
theorem dX10_goesOn_58 : decode cX10_goesOn 58 = .ok (.iaload, 1) := by decide +kernel
theorem dX10_goesOn_59 : decode cX10_goesOn 59 = .ok (.if_icmp .gt 9, 3) := by decide +kernel
theorem dX10_goesOn_62 : decode cX10_goesOn 62 = .ok (.iinc 2 (-1), 3) := by decide +kernel
theorem dX10_goesOn_65 : decode cX10_goesOn 65 = .ok (.goto (-18), 3) := by decide +kernel
theorem dX10_goesOn_68 : decode cX10_goesOn 68 = .ok (.aload_n 0, 1) := by decide +kernel
theorem dX10_goesOn_69 : decode cX10_goesOn 69 = .ok (.iload_n 1, 1) := by decide +kernel
theorem dX10_goesOn_70 : decode cX10_goesOn 70 = .ok (.iload_n 2, 1) := by decide +kernel
theorem dX10_goesOn_71 : decode cX10_goesOn 71 = .ok (.invokevirtual 340, 3) := by decide +kernel
theorem dX10_goesOn_74 : decode cX10_goesOn 74 = .ok (.iload_n 1, 1) := by decide +kernel
theorem dX10_goesOn_75 : decode cX10_goesOn 75 = .ok (.iconst 1, 1) := by decide +kernel
theorem dX10_goesOn_76 : decode cX10_goesOn 76 = .ok (.iadd, 1) := by decide +kernel
theorem dX10_goesOn_77 : decode cX10_goesOn 77 = .ok (.istore_n 3, 1) := by decide +kernel
theorem dX10_goesOn_78 : decode cX10_goesOn 78 = .ok (.aload_n 0, 1) := by decide +kernel
theorem dX10_goesOn_79 : decode cX10_goesOn 79 = .ok (.getfield 139, 3) := by decide +kernel
theorem dX10_goesOn_82 : decode cX10_goesOn 82 = .ok (.iconst 1, 1) := by decide +kernel
theorem dX10_goesOn_83 : decode cX10_goesOn 83 = .ok (.isub, 1) := by decide +kernel
theorem dX10_goesOn_84 : decode cX10_goesOn 84 = .ok (.istore 4, 2) := by decide +kernel
theorem dX10_goesOn_86 : decode cX10_goesOn 86 = .ok (.iload_n 3, 1) := by decide +kernel
theorem dX10_goesOn_87 : decode cX10_goesOn 87 = .ok (.iload 4, 2) := by decide +kernel
theorem dX10_goesOn_89 : decode cX10_goesOn 89 = .ok (.if_icmp .ge 19, 3) := by decide +kernel
theorem dX10_goesOn_92 : decode cX10_goesOn 92 = .ok (.aload_n 0, 1) := by decide +kernel
theorem dX10_goesOn_93 : decode cX10_goesOn 93 = .ok (.iload_n 3, 1) := by decide +kernel
theorem dX10_goesOn_94 : decode cX10_goesOn 94 = .ok (.iload 4, 2) := by decide +kernel
theorem dX10_goesOn_96 : decode cX10_goesOn 96 = .ok (.invokevirtual 340, 3) := by decide +kernel
theorem dX10_goesOn_99 : decode cX10_goesOn 99 = .ok (.iinc 3 1, 3) := by decide +kernel
theorem dX10_goesOn_102 : decode cX10_goesOn 102 = .ok (.iinc 4 (-1), 3) := by decide +kernel
theorem dX10_goesOn_105 : decode cX10_goesOn 105 = .ok (.goto (-19), 3) := by decide +kernel
theorem dX10_goesOn_108 : decode cX10_goesOn 108 = .ok (.iconst 1, 1) := by decide +kernel
theorem dX10_goesOn_109 : decode cX10_goesOn 109 = .ok (.ireturn, 1) := by decide +kernel
def j_X10_goesOn_108 (a : Nat)  (g : zG) : Option (Int32 × zG) :=
  some ((1, g))
def l_X10_goesOn_86 (a : Nat) (l3 : Int32) (l4 : Int32) (g : zG) : Option ((Int32 × Int32 × zG) ⊕ (zG)) :=
  if l4 ≤ l3 then (some (.inr g)) else (zb (f_X10_swaps a l3 l4 g) (fun v6 g7 => zl (l3 + 1) (fun v8 => zl (l4 + (-1)) (fun v9 => some (.inl (v8, v9, g7))))))
def j_X10_goesOn_68 (a : Nat) (l1 : Int32) (l2 : Int32) (g : zG) : Option (Int32 × zG) :=
  zb (f_X10_swaps a l1 l2 g) (fun v1 g2 => zl (l1 + 1) (fun v3 => zl ((g2.1 a 0) - 1) (fun v4 => zk (zw zN (fun s => l_X10_goesOn_86 a s.1 s.2.1 s.2.2) (v3, v4, g2)) (fun x => j_X10_goesOn_108 a x))))
def l_X10_goesOn_47 (a : Nat) (l1 : Int32) (g : zG) (l2 : Int32) : Option ((Int32) ⊕ (Int32)) :=
  zc (zin l2 49) (zc (zin l1 49) (if (g.1 (g.2.1 a 1) l1.toNatClampNeg) < (g.1 (g.2.1 a 1) l2.toNatClampNeg) then (some (.inr l2)) else (zl (l2 + (-1)) (fun v15 => some (.inl v15)))))
def j_X10_goesOn_34 (a : Nat) (l1 : Int32) (g : zG) : Option (Int32 × zG) :=
  if 0 ≤ l1 then (zl ((g.1 a 0) - 1) (fun v11 => zk (zw zN (fun s => l_X10_goesOn_47 a l1 g s) v11) (fun x => j_X10_goesOn_68 a l1 x g))) else (some ((0, g)))
def l_X10_goesOn_7 (a : Nat) (g : zG) (l1 : Int32) : Option ((Int32) ⊕ (Int32)) :=
  if l1 < 0 then (some (.inr l1)) else (zc (zin l1 49) (zc (zin (l1 + 1) 49) (if (g.1 (g.2.1 a 1) l1.toNatClampNeg) < (g.1 (g.2.1 a 1) (l1 + 1).toNatClampNeg) then (some (.inr l1)) else (zl (l1 + (-1)) (fun v21 => some (.inl v21))))))
def f_X10_goesOn (a : Nat) (g : zG) : Option (Int32 × zG) :=
  zl ((g.1 a 0) - 2) (fun v16 => zk (zw zN (fun s => l_X10_goesOn_7 a g s) v16) (fun x => j_X10_goesOn_34 a x g))
abbrev rm_X10_goesOn : Room := { frames := 1, cells := 0, slots := 0, locals := 23 }
set_option maxRecDepth 100000 in
set_option maxHeartbeats 4000000 in
theorem c_X10_goesOn (l : Launch) (D : zD) (sz : Nat) (τ : zT) (g : zG) (a : Nat) (hta : τ a = some (.inr 10)) : zCon l D yX10_goesOn cX10_goesOn 5 (some .boolean) rm_X10_goesOn 0 0 zrI [.ref a] sz τ g τ (f_X10_goesOn a g) := by
  refine zCon.of (by decide) (Nat.le_of_ble_eq_true rfl) (fun E r g' hl hR hsz hnm F => ?_)
  have F : zF E D (zA τ sz) cX10_goesOn "TypeChainModel" 5 (some .boolean) := F
  show zSim (fun q : Int32 × zG => q = (r, g')) (f_X10_goesOn a g) (zAt E D (zA τ sz) (zQ E D zrI 0 0 sz τ τ r g') 5 (sz, τ, 0, 0) g 0 [(0, .ref a)] [])
  have hj_X10_goesOn_108 : ∀  (g_108 : zG), zSim (fun q : Int32 × zG => q = (r, g')) (j_X10_goesOn_108 a g_108) (zAt E D (zA τ sz) (zQ E D zrI 0 0 sz τ τ r g') 5 (sz, τ, 0, 0) g_108 108 [] []) := by
    intro g_108
    unfold j_X10_goesOn_108
    refine z_iconst (v := 1) F (by decide) dX10_goesOn_108 ?_
    exact z_zreturn F rfl rfl rfl rfl rfl (fun h => h) dX10_goesOn_109
  have hj_X10_goesOn_68 : ∀ (l1_68 : Int32) (l2_68 : Int32) (g_68 : zG), zSim (fun q : Int32 × zG => q = (r, g')) (j_X10_goesOn_68 a l1_68 l2_68 g_68) (zAt E D (zA τ sz) (zQ E D zrI 0 0 sz τ τ r g') 5 (sz, τ, 0, 0) g_68 68 [(0, .ref a), (1, .int l1_68), (2, .int l2_68)] []) := by
    intro l1_68 l2_68 g_68
    unfold j_X10_goesOn_68
    refine z_aload_n F 0 rfl rfl dX10_goesOn_68 ?_
    refine z_iload_n F 1 rfl rfl dX10_goesOn_69 ?_
    refine z_iload_n F 2 rfl rfl dX10_goesOn_70 ?_
    refine k_X10_swaps F (by rw [hR]; exact ⟨by decide, by decide⟩) q_1310 hta ⟨Nat.zero_le _, Nat.zero_le _⟩ (Nat.le_of_ble_eq_true rfl) dX10_goesOn_71 (fun v1 g2 => ?_)
    refine z_iload_n F 1 rfl rfl dX10_goesOn_74 ?_
    refine z_iconst (v := 1) F (by decide) dX10_goesOn_75 ?_
    refine z_iadd F dX10_goesOn_76 ?_
    refine z_leti (fun v3 => ?_)
    refine z_istore_n (lv' := [(3, .int v3), (0, .ref a), (1, .int l1_68), (2, .int l2_68)]) F rfl (by decide) dX10_goesOn_77 rfl ?_
    refine z_aload_n F 1 rfl rfl dX10_goesOn_78 ?_
    refine gf_X10_139 F hta dX10_goesOn_79 ?_
    refine z_iconst (v := 1) F (by decide) dX10_goesOn_82 ?_
    refine z_isub F dX10_goesOn_83 ?_
    refine z_leti (fun v4 => ?_)
    refine z_istore (lv' := [(4, .int v4), (3, .int v3), (0, .ref a), (1, .int l1_68), (2, .int l2_68)]) F (by decide) dX10_goesOn_84 rfl ?_
    refine z_sub (lv' := [(0, .ref a), (3, .int v3), (4, .int v4)]) [2, 1, 0] rfl ?_
    refine z_loop (P := fun s : Int32 × Int32 × zG => zAt E D (zA τ sz) (zQ E D zrI 0 0 sz τ τ r g') 5 (sz, τ, 0, 0) s.2.2 86 [(0, .ref a), (3, .int s.1), (4, .int s.2.1)] []) (Px := fun x : zG => zAt E D (zA τ sz) (zQ E D zrI 0 0 sz τ τ r g') 5 (sz, τ, 0, 0) x 108 [] []) (v3, v4, g2) (fun s => ?_) (fun x => ?_)
    · obtain ⟨l3_86, l4_86, g_86⟩ := s
      show zSim (zKl (fun s : Int32 × Int32 × zG => zAt E D (zA τ sz) (zQ E D zrI 0 0 sz τ τ r g') 5 (sz, τ, 0, 0) s.2.2 86 [(0, .ref a), (3, .int s.1), (4, .int s.2.1)] []) (fun x : zG => zAt E D (zA τ sz) (zQ E D zrI 0 0 sz τ τ r g') 5 (sz, τ, 0, 0) x 108 [] [])) (l_X10_goesOn_86 a l3_86 l4_86 g_86) (zAt E D (zA τ sz) (zQ E D zrI 0 0 sz τ τ r g') 5 (sz, τ, 0, 0) g_86 86 [(0, .ref a), (3, .int l3_86), (4, .int l4_86)] [])
      unfold l_X10_goesOn_86
      refine z_iload_n F 1 rfl rfl dX10_goesOn_86 ?_
      refine z_iload F 2 rfl dX10_goesOn_87 ?_
      refine z_icmp_ge (tgt := 108) F dX10_goesOn_89 (by decide) (fun c5 => ?_) (fun c5 => ?_)
      · refine z_sub (lv' := []) [] rfl ?_
        exact z_back (fun h => h)
      · refine z_aload_n F 0 rfl rfl dX10_goesOn_92 ?_
        refine z_iload_n F 1 rfl rfl dX10_goesOn_93 ?_
        refine z_iload F 2 rfl dX10_goesOn_94 ?_
        refine k_X10_swaps F (by rw [hR]; exact ⟨by decide, by decide⟩) q_1310 hta ⟨Nat.zero_le _, Nat.zero_le _⟩ (Nat.le_of_ble_eq_true rfl) dX10_goesOn_96 (fun v6 g7 => ?_)
        refine z_iincl (lv' := fun v8 => [(3, .int v8), (0, .ref a), (4, .int l4_86)]) F 1 rfl (by decide) (by decide) dX10_goesOn_99 (fun _ => rfl) (fun v8 => ?_)
        refine z_iincl (lv' := fun v9 => [(4, .int v9), (3, .int v8), (0, .ref a)]) F 2 rfl (by decide) (by decide) dX10_goesOn_102 (fun _ => rfl) (fun v9 => ?_)
        refine z_goto (tgt := 86) F dX10_goesOn_105 (by decide) ?_
        refine z_sub (lv' := [(0, .ref a), (3, .int v8), (4, .int v9)]) [2, 1, 0] rfl ?_
        exact z_back (fun h => h)
    · show zSim (fun q : Int32 × zG => q = (r, g')) (j_X10_goesOn_108 a x) (zAt E D (zA τ sz) (zQ E D zrI 0 0 sz τ τ r g') 5 (sz, τ, 0, 0) x 108 [] [])
      exact hj_X10_goesOn_108 x
  have hj_X10_goesOn_34 : ∀ (l1_34 : Int32) (g_34 : zG), zSim (fun q : Int32 × zG => q = (r, g')) (j_X10_goesOn_34 a l1_34 g_34) (zAt E D (zA τ sz) (zQ E D zrI 0 0 sz τ τ r g') 5 (sz, τ, 0, 0) g_34 34 [(0, .ref a), (1, .int l1_34)] []) := by
    intro l1_34 g_34
    unfold j_X10_goesOn_34
    refine z_iload_n F 1 rfl rfl dX10_goesOn_34 ?_
    refine z_if_ge (tgt := 40) F dX10_goesOn_35 (by decide) (fun c10 => ?_) (fun c10 => ?_)
    · refine z_aload_n F 0 rfl rfl dX10_goesOn_40 ?_
      refine gf_X10_139 F hta dX10_goesOn_41 ?_
      refine z_iconst (v := 1) F (by decide) dX10_goesOn_44 ?_
      refine z_isub F dX10_goesOn_45 ?_
      refine z_leti (fun v11 => ?_)
      refine z_istore_n (lv' := [(2, .int v11), (0, .ref a), (1, .int l1_34)]) F rfl (by decide) dX10_goesOn_46 rfl ?_
      refine z_sub (lv' := [(0, .ref a), (1, .int l1_34), (2, .int v11)]) [1, 2, 0] rfl ?_
      refine z_loop (P := fun s : Int32 => zAt E D (zA τ sz) (zQ E D zrI 0 0 sz τ τ r g') 5 (sz, τ, 0, 0) g_34 47 [(0, .ref a), (1, .int l1_34), (2, .int s)] []) (Px := fun x : Int32 => zAt E D (zA τ sz) (zQ E D zrI 0 0 sz τ τ r g') 5 (sz, τ, 0, 0) g_34 68 [(0, .ref a), (1, .int l1_34), (2, .int x)] []) v11 (fun s => ?_) (fun x => ?_)
      · generalize s = l2_47
        show zSim (zKl (fun s : Int32 => zAt E D (zA τ sz) (zQ E D zrI 0 0 sz τ τ r g') 5 (sz, τ, 0, 0) g_34 47 [(0, .ref a), (1, .int l1_34), (2, .int s)] []) (fun x : Int32 => zAt E D (zA τ sz) (zQ E D zrI 0 0 sz τ τ r g') 5 (sz, τ, 0, 0) g_34 68 [(0, .ref a), (1, .int l1_34), (2, .int x)] [])) (l_X10_goesOn_47 a l1_34 g_34 l2_47) (zAt E D (zA τ sz) (zQ E D zrI 0 0 sz τ τ r g') 5 (sz, τ, 0, 0) g_34 47 [(0, .ref a), (1, .int l1_34), (2, .int l2_47)] [])
        unfold l_X10_goesOn_47
        refine z_aload_n F 0 rfl rfl dX10_goesOn_47 ?_
        refine gf_X10_7 F hta dX10_goesOn_48 (fun ht12 => ?_)
        refine z_iload_n F 2 rfl rfl dX10_goesOn_51 ?_
        refine z_iald F ht12 dX10_goesOn_52 ?_
        refine z_aload_n F 0 rfl rfl dX10_goesOn_53 ?_
        refine gf_X10_7 F hta dX10_goesOn_54 (fun ht13 => ?_)
        refine z_iload_n F 1 rfl rfl dX10_goesOn_57 ?_
        refine z_iald F ht13 dX10_goesOn_58 ?_
        refine z_icmp_gt (tgt := 68) F dX10_goesOn_59 (by decide) (fun c14 => ?_) (fun c14 => ?_)
        · exact z_back (fun h => h)
        · refine z_iincl (lv' := fun v15 => [(2, .int v15), (0, .ref a), (1, .int l1_34)]) F 2 rfl (by decide) (by decide) dX10_goesOn_62 (fun _ => rfl) (fun v15 => ?_)
          refine z_goto (tgt := 47) F dX10_goesOn_65 (by decide) ?_
          refine z_sub (lv' := [(0, .ref a), (1, .int l1_34), (2, .int v15)]) [1, 2, 0] rfl ?_
          exact z_back (fun h => h)
      · show zSim (fun q : Int32 × zG => q = (r, g')) (j_X10_goesOn_68 a l1_34 x g_34) (zAt E D (zA τ sz) (zQ E D zrI 0 0 sz τ τ r g') 5 (sz, τ, 0, 0) g_34 68 [(0, .ref a), (1, .int l1_34), (2, .int x)] [])
        exact hj_X10_goesOn_68 l1_34 x g_34
    · refine z_iconst (v := 0) F (by decide) dX10_goesOn_38 ?_
      exact z_zreturn F rfl rfl rfl rfl rfl (fun h => h) dX10_goesOn_39
  unfold f_X10_goesOn
  refine z_aload_n F 0 rfl rfl dX10_goesOn_0 ?_
  refine gf_X10_139 F hta dX10_goesOn_1 ?_
  refine z_iconst (v := 2) F (by decide) dX10_goesOn_4 ?_
  refine z_isub F dX10_goesOn_5 ?_
  refine z_leti (fun v16 => ?_)
  refine z_istore_n (lv' := [(1, .int v16), (0, .ref a)]) F rfl (by decide) dX10_goesOn_6 rfl ?_
  refine z_sub (lv' := [(0, .ref a), (1, .int v16)]) [1, 0] rfl ?_
  refine z_loop (P := fun s : Int32 => zAt E D (zA τ sz) (zQ E D zrI 0 0 sz τ τ r g') 5 (sz, τ, 0, 0) g 7 [(0, .ref a), (1, .int s)] []) (Px := fun x : Int32 => zAt E D (zA τ sz) (zQ E D zrI 0 0 sz τ τ r g') 5 (sz, τ, 0, 0) g 34 [(0, .ref a), (1, .int x)] []) v16 (fun s => ?_) (fun x => ?_)
  · generalize s = l1_7
    show zSim (zKl (fun s : Int32 => zAt E D (zA τ sz) (zQ E D zrI 0 0 sz τ τ r g') 5 (sz, τ, 0, 0) g 7 [(0, .ref a), (1, .int s)] []) (fun x : Int32 => zAt E D (zA τ sz) (zQ E D zrI 0 0 sz τ τ r g') 5 (sz, τ, 0, 0) g 34 [(0, .ref a), (1, .int x)] [])) (l_X10_goesOn_7 a g l1_7) (zAt E D (zA τ sz) (zQ E D zrI 0 0 sz τ τ r g') 5 (sz, τ, 0, 0) g 7 [(0, .ref a), (1, .int l1_7)] [])
    unfold l_X10_goesOn_7
    refine z_iload_n F 1 rfl rfl dX10_goesOn_7 ?_
    refine z_if_lt (tgt := 34) F dX10_goesOn_8 (by decide) (fun c17 => ?_) (fun c17 => ?_)
    · exact z_back (fun h => h)
    · refine z_aload_n F 0 rfl rfl dX10_goesOn_11 ?_
      refine gf_X10_7 F hta dX10_goesOn_12 (fun ht18 => ?_)
      refine z_iload_n F 1 rfl rfl dX10_goesOn_15 ?_
      refine z_iald F ht18 dX10_goesOn_16 ?_
      refine z_aload_n F 0 rfl rfl dX10_goesOn_17 ?_
      refine gf_X10_7 F hta dX10_goesOn_18 (fun ht19 => ?_)
      refine z_iload_n F 1 rfl rfl dX10_goesOn_21 ?_
      refine z_iconst (v := 1) F (by decide) dX10_goesOn_22 ?_
      refine z_iadd F dX10_goesOn_23 ?_
      refine z_iald F ht19 dX10_goesOn_24 ?_
      refine z_icmp_lt (tgt := 34) F dX10_goesOn_25 (by decide) (fun c20 => ?_) (fun c20 => ?_)
      · exact z_back (fun h => h)
      · refine z_iincl (lv' := fun v21 => [(1, .int v21), (0, .ref a)]) F 1 rfl (by decide) (by decide) dX10_goesOn_28 (fun _ => rfl) (fun v21 => ?_)
        refine z_goto (tgt := 7) F dX10_goesOn_31 (by decide) ?_
        refine z_sub (lv' := [(0, .ref a), (1, .int v21)]) [1, 0] rfl ?_
        exact z_back (fun h => h)
  · show zSim (fun q : Int32 × zG => q = (r, g')) (j_X10_goesOn_34 a x g) (zAt E D (zA τ sz) (zQ E D zrI 0 0 sz τ τ r g') 5 (sz, τ, 0, 0) g 34 [(0, .ref a), (1, .int x)] [])
    exact hj_X10_goesOn_34 x g
theorem k_X10_goesOn {ρ : Type} {K : ρ → Prop} {E : zE} {D : zD} {A : Nat → Prop} {Q : State → Prop} {nL : Nat} {κ : zC} {g : zG} {pc : Nat} {lv : List (Nat × Value)} {st : List Value} {cc : ByteArray} {own : String} {ret : Option FieldType} (F : zF E D A cc own nL ret) {index : Nat} {h : Int32 → zG → Option ρ} {a : Nat}  (hR : 1 + 1 ≤ E.2.2.2.1.frames ∧ 8 + (5 + 11) + 23 ≤ E.2.2.2.1.locals) (hl : zTbl (.methodLink own index yX10_goesOn)) (hta : κ.2.1 a = some (.inr 10)) (hc : κ.2.2.1 ≤ E.2.2.2.1.cells ∧ κ.2.2.2 ≤ E.2.2.2.1.slots) (hW : (st.map fun v => v.category).sum ≤ 8) (hd : decode cc pc = .ok (.invokevirtual index, 3)) (kk : ∀ r g', zSim K (h r g') (zAt E D A Q nL κ g' (pc + 3) lv (.int r :: st))) : zSim K (zb (f_X10_goesOn a g) h) (zAt E D A Q nL κ g pc lv (.ref a :: st)) :=
  z_callV F (n := 0) (As := []) (C := (RX10, TX10, 61)) ⟨q_1322, q_14, by decide +kernel, rfl, rfl, hR.1, hR.2⟩ (c_X10_goesOn E.2.1 D κ.1 κ.2.1 g a hta) hl q_1321 q_1422 hta rfl rfl rfl hc hW hd kk _ rfl
theorem dX10_best_0 : decode cX10_best 0 = .ok (.iload_n 1, 1) := by decide +kernel
theorem dX10_best_1 : decode cX10_best 1 = .ok (.ifCond .eq 19, 3) := by decide +kernel
theorem dX10_best_4 : decode cX10_best 4 = .ok (.iload_n 1, 1) := by decide +kernel
theorem dX10_best_5 : decode cX10_best 5 = .ok (.i2l, 1) := by decide +kernel
theorem dX10_best_6 : decode cX10_best 6 = .ok (.ldc2_w 252, 3) := by decide +kernel
theorem dX10_best_9 : decode cX10_best 9 = .ok (.ldc2_w 343, 3) := by decide +kernel
theorem dX10_best_12 : decode cX10_best 12 = .ok (.invokestatic 165, 3) := by decide +kernel
theorem dX10_best_15 : decode cX10_best 15 = .ok (.ifCond .ne 5, 3) := by decide +kernel
theorem dX10_best_18 : decode cX10_best 18 = .ok (.iconst (-1), 1) := by decide +kernel
theorem dX10_best_19 : decode cX10_best 19 = .ok (.ireturn, 1) := by decide +kernel
theorem dX10_best_20 : decode cX10_best 20 = .ok (.aload_n 0, 1) := by decide +kernel
theorem dX10_best_21 : decode cX10_best 21 = .ok (.getfield 139, 3) := by decide +kernel
theorem dX10_best_24 : decode cX10_best 24 = .ok (.bipush 6, 2) := by decide +kernel
theorem dX10_best_26 : decode cX10_best 26 = .ok (.if_icmp .gt 10, 3) := by decide +kernel
theorem dX10_best_29 : decode cX10_best 29 = .ok (.aload_n 0, 1) := by decide +kernel
theorem dX10_best_30 : decode cX10_best 30 = .ok (.getfield 142, 3) := by decide +kernel
theorem dX10_best_33 : decode cX10_best 33 = .ok (.ifCond .ne 6, 3) := by decide +kernel
theorem dX10_best_36 : decode cX10_best 36 = .ok (.bipush (-2), 2) := by decide +kernel
theorem dX10_best_38 : decode cX10_best 38 = .ok (.ireturn, 1) := by decide +kernel
theorem dX10_best_39 : decode cX10_best 39 = .ok (.aload_n 0, 1) := by decide +kernel
theorem dX10_best_40 : decode cX10_best 40 = .ok (.invokevirtual 345, 3) := by decide +kernel
theorem dX10_best_43 : decode cX10_best 43 = .ok (.iconst 0, 1) := by decide +kernel
theorem dX10_best_44 : decode cX10_best 44 = .ok (.istore_n 2, 1) := by decide +kernel
theorem dX10_best_45 : decode cX10_best 45 = .ok (.iload_n 2, 1) := by decide +kernel
theorem dX10_best_46 : decode cX10_best 46 = .ok (.aload_n 0, 1) := by decide +kernel
theorem dX10_best_47 : decode cX10_best 47 = .ok (.getfield 139, 3) := by decide +kernel
theorem dX10_best_50 : decode cX10_best 50 = .ok (.if_icmp .ge 48, 3) := by decide +kernel
theorem dX10_best_53 : decode cX10_best 53 = .ok (.iload_n 2, 1) := by decide +kernel
theorem dX10_best_54 : decode cX10_best 54 = .ok (.iconst 1, 1) := by decide +kernel
theorem dX10_best_55 : decode cX10_best 55 = .ok (.iadd, 1) := by decide +kernel
theorem dX10_best_56 : decode cX10_best 56 = .ok (.istore_n 3, 1) := by decide +kernel
theorem dX10_best_57 : decode cX10_best 57 = .ok (.iload_n 3, 1) := by decide +kernel
theorem dX10_best_58 : decode cX10_best 58 = .ok (.aload_n 0, 1) := by decide +kernel
theorem dX10_best_59 : decode cX10_best 59 = .ok (.getfield 139, 3) := by decide +kernel
theorem dX10_best_62 : decode cX10_best 62 = .ok (.if_icmp .ge 30, 3) := by decide +kernel
theorem dX10_best_65 : decode cX10_best 65 = .ok (.aload_n 0, 1) := by decide +kernel
theorem dX10_best_66 : decode cX10_best 66 = .ok (.getfield 7, 3) := by decide +kernel
theorem dX10_best_69 : decode cX10_best 69 = .ok (.iload_n 3, 1) := by decide +kernel
theorem dX10_best_70 : decode cX10_best 70 = .ok (.iaload, 1) := by decide +kernel
theorem dX10_best_71 : decode cX10_best 71 = .ok (.aload_n 0, 1) := by decide +kernel
theorem dX10_best_72 : decode cX10_best 72 = .ok (.getfield 7, 3) := by decide +kernel
theorem dX10_best_75 : decode cX10_best 75 = .ok (.iload_n 2, 1) := by decide +kernel
theorem dX10_best_76 : decode cX10_best 76 = .ok (.iaload, 1) := by decide +kernel
theorem dX10_best_77 : decode cX10_best 77 = .ok (.if_icmp .ge 9, 3) := by decide +kernel
theorem dX10_best_80 : decode cX10_best 80 = .ok (.aload_n 0, 1) := by decide +kernel
theorem dX10_best_81 : decode cX10_best 81 = .ok (.iload_n 2, 1) := by decide +kernel
theorem dX10_best_82 : decode cX10_best 82 = .ok (.iload_n 3, 1) := by decide +kernel
theorem dX10_best_83 : decode cX10_best 83 = .ok (.invokevirtual 340, 3) := by decide +kernel
theorem dX10_best_86 : decode cX10_best 86 = .ok (.iinc 3 1, 3) := by decide +kernel
theorem dX10_best_89 : decode cX10_best 89 = .ok (.goto (-32), 3) := by decide +kernel
theorem dX10_best_92 : decode cX10_best 92 = .ok (.iinc 2 1, 3) := by decide +kernel
theorem dX10_best_95 : decode cX10_best 95 = .ok (.goto (-50), 3) := by decide +kernel
theorem dX10_best_98 : decode cX10_best 98 = .ok (.ldc_w 339, 3) := by decide +kernel
theorem dX10_best_101 : decode cX10_best 101 = .ok (.istore_n 2, 1) := by decide +kernel
theorem dX10_best_102 : decode cX10_best 102 = .ok (.iconst 1, 1) := by decide +kernel
theorem dX10_best_103 : decode cX10_best 103 = .ok (.istore_n 3, 1) := by decide +kernel
theorem dX10_best_104 : decode cX10_best 104 = .ok (.iload_n 3, 1) := by decide +kernel
theorem dX10_best_105 : decode cX10_best 105 = .ok (.ifCond .eq 58, 3) := by decide +kernel
theorem dX10_best_108 : decode cX10_best 108 = .ok (.aload_n 0, 1) := by decide +kernel
theorem dX10_best_109 : decode cX10_best 109 = .ok (.invokevirtual 348, 3) := by decide +kernel
theorem dX10_best_112 : decode cX10_best 112 = .ok (.istore 4, 2) := by decide +kernel
theorem dX10_best_114 : decode cX10_best 114 = .ok (.iload 4, 2) := by decide +kernel
theorem dX10_best_116 : decode cX10_best 116 = .ok (.iload_n 2, 1) := by decide +kernel
theorem dX10_best_117 : decode cX10_best 117 = .ok (.if_icmp .ge 38, 3) := by decide +kernel
theorem dX10_best_120 : decode cX10_best 120 = .ok (.iload 4, 2) := by decide +kernel
theorem dX10_best_122 : decode cX10_best 122 = .ok (.istore_n 2, 1) := by decide +kernel
theorem dX10_best_123 : decode cX10_best 123 = .ok (.iconst 0, 1) := by decide +kernel
theorem dX10_best_124 : decode cX10_best 124 = .ok (.istore 5, 2) := by decide +kernel
theorem dX10_best_126 : decode cX10_best 126 = .ok (.iload 5, 2) := by decide +kernel
theorem dX10_best_128 : decode cX10_best 128 = .ok (.aload_n 0, 1) := by decide +kernel
theorem dX10_best_129 : decode cX10_best 129 = .ok (.getfield 139, 3) := by decide +kernel
theorem dX10_best_132 : decode cX10_best 132 = .ok (.if_icmp .ge 23, 3) := by decide +kernel
theorem dX10_best_135 : decode cX10_best 135 = .ok (.aload_n 0, 1) := by decide +kernel
theorem dX10_best_136 : decode cX10_best 136 = .ok (.getfield 104, 3) := by decide +kernel
theorem dX10_best_139 : decode cX10_best 139 = .ok (.iload 5, 2) := by decide +kernel
theorem dX10_best_141 : decode cX10_best 141 = .ok (.aload_n 0, 1) := by decide +kernel
theorem dX10_best_142 : decode cX10_best 142 = .ok (.getfield 7, 3) := by decide +kernel
theorem dX10_best_145 : decode cX10_best 145 = .ok (.iload 5, 2) := by decide +kernel
theorem dX10_best_147 : decode cX10_best 147 = .ok (.iaload, 1) := by decide +kernel
theorem dX10_best_148 : decode cX10_best 148 = .ok (.iastore, 1) := by decide +kernel
theorem dX10_best_149 : decode cX10_best 149 = .ok (.iinc 5 1, 3) := by decide +kernel
theorem dX10_best_152 : decode cX10_best 152 = .ok (.goto (-26), 3) := by decide +kernel
theorem dX10_best_155 : decode cX10_best 155 = .ok (.aload_n 0, 1) := by decide +kernel
theorem dX10_best_156 : decode cX10_best 156 = .ok (.invokevirtual 351, 3) := by decide +kernel
theorem dX10_best_159 : decode cX10_best 159 = .ok (.istore_n 3, 1) := by decide +kernel
theorem dX10_best_160 : decode cX10_best 160 = .ok (.goto (-56), 3) := by decide +kernel
theorem dX10_best_163 : decode cX10_best 163 = .ok (.aload_n 0, 1) := by decide +kernel
theorem dX10_best_164 : decode cX10_best 164 = .ok (.invokevirtual 354, 3) := by decide +kernel
theorem dX10_best_167 : decode cX10_best 167 = .ok (.iload_n 2, 1) := by decide +kernel
theorem dX10_best_168 : decode cX10_best 168 = .ok (.ldc_w 339, 3) := by decide +kernel
theorem dX10_best_171 : decode cX10_best 171 = .ok (.if_icmp .ne 6, 3) := by decide +kernel
theorem dX10_best_174 : decode cX10_best 174 = .ok (.bipush (-2), 2) := by decide +kernel
theorem dX10_best_176 : decode cX10_best 176 = .ok (.ireturn, 1) := by decide +kernel
theorem dX10_best_177 : decode cX10_best 177 = .ok (.iload_n 1, 1) := by decide +kernel
theorem dX10_best_178 : decode cX10_best 178 = .ok (.ifCond .ne 7, 3) := by decide +kernel
theorem dX10_best_181 : decode cX10_best 181 = .ok (.iload_n 2, 1) := by decide +kernel
theorem dX10_best_182 : decode cX10_best 182 = .ok (.goto 28, 3) := by decide +kernel
theorem dX10_best_185 : decode cX10_best 185 = .ok (.iload_n 1, 1) := by decide +kernel
theorem dX10_best_186 : decode cX10_best 186 = .ok (.bipush 10, 2) := by decide +kernel
theorem dX10_best_188 : decode cX10_best 188 = .ok (.isub, 1) := by decide +kernel
theorem dX10_best_189 : decode cX10_best 189 = .ok (.aload_n 0, 1) := by decide +kernel
theorem dX10_best_190 : decode cX10_best 190 = .ok (.getfield 139, 3) := by decide +kernel
theorem dX10_best_193 : decode cX10_best 193 = .ok (.if_icmp .ge 15, 3) := by decide +kernel
theorem dX10_best_196 : decode cX10_best 196 = .ok (.aload_n 0, 1) := by decide +kernel
theorem dX10_best_197 : decode cX10_best 197 = .ok (.getfield 104, 3) := by decide +kernel
theorem dX10_best_200 : decode cX10_best 200 = .ok (.iload_n 1, 1) := by decide +kernel
theorem dX10_best_201 : decode cX10_best 201 = .ok (.bipush 10, 2) := by decide +kernel
theorem dX10_best_203 : decode cX10_best 203 = .ok (.isub, 1) := by decide +kernel
theorem dX10_best_204 : decode cX10_best 204 = .ok (.iaload, 1) := by decide +kernel
theorem dX10_best_205 : decode cX10_best 205 = .ok (.goto 5, 3) := by decide +kernel
theorem dX10_best_208 : decode cX10_best 208 = .ok (.bipush (-4), 2) := by decide +kernel
theorem dX10_best_210 : decode cX10_best 210 = .ok (.ireturn, 1) := by decide +kernel
def j_X10_best_163 (a : Nat) (l1 : Int32) (l2 : Int32) (g : zG) : Option (Int32 × zG) :=
  zb (f_X10_chainAgain a g) (fun v1 g2 => if l2 = 1000000000 then (some (((-2), g2))) else (if l1 = 0 then (some ((l2, g2))) else (if (g2.1 a 0) ≤ (l1 - 10) then (some (((-4), g2))) else (zc (zin (l1 - 10) 6) (some ((g2.1 (g2.2.1 a 57) (l1 - 10).toNatClampNeg, g2)))))))
def j_X10_best_155_104 (a : Nat) (l1 : Int32) (l2 : Int32) (g : zG) : Option ((Int32 × Int32 × zG) ⊕ (Int32 × zG)) :=
  zb (f_X10_goesOn a g) (fun v7 g8 => some (.inl (l2, v7, g8)))
def l_X10_best_126 (a : Nat) (l1 : Int32) (l2 : Int32) (l5 : Int32) (g : zG) : Option ((Int32 × zG) ⊕ (zG)) :=
  if (g.1 a 0) ≤ l5 then (some (.inr g)) else (zc (zin l5 49) (zc (zin l5 6) (zl (zsi g (g.2.1 a 57) l5.toNatClampNeg (g.1 (g.2.1 a 1) l5.toNatClampNeg)) (fun g16 => zl (l5 + 1) (fun v17 => some (.inl (v17, g16)))))))
def l_X10_best_104 (a : Nat) (l1 : Int32) (l2 : Int32) (l3 : Int32) (g : zG) : Option ((Int32 × Int32 × zG) ⊕ (Int32 × zG)) :=
  if l3 = 0 then (some (.inr (l2, g))) else (zb (f_X10_tries a g) (fun v10 g11 => if l2 ≤ v10 then (j_X10_best_155_104 a l1 l2 g11) else (zk (zw zN (fun s => l_X10_best_126 a l1 v10 s.1 s.2) (0, g11)) (fun x => j_X10_best_155_104 a l1 v10 x))))
def j_X10_best_98 (a : Nat) (l1 : Int32) (g : zG) : Option (Int32 × zG) :=
  zk (zw zN (fun s => l_X10_best_104 a l1 s.1 s.2.1 s.2.2) (1000000000, 1, g)) (fun x => j_X10_best_163 a l1 x.1 x.2)
def j_X10_best_92_45 (a : Nat) (l1 : Int32) (l2 : Int32) (g : zG) : Option ((Int32 × zG) ⊕ (zG)) :=
  zl (l2 + 1) (fun v22 => some (.inl (v22, g)))
def l_X10_best_57 (a : Nat) (l1 : Int32) (l2 : Int32) (l3 : Int32) (g : zG) : Option ((Int32 × zG) ⊕ (zG)) :=
  if (g.1 a 0) ≤ l3 then (some (.inr g)) else (zc (zin l3 49) (zc (zin l2 49) (if (g.1 (g.2.1 a 1) l2.toNatClampNeg) ≤ (g.1 (g.2.1 a 1) l3.toNatClampNeg) then (zl (l3 + 1) (fun v29 => some (.inl (v29, g)))) else (zb (f_X10_swaps a l2 l3 g) (fun v30 g31 => zl (l3 + 1) (fun v32 => some (.inl (v32, g31))))))))
def l_X10_best_45 (a : Nat) (l1 : Int32) (l2 : Int32) (g : zG) : Option ((Int32 × zG) ⊕ (zG)) :=
  if (g.1 a 0) ≤ l2 then (some (.inr g)) else (zl (l2 + 1) (fun v24 => zk (zw zN (fun s => l_X10_best_57 a l1 l2 s.1 s.2) (v24, g)) (fun x => j_X10_best_92_45 a l1 l2 x)))
def j_X10_best_20 (a : Nat) (l1 : Int32) (g : zG) : Option (Int32 × zG) :=
  if 6 < (g.1 a 0) then (some (((-2), g))) else (if (g.1 a 4) = 0 then (some (((-2), g))) else (zb (f_X10_keepChain a g) (fun v20 g21 => zk (zw zN (fun s => l_X10_best_45 a l1 s.1 s.2) (0, g21)) (fun x => j_X10_best_98 a l1 x))))
def f_X10_best (a : Nat) (x1 : Int32) (g : zG) : Option (Int32 × zG) :=
  if x1 = 0 then (j_X10_best_20 a x1 g) else (zb (f_X10_in x1.toInt64 10 15 g) (fun v34 g35 => if v34 = 0 then (some (((-1), g35))) else (j_X10_best_20 a x1 g35)))
abbrev rm_X10_best : Room := { frames := 6, cells := 0, slots := 0, locals := 142 }
set_option maxRecDepth 100000 in
set_option maxHeartbeats 4000000 in
theorem c_X10_best (l : Launch) (D : zD) (sz : Nat) (τ : zT) (g : zG) (a : Nat) (x1 : Int32) (hta : τ a = some (.inr 10)) : zCon l D yX10_best cX10_best 6 (some .int) rm_X10_best 0 0 zrI [.ref a, .int x1] sz τ g τ (f_X10_best a x1 g) := by
  refine zCon.of (by decide) (Nat.le_of_ble_eq_true rfl) (fun E r g' hl hR hsz hnm F => ?_)
  have F : zF E D (zA τ sz) cX10_best "TypeChainModel" 6 (some .int) := F
  show zSim (fun q : Int32 × zG => q = (r, g')) (f_X10_best a x1 g) (zAt E D (zA τ sz) (zQ E D zrI 0 0 sz τ τ r g') 6 (sz, τ, 0, 0) g 0 [(0, .ref a), (1, .int x1)] [])
  have hj_X10_best_163 : ∀ (l1_163 : Int32) (l2_163 : Int32) (g_163 : zG), zSim (fun q : Int32 × zG => q = (r, g')) (j_X10_best_163 a l1_163 l2_163 g_163) (zAt E D (zA τ sz) (zQ E D zrI 0 0 sz τ τ r g') 6 (sz, τ, 0, 0) g_163 163 [(0, .ref a), (1, .int l1_163), (2, .int l2_163)] []) := by
    intro l1_163 l2_163 g_163
    unfold j_X10_best_163
    refine z_aload_n F 0 rfl rfl dX10_best_163 ?_
    refine k_X10_chainAgain F (by rw [hR]; exact ⟨by decide, by decide⟩) q_1323 hta ⟨Nat.zero_le _, Nat.zero_le _⟩ (Nat.le_of_ble_eq_true rfl) dX10_best_164 (fun v1 g2 => ?_)
    refine z_iload_n F 2 rfl rfl dX10_best_167 ?_
    refine z_ldcw F q_1314 dX10_best_168 ?_
    refine z_icmp_ne (tgt := 177) F dX10_best_171 (by decide) (fun c3 => ?_) (fun c3 => ?_)
    · refine z_bipush (v := (-2)) F (by decide) dX10_best_174 ?_
      exact z_ireturn F rfl rfl rfl rfl (fun h => h) dX10_best_176
    · refine z_iload_n F 1 rfl rfl dX10_best_177 ?_
      refine z_if_ne (tgt := 185) F dX10_best_178 (by decide) (fun c4 => ?_) (fun c4 => ?_)
      · refine z_iload_n F 2 rfl rfl dX10_best_181 ?_
        refine z_goto (tgt := 210) F dX10_best_182 (by decide) ?_
        exact z_ireturn F rfl rfl rfl rfl (fun h => h) dX10_best_210
      · refine z_iload_n F 1 rfl rfl dX10_best_185 ?_
        refine z_bipush (v := 10) F (by decide) dX10_best_186 ?_
        refine z_isub F dX10_best_188 ?_
        refine z_aload_n F 0 rfl rfl dX10_best_189 ?_
        refine gf_X10_139 F hta dX10_best_190 ?_
        refine z_icmp_ge (tgt := 208) F dX10_best_193 (by decide) (fun c5 => ?_) (fun c5 => ?_)
        · refine z_bipush (v := (-4)) F (by decide) dX10_best_208 ?_
          exact z_ireturn F rfl rfl rfl rfl (fun h => h) dX10_best_210
        · refine z_aload_n F 0 rfl rfl dX10_best_196 ?_
          refine gf_X10_104 F hta dX10_best_197 (fun ht6 => ?_)
          refine z_iload_n F 1 rfl rfl dX10_best_200 ?_
          refine z_bipush (v := 10) F (by decide) dX10_best_201 ?_
          refine z_isub F dX10_best_203 ?_
          refine z_iald F ht6 dX10_best_204 ?_
          refine z_goto (tgt := 210) F dX10_best_205 (by decide) ?_
          exact z_ireturn F rfl rfl rfl rfl (fun h => h) dX10_best_210
  have hj_X10_best_98 : ∀ (l1_98 : Int32) (g_98 : zG), zSim (fun q : Int32 × zG => q = (r, g')) (j_X10_best_98 a l1_98 g_98) (zAt E D (zA τ sz) (zQ E D zrI 0 0 sz τ τ r g') 6 (sz, τ, 0, 0) g_98 98 [(0, .ref a), (1, .int l1_98)] []) := by
    intro l1_98 g_98
    unfold j_X10_best_98
    refine z_ldcw F q_1314 dX10_best_98 ?_
    refine z_istore_n (lv' := [(2, .int 1000000000), (0, .ref a), (1, .int l1_98)]) F rfl (by decide) dX10_best_101 rfl ?_
    refine z_iconst (v := 1) F (by decide) dX10_best_102 ?_
    refine z_istore_n (lv' := [(3, .int 1), (2, .int 1000000000), (0, .ref a), (1, .int l1_98)]) F rfl (by decide) dX10_best_103 rfl ?_
    refine z_sub (lv' := [(0, .ref a), (1, .int l1_98), (2, .int 1000000000), (3, .int 1)]) [2, 3, 1, 0] rfl ?_
    refine z_loop (P := fun s : Int32 × Int32 × zG => zAt E D (zA τ sz) (zQ E D zrI 0 0 sz τ τ r g') 6 (sz, τ, 0, 0) s.2.2 104 [(0, .ref a), (1, .int l1_98), (2, .int s.1), (3, .int s.2.1)] []) (Px := fun x : Int32 × zG => zAt E D (zA τ sz) (zQ E D zrI 0 0 sz τ τ r g') 6 (sz, τ, 0, 0) x.2 163 [(0, .ref a), (1, .int l1_98), (2, .int x.1)] []) (1000000000, 1, g_98) (fun s => ?_) (fun x => ?_)
    · obtain ⟨l2_104, l3_104, g_104⟩ := s
      show zSim (zKl (fun s : Int32 × Int32 × zG => zAt E D (zA τ sz) (zQ E D zrI 0 0 sz τ τ r g') 6 (sz, τ, 0, 0) s.2.2 104 [(0, .ref a), (1, .int l1_98), (2, .int s.1), (3, .int s.2.1)] []) (fun x : Int32 × zG => zAt E D (zA τ sz) (zQ E D zrI 0 0 sz τ τ r g') 6 (sz, τ, 0, 0) x.2 163 [(0, .ref a), (1, .int l1_98), (2, .int x.1)] [])) (l_X10_best_104 a l1_98 l2_104 l3_104 g_104) (zAt E D (zA τ sz) (zQ E D zrI 0 0 sz τ τ r g') 6 (sz, τ, 0, 0) g_104 104 [(0, .ref a), (1, .int l1_98), (2, .int l2_104), (3, .int l3_104)] [])
      have hj_X10_best_155_104 : ∀ (l2_155 : Int32) (g_155 : zG), zSim (zKl (fun s : Int32 × Int32 × zG => zAt E D (zA τ sz) (zQ E D zrI 0 0 sz τ τ r g') 6 (sz, τ, 0, 0) s.2.2 104 [(0, .ref a), (1, .int l1_98), (2, .int s.1), (3, .int s.2.1)] []) (fun x : Int32 × zG => zAt E D (zA τ sz) (zQ E D zrI 0 0 sz τ τ r g') 6 (sz, τ, 0, 0) x.2 163 [(0, .ref a), (1, .int l1_98), (2, .int x.1)] [])) (j_X10_best_155_104 a l1_98 l2_155 g_155) (zAt E D (zA τ sz) (zQ E D zrI 0 0 sz τ τ r g') 6 (sz, τ, 0, 0) g_155 155 [(0, .ref a), (1, .int l1_98), (2, .int l2_155)] []) := by
        intro l2_155 g_155
        unfold j_X10_best_155_104
        refine z_aload_n F 0 rfl rfl dX10_best_155 ?_
        refine k_X10_goesOn F (by rw [hR]; exact ⟨by decide, by decide⟩) q_1319 hta ⟨Nat.zero_le _, Nat.zero_le _⟩ (Nat.le_of_ble_eq_true rfl) dX10_best_156 (fun v7 g8 => ?_)
        refine z_istore_n (lv' := [(3, .int v7), (0, .ref a), (1, .int l1_98), (2, .int l2_155)]) F rfl (by decide) dX10_best_159 rfl ?_
        refine z_goto (tgt := 104) F dX10_best_160 (by decide) ?_
        refine z_sub (lv' := [(0, .ref a), (1, .int l1_98), (2, .int l2_155), (3, .int v7)]) [1, 2, 3, 0] rfl ?_
        exact z_back (fun h => h)
      unfold l_X10_best_104
      refine z_iload_n F 3 rfl rfl dX10_best_104 ?_
      refine z_if_eq (tgt := 163) F dX10_best_105 (by decide) (fun c9 => ?_) (fun c9 => ?_)
      · refine z_sub (lv' := [(0, .ref a), (1, .int l1_98), (2, .int l2_104)]) [0, 1, 2] rfl ?_
        exact z_back (fun h => h)
      · refine z_aload_n F 0 rfl rfl dX10_best_108 ?_
        refine k_X10_tries F (by rw [hR]; exact ⟨by decide, by decide⟩) q_1315 hta ⟨Nat.zero_le _, Nat.zero_le _⟩ (Nat.le_of_ble_eq_true rfl) dX10_best_109 (fun v10 g11 => ?_)
        refine z_istore (lv' := [(4, .int v10), (0, .ref a), (1, .int l1_98), (2, .int l2_104), (3, .int l3_104)]) F (by decide) dX10_best_112 rfl ?_
        refine z_iload F 0 rfl dX10_best_114 ?_
        refine z_iload_n F 3 rfl rfl dX10_best_116 ?_
        refine z_icmp_ge (tgt := 155) F dX10_best_117 (by decide) (fun c12 => ?_) (fun c12 => ?_)
        · refine z_sub (lv' := [(0, .ref a), (1, .int l1_98), (2, .int l2_104)]) [1, 2, 3] rfl ?_
          exact hj_X10_best_155_104 l2_104 g11
        · refine z_iload F 0 rfl dX10_best_120 ?_
          refine z_istore_n (lv' := [(2, .int v10), (4, .int v10), (0, .ref a), (1, .int l1_98), (3, .int l3_104)]) F rfl (by decide) dX10_best_122 rfl ?_
          refine z_iconst (v := 0) F (by decide) dX10_best_123 ?_
          refine z_istore (lv' := [(5, .int 0), (2, .int v10), (4, .int v10), (0, .ref a), (1, .int l1_98), (3, .int l3_104)]) F (by decide) dX10_best_124 rfl ?_
          refine z_sub (lv' := [(0, .ref a), (1, .int l1_98), (2, .int v10), (5, .int 0)]) [3, 4, 1, 0] rfl ?_
          refine z_loop (P := fun s : Int32 × zG => zAt E D (zA τ sz) (zQ E D zrI 0 0 sz τ τ r g') 6 (sz, τ, 0, 0) s.2 126 [(0, .ref a), (1, .int l1_98), (2, .int v10), (5, .int s.1)] []) (Px := fun x : zG => zAt E D (zA τ sz) (zQ E D zrI 0 0 sz τ τ r g') 6 (sz, τ, 0, 0) x 155 [(0, .ref a), (1, .int l1_98), (2, .int v10)] []) (0, g11) (fun s => ?_) (fun x => ?_)
          · obtain ⟨l5_126, g_126⟩ := s
            show zSim (zKl (fun s : Int32 × zG => zAt E D (zA τ sz) (zQ E D zrI 0 0 sz τ τ r g') 6 (sz, τ, 0, 0) s.2 126 [(0, .ref a), (1, .int l1_98), (2, .int v10), (5, .int s.1)] []) (fun x : zG => zAt E D (zA τ sz) (zQ E D zrI 0 0 sz τ τ r g') 6 (sz, τ, 0, 0) x 155 [(0, .ref a), (1, .int l1_98), (2, .int v10)] [])) (l_X10_best_126 a l1_98 v10 l5_126 g_126) (zAt E D (zA τ sz) (zQ E D zrI 0 0 sz τ τ r g') 6 (sz, τ, 0, 0) g_126 126 [(0, .ref a), (1, .int l1_98), (2, .int v10), (5, .int l5_126)] [])
            unfold l_X10_best_126
            refine z_iload F 3 rfl dX10_best_126 ?_
            refine z_aload_n F 0 rfl rfl dX10_best_128 ?_
            refine gf_X10_139 F hta dX10_best_129 ?_
            refine z_icmp_ge (tgt := 155) F dX10_best_132 (by decide) (fun c13 => ?_) (fun c13 => ?_)
            · refine z_sub (lv' := [(0, .ref a), (1, .int l1_98), (2, .int v10)]) [0, 1, 2] rfl ?_
              exact z_back (fun h => h)
            · refine z_aload_n F 0 rfl rfl dX10_best_135 ?_
              refine gf_X10_104 F hta dX10_best_136 (fun ht14 => ?_)
              refine z_iload F 3 rfl dX10_best_139 ?_
              refine z_aload_n F 0 rfl rfl dX10_best_141 ?_
              refine gf_X10_7 F hta dX10_best_142 (fun ht15 => ?_)
              refine z_iload F 3 rfl dX10_best_145 ?_
              refine z_iald F ht15 dX10_best_147 ?_
              refine z_iast F ht14 dX10_best_148 ?_
              refine z_letg (fun g16 => ?_)
              refine z_iincl (lv' := fun v17 => [(5, .int v17), (0, .ref a), (1, .int l1_98), (2, .int v10)]) F 3 rfl (by decide) (by decide) dX10_best_149 (fun _ => rfl) (fun v17 => ?_)
              refine z_goto (tgt := 126) F dX10_best_152 (by decide) ?_
              refine z_sub (lv' := [(0, .ref a), (1, .int l1_98), (2, .int v10), (5, .int v17)]) [1, 2, 3, 0] rfl ?_
              exact z_back (fun h => h)
          · show zSim (zKl (fun s : Int32 × Int32 × zG => zAt E D (zA τ sz) (zQ E D zrI 0 0 sz τ τ r g') 6 (sz, τ, 0, 0) s.2.2 104 [(0, .ref a), (1, .int l1_98), (2, .int s.1), (3, .int s.2.1)] []) (fun x : Int32 × zG => zAt E D (zA τ sz) (zQ E D zrI 0 0 sz τ τ r g') 6 (sz, τ, 0, 0) x.2 163 [(0, .ref a), (1, .int l1_98), (2, .int x.1)] [])) (j_X10_best_155_104 a l1_98 v10 x) (zAt E D (zA τ sz) (zQ E D zrI 0 0 sz τ τ r g') 6 (sz, τ, 0, 0) x 155 [(0, .ref a), (1, .int l1_98), (2, .int v10)] [])
            exact hj_X10_best_155_104 v10 x
    · show zSim (fun q : Int32 × zG => q = (r, g')) (j_X10_best_163 a l1_98 x.1 x.2) (zAt E D (zA τ sz) (zQ E D zrI 0 0 sz τ τ r g') 6 (sz, τ, 0, 0) x.2 163 [(0, .ref a), (1, .int l1_98), (2, .int x.1)] [])
      exact hj_X10_best_163 l1_98 x.1 x.2
  have hj_X10_best_20 : ∀ (l1_20 : Int32) (g_20 : zG), zSim (fun q : Int32 × zG => q = (r, g')) (j_X10_best_20 a l1_20 g_20) (zAt E D (zA τ sz) (zQ E D zrI 0 0 sz τ τ r g') 6 (sz, τ, 0, 0) g_20 20 [(0, .ref a), (1, .int l1_20)] []) := by
    intro l1_20 g_20
    unfold j_X10_best_20
    refine z_aload_n F 0 rfl rfl dX10_best_20 ?_
    refine gf_X10_139 F hta dX10_best_21 ?_
    refine z_bipush (v := 6) F (by decide) dX10_best_24 ?_
    refine z_icmp_gt (tgt := 36) F dX10_best_26 (by decide) (fun c18 => ?_) (fun c18 => ?_)
    · refine z_bipush (v := (-2)) F (by decide) dX10_best_36 ?_
      exact z_ireturn F rfl rfl rfl rfl (fun h => h) dX10_best_38
    · refine z_aload_n F 0 rfl rfl dX10_best_29 ?_
      refine gf_X10_142 F hta dX10_best_30 ?_
      refine z_if_ne (tgt := 39) F dX10_best_33 (by decide) (fun c19 => ?_) (fun c19 => ?_)
      · refine z_bipush (v := (-2)) F (by decide) dX10_best_36 ?_
        exact z_ireturn F rfl rfl rfl rfl (fun h => h) dX10_best_38
      · refine z_aload_n F 0 rfl rfl dX10_best_39 ?_
        refine k_X10_keepChain F (by rw [hR]; exact ⟨by decide, by decide⟩) q_1306 hta ⟨Nat.zero_le _, Nat.zero_le _⟩ (Nat.le_of_ble_eq_true rfl) dX10_best_40 (fun v20 g21 => ?_)
        refine z_iconst (v := 0) F (by decide) dX10_best_43 ?_
        refine z_istore_n (lv' := [(2, .int 0), (0, .ref a), (1, .int l1_20)]) F rfl (by decide) dX10_best_44 rfl ?_
        refine z_sub (lv' := [(0, .ref a), (1, .int l1_20), (2, .int 0)]) [1, 2, 0] rfl ?_
        refine z_loop (P := fun s : Int32 × zG => zAt E D (zA τ sz) (zQ E D zrI 0 0 sz τ τ r g') 6 (sz, τ, 0, 0) s.2 45 [(0, .ref a), (1, .int l1_20), (2, .int s.1)] []) (Px := fun x : zG => zAt E D (zA τ sz) (zQ E D zrI 0 0 sz τ τ r g') 6 (sz, τ, 0, 0) x 98 [(0, .ref a), (1, .int l1_20)] []) (0, g21) (fun s => ?_) (fun x => ?_)
        · obtain ⟨l2_45, g_45⟩ := s
          show zSim (zKl (fun s : Int32 × zG => zAt E D (zA τ sz) (zQ E D zrI 0 0 sz τ τ r g') 6 (sz, τ, 0, 0) s.2 45 [(0, .ref a), (1, .int l1_20), (2, .int s.1)] []) (fun x : zG => zAt E D (zA τ sz) (zQ E D zrI 0 0 sz τ τ r g') 6 (sz, τ, 0, 0) x 98 [(0, .ref a), (1, .int l1_20)] [])) (l_X10_best_45 a l1_20 l2_45 g_45) (zAt E D (zA τ sz) (zQ E D zrI 0 0 sz τ τ r g') 6 (sz, τ, 0, 0) g_45 45 [(0, .ref a), (1, .int l1_20), (2, .int l2_45)] [])
          have hj_X10_best_92_45 : ∀ (l2_92 : Int32) (g_92 : zG), zSim (zKl (fun s : Int32 × zG => zAt E D (zA τ sz) (zQ E D zrI 0 0 sz τ τ r g') 6 (sz, τ, 0, 0) s.2 45 [(0, .ref a), (1, .int l1_20), (2, .int s.1)] []) (fun x : zG => zAt E D (zA τ sz) (zQ E D zrI 0 0 sz τ τ r g') 6 (sz, τ, 0, 0) x 98 [(0, .ref a), (1, .int l1_20)] [])) (j_X10_best_92_45 a l1_20 l2_92 g_92) (zAt E D (zA τ sz) (zQ E D zrI 0 0 sz τ τ r g') 6 (sz, τ, 0, 0) g_92 92 [(0, .ref a), (1, .int l1_20), (2, .int l2_92)] []) := by
            intro l2_92 g_92
            unfold j_X10_best_92_45
            refine z_iincl (lv' := fun v22 => [(2, .int v22), (0, .ref a), (1, .int l1_20)]) F 2 rfl (by decide) (by decide) dX10_best_92 (fun _ => rfl) (fun v22 => ?_)
            refine z_goto (tgt := 45) F dX10_best_95 (by decide) ?_
            refine z_sub (lv' := [(0, .ref a), (1, .int l1_20), (2, .int v22)]) [1, 2, 0] rfl ?_
            exact z_back (fun h => h)
          unfold l_X10_best_45
          refine z_iload_n F 2 rfl rfl dX10_best_45 ?_
          refine z_aload_n F 0 rfl rfl dX10_best_46 ?_
          refine gf_X10_139 F hta dX10_best_47 ?_
          refine z_icmp_ge (tgt := 98) F dX10_best_50 (by decide) (fun c23 => ?_) (fun c23 => ?_)
          · refine z_sub (lv' := [(0, .ref a), (1, .int l1_20)]) [0, 1] rfl ?_
            exact z_back (fun h => h)
          · refine z_iload_n F 2 rfl rfl dX10_best_53 ?_
            refine z_iconst (v := 1) F (by decide) dX10_best_54 ?_
            refine z_iadd F dX10_best_55 ?_
            refine z_leti (fun v24 => ?_)
            refine z_istore_n (lv' := [(3, .int v24), (0, .ref a), (1, .int l1_20), (2, .int l2_45)]) F rfl (by decide) dX10_best_56 rfl ?_
            refine z_sub (lv' := [(0, .ref a), (1, .int l1_20), (2, .int l2_45), (3, .int v24)]) [1, 2, 3, 0] rfl ?_
            refine z_loop (P := fun s : Int32 × zG => zAt E D (zA τ sz) (zQ E D zrI 0 0 sz τ τ r g') 6 (sz, τ, 0, 0) s.2 57 [(0, .ref a), (1, .int l1_20), (2, .int l2_45), (3, .int s.1)] []) (Px := fun x : zG => zAt E D (zA τ sz) (zQ E D zrI 0 0 sz τ τ r g') 6 (sz, τ, 0, 0) x 92 [(0, .ref a), (1, .int l1_20), (2, .int l2_45)] []) (v24, g_45) (fun s => ?_) (fun x => ?_)
            · obtain ⟨l3_57, g_57⟩ := s
              show zSim (zKl (fun s : Int32 × zG => zAt E D (zA τ sz) (zQ E D zrI 0 0 sz τ τ r g') 6 (sz, τ, 0, 0) s.2 57 [(0, .ref a), (1, .int l1_20), (2, .int l2_45), (3, .int s.1)] []) (fun x : zG => zAt E D (zA τ sz) (zQ E D zrI 0 0 sz τ τ r g') 6 (sz, τ, 0, 0) x 92 [(0, .ref a), (1, .int l1_20), (2, .int l2_45)] [])) (l_X10_best_57 a l1_20 l2_45 l3_57 g_57) (zAt E D (zA τ sz) (zQ E D zrI 0 0 sz τ τ r g') 6 (sz, τ, 0, 0) g_57 57 [(0, .ref a), (1, .int l1_20), (2, .int l2_45), (3, .int l3_57)] [])
              unfold l_X10_best_57
              refine z_iload_n F 3 rfl rfl dX10_best_57 ?_
              refine z_aload_n F 0 rfl rfl dX10_best_58 ?_
              refine gf_X10_139 F hta dX10_best_59 ?_
              refine z_icmp_ge (tgt := 92) F dX10_best_62 (by decide) (fun c25 => ?_) (fun c25 => ?_)
              · refine z_sub (lv' := [(0, .ref a), (1, .int l1_20), (2, .int l2_45)]) [0, 1, 2] rfl ?_
                exact z_back (fun h => h)
              · refine z_aload_n F 0 rfl rfl dX10_best_65 ?_
                refine gf_X10_7 F hta dX10_best_66 (fun ht26 => ?_)
                refine z_iload_n F 3 rfl rfl dX10_best_69 ?_
                refine z_iald F ht26 dX10_best_70 ?_
                refine z_aload_n F 0 rfl rfl dX10_best_71 ?_
                refine gf_X10_7 F hta dX10_best_72 (fun ht27 => ?_)
                refine z_iload_n F 2 rfl rfl dX10_best_75 ?_
                refine z_iald F ht27 dX10_best_76 ?_
                refine z_icmp_ge (tgt := 86) F dX10_best_77 (by decide) (fun c28 => ?_) (fun c28 => ?_)
                · refine z_iincl (lv' := fun v29 => [(3, .int v29), (0, .ref a), (1, .int l1_20), (2, .int l2_45)]) F 3 rfl (by decide) (by decide) dX10_best_86 (fun _ => rfl) (fun v29 => ?_)
                  refine z_goto (tgt := 57) F dX10_best_89 (by decide) ?_
                  refine z_sub (lv' := [(0, .ref a), (1, .int l1_20), (2, .int l2_45), (3, .int v29)]) [1, 2, 3, 0] rfl ?_
                  exact z_back (fun h => h)
                · refine z_aload_n F 0 rfl rfl dX10_best_80 ?_
                  refine z_iload_n F 2 rfl rfl dX10_best_81 ?_
                  refine z_iload_n F 3 rfl rfl dX10_best_82 ?_
                  refine k_X10_swaps F (by rw [hR]; exact ⟨by decide, by decide⟩) q_1310 hta ⟨Nat.zero_le _, Nat.zero_le _⟩ (Nat.le_of_ble_eq_true rfl) dX10_best_83 (fun v30 g31 => ?_)
                  refine z_iincl (lv' := fun v32 => [(3, .int v32), (0, .ref a), (1, .int l1_20), (2, .int l2_45)]) F 3 rfl (by decide) (by decide) dX10_best_86 (fun _ => rfl) (fun v32 => ?_)
                  refine z_goto (tgt := 57) F dX10_best_89 (by decide) ?_
                  refine z_sub (lv' := [(0, .ref a), (1, .int l1_20), (2, .int l2_45), (3, .int v32)]) [1, 2, 3, 0] rfl ?_
                  exact z_back (fun h => h)
            · show zSim (zKl (fun s : Int32 × zG => zAt E D (zA τ sz) (zQ E D zrI 0 0 sz τ τ r g') 6 (sz, τ, 0, 0) s.2 45 [(0, .ref a), (1, .int l1_20), (2, .int s.1)] []) (fun x : zG => zAt E D (zA τ sz) (zQ E D zrI 0 0 sz τ τ r g') 6 (sz, τ, 0, 0) x 98 [(0, .ref a), (1, .int l1_20)] [])) (j_X10_best_92_45 a l1_20 l2_45 x) (zAt E D (zA τ sz) (zQ E D zrI 0 0 sz τ τ r g') 6 (sz, τ, 0, 0) x 92 [(0, .ref a), (1, .int l1_20), (2, .int l2_45)] [])
              exact hj_X10_best_92_45 l2_45 x
        · show zSim (fun q : Int32 × zG => q = (r, g')) (j_X10_best_98 a l1_20 x) (zAt E D (zA τ sz) (zQ E D zrI 0 0 sz τ τ r g') 6 (sz, τ, 0, 0) x 98 [(0, .ref a), (1, .int l1_20)] [])
          exact hj_X10_best_98 l1_20 x
  unfold f_X10_best
  refine z_iload_n F 1 rfl rfl dX10_best_0 ?_
  refine z_if_eq (tgt := 20) F dX10_best_1 (by decide) (fun c33 => ?_) (fun c33 => ?_)
  · exact hj_X10_best_20 x1 g
  · refine z_iload_n F 1 rfl rfl dX10_best_4 ?_
    refine z_i2l F dX10_best_5 ?_
    refine z_ldc2 F q_1173 dX10_best_6 ?_
    refine z_ldc2 F q_1305 dX10_best_9 ?_
    refine k_X10_in F (by rw [hR]; exact ⟨by decide, by decide⟩) q_1082  ⟨Nat.zero_le _, Nat.zero_le _⟩ (Nat.le_of_ble_eq_true rfl) dX10_best_12 (fun v34 g35 => ?_)
    refine z_if_ne (tgt := 20) F dX10_best_15 (by decide) (fun c36 => ?_) (fun c36 => ?_)
    · refine z_iconst (v := (-1)) F (by decide) dX10_best_18 ?_
      exact z_ireturn F rfl rfl rfl rfl (fun h => h) dX10_best_19
    · exact hj_X10_best_20 x1 g35
theorem k_X10_best {ρ : Type} {K : ρ → Prop} {E : zE} {D : zD} {A : Nat → Prop} {Q : State → Prop} {nL : Nat} {κ : zC} {g : zG} {pc : Nat} {lv : List (Nat × Value)} {st : List Value} {cc : ByteArray} {own : String} {ret : Option FieldType} (F : zF E D A cc own nL ret) {index : Nat} {h : Int32 → zG → Option ρ} {a : Nat} {x1 : Int32}  (hR : 6 + 1 ≤ E.2.2.2.1.frames ∧ 8 + (6 + 11) + 142 ≤ E.2.2.2.1.locals) (hl : zTbl (.methodLink own index yX10_best)) (hta : κ.2.1 a = some (.inr 10)) (hc : κ.2.2.1 ≤ E.2.2.2.1.cells ∧ κ.2.2.2 ≤ E.2.2.2.1.slots) (hW : (st.map fun v => v.category).sum ≤ 8) (hd : decode cc pc = .ok (.invokevirtual index, 3)) (kk : ∀ r g', zSim K (h r g') (zAt E D A Q nL κ g' (pc + 3) lv (.int r :: st))) : zSim K (zb (f_X10_best a x1 g) h) (zAt E D A Q nL κ g pc lv (.int x1 :: .ref a :: st)) :=
  z_callV F (n := 1) (As := [.int x1]) (C := (RX10, TX10, 61)) ⟨q_1304, q_14, by decide +kernel, rfl, rfl, hR.1, hR.2⟩ (c_X10_best E.2.1 D κ.1 κ.2.1 g a x1 hta) hl q_1302 q_1303 hta rfl rfl rfl hc hW hd kk _ rfl
