theorem dX7_gather_0 : decode cX7_gather 0 = .ok (.aload_n 0, 1) := by decide +kernel
theorem dX7_gather_1 : decode cX7_gather 1 = .ok (.iconst 1, 1) := by decide +kernel
theorem dX7_gather_2 : decode cX7_gather 2 = .ok (.putfield 50, 3) := by decide +kernel
theorem dX7_gather_5 : decode cX7_gather 5 = .ok (.aload_n 0, 1) := by decide +kernel
theorem dX7_gather_6 : decode cX7_gather 6 = .ok (.iconst 0, 1) := by decide +kernel
theorem dX7_gather_7 : decode cX7_gather 7 = .ok (.putfield 54, 3) := by decide +kernel
theorem dX7_gather_10 : decode cX7_gather 10 = .ok (.aload_n 0, 1) := by decide +kernel
theorem dX7_gather_11 : decode cX7_gather 11 = .ok (.lconst 0, 1) := by decide +kernel
theorem dX7_gather_12 : decode cX7_gather 12 = .ok (.putfield 40, 3) := by decide +kernel
theorem dX7_gather_15 : decode cX7_gather 15 = .ok (.aload_n 0, 1) := by decide +kernel
theorem dX7_gather_16 : decode cX7_gather 16 = .ok (.iconst 0, 1) := by decide +kernel
theorem dX7_gather_17 : decode cX7_gather 17 = .ok (.putfield 28, 3) := by decide +kernel
theorem dX7_gather_20 : decode cX7_gather 20 = .ok (.iconst 0, 1) := by decide +kernel
theorem dX7_gather_21 : decode cX7_gather 21 = .ok (.istore 5, 2) := by decide +kernel
theorem dX7_gather_23 : decode cX7_gather 23 = .ok (.iload 5, 2) := by decide +kernel
theorem dX7_gather_25 : decode cX7_gather 25 = .ok (.iload_n 3, 1) := by decide +kernel
theorem dX7_gather_26 : decode cX7_gather 26 = .ok (.if_icmp .ge 76, 3) := by decide +kernel
theorem dX7_gather_29 : decode cX7_gather 29 = .ok (.aload_n 0, 1) := by decide +kernel
theorem dX7_gather_30 : decode cX7_gather 30 = .ok (.getfield 9, 3) := by decide +kernel
theorem dX7_gather_33 : decode cX7_gather 33 = .ok (.iload 5, 2) := by decide +kernel
theorem dX7_gather_35 : decode cX7_gather 35 = .ok (.bipush (-4), 2) := by decide +kernel
theorem dX7_gather_37 : decode cX7_gather 37 = .ok (.iastore, 1) := by decide +kernel
theorem dX7_gather_38 : decode cX7_gather 38 = .ok (.aload_n 0, 1) := by decide +kernel
theorem dX7_gather_39 : decode cX7_gather 39 = .ok (.getfield 15, 3) := by decide +kernel
theorem dX7_gather_42 : decode cX7_gather 42 = .ok (.iload 5, 2) := by decide +kernel
theorem dX7_gather_44 : decode cX7_gather 44 = .ok (.bipush (-4), 2) := by decide +kernel
theorem dX7_gather_46 : decode cX7_gather 46 = .ok (.iastore, 1) := by decide +kernel
theorem dX7_gather_47 : decode cX7_gather 47 = .ok (.aload_n 2, 1) := by decide +kernel
theorem dX7_gather_48 : decode cX7_gather 48 = .ok (.iload 5, 2) := by decide +kernel
theorem dX7_gather_50 : decode cX7_gather 50 = .ok (.iaload, 1) := by decide +kernel
theorem dX7_gather_51 : decode cX7_gather 51 = .ok (.ifCond .eq 45, 3) := by decide +kernel
theorem dX7_gather_54 : decode cX7_gather 54 = .ok (.aload_n 0, 1) := by decide +kernel
theorem dX7_gather_55 : decode cX7_gather 55 = .ok (.getfield 18, 3) := by decide +kernel
theorem dX7_gather_58 : decode cX7_gather 58 = .ok (.aload_n 0, 1) := by decide +kernel
theorem dX7_gather_59 : decode cX7_gather 59 = .ok (.getfield 28, 3) := by decide +kernel
theorem dX7_gather_62 : decode cX7_gather 62 = .ok (.iload 5, 2) := by decide +kernel
theorem dX7_gather_64 : decode cX7_gather 64 = .ok (.iastore, 1) := by decide +kernel
theorem dX7_gather_65 : decode cX7_gather 65 = .ok (.aload_n 0, 1) := by decide +kernel
theorem dX7_gather_66 : decode cX7_gather 66 = .ok (.getfield 21, 3) := by decide +kernel
theorem dX7_gather_69 : decode cX7_gather 69 = .ok (.aload_n 0, 1) := by decide +kernel
theorem dX7_gather_70 : decode cX7_gather 70 = .ok (.getfield 28, 3) := by decide +kernel
theorem dX7_gather_73 : decode cX7_gather 73 = .ok (.aload_n 1, 1) := by decide +kernel
theorem dX7_gather_74 : decode cX7_gather 74 = .ok (.iload 5, 2) := by decide +kernel
theorem dX7_gather_76 : decode cX7_gather 76 = .ok (.aload_n 2, 1) := by decide +kernel
theorem dX7_gather_77 : decode cX7_gather 77 = .ok (.iload 5, 2) := by decide +kernel
theorem dX7_gather_79 : decode cX7_gather 79 = .ok (.iaload, 1) := by decide +kernel
theorem dX7_gather_80 : decode cX7_gather 80 = .ok (.iload 4, 2) := by decide +kernel
theorem dX7_gather_82 : decode cX7_gather 82 = .ok (.invokevirtual 44, 3) := by decide +kernel
theorem dX7_gather_85 : decode cX7_gather 85 = .ok (.iastore, 1) := by decide +kernel
theorem dX7_gather_86 : decode cX7_gather 86 = .ok (.aload_n 0, 1) := by decide +kernel
theorem dX7_gather_87 : decode cX7_gather 87 = .ok (.dup, 1) := by decide +kernel
theorem dX7_gather_88 : decode cX7_gather 88 = .ok (.getfield 28, 3) := by decide +kernel
theorem dX7_gather_91 : decode cX7_gather 91 = .ok (.iconst 1, 1) := by decide +kernel
theorem dX7_gather_92 : decode cX7_gather 92 = .ok (.iadd, 1) := by decide +kernel
theorem dX7_gather_93 : decode cX7_gather 93 = .ok (.putfield 28, 3) := by decide +kernel
theorem dX7_gather_96 : decode cX7_gather 96 = .ok (.iinc 5 1, 3) := by decide +kernel
theorem dX7_gather_99 : decode cX7_gather 99 = .ok (.goto (-76), 3) := by decide +kernel
theorem dX7_gather_102 : decode cX7_gather 102 = .ok (.aload_n 0, 1) := by decide +kernel
theorem dX7_gather_103 : decode cX7_gather 103 = .ok (.aload_n 0, 1) := by decide +kernel
theorem dX7_gather_104 : decode cX7_gather 104 = .ok (.getfield 28, 3) := by decide +kernel
theorem dX7_gather_107 : decode cX7_gather 107 = .ok (.putfield 57, 3) := by decide +kernel
theorem dX7_gather_110 : decode cX7_gather 110 = .ok (.return_, 1) := by decide +kernel
def j_X7_gather_102 (a : Nat)  (g : zG) : Option (Int32 × zG) :=
  zl (zsi g a 3 (g.1 a 8)) (fun g1 => some ((0, g1)))
def l_X7_gather_23 (a : Nat) (l1 : Nat) (l2 : Nat) (l3 : Int32) (l4 : Int32) (l5 : Int32) (g : zG) : Option ((Int32 × zG) ⊕ (zG)) :=
  if l3 ≤ l5 then (some (.inr g)) else (zc (zin l5 40) (zl (zsi g (g.2.1 a 0) l5.toNatClampNeg (-4)) (fun g8 => zc (zin l5 40) (zl (zsi g8 (g8.2.1 a 1) l5.toNatClampNeg (-4)) (fun g10 => zc (zin l5 40) (if (g10.1 l2 l5.toNatClampNeg) = 0 then (zl (l5 + 1) (fun v12 => some (.inl (v12, g10)))) else (zc (zin (g10.1 a 8) 40) (zl (zsi g10 (g10.2.1 a 6) (g10.1 a 8).toNatClampNeg l5) (fun g14 => zc (zin l5 40) (zb (f_X0_nextTick l1 l5 (g14.1 l2 l5.toNatClampNeg) l4 g14) (fun v16 g17 => zc (zin (g14.1 a 8) 40) (zl (zsi g17 (g14.2.1 a 7) (g14.1 a 8).toNatClampNeg v16) (fun g18 => zl (zsi g18 a 8 ((g18.1 a 8) + 1)) (fun g19 => zl (l5 + 1) (fun v20 => some (.inl (v20, g19)))))))))))))))))
def f_X7_gather (a : Nat) (b1 : Nat) (b2 : Nat) (x3 : Int32) (x4 : Int32) (g : zG) : Option (Int32 × zG) :=
  zl (zsi g a 2 1) (fun g2 => zl (zsi g2 a 4 0) (fun g3 => zl (zsl g3 a 5 0) (fun g4 => zl (zsi g4 a 8 0) (fun g5 => zk (zw zN (fun s => l_X7_gather_23 a b1 b2 x3 x4 s.1 s.2) (0, g5)) (fun x => j_X7_gather_102 a x)))))
abbrev rm_X7_gather : Room := { frames := 1, cells := 0, slots := 0, locals := 28 }
set_option maxRecDepth 100000 in
set_option maxHeartbeats 4000000 in
theorem c_X7_gather (l : Launch) (D : zD) (sz : Nat) (τ : zT) (g : zG) (a : Nat) (b1 : Nat) (b2 : Nat) (x3 : Int32) (x4 : Int32) (hta : τ a = some (.inr 7)) (htb1 : τ b1 = some (.inr 0)) (htb2 : τ b2 = some (.inl (.int, 40))) : zCon l D yX7_gather cX7_gather 6 none rm_X7_gather 0 0 zrV [.ref a, .ref b1, .ref b2, .int x3, .int x4] sz τ g τ (f_X7_gather a b1 b2 x3 x4 g) := by
  refine zCon.of (by decide) (Nat.le_of_ble_eq_true rfl) (fun E r g' hl hR hsz hnm F => ?_)
  have F : zF E D (zA τ sz) cX7_gather "TypeChain$Strike" 6 none := F
  show zSim (fun q : Int32 × zG => q = (r, g')) (f_X7_gather a b1 b2 x3 x4 g) (zAt E D (zA τ sz) (zQ E D zrV 0 0 sz τ τ r g') 6 (sz, τ, 0, 0) g 0 [(0, .ref a), (1, .ref b1), (2, .ref b2), (3, .int x3), (4, .int x4)] [])
  have hj_X7_gather_102 : ∀  (g_102 : zG), zSim (fun q : Int32 × zG => q = (r, g')) (j_X7_gather_102 a g_102) (zAt E D (zA τ sz) (zQ E D zrV 0 0 sz τ τ r g') 6 (sz, τ, 0, 0) g_102 102 [(0, .ref a)] []) := by
    intro g_102
    unfold j_X7_gather_102
    refine z_aload_n F 0 rfl rfl dX7_gather_102 ?_
    refine z_aload_n F 0 rfl rfl dX7_gather_103 ?_
    refine gf_X7_28 F hta dX7_gather_104 ?_
    refine pf_X7_57 F hta dX7_gather_107 ?_
    refine z_letg (fun g1 => ?_)
    exact z_vreturn F rfl rfl rfl rfl (fun h => h) dX7_gather_110
  unfold f_X7_gather
  refine z_aload_n F 0 rfl rfl dX7_gather_0 ?_
  refine z_iconst (v := 1) F (by decide) dX7_gather_1 ?_
  refine pf_X7_50 F hta (Or.inr rfl) dX7_gather_2 ?_
  refine z_letg (fun g2 => ?_)
  refine z_aload_n F 0 rfl rfl dX7_gather_5 ?_
  refine z_iconst (v := 0) F (by decide) dX7_gather_6 ?_
  refine pf_X7_54 F hta dX7_gather_7 ?_
  refine z_letg (fun g3 => ?_)
  refine z_aload_n F 0 rfl rfl dX7_gather_10 ?_
  refine z_lconst (v := 0) F (by decide) dX7_gather_11 ?_
  refine pf_X7_40 F hta dX7_gather_12 ?_
  refine z_letg (fun g4 => ?_)
  refine z_aload_n F 0 rfl rfl dX7_gather_15 ?_
  refine z_iconst (v := 0) F (by decide) dX7_gather_16 ?_
  refine pf_X7_28 F hta dX7_gather_17 ?_
  refine z_letg (fun g5 => ?_)
  refine z_iconst (v := 0) F (by decide) dX7_gather_20 ?_
  refine z_istore (lv' := [(5, .int 0), (0, .ref a), (1, .ref b1), (2, .ref b2), (3, .int x3), (4, .int x4)]) F (by decide) dX7_gather_21 rfl ?_
  refine z_sub (lv' := [(0, .ref a), (1, .ref b1), (2, .ref b2), (3, .int x3), (4, .int x4), (5, .int 0)]) [1, 2, 3, 4, 5, 0] rfl ?_
  refine z_loop (P := fun s : Int32 × zG => zAt E D (zA τ sz) (zQ E D zrV 0 0 sz τ τ r g') 6 (sz, τ, 0, 0) s.2 23 [(0, .ref a), (1, .ref b1), (2, .ref b2), (3, .int x3), (4, .int x4), (5, .int s.1)] []) (Px := fun x : zG => zAt E D (zA τ sz) (zQ E D zrV 0 0 sz τ τ r g') 6 (sz, τ, 0, 0) x 102 [(0, .ref a)] []) (0, g5) (fun s => ?_) (fun x => ?_)
  · obtain ⟨l5_23, g_23⟩ := s
    show zSim (zKl (fun s : Int32 × zG => zAt E D (zA τ sz) (zQ E D zrV 0 0 sz τ τ r g') 6 (sz, τ, 0, 0) s.2 23 [(0, .ref a), (1, .ref b1), (2, .ref b2), (3, .int x3), (4, .int x4), (5, .int s.1)] []) (fun x : zG => zAt E D (zA τ sz) (zQ E D zrV 0 0 sz τ τ r g') 6 (sz, τ, 0, 0) x 102 [(0, .ref a)] [])) (l_X7_gather_23 a b1 b2 x3 x4 l5_23 g_23) (zAt E D (zA τ sz) (zQ E D zrV 0 0 sz τ τ r g') 6 (sz, τ, 0, 0) g_23 23 [(0, .ref a), (1, .ref b1), (2, .ref b2), (3, .int x3), (4, .int x4), (5, .int l5_23)] [])
    unfold l_X7_gather_23
    refine z_iload F 5 rfl dX7_gather_23 ?_
    refine z_iload_n F 3 rfl rfl dX7_gather_25 ?_
    refine z_icmp_ge (tgt := 102) F dX7_gather_26 (by decide) (fun c6 => ?_) (fun c6 => ?_)
    · refine z_sub (lv' := [(0, .ref a)]) [0] rfl ?_
      exact z_back (fun h => h)
    · refine z_aload_n F 0 rfl rfl dX7_gather_29 ?_
      refine gf_X7_9 F hta dX7_gather_30 (fun ht7 => ?_)
      refine z_iload F 5 rfl dX7_gather_33 ?_
      refine z_bipush (v := (-4)) F (by decide) dX7_gather_35 ?_
      refine z_iast F ht7 dX7_gather_37 ?_
      refine z_letg (fun g8 => ?_)
      refine z_aload_n F 0 rfl rfl dX7_gather_38 ?_
      refine gf_X7_15 F hta dX7_gather_39 (fun ht9 => ?_)
      refine z_iload F 5 rfl dX7_gather_42 ?_
      refine z_bipush (v := (-4)) F (by decide) dX7_gather_44 ?_
      refine z_iast F ht9 dX7_gather_46 ?_
      refine z_letg (fun g10 => ?_)
      refine z_aload_n F 2 rfl rfl dX7_gather_47 ?_
      refine z_iload F 5 rfl dX7_gather_48 ?_
      refine z_iald F htb2 dX7_gather_50 ?_
      refine z_if_eq (tgt := 96) F dX7_gather_51 (by decide) (fun c11 => ?_) (fun c11 => ?_)
      · refine z_iincl (lv' := fun v12 => [(5, .int v12), (0, .ref a), (1, .ref b1), (2, .ref b2), (3, .int x3), (4, .int x4)]) F 5 rfl (by decide) (by decide) dX7_gather_96 (fun _ => rfl) (fun v12 => ?_)
        refine z_goto (tgt := 23) F dX7_gather_99 (by decide) ?_
        refine z_sub (lv' := [(0, .ref a), (1, .ref b1), (2, .ref b2), (3, .int x3), (4, .int x4), (5, .int v12)]) [1, 2, 3, 4, 5, 0] rfl ?_
        exact z_back (fun h => h)
      · refine z_aload_n F 0 rfl rfl dX7_gather_54 ?_
        refine gf_X7_18 F hta dX7_gather_55 (fun ht13 => ?_)
        refine z_aload_n F 0 rfl rfl dX7_gather_58 ?_
        refine gf_X7_28 F hta dX7_gather_59 ?_
        refine z_iload F 5 rfl dX7_gather_62 ?_
        refine z_iast F ht13 dX7_gather_64 ?_
        refine z_letg (fun g14 => ?_)
        refine z_aload_n F 0 rfl rfl dX7_gather_65 ?_
        refine gf_X7_21 F hta dX7_gather_66 (fun ht15 => ?_)
        refine z_aload_n F 0 rfl rfl dX7_gather_69 ?_
        refine gf_X7_28 F hta dX7_gather_70 ?_
        refine z_aload_n F 1 rfl rfl dX7_gather_73 ?_
        refine z_iload F 5 rfl dX7_gather_74 ?_
        refine z_aload_n F 2 rfl rfl dX7_gather_76 ?_
        refine z_iload F 5 rfl dX7_gather_77 ?_
        refine z_iald F htb2 dX7_gather_79 ?_
        refine z_iload F 4 rfl dX7_gather_80 ?_
        refine k_X0_nextTick F (by rw [hR]; exact ⟨by decide, by decide⟩) q_652 htb1 ⟨Nat.zero_le _, Nat.zero_le _⟩ (Nat.le_of_ble_eq_true rfl) dX7_gather_82 (fun v16 g17 => ?_)
        refine z_iast F ht15 dX7_gather_85 ?_
        refine z_letg (fun g18 => ?_)
        refine z_aload_n F 0 rfl rfl dX7_gather_86 ?_
        refine z_dup F rfl dX7_gather_87 ?_
        refine gf_X7_28 F hta dX7_gather_88 ?_
        refine z_iconst (v := 1) F (by decide) dX7_gather_91 ?_
        refine z_iadd F dX7_gather_92 ?_
        refine pf_X7_28 F hta dX7_gather_93 ?_
        refine z_letg (fun g19 => ?_)
        refine z_iincl (lv' := fun v20 => [(5, .int v20), (0, .ref a), (1, .ref b1), (2, .ref b2), (3, .int x3), (4, .int x4)]) F 5 rfl (by decide) (by decide) dX7_gather_96 (fun _ => rfl) (fun v20 => ?_)
        refine z_goto (tgt := 23) F dX7_gather_99 (by decide) ?_
        refine z_sub (lv' := [(0, .ref a), (1, .ref b1), (2, .ref b2), (3, .int x3), (4, .int x4), (5, .int v20)]) [1, 2, 3, 4, 5, 0] rfl ?_
        exact z_back (fun h => h)
  · show zSim (fun q : Int32 × zG => q = (r, g')) (j_X7_gather_102 a x) (zAt E D (zA τ sz) (zQ E D zrV 0 0 sz τ τ r g') 6 (sz, τ, 0, 0) x 102 [(0, .ref a)] [])
    exact hj_X7_gather_102 x
theorem k_X7_gather {ρ : Type} {K : ρ → Prop} {E : zE} {D : zD} {A : Nat → Prop} {Q : State → Prop} {nL : Nat} {κ : zC} {g : zG} {pc : Nat} {lv : List (Nat × Value)} {st : List Value} {cc : ByteArray} {own : String} {ret : Option FieldType} (F : zF E D A cc own nL ret) {index : Nat} {h : Int32 → zG → Option ρ} {a : Nat} {b1 : Nat} {b2 : Nat} {x3 : Int32} {x4 : Int32}  (hR : 1 + 1 ≤ E.2.2.2.1.frames ∧ 8 + (6 + 11) + 28 ≤ E.2.2.2.1.locals) (hl : zTbl (.methodLink own index yX7_gather)) (hta : κ.2.1 a = some (.inr 7)) (htb1 : κ.2.1 b1 = some (.inr 0)) (htb2 : κ.2.1 b2 = some (.inl (.int, 40))) (hc : κ.2.2.1 ≤ E.2.2.2.1.cells ∧ κ.2.2.2 ≤ E.2.2.2.1.slots) (hW : (st.map fun v => v.category).sum ≤ 8) (hd : decode cc pc = .ok (.invokevirtual index, 3)) (kk : ∀ r g', zSim K (h r g') (zAt E D A Q nL κ g' (pc + 3) lv (st))) : zSim K (zb (f_X7_gather a b1 b2 x3 x4 g) h) (zAt E D A Q nL κ g pc lv (.int x4 :: .int x3 :: .ref b2 :: .ref b1 :: .ref a :: st)) :=
  z_callV F (n := 4) (As := [.ref b1, .ref b2, .int x3, .int x4]) (C := (RX7, TX7, 9)) ⟨q_651, q_11, by decide +kernel, rfl, rfl, hR.1, hR.2⟩ (c_X7_gather E.2.1 D κ.1 κ.2.1 g a b1 b2 x3 x4 hta htb1 htb2) hl q_650 q_1381 hta rfl rfl rfl hc hW hd kk _ rfl
theorem dX7_earliestDue_0 : decode cX7_earliestDue 0 = .ok (.aload_n 0, 1) := by decide +kernel
theorem dX7_earliestDue_1 : decode cX7_earliestDue 1 = .ok (.getfield 21, 3) := by decide +kernel
theorem dX7_earliestDue_4 : decode cX7_earliestDue 4 = .ok (.iconst 0, 1) := by decide +kernel
theorem dX7_earliestDue_5 : decode cX7_earliestDue 5 = .ok (.iaload, 1) := by decide +kernel
theorem dX7_earliestDue_6 : decode cX7_earliestDue 6 = .ok (.istore_n 1, 1) := by decide +kernel
theorem dX7_earliestDue_7 : decode cX7_earliestDue 7 = .ok (.iconst 1, 1) := by decide +kernel
theorem dX7_earliestDue_8 : decode cX7_earliestDue 8 = .ok (.istore_n 2, 1) := by decide +kernel
theorem dX7_earliestDue_9 : decode cX7_earliestDue 9 = .ok (.iload_n 2, 1) := by decide +kernel
theorem dX7_earliestDue_10 : decode cX7_earliestDue 10 = .ok (.aload_n 0, 1) := by decide +kernel
theorem dX7_earliestDue_11 : decode cX7_earliestDue 11 = .ok (.getfield 28, 3) := by decide +kernel
theorem dX7_earliestDue_14 : decode cX7_earliestDue 14 = .ok (.if_icmp .ge 20, 3) := by decide +kernel
theorem dX7_earliestDue_17 : decode cX7_earliestDue 17 = .ok (.iload_n 1, 1) := by decide +kernel
theorem dX7_earliestDue_18 : decode cX7_earliestDue 18 = .ok (.aload_n 0, 1) := by decide +kernel
theorem dX7_earliestDue_19 : decode cX7_earliestDue 19 = .ok (.getfield 21, 3) := by decide +kernel
theorem dX7_earliestDue_22 : decode cX7_earliestDue 22 = .ok (.iload_n 2, 1) := by decide +kernel
theorem dX7_earliestDue_23 : decode cX7_earliestDue 23 = .ok (.iaload, 1) := by decide +kernel
theorem dX7_earliestDue_24 : decode cX7_earliestDue 24 = .ok (.invokestatic 60, 3) := by decide +kernel
theorem dX7_earliestDue_27 : decode cX7_earliestDue 27 = .ok (.istore_n 1, 1) := by decide +kernel
theorem dX7_earliestDue_28 : decode cX7_earliestDue 28 = .ok (.iinc 2 1, 3) := by decide +kernel
theorem dX7_earliestDue_31 : decode cX7_earliestDue 31 = .ok (.goto (-22), 3) := by decide +kernel
theorem dX7_earliestDue_34 : decode cX7_earliestDue 34 = .ok (.iload_n 1, 1) := by decide +kernel
theorem dX7_earliestDue_35 : decode cX7_earliestDue 35 = .ok (.ireturn, 1) := by decide +kernel
def j_X7_earliestDue_34 (a : Nat) (l1 : Int32) (g : zG) : Option (Int32 × zG) :=
  some ((l1, g))
def l_X7_earliestDue_9 (a : Nat) (g : zG) (l1 : Int32) (l2 : Int32) : Option ((Int32 × Int32) ⊕ (Int32)) :=
  if (g.1 a 8) ≤ l2 then (some (.inr l1)) else (zc (zin l2 40) (zl (zmmin l1 (g.1 (g.2.1 a 7) l2.toNatClampNeg)) (fun v5 => zl (l2 + 1) (fun v6 => some (.inl (v5, v6))))))
def f_X7_earliestDue (a : Nat) (g : zG) : Option (Int32 × zG) :=
  zc (zin 0 40) (zl (g.1 (g.2.1 a 7) (0 : Int32).toNatClampNeg) (fun v2 => zk (zw zN (fun s => l_X7_earliestDue_9 a g s.1 s.2) (v2, 1)) (fun x => j_X7_earliestDue_34 a x g)))
abbrev rm_X7_earliestDue : Room := { frames := 1, cells := 0, slots := 0, locals := 21 }
set_option maxRecDepth 100000 in
set_option maxHeartbeats 4000000 in
theorem c_X7_earliestDue (l : Launch) (D : zD) (sz : Nat) (τ : zT) (g : zG) (a : Nat) (hta : τ a = some (.inr 7)) : zCon l D yX7_earliestDue cX7_earliestDue 3 (some .int) rm_X7_earliestDue 0 0 zrI [.ref a] sz τ g τ (f_X7_earliestDue a g) := by
  refine zCon.of (by decide) (Nat.le_of_ble_eq_true rfl) (fun E r g' hl hR hsz hnm F => ?_)
  have F : zF E D (zA τ sz) cX7_earliestDue "TypeChain$Strike" 3 (some .int) := F
  show zSim (fun q : Int32 × zG => q = (r, g')) (f_X7_earliestDue a g) (zAt E D (zA τ sz) (zQ E D zrI 0 0 sz τ τ r g') 3 (sz, τ, 0, 0) g 0 [(0, .ref a)] [])
  have hj_X7_earliestDue_34 : ∀ (l1_34 : Int32) (g_34 : zG), zSim (fun q : Int32 × zG => q = (r, g')) (j_X7_earliestDue_34 a l1_34 g_34) (zAt E D (zA τ sz) (zQ E D zrI 0 0 sz τ τ r g') 3 (sz, τ, 0, 0) g_34 34 [(1, .int l1_34)] []) := by
    intro l1_34 g_34
    unfold j_X7_earliestDue_34
    refine z_iload_n F 0 rfl rfl dX7_earliestDue_34 ?_
    exact z_ireturn F rfl rfl rfl rfl (fun h => h) dX7_earliestDue_35
  unfold f_X7_earliestDue
  refine z_aload_n F 0 rfl rfl dX7_earliestDue_0 ?_
  refine gf_X7_21 F hta dX7_earliestDue_1 (fun ht1 => ?_)
  refine z_iconst (v := 0) F (by decide) dX7_earliestDue_4 ?_
  refine z_iald F ht1 dX7_earliestDue_5 ?_
  refine z_leti (fun v2 => ?_)
  refine z_istore_n (lv' := [(1, .int v2), (0, .ref a)]) F rfl (by decide) dX7_earliestDue_6 rfl ?_
  refine z_iconst (v := 1) F (by decide) dX7_earliestDue_7 ?_
  refine z_istore_n (lv' := [(2, .int 1), (1, .int v2), (0, .ref a)]) F rfl (by decide) dX7_earliestDue_8 rfl ?_
  refine z_sub (lv' := [(0, .ref a), (1, .int v2), (2, .int 1)]) [2, 1, 0] rfl ?_
  refine z_loop (P := fun s : Int32 × Int32 => zAt E D (zA τ sz) (zQ E D zrI 0 0 sz τ τ r g') 3 (sz, τ, 0, 0) g 9 [(0, .ref a), (1, .int s.1), (2, .int s.2)] []) (Px := fun x : Int32 => zAt E D (zA τ sz) (zQ E D zrI 0 0 sz τ τ r g') 3 (sz, τ, 0, 0) g 34 [(1, .int x)] []) (v2, 1) (fun s => ?_) (fun x => ?_)
  · obtain ⟨l1_9, l2_9⟩ := s
    show zSim (zKl (fun s : Int32 × Int32 => zAt E D (zA τ sz) (zQ E D zrI 0 0 sz τ τ r g') 3 (sz, τ, 0, 0) g 9 [(0, .ref a), (1, .int s.1), (2, .int s.2)] []) (fun x : Int32 => zAt E D (zA τ sz) (zQ E D zrI 0 0 sz τ τ r g') 3 (sz, τ, 0, 0) g 34 [(1, .int x)] [])) (l_X7_earliestDue_9 a g l1_9 l2_9) (zAt E D (zA τ sz) (zQ E D zrI 0 0 sz τ τ r g') 3 (sz, τ, 0, 0) g 9 [(0, .ref a), (1, .int l1_9), (2, .int l2_9)] [])
    unfold l_X7_earliestDue_9
    refine z_iload_n F 2 rfl rfl dX7_earliestDue_9 ?_
    refine z_aload_n F 0 rfl rfl dX7_earliestDue_10 ?_
    refine gf_X7_28 F hta dX7_earliestDue_11 ?_
    refine z_icmp_ge (tgt := 34) F dX7_earliestDue_14 (by decide) (fun c3 => ?_) (fun c3 => ?_)
    · refine z_sub (lv' := [(1, .int l1_9)]) [1] rfl ?_
      exact z_back (fun h => h)
    · refine z_iload_n F 1 rfl rfl dX7_earliestDue_17 ?_
      refine z_aload_n F 0 rfl rfl dX7_earliestDue_18 ?_
      refine gf_X7_21 F hta dX7_earliestDue_19 (fun ht4 => ?_)
      refine z_iload_n F 2 rfl rfl dX7_earliestDue_22 ?_
      refine z_iald F ht4 dX7_earliestDue_23 ?_
      refine z_mmin F q_657 q_658 q_19 q_659 (by rw [hR]; exact ⟨by decide, by decide⟩) ⟨Nat.zero_le _, Nat.zero_le _⟩ (Nat.le_of_ble_eq_true rfl) dX7_earliestDue_24 ?_
      refine z_leti (fun v5 => ?_)
      refine z_istore_n (lv' := [(1, .int v5), (0, .ref a), (2, .int l2_9)]) F rfl (by decide) dX7_earliestDue_27 rfl ?_
      refine z_iincl (lv' := fun v6 => [(2, .int v6), (1, .int v5), (0, .ref a)]) F 2 rfl (by decide) (by decide) dX7_earliestDue_28 (fun _ => rfl) (fun v6 => ?_)
      refine z_goto (tgt := 9) F dX7_earliestDue_31 (by decide) ?_
      refine z_sub (lv' := [(0, .ref a), (1, .int v5), (2, .int v6)]) [2, 1, 0] rfl ?_
      exact z_back (fun h => h)
  · show zSim (fun q : Int32 × zG => q = (r, g')) (j_X7_earliestDue_34 a x g) (zAt E D (zA τ sz) (zQ E D zrI 0 0 sz τ τ r g') 3 (sz, τ, 0, 0) g 34 [(1, .int x)] [])
    exact hj_X7_earliestDue_34 x g
theorem k_X7_earliestDue {ρ : Type} {K : ρ → Prop} {E : zE} {D : zD} {A : Nat → Prop} {Q : State → Prop} {nL : Nat} {κ : zC} {g : zG} {pc : Nat} {lv : List (Nat × Value)} {st : List Value} {cc : ByteArray} {own : String} {ret : Option FieldType} (F : zF E D A cc own nL ret) {index : Nat} {h : Int32 → zG → Option ρ} {a : Nat}  (hR : 1 + 1 ≤ E.2.2.2.1.frames ∧ 8 + (3 + 11) + 21 ≤ E.2.2.2.1.locals) (hl : zTbl (.methodLink own index yX7_earliestDue)) (hta : κ.2.1 a = some (.inr 7)) (hc : κ.2.2.1 ≤ E.2.2.2.1.cells ∧ κ.2.2.2 ≤ E.2.2.2.1.slots) (hW : (st.map fun v => v.category).sum ≤ 8) (hd : decode cc pc = .ok (.invokevirtual index, 3)) (kk : ∀ r g', zSim K (h r g') (zAt E D A Q nL κ g' (pc + 3) lv (.int r :: st))) : zSim K (zb (f_X7_earliestDue a g) h) (zAt E D A Q nL κ g pc lv (.ref a :: st)) :=
  z_callV F (n := 0) (As := []) (C := (RX7, TX7, 9)) ⟨q_656, q_11, by decide +kernel, rfl, rfl, hR.1, hR.2⟩ (c_X7_earliestDue E.2.1 D κ.1 κ.2.1 g a hta) hl q_655 q_1382 hta rfl rfl rfl hc hW hd kk _ rfl
theorem dX7_strikeAt_0 : decode cX7_strikeAt 0 = .ok (.iconst 0, 1) := by decide +kernel
theorem dX7_strikeAt_1 : decode cX7_strikeAt 1 = .ok (.istore_n 3, 1) := by decide +kernel
theorem dX7_strikeAt_2 : decode cX7_strikeAt 2 = .ok (.iconst 0, 1) := by decide +kernel
theorem dX7_strikeAt_3 : decode cX7_strikeAt 3 = .ok (.istore 4, 2) := by decide +kernel
theorem dX7_strikeAt_5 : decode cX7_strikeAt 5 = .ok (.iconst 0, 1) := by decide +kernel
theorem dX7_strikeAt_6 : decode cX7_strikeAt 6 = .ok (.istore 5, 2) := by decide +kernel
theorem dX7_strikeAt_8 : decode cX7_strikeAt 8 = .ok (.iload 5, 2) := by decide +kernel
theorem dX7_strikeAt_10 : decode cX7_strikeAt 10 = .ok (.aload_n 0, 1) := by decide +kernel
theorem dX7_strikeAt_11 : decode cX7_strikeAt 11 = .ok (.getfield 28, 3) := by decide +kernel
theorem dX7_strikeAt_14 : decode cX7_strikeAt 14 = .ok (.if_icmp .ge 75, 3) := by decide +kernel
theorem dX7_strikeAt_17 : decode cX7_strikeAt 17 = .ok (.aload_n 0, 1) := by decide +kernel
theorem dX7_strikeAt_18 : decode cX7_strikeAt 18 = .ok (.getfield 21, 3) := by decide +kernel
theorem dX7_strikeAt_21 : decode cX7_strikeAt 21 = .ok (.iload 5, 2) := by decide +kernel
theorem dX7_strikeAt_23 : decode cX7_strikeAt 23 = .ok (.iaload, 1) := by decide +kernel
theorem dX7_strikeAt_24 : decode cX7_strikeAt 24 = .ok (.iload_n 1, 1) := by decide +kernel
theorem dX7_strikeAt_25 : decode cX7_strikeAt 25 = .ok (.if_icmp .ne 27, 3) := by decide +kernel
theorem dX7_strikeAt_28 : decode cX7_strikeAt 28 = .ok (.iload_n 3, 1) := by decide +kernel
theorem dX7_strikeAt_29 : decode cX7_strikeAt 29 = .ok (.iload_n 2, 1) := by decide +kernel
theorem dX7_strikeAt_30 : decode cX7_strikeAt 30 = .ok (.if_icmp .ge 22, 3) := by decide +kernel
theorem dX7_strikeAt_33 : decode cX7_strikeAt 33 = .ok (.aload_n 0, 1) := by decide +kernel
theorem dX7_strikeAt_34 : decode cX7_strikeAt 34 = .ok (.getfield 9, 3) := by decide +kernel
theorem dX7_strikeAt_37 : decode cX7_strikeAt 37 = .ok (.aload_n 0, 1) := by decide +kernel
theorem dX7_strikeAt_38 : decode cX7_strikeAt 38 = .ok (.getfield 18, 3) := by decide +kernel
theorem dX7_strikeAt_41 : decode cX7_strikeAt 41 = .ok (.iload 5, 2) := by decide +kernel
theorem dX7_strikeAt_43 : decode cX7_strikeAt 43 = .ok (.iaload, 1) := by decide +kernel
theorem dX7_strikeAt_44 : decode cX7_strikeAt 44 = .ok (.iload_n 1, 1) := by decide +kernel
theorem dX7_strikeAt_45 : decode cX7_strikeAt 45 = .ok (.iastore, 1) := by decide +kernel
theorem dX7_strikeAt_46 : decode cX7_strikeAt 46 = .ok (.iinc 3 1, 3) := by decide +kernel
theorem dX7_strikeAt_49 : decode cX7_strikeAt 49 = .ok (.goto 34, 3) := by decide +kernel
theorem dX7_strikeAt_52 : decode cX7_strikeAt 52 = .ok (.aload_n 0, 1) := by decide +kernel
theorem dX7_strikeAt_53 : decode cX7_strikeAt 53 = .ok (.getfield 18, 3) := by decide +kernel
theorem dX7_strikeAt_56 : decode cX7_strikeAt 56 = .ok (.iload 4, 2) := by decide +kernel
theorem dX7_strikeAt_58 : decode cX7_strikeAt 58 = .ok (.aload_n 0, 1) := by decide +kernel
theorem dX7_strikeAt_59 : decode cX7_strikeAt 59 = .ok (.getfield 18, 3) := by decide +kernel
theorem dX7_strikeAt_62 : decode cX7_strikeAt 62 = .ok (.iload 5, 2) := by decide +kernel
theorem dX7_strikeAt_64 : decode cX7_strikeAt 64 = .ok (.iaload, 1) := by decide +kernel
theorem dX7_strikeAt_65 : decode cX7_strikeAt 65 = .ok (.iastore, 1) := by decide +kernel
theorem dX7_strikeAt_66 : decode cX7_strikeAt 66 = .ok (.aload_n 0, 1) := by decide +kernel
theorem dX7_strikeAt_67 : decode cX7_strikeAt 67 = .ok (.getfield 21, 3) := by decide +kernel
theorem dX7_strikeAt_70 : decode cX7_strikeAt 70 = .ok (.iload 4, 2) := by decide +kernel
theorem dX7_strikeAt_72 : decode cX7_strikeAt 72 = .ok (.aload_n 0, 1) := by decide +kernel
theorem dX7_strikeAt_73 : decode cX7_strikeAt 73 = .ok (.getfield 21, 3) := by decide +kernel
theorem dX7_strikeAt_76 : decode cX7_strikeAt 76 = .ok (.iload 5, 2) := by decide +kernel
theorem dX7_strikeAt_78 : decode cX7_strikeAt 78 = .ok (.iaload, 1) := by decide +kernel
theorem dX7_strikeAt_79 : decode cX7_strikeAt 79 = .ok (.iastore, 1) := by decide +kernel
theorem dX7_strikeAt_80 : decode cX7_strikeAt 80 = .ok (.iinc 4 1, 3) := by decide +kernel
theorem dX7_strikeAt_83 : decode cX7_strikeAt 83 = .ok (.iinc 5 1, 3) := by decide +kernel
theorem dX7_strikeAt_86 : decode cX7_strikeAt 86 = .ok (.goto (-78), 3) := by decide +kernel
theorem dX7_strikeAt_89 : decode cX7_strikeAt 89 = .ok (.aload_n 0, 1) := by decide +kernel
theorem dX7_strikeAt_90 : decode cX7_strikeAt 90 = .ok (.iload 4, 2) := by decide +kernel
theorem dX7_strikeAt_92 : decode cX7_strikeAt 92 = .ok (.putfield 28, 3) := by decide +kernel
theorem dX7_strikeAt_95 : decode cX7_strikeAt 95 = .ok (.aload_n 0, 1) := by decide +kernel
theorem dX7_strikeAt_96 : decode cX7_strikeAt 96 = .ok (.aload_n 0, 1) := by decide +kernel
theorem dX7_strikeAt_97 : decode cX7_strikeAt 97 = .ok (.getfield 54, 3) := by decide +kernel
theorem dX7_strikeAt_100 : decode cX7_strikeAt 100 = .ok (.iload_n 3, 1) := by decide +kernel
theorem dX7_strikeAt_101 : decode cX7_strikeAt 101 = .ok (.invokestatic 66, 3) := by decide +kernel
theorem dX7_strikeAt_104 : decode cX7_strikeAt 104 = .ok (.putfield 54, 3) := by decide +kernel
theorem dX7_strikeAt_107 : decode cX7_strikeAt 107 = .ok (.return_, 1) := by decide +kernel
def j_X7_strikeAt_89 (a : Nat) (l3 : Int32) (l4 : Int32) (g : zG) : Option (Int32 × zG) :=
  zl (zsi g a 8 l4) (fun g1 => zl (zsi g1 a 4 (zmmax (g1.1 a 4) l3)) (fun g2 => some ((0, g2))))
def j_X7_strikeAt_52_8 (a : Nat) (l1 : Int32) (l2 : Int32) (l3 : Int32) (l4 : Int32) (l5 : Int32) (g : zG) : Option ((Int32 × Int32 × Int32 × zG) ⊕ (Int32 × Int32 × zG)) :=
  zc (zin l5 40) (zc (zin l4 40) (zl (zsi g (g.2.1 a 6) l4.toNatClampNeg (g.1 (g.2.1 a 6) l5.toNatClampNeg)) (fun g5 => zc (zin l5 40) (zc (zin l4 40) (zl (zsi g5 (g5.2.1 a 7) l4.toNatClampNeg (g5.1 (g5.2.1 a 7) l5.toNatClampNeg)) (fun g8 => zl (l4 + 1) (fun v9 => zl (l5 + 1) (fun v10 => some (.inl (l3, v9, v10, g8))))))))))
def l_X7_strikeAt_8 (a : Nat) (l1 : Int32) (l2 : Int32) (l3 : Int32) (l4 : Int32) (l5 : Int32) (g : zG) : Option ((Int32 × Int32 × Int32 × zG) ⊕ (Int32 × Int32 × zG)) :=
  if (g.1 a 8) ≤ l5 then (some (.inr (l3, l4, g))) else (zc (zin l5 40) (if (g.1 (g.2.1 a 7) l5.toNatClampNeg) = l1 then (if l2 ≤ l3 then (j_X7_strikeAt_52_8 a l1 l2 l3 l4 l5 g) else (zc (zin l5 40) (zc (zin (g.1 (g.2.1 a 6) l5.toNatClampNeg) 40) (zl (zsi g (g.2.1 a 0) (g.1 (g.2.1 a 6) l5.toNatClampNeg).toNatClampNeg l1) (fun g17 => zl (l3 + 1) (fun v18 => zl (l5 + 1) (fun v19 => some (.inl (v18, l4, v19, g17))))))))) else (j_X7_strikeAt_52_8 a l1 l2 l3 l4 l5 g)))
def f_X7_strikeAt (a : Nat) (x1 : Int32) (x2 : Int32) (g : zG) : Option (Int32 × zG) :=
  zk (zw zN (fun s => l_X7_strikeAt_8 a x1 x2 s.1 s.2.1 s.2.2.1 s.2.2.2) (0, 0, 0, g)) (fun x => j_X7_strikeAt_89 a x.1 x.2.1 x.2.2)
abbrev rm_X7_strikeAt : Room := { frames := 1, cells := 0, slots := 0, locals := 21 }
set_option maxRecDepth 100000 in
set_option maxHeartbeats 4000000 in
theorem c_X7_strikeAt (l : Launch) (D : zD) (sz : Nat) (τ : zT) (g : zG) (a : Nat) (x1 : Int32) (x2 : Int32) (hta : τ a = some (.inr 7)) : zCon l D yX7_strikeAt cX7_strikeAt 6 none rm_X7_strikeAt 0 0 zrV [.ref a, .int x1, .int x2] sz τ g τ (f_X7_strikeAt a x1 x2 g) := by
  refine zCon.of (by decide) (Nat.le_of_ble_eq_true rfl) (fun E r g' hl hR hsz hnm F => ?_)
  have F : zF E D (zA τ sz) cX7_strikeAt "TypeChain$Strike" 6 none := F
  show zSim (fun q : Int32 × zG => q = (r, g')) (f_X7_strikeAt a x1 x2 g) (zAt E D (zA τ sz) (zQ E D zrV 0 0 sz τ τ r g') 6 (sz, τ, 0, 0) g 0 [(0, .ref a), (1, .int x1), (2, .int x2)] [])
  have hj_X7_strikeAt_89 : ∀ (l3_89 : Int32) (l4_89 : Int32) (g_89 : zG), zSim (fun q : Int32 × zG => q = (r, g')) (j_X7_strikeAt_89 a l3_89 l4_89 g_89) (zAt E D (zA τ sz) (zQ E D zrV 0 0 sz τ τ r g') 6 (sz, τ, 0, 0) g_89 89 [(0, .ref a), (3, .int l3_89), (4, .int l4_89)] []) := by
    intro l3_89 l4_89 g_89
    unfold j_X7_strikeAt_89
    refine z_aload_n F 0 rfl rfl dX7_strikeAt_89 ?_
    refine z_iload F 2 rfl dX7_strikeAt_90 ?_
    refine pf_X7_28 F hta dX7_strikeAt_92 ?_
    refine z_letg (fun g1 => ?_)
    refine z_aload_n F 0 rfl rfl dX7_strikeAt_95 ?_
    refine z_aload_n F 0 rfl rfl dX7_strikeAt_96 ?_
    refine gf_X7_54 F hta dX7_strikeAt_97 ?_
    refine z_iload_n F 1 rfl rfl dX7_strikeAt_100 ?_
    refine z_mmax F q_664 q_665 q_19 q_666 (by rw [hR]; exact ⟨by decide, by decide⟩) ⟨Nat.zero_le _, Nat.zero_le _⟩ (Nat.le_of_ble_eq_true rfl) dX7_strikeAt_101 ?_
    refine pf_X7_54 F hta dX7_strikeAt_104 ?_
    refine z_letg (fun g2 => ?_)
    exact z_vreturn F rfl rfl rfl rfl (fun h => h) dX7_strikeAt_107
  unfold f_X7_strikeAt
  refine z_iconst (v := 0) F (by decide) dX7_strikeAt_0 ?_
  refine z_istore_n (lv' := [(3, .int 0), (0, .ref a), (1, .int x1), (2, .int x2)]) F rfl (by decide) dX7_strikeAt_1 rfl ?_
  refine z_iconst (v := 0) F (by decide) dX7_strikeAt_2 ?_
  refine z_istore (lv' := [(4, .int 0), (3, .int 0), (0, .ref a), (1, .int x1), (2, .int x2)]) F (by decide) dX7_strikeAt_3 rfl ?_
  refine z_iconst (v := 0) F (by decide) dX7_strikeAt_5 ?_
  refine z_istore (lv' := [(5, .int 0), (4, .int 0), (3, .int 0), (0, .ref a), (1, .int x1), (2, .int x2)]) F (by decide) dX7_strikeAt_6 rfl ?_
  refine z_sub (lv' := [(0, .ref a), (1, .int x1), (2, .int x2), (3, .int 0), (4, .int 0), (5, .int 0)]) [3, 4, 5, 2, 1, 0] rfl ?_
  refine z_loop (P := fun s : Int32 × Int32 × Int32 × zG => zAt E D (zA τ sz) (zQ E D zrV 0 0 sz τ τ r g') 6 (sz, τ, 0, 0) s.2.2.2 8 [(0, .ref a), (1, .int x1), (2, .int x2), (3, .int s.1), (4, .int s.2.1), (5, .int s.2.2.1)] []) (Px := fun x : Int32 × Int32 × zG => zAt E D (zA τ sz) (zQ E D zrV 0 0 sz τ τ r g') 6 (sz, τ, 0, 0) x.2.2 89 [(0, .ref a), (3, .int x.1), (4, .int x.2.1)] []) (0, 0, 0, g) (fun s => ?_) (fun x => ?_)
  · obtain ⟨l3_8, l4_8, l5_8, g_8⟩ := s
    show zSim (zKl (fun s : Int32 × Int32 × Int32 × zG => zAt E D (zA τ sz) (zQ E D zrV 0 0 sz τ τ r g') 6 (sz, τ, 0, 0) s.2.2.2 8 [(0, .ref a), (1, .int x1), (2, .int x2), (3, .int s.1), (4, .int s.2.1), (5, .int s.2.2.1)] []) (fun x : Int32 × Int32 × zG => zAt E D (zA τ sz) (zQ E D zrV 0 0 sz τ τ r g') 6 (sz, τ, 0, 0) x.2.2 89 [(0, .ref a), (3, .int x.1), (4, .int x.2.1)] [])) (l_X7_strikeAt_8 a x1 x2 l3_8 l4_8 l5_8 g_8) (zAt E D (zA τ sz) (zQ E D zrV 0 0 sz τ τ r g') 6 (sz, τ, 0, 0) g_8 8 [(0, .ref a), (1, .int x1), (2, .int x2), (3, .int l3_8), (4, .int l4_8), (5, .int l5_8)] [])
    have hj_X7_strikeAt_52_8 : ∀ (l3_52 : Int32) (l4_52 : Int32) (l5_52 : Int32) (g_52 : zG), zSim (zKl (fun s : Int32 × Int32 × Int32 × zG => zAt E D (zA τ sz) (zQ E D zrV 0 0 sz τ τ r g') 6 (sz, τ, 0, 0) s.2.2.2 8 [(0, .ref a), (1, .int x1), (2, .int x2), (3, .int s.1), (4, .int s.2.1), (5, .int s.2.2.1)] []) (fun x : Int32 × Int32 × zG => zAt E D (zA τ sz) (zQ E D zrV 0 0 sz τ τ r g') 6 (sz, τ, 0, 0) x.2.2 89 [(0, .ref a), (3, .int x.1), (4, .int x.2.1)] [])) (j_X7_strikeAt_52_8 a x1 x2 l3_52 l4_52 l5_52 g_52) (zAt E D (zA τ sz) (zQ E D zrV 0 0 sz τ τ r g') 6 (sz, τ, 0, 0) g_52 52 [(0, .ref a), (1, .int x1), (2, .int x2), (3, .int l3_52), (4, .int l4_52), (5, .int l5_52)] []) := by
      intro l3_52 l4_52 l5_52 g_52
      unfold j_X7_strikeAt_52_8
      refine z_aload_n F 0 rfl rfl dX7_strikeAt_52 ?_
      refine gf_X7_18 F hta dX7_strikeAt_53 (fun ht3 => ?_)
      refine z_iload F 4 rfl dX7_strikeAt_56 ?_
      refine z_aload_n F 0 rfl rfl dX7_strikeAt_58 ?_
      refine gf_X7_18 F hta dX7_strikeAt_59 (fun ht4 => ?_)
      refine z_iload F 5 rfl dX7_strikeAt_62 ?_
      refine z_iald F ht4 dX7_strikeAt_64 ?_
      refine z_iast F ht3 dX7_strikeAt_65 ?_
      refine z_letg (fun g5 => ?_)
      refine z_aload_n F 0 rfl rfl dX7_strikeAt_66 ?_
      refine gf_X7_21 F hta dX7_strikeAt_67 (fun ht6 => ?_)
      refine z_iload F 4 rfl dX7_strikeAt_70 ?_
      refine z_aload_n F 0 rfl rfl dX7_strikeAt_72 ?_
      refine gf_X7_21 F hta dX7_strikeAt_73 (fun ht7 => ?_)
      refine z_iload F 5 rfl dX7_strikeAt_76 ?_
      refine z_iald F ht7 dX7_strikeAt_78 ?_
      refine z_iast F ht6 dX7_strikeAt_79 ?_
      refine z_letg (fun g8 => ?_)
      refine z_iincl (lv' := fun v9 => [(4, .int v9), (0, .ref a), (1, .int x1), (2, .int x2), (3, .int l3_52), (5, .int l5_52)]) F 4 rfl (by decide) (by decide) dX7_strikeAt_80 (fun _ => rfl) (fun v9 => ?_)
      refine z_iincl (lv' := fun v10 => [(5, .int v10), (4, .int v9), (0, .ref a), (1, .int x1), (2, .int x2), (3, .int l3_52)]) F 5 rfl (by decide) (by decide) dX7_strikeAt_83 (fun _ => rfl) (fun v10 => ?_)
      refine z_goto (tgt := 8) F dX7_strikeAt_86 (by decide) ?_
      refine z_sub (lv' := [(0, .ref a), (1, .int x1), (2, .int x2), (3, .int l3_52), (4, .int v9), (5, .int v10)]) [2, 3, 4, 5, 1, 0] rfl ?_
      exact z_back (fun h => h)
    unfold l_X7_strikeAt_8
    refine z_iload F 5 rfl dX7_strikeAt_8 ?_
    refine z_aload_n F 0 rfl rfl dX7_strikeAt_10 ?_
    refine gf_X7_28 F hta dX7_strikeAt_11 ?_
    refine z_icmp_ge (tgt := 89) F dX7_strikeAt_14 (by decide) (fun c11 => ?_) (fun c11 => ?_)
    · refine z_sub (lv' := [(0, .ref a), (3, .int l3_8), (4, .int l4_8)]) [0, 3, 4] rfl ?_
      exact z_back (fun h => h)
    · refine z_aload_n F 0 rfl rfl dX7_strikeAt_17 ?_
      refine gf_X7_21 F hta dX7_strikeAt_18 (fun ht12 => ?_)
      refine z_iload F 5 rfl dX7_strikeAt_21 ?_
      refine z_iald F ht12 dX7_strikeAt_23 ?_
      refine z_iload_n F 1 rfl rfl dX7_strikeAt_24 ?_
      refine z_icmp_ne (tgt := 52) F dX7_strikeAt_25 (by decide) (fun c13 => ?_) (fun c13 => ?_)
      · refine z_iload_n F 3 rfl rfl dX7_strikeAt_28 ?_
        refine z_iload_n F 2 rfl rfl dX7_strikeAt_29 ?_
        refine z_icmp_ge (tgt := 52) F dX7_strikeAt_30 (by decide) (fun c14 => ?_) (fun c14 => ?_)
        · exact hj_X7_strikeAt_52_8 l3_8 l4_8 l5_8 g_8
        · refine z_aload_n F 0 rfl rfl dX7_strikeAt_33 ?_
          refine gf_X7_9 F hta dX7_strikeAt_34 (fun ht15 => ?_)
          refine z_aload_n F 0 rfl rfl dX7_strikeAt_37 ?_
          refine gf_X7_18 F hta dX7_strikeAt_38 (fun ht16 => ?_)
          refine z_iload F 5 rfl dX7_strikeAt_41 ?_
          refine z_iald F ht16 dX7_strikeAt_43 ?_
          refine z_iload_n F 1 rfl rfl dX7_strikeAt_44 ?_
          refine z_iast F ht15 dX7_strikeAt_45 ?_
          refine z_letg (fun g17 => ?_)
          refine z_iincl (lv' := fun v18 => [(3, .int v18), (0, .ref a), (1, .int x1), (2, .int x2), (4, .int l4_8), (5, .int l5_8)]) F 3 rfl (by decide) (by decide) dX7_strikeAt_46 (fun _ => rfl) (fun v18 => ?_)
          refine z_goto (tgt := 83) F dX7_strikeAt_49 (by decide) ?_
          refine z_iincl (lv' := fun v19 => [(5, .int v19), (3, .int v18), (0, .ref a), (1, .int x1), (2, .int x2), (4, .int l4_8)]) F 5 rfl (by decide) (by decide) dX7_strikeAt_83 (fun _ => rfl) (fun v19 => ?_)
          refine z_goto (tgt := 8) F dX7_strikeAt_86 (by decide) ?_
          refine z_sub (lv' := [(0, .ref a), (1, .int x1), (2, .int x2), (3, .int v18), (4, .int l4_8), (5, .int v19)]) [2, 3, 4, 1, 5, 0] rfl ?_
          exact z_back (fun h => h)
      · exact hj_X7_strikeAt_52_8 l3_8 l4_8 l5_8 g_8
  · show zSim (fun q : Int32 × zG => q = (r, g')) (j_X7_strikeAt_89 a x.1 x.2.1 x.2.2) (zAt E D (zA τ sz) (zQ E D zrV 0 0 sz τ τ r g') 6 (sz, τ, 0, 0) x.2.2 89 [(0, .ref a), (3, .int x.1), (4, .int x.2.1)] [])
    exact hj_X7_strikeAt_89 x.1 x.2.1 x.2.2
theorem k_X7_strikeAt {ρ : Type} {K : ρ → Prop} {E : zE} {D : zD} {A : Nat → Prop} {Q : State → Prop} {nL : Nat} {κ : zC} {g : zG} {pc : Nat} {lv : List (Nat × Value)} {st : List Value} {cc : ByteArray} {own : String} {ret : Option FieldType} (F : zF E D A cc own nL ret) {index : Nat} {h : Int32 → zG → Option ρ} {a : Nat} {x1 : Int32} {x2 : Int32}  (hR : 1 + 1 ≤ E.2.2.2.1.frames ∧ 8 + (6 + 11) + 21 ≤ E.2.2.2.1.locals) (hl : zTbl (.methodLink own index yX7_strikeAt)) (hta : κ.2.1 a = some (.inr 7)) (hc : κ.2.2.1 ≤ E.2.2.2.1.cells ∧ κ.2.2.2 ≤ E.2.2.2.1.slots) (hW : (st.map fun v => v.category).sum ≤ 8) (hd : decode cc pc = .ok (.invokevirtual index, 3)) (kk : ∀ r g', zSim K (h r g') (zAt E D A Q nL κ g' (pc + 3) lv (st))) : zSim K (zb (f_X7_strikeAt a x1 x2 g) h) (zAt E D A Q nL κ g pc lv (.int x2 :: .int x1 :: .ref a :: st)) :=
  z_callV F (n := 2) (As := [.int x1, .int x2]) (C := (RX7, TX7, 9)) ⟨q_663, q_11, by decide +kernel, rfl, rfl, hR.1, hR.2⟩ (c_X7_strikeAt E.2.1 D κ.1 κ.2.1 g a x1 x2 hta) hl q_662 q_1383 hta rfl rfl rfl hc hW hd kk _ rfl
theorem dX7_shownAfterSlip_0 : decode cX7_shownAfterSlip 0 = .ok (.aload_n 1, 1) := by decide +kernel
theorem dX7_shownAfterSlip_1 : decode cX7_shownAfterSlip 1 = .ok (.iload_n 3, 1) := by decide +kernel
theorem dX7_shownAfterSlip_2 : decode cX7_shownAfterSlip 2 = .ok (.aload_n 0, 1) := by decide +kernel
theorem dX7_shownAfterSlip_3 : decode cX7_shownAfterSlip 3 = .ok (.getfield 9, 3) := by decide +kernel
theorem dX7_shownAfterSlip_6 : decode cX7_shownAfterSlip 6 = .ok (.iload_n 3, 1) := by decide +kernel
theorem dX7_shownAfterSlip_7 : decode cX7_shownAfterSlip 7 = .ok (.iaload, 1) := by decide +kernel
theorem dX7_shownAfterSlip_8 : decode cX7_shownAfterSlip 8 = .ok (.invokevirtual 69, 3) := by decide +kernel
theorem dX7_shownAfterSlip_11 : decode cX7_shownAfterSlip 11 = .ok (.istore 4, 2) := by decide +kernel
theorem dX7_shownAfterSlip_13 : decode cX7_shownAfterSlip 13 = .ok (.iload 4, 2) := by decide +kernel
theorem dX7_shownAfterSlip_15 : decode cX7_shownAfterSlip 15 = .ok (.ifCond .ge 6, 3) := by decide +kernel
theorem dX7_shownAfterSlip_18 : decode cX7_shownAfterSlip 18 = .ok (.bipush (-4), 2) := by decide +kernel
theorem dX7_shownAfterSlip_20 : decode cX7_shownAfterSlip 20 = .ok (.ireturn, 1) := by decide +kernel
theorem dX7_shownAfterSlip_21 : decode cX7_shownAfterSlip 21 = .ok (.iload 4, 2) := by decide +kernel
theorem dX7_shownAfterSlip_23 : decode cX7_shownAfterSlip 23 = .ok (.iload_n 2, 1) := by decide +kernel
theorem dX7_shownAfterSlip_24 : decode cX7_shownAfterSlip 24 = .ok (.iadd, 1) := by decide +kernel
theorem dX7_shownAfterSlip_25 : decode cX7_shownAfterSlip 25 = .ok (.istore 4, 2) := by decide +kernel
theorem dX7_shownAfterSlip_27 : decode cX7_shownAfterSlip 27 = .ok (.iload 4, 2) := by decide +kernel
theorem dX7_shownAfterSlip_29 : decode cX7_shownAfterSlip 29 = .ok (.aload_n 1, 1) := by decide +kernel
theorem dX7_shownAfterSlip_30 : decode cX7_shownAfterSlip 30 = .ok (.getfield 72, 3) := by decide +kernel
theorem dX7_shownAfterSlip_33 : decode cX7_shownAfterSlip 33 = .ok (.if_icmp .lt 12, 3) := by decide +kernel
theorem dX7_shownAfterSlip_36 : decode cX7_shownAfterSlip 36 = .ok (.iload 4, 2) := by decide +kernel
theorem dX7_shownAfterSlip_38 : decode cX7_shownAfterSlip 38 = .ok (.aload_n 1, 1) := by decide +kernel
theorem dX7_shownAfterSlip_39 : decode cX7_shownAfterSlip 39 = .ok (.getfield 72, 3) := by decide +kernel
theorem dX7_shownAfterSlip_42 : decode cX7_shownAfterSlip 42 = .ok (.isub, 1) := by decide +kernel
theorem dX7_shownAfterSlip_43 : decode cX7_shownAfterSlip 43 = .ok (.istore 4, 2) := by decide +kernel
theorem dX7_shownAfterSlip_45 : decode cX7_shownAfterSlip 45 = .ok (.iload 4, 2) := by decide +kernel
theorem dX7_shownAfterSlip_47 : decode cX7_shownAfterSlip 47 = .ok (.aload_n 1, 1) := by decide +kernel
theorem dX7_shownAfterSlip_48 : decode cX7_shownAfterSlip 48 = .ok (.getfield 72, 3) := by decide +kernel
theorem dX7_shownAfterSlip_51 : decode cX7_shownAfterSlip 51 = .ok (.if_icmp .ge 13, 3) := by decide +kernel
theorem dX7_shownAfterSlip_54 : decode cX7_shownAfterSlip 54 = .ok (.aload_n 1, 1) := by decide +kernel
theorem dX7_shownAfterSlip_55 : decode cX7_shownAfterSlip 55 = .ok (.getfield 75, 3) := by decide +kernel
theorem dX7_shownAfterSlip_58 : decode cX7_shownAfterSlip 58 = .ok (.iload 4, 2) := by decide +kernel
theorem dX7_shownAfterSlip_60 : decode cX7_shownAfterSlip 60 = .ok (.iaload, 1) := by decide +kernel
theorem dX7_shownAfterSlip_61 : decode cX7_shownAfterSlip 61 = .ok (.goto 5, 3) := by decide +kernel
theorem dX7_shownAfterSlip_64 : decode cX7_shownAfterSlip 64 = .ok (.bipush (-4), 2) := by decide +kernel
theorem dX7_shownAfterSlip_66 : decode cX7_shownAfterSlip 66 = .ok (.ireturn, 1) := by decide +kernel
def j_X7_shownAfterSlip_45 (a : Nat) (l1 : Nat) (l4 : Int32) (g : zG) : Option (Int32 × zG) :=
  if (g.1 l1 1) ≤ l4 then (some (((-4), g))) else (zc (zin l4 48) (some ((g.1 (g.2.1 l1 0) l4.toNatClampNeg, g))))
def f_X7_shownAfterSlip (a : Nat) (b1 : Nat) (x2 : Int32) (x3 : Int32) (g : zG) : Option (Int32 × zG) :=
  zc (zin x3 40) (zb (f_X0_slugFacing b1 x3 (g.1 (g.2.1 a 0) x3.toNatClampNeg) g) (fun v4 g5 => if 0 ≤ v4 then (zl (v4 + x2) (fun v7 => if v7 < (g5.1 b1 1) then (j_X7_shownAfterSlip_45 a b1 v7 g5) else (zl (v7 - (g5.1 b1 1)) (fun v9 => j_X7_shownAfterSlip_45 a b1 v9 g5)))) else (some (((-4), g5)))))
abbrev rm_X7_shownAfterSlip : Room := { frames := 1, cells := 0, slots := 0, locals := 23 }
set_option maxRecDepth 100000 in
set_option maxHeartbeats 4000000 in
theorem c_X7_shownAfterSlip (l : Launch) (D : zD) (sz : Nat) (τ : zT) (g : zG) (a : Nat) (b1 : Nat) (x2 : Int32) (x3 : Int32) (hta : τ a = some (.inr 7)) (htb1 : τ b1 = some (.inr 0)) : zCon l D yX7_shownAfterSlip cX7_shownAfterSlip 5 (some .int) rm_X7_shownAfterSlip 0 0 zrI [.ref a, .ref b1, .int x2, .int x3] sz τ g τ (f_X7_shownAfterSlip a b1 x2 x3 g) := by
  refine zCon.of (by decide) (Nat.le_of_ble_eq_true rfl) (fun E r g' hl hR hsz hnm F => ?_)
  have F : zF E D (zA τ sz) cX7_shownAfterSlip "TypeChain$Strike" 5 (some .int) := F
  show zSim (fun q : Int32 × zG => q = (r, g')) (f_X7_shownAfterSlip a b1 x2 x3 g) (zAt E D (zA τ sz) (zQ E D zrI 0 0 sz τ τ r g') 5 (sz, τ, 0, 0) g 0 [(0, .ref a), (1, .ref b1), (2, .int x2), (3, .int x3)] [])
  have hj_X7_shownAfterSlip_45 : ∀ (l1_45 : Nat) (l4_45 : Int32) (g_45 : zG), τ l1_45 = some (.inr 0) → zSim (fun q : Int32 × zG => q = (r, g')) (j_X7_shownAfterSlip_45 a l1_45 l4_45 g_45) (zAt E D (zA τ sz) (zQ E D zrI 0 0 sz τ τ r g') 5 (sz, τ, 0, 0) g_45 45 [(1, .ref l1_45), (4, .int l4_45)] []) := by
    intro l1_45 l4_45 g_45 ht_l1_45
    unfold j_X7_shownAfterSlip_45
    refine z_iload F 1 rfl dX7_shownAfterSlip_45 ?_
    refine z_aload_n F 0 rfl rfl dX7_shownAfterSlip_47 ?_
    refine gf_X7_72 F ht_l1_45 dX7_shownAfterSlip_48 ?_
    refine z_icmp_ge (tgt := 64) F dX7_shownAfterSlip_51 (by decide) (fun c1 => ?_) (fun c1 => ?_)
    · refine z_bipush (v := (-4)) F (by decide) dX7_shownAfterSlip_64 ?_
      exact z_ireturn F rfl rfl rfl rfl (fun h => h) dX7_shownAfterSlip_66
    · refine z_aload_n F 0 rfl rfl dX7_shownAfterSlip_54 ?_
      refine gf_X7_75 F ht_l1_45 dX7_shownAfterSlip_55 (fun ht2 => ?_)
      refine z_iload F 1 rfl dX7_shownAfterSlip_58 ?_
      refine z_iald F ht2 dX7_shownAfterSlip_60 ?_
      refine z_goto (tgt := 66) F dX7_shownAfterSlip_61 (by decide) ?_
      exact z_ireturn F rfl rfl rfl rfl (fun h => h) dX7_shownAfterSlip_66
  unfold f_X7_shownAfterSlip
  refine z_aload_n F 1 rfl rfl dX7_shownAfterSlip_0 ?_
  refine z_iload_n F 3 rfl rfl dX7_shownAfterSlip_1 ?_
  refine z_aload_n F 0 rfl rfl dX7_shownAfterSlip_2 ?_
  refine gf_X7_9 F hta dX7_shownAfterSlip_3 (fun ht3 => ?_)
  refine z_iload_n F 3 rfl rfl dX7_shownAfterSlip_6 ?_
  refine z_iald F ht3 dX7_shownAfterSlip_7 ?_
  refine k_X0_slugFacing F (by rw [hR]; exact ⟨by decide, by decide⟩) q_703 htb1 ⟨Nat.zero_le _, Nat.zero_le _⟩ (Nat.le_of_ble_eq_true rfl) dX7_shownAfterSlip_8 (fun v4 g5 => ?_)
  refine z_istore (lv' := [(4, .int v4), (0, .ref a), (1, .ref b1), (2, .int x2), (3, .int x3)]) F (by decide) dX7_shownAfterSlip_11 rfl ?_
  refine z_iload F 0 rfl dX7_shownAfterSlip_13 ?_
  refine z_if_ge (tgt := 21) F dX7_shownAfterSlip_15 (by decide) (fun c6 => ?_) (fun c6 => ?_)
  · refine z_iload F 0 rfl dX7_shownAfterSlip_21 ?_
    refine z_iload_n F 3 rfl rfl dX7_shownAfterSlip_23 ?_
    refine z_iadd F dX7_shownAfterSlip_24 ?_
    refine z_leti (fun v7 => ?_)
    refine z_istore (lv' := [(4, .int v7), (0, .ref a), (1, .ref b1), (2, .int x2), (3, .int x3)]) F (by decide) dX7_shownAfterSlip_25 rfl ?_
    refine z_iload F 0 rfl dX7_shownAfterSlip_27 ?_
    refine z_aload_n F 2 rfl rfl dX7_shownAfterSlip_29 ?_
    refine gf_X7_72 F htb1 dX7_shownAfterSlip_30 ?_
    refine z_icmp_lt (tgt := 45) F dX7_shownAfterSlip_33 (by decide) (fun c8 => ?_) (fun c8 => ?_)
    · refine z_sub (lv' := [(1, .ref b1), (4, .int v7)]) [2, 0] rfl ?_
      exact hj_X7_shownAfterSlip_45 b1 v7 g5 htb1
    · refine z_iload F 0 rfl dX7_shownAfterSlip_36 ?_
      refine z_aload_n F 2 rfl rfl dX7_shownAfterSlip_38 ?_
      refine gf_X7_72 F htb1 dX7_shownAfterSlip_39 ?_
      refine z_isub F dX7_shownAfterSlip_42 ?_
      refine z_leti (fun v9 => ?_)
      refine z_istore (lv' := [(4, .int v9), (0, .ref a), (1, .ref b1), (2, .int x2), (3, .int x3)]) F (by decide) dX7_shownAfterSlip_43 rfl ?_
      refine z_sub (lv' := [(1, .ref b1), (4, .int v9)]) [2, 0] rfl ?_
      exact hj_X7_shownAfterSlip_45 b1 v9 g5 htb1
  · refine z_bipush (v := (-4)) F (by decide) dX7_shownAfterSlip_18 ?_
    exact z_ireturn F rfl rfl rfl rfl (fun h => h) dX7_shownAfterSlip_20
theorem k_X7_shownAfterSlip {ρ : Type} {K : ρ → Prop} {E : zE} {D : zD} {A : Nat → Prop} {Q : State → Prop} {nL : Nat} {κ : zC} {g : zG} {pc : Nat} {lv : List (Nat × Value)} {st : List Value} {cc : ByteArray} {own : String} {ret : Option FieldType} (F : zF E D A cc own nL ret) {index : Nat} {h : Int32 → zG → Option ρ} {a : Nat} {b1 : Nat} {x2 : Int32} {x3 : Int32}  (hR : 1 + 1 ≤ E.2.2.2.1.frames ∧ 8 + (5 + 11) + 23 ≤ E.2.2.2.1.locals) (hl : zTbl (.methodLink own index yX7_shownAfterSlip)) (hta : κ.2.1 a = some (.inr 7)) (htb1 : κ.2.1 b1 = some (.inr 0)) (hc : κ.2.2.1 ≤ E.2.2.2.1.cells ∧ κ.2.2.2 ≤ E.2.2.2.1.slots) (hW : (st.map fun v => v.category).sum ≤ 8) (hd : decode cc pc = .ok (.invokevirtual index, 3)) (kk : ∀ r g', zSim K (h r g') (zAt E D A Q nL κ g' (pc + 3) lv (.int r :: st))) : zSim K (zb (f_X7_shownAfterSlip a b1 x2 x3 g) h) (zAt E D A Q nL κ g pc lv (.int x3 :: .int x2 :: .ref b1 :: .ref a :: st)) :=
  z_callV F (n := 3) (As := [.ref b1, .int x2, .int x3]) (C := (RX7, TX7, 9)) ⟨q_702, q_11, by decide +kernel, rfl, rfl, hR.1, hR.2⟩ (c_X7_shownAfterSlip E.2.1 D κ.1 κ.2.1 g a b1 x2 x3 hta htb1) hl q_700 q_701 hta rfl rfl rfl hc hW hd kk _ rfl
theorem dX7_fitsSlip_0 : decode cX7_fitsSlip 0 = .ok (.iconst 0, 1) := by decide +kernel
theorem dX7_fitsSlip_1 : decode cX7_fitsSlip 1 = .ok (.istore 4, 2) := by decide +kernel
theorem dX7_fitsSlip_3 : decode cX7_fitsSlip 3 = .ok (.iload 4, 2) := by decide +kernel
theorem dX7_fitsSlip_5 : decode cX7_fitsSlip 5 = .ok (.iload_n 3, 1) := by decide +kernel
theorem dX7_fitsSlip_6 : decode cX7_fitsSlip 6 = .ok (.if_icmp .ge 41, 3) := by decide +kernel
theorem dX7_fitsSlip_9 : decode cX7_fitsSlip 9 = .ok (.aload_n 0, 1) := by decide +kernel
theorem dX7_fitsSlip_10 : decode cX7_fitsSlip 10 = .ok (.getfield 15, 3) := by decide +kernel
theorem dX7_fitsSlip_13 : decode cX7_fitsSlip 13 = .ok (.iload 4, 2) := by decide +kernel
theorem dX7_fitsSlip_15 : decode cX7_fitsSlip 15 = .ok (.iaload, 1) := by decide +kernel
theorem dX7_fitsSlip_16 : decode cX7_fitsSlip 16 = .ok (.bipush (-4), 2) := by decide +kernel
theorem dX7_fitsSlip_18 : decode cX7_fitsSlip 18 = .ok (.if_icmp .eq 23, 3) := by decide +kernel
theorem dX7_fitsSlip_21 : decode cX7_fitsSlip 21 = .ok (.aload_n 0, 1) := by decide +kernel
theorem dX7_fitsSlip_22 : decode cX7_fitsSlip 22 = .ok (.getfield 15, 3) := by decide +kernel
theorem dX7_fitsSlip_25 : decode cX7_fitsSlip 25 = .ok (.iload 4, 2) := by decide +kernel
theorem dX7_fitsSlip_27 : decode cX7_fitsSlip 27 = .ok (.iaload, 1) := by decide +kernel
theorem dX7_fitsSlip_28 : decode cX7_fitsSlip 28 = .ok (.aload_n 0, 1) := by decide +kernel
theorem dX7_fitsSlip_29 : decode cX7_fitsSlip 29 = .ok (.aload_n 1, 1) := by decide +kernel
theorem dX7_fitsSlip_30 : decode cX7_fitsSlip 30 = .ok (.iload_n 2, 1) := by decide +kernel
theorem dX7_fitsSlip_31 : decode cX7_fitsSlip 31 = .ok (.iload 4, 2) := by decide +kernel
theorem dX7_fitsSlip_33 : decode cX7_fitsSlip 33 = .ok (.invokevirtual 78, 3) := by decide +kernel
theorem dX7_fitsSlip_36 : decode cX7_fitsSlip 36 = .ok (.if_icmp .eq 5, 3) := by decide +kernel
theorem dX7_fitsSlip_39 : decode cX7_fitsSlip 39 = .ok (.iconst 0, 1) := by decide +kernel
theorem dX7_fitsSlip_40 : decode cX7_fitsSlip 40 = .ok (.ireturn, 1) := by decide +kernel
theorem dX7_fitsSlip_41 : decode cX7_fitsSlip 41 = .ok (.iinc 4 1, 3) := by decide +kernel
theorem dX7_fitsSlip_44 : decode cX7_fitsSlip 44 = .ok (.goto (-41), 3) := by decide +kernel
theorem dX7_fitsSlip_47 : decode cX7_fitsSlip 47 = .ok (.iconst 1, 1) := by decide +kernel
theorem dX7_fitsSlip_48 : decode cX7_fitsSlip 48 = .ok (.ireturn, 1) := by decide +kernel
def j_X7_fitsSlip_39 (a : Nat)  (g : zG) : Option (Int32 × zG) :=
  some ((0, g))
def l_X7_fitsSlip_3 (a : Nat) (l1 : Nat) (l2 : Int32) (l3 : Int32) (l4 : Int32) (g : zG) : Option ((Int32 × zG) ⊕ ((zG) ⊕ (Int32 × zG))) :=
  if l3 ≤ l4 then (some (.inr (.inr (1, g)))) else (zc (zin l4 40) (if (g.1 (g.2.1 a 1) l4.toNatClampNeg) = (-4) then (zl (l4 + 1) (fun v4 => some (.inl (v4, g)))) else (zc (zin l4 40) (zb (f_X7_shownAfterSlip a l1 l2 l4 g) (fun v6 g7 => if (g.1 (g.2.1 a 1) l4.toNatClampNeg) = v6 then (zl (l4 + 1) (fun v9 => some (.inl (v9, g7)))) else (some (.inr (.inl g7))))))))
def f_X7_fitsSlip (a : Nat) (b1 : Nat) (x2 : Int32) (x3 : Int32) (g : zG) : Option (Int32 × zG) :=
  zk2 (zw zN (fun s => l_X7_fitsSlip_3 a b1 x2 x3 s.1 s.2) (0, g)) (fun x => j_X7_fitsSlip_39 a x)
abbrev rm_X7_fitsSlip : Room := { frames := 2, cells := 0, slots := 0, locals := 47 }
set_option maxRecDepth 100000 in
set_option maxHeartbeats 4000000 in
theorem c_X7_fitsSlip (l : Launch) (D : zD) (sz : Nat) (τ : zT) (g : zG) (a : Nat) (b1 : Nat) (x2 : Int32) (x3 : Int32) (hta : τ a = some (.inr 7)) (htb1 : τ b1 = some (.inr 0)) : zCon l D yX7_fitsSlip cX7_fitsSlip 5 (some .boolean) rm_X7_fitsSlip 0 0 zrI [.ref a, .ref b1, .int x2, .int x3] sz τ g τ (f_X7_fitsSlip a b1 x2 x3 g) := by
  refine zCon.of (by decide) (Nat.le_of_ble_eq_true rfl) (fun E r g' hl hR hsz hnm F => ?_)
  have F : zF E D (zA τ sz) cX7_fitsSlip "TypeChain$Strike" 5 (some .boolean) := F
  show zSim (fun q : Int32 × zG => q = (r, g')) (f_X7_fitsSlip a b1 x2 x3 g) (zAt E D (zA τ sz) (zQ E D zrI 0 0 sz τ τ r g') 5 (sz, τ, 0, 0) g 0 [(0, .ref a), (1, .ref b1), (2, .int x2), (3, .int x3)] [])
  have hj_X7_fitsSlip_39 : ∀  (g_39 : zG), zSim (fun q : Int32 × zG => q = (r, g')) (j_X7_fitsSlip_39 a g_39) (zAt E D (zA τ sz) (zQ E D zrI 0 0 sz τ τ r g') 5 (sz, τ, 0, 0) g_39 39 [] []) := by
    intro g_39
    unfold j_X7_fitsSlip_39
    refine z_iconst (v := 0) F (by decide) dX7_fitsSlip_39 ?_
    exact z_zreturn F rfl rfl rfl rfl rfl (fun h => h) dX7_fitsSlip_40
  unfold f_X7_fitsSlip
  refine z_iconst (v := 0) F (by decide) dX7_fitsSlip_0 ?_
  refine z_istore (lv' := [(4, .int 0), (0, .ref a), (1, .ref b1), (2, .int x2), (3, .int x3)]) F (by decide) dX7_fitsSlip_1 rfl ?_
  refine z_sub (lv' := [(0, .ref a), (1, .ref b1), (2, .int x2), (3, .int x3), (4, .int 0)]) [1, 2, 3, 4, 0] rfl ?_
  refine z_loop2 (P := fun s : Int32 × zG => zAt E D (zA τ sz) (zQ E D zrI 0 0 sz τ τ r g') 5 (sz, τ, 0, 0) s.2 3 [(0, .ref a), (1, .ref b1), (2, .int x2), (3, .int x3), (4, .int s.1)] []) (Px := fun x : zG => zAt E D (zA τ sz) (zQ E D zrI 0 0 sz τ τ r g') 5 (sz, τ, 0, 0) x 39 [] []) (0, g) (fun s => ?_) (fun x => ?_)
  · obtain ⟨l4_3, g_3⟩ := s
    show zSim (zKl (fun s : Int32 × zG => zAt E D (zA τ sz) (zQ E D zrI 0 0 sz τ τ r g') 5 (sz, τ, 0, 0) s.2 3 [(0, .ref a), (1, .ref b1), (2, .int x2), (3, .int x3), (4, .int s.1)] []) (zKl (fun x : zG => zAt E D (zA τ sz) (zQ E D zrI 0 0 sz τ τ r g') 5 (sz, τ, 0, 0) x 39 [] []) (fun q : Int32 × zG => q = (r, g')))) (l_X7_fitsSlip_3 a b1 x2 x3 l4_3 g_3) (zAt E D (zA τ sz) (zQ E D zrI 0 0 sz τ τ r g') 5 (sz, τ, 0, 0) g_3 3 [(0, .ref a), (1, .ref b1), (2, .int x2), (3, .int x3), (4, .int l4_3)] [])
    unfold l_X7_fitsSlip_3
    refine z_iload F 4 rfl dX7_fitsSlip_3 ?_
    refine z_iload_n F 3 rfl rfl dX7_fitsSlip_5 ?_
    refine z_icmp_ge (tgt := 47) F dX7_fitsSlip_6 (by decide) (fun c1 => ?_) (fun c1 => ?_)
    · refine z_iconst (v := 1) F (by decide) dX7_fitsSlip_47 ?_
      exact z_zreturn F rfl rfl rfl rfl rfl (fun h => h) dX7_fitsSlip_48
    · refine z_aload_n F 0 rfl rfl dX7_fitsSlip_9 ?_
      refine gf_X7_15 F hta dX7_fitsSlip_10 (fun ht2 => ?_)
      refine z_iload F 4 rfl dX7_fitsSlip_13 ?_
      refine z_iald F ht2 dX7_fitsSlip_15 ?_
      refine z_bipush (v := (-4)) F (by decide) dX7_fitsSlip_16 ?_
      refine z_icmp_eq (tgt := 41) F dX7_fitsSlip_18 (by decide) (fun c3 => ?_) (fun c3 => ?_)
      · refine z_iincl (lv' := fun v4 => [(4, .int v4), (0, .ref a), (1, .ref b1), (2, .int x2), (3, .int x3)]) F 4 rfl (by decide) (by decide) dX7_fitsSlip_41 (fun _ => rfl) (fun v4 => ?_)
        refine z_goto (tgt := 3) F dX7_fitsSlip_44 (by decide) ?_
        refine z_sub (lv' := [(0, .ref a), (1, .ref b1), (2, .int x2), (3, .int x3), (4, .int v4)]) [1, 2, 3, 4, 0] rfl ?_
        exact z_back (fun h => h)
      · refine z_aload_n F 0 rfl rfl dX7_fitsSlip_21 ?_
        refine gf_X7_15 F hta dX7_fitsSlip_22 (fun ht5 => ?_)
        refine z_iload F 4 rfl dX7_fitsSlip_25 ?_
        refine z_iald F ht5 dX7_fitsSlip_27 ?_
        refine z_aload_n F 0 rfl rfl dX7_fitsSlip_28 ?_
        refine z_aload_n F 1 rfl rfl dX7_fitsSlip_29 ?_
        refine z_iload_n F 2 rfl rfl dX7_fitsSlip_30 ?_
        refine z_iload F 4 rfl dX7_fitsSlip_31 ?_
        refine k_X7_shownAfterSlip F (by rw [hR]; exact ⟨by decide, by decide⟩) q_716 hta htb1 ⟨Nat.zero_le _, Nat.zero_le _⟩ (Nat.le_of_ble_eq_true rfl) dX7_fitsSlip_33 (fun v6 g7 => ?_)
        refine z_icmp_eq (tgt := 41) F dX7_fitsSlip_36 (by decide) (fun c8 => ?_) (fun c8 => ?_)
        · refine z_iincl (lv' := fun v9 => [(4, .int v9), (0, .ref a), (1, .ref b1), (2, .int x2), (3, .int x3)]) F 4 rfl (by decide) (by decide) dX7_fitsSlip_41 (fun _ => rfl) (fun v9 => ?_)
          refine z_goto (tgt := 3) F dX7_fitsSlip_44 (by decide) ?_
          refine z_sub (lv' := [(0, .ref a), (1, .ref b1), (2, .int x2), (3, .int x3), (4, .int v9)]) [1, 2, 3, 4, 0] rfl ?_
          exact z_back (fun h => h)
        · refine z_sub (lv' := []) [] rfl ?_
          exact z_back (fun h => h)
  · show zSim (fun q : Int32 × zG => q = (r, g')) (j_X7_fitsSlip_39 a x) (zAt E D (zA τ sz) (zQ E D zrI 0 0 sz τ τ r g') 5 (sz, τ, 0, 0) x 39 [] [])
    exact hj_X7_fitsSlip_39 x
theorem k_X7_fitsSlip {ρ : Type} {K : ρ → Prop} {E : zE} {D : zD} {A : Nat → Prop} {Q : State → Prop} {nL : Nat} {κ : zC} {g : zG} {pc : Nat} {lv : List (Nat × Value)} {st : List Value} {cc : ByteArray} {own : String} {ret : Option FieldType} (F : zF E D A cc own nL ret) {index : Nat} {h : Int32 → zG → Option ρ} {a : Nat} {b1 : Nat} {x2 : Int32} {x3 : Int32}  (hR : 2 + 1 ≤ E.2.2.2.1.frames ∧ 8 + (5 + 11) + 47 ≤ E.2.2.2.1.locals) (hl : zTbl (.methodLink own index yX7_fitsSlip)) (hta : κ.2.1 a = some (.inr 7)) (htb1 : κ.2.1 b1 = some (.inr 0)) (hc : κ.2.2.1 ≤ E.2.2.2.1.cells ∧ κ.2.2.2 ≤ E.2.2.2.1.slots) (hW : (st.map fun v => v.category).sum ≤ 8) (hd : decode cc pc = .ok (.invokevirtual index, 3)) (kk : ∀ r g', zSim K (h r g') (zAt E D A Q nL κ g' (pc + 3) lv (.int r :: st))) : zSim K (zb (f_X7_fitsSlip a b1 x2 x3 g) h) (zAt E D A Q nL κ g pc lv (.int x3 :: .int x2 :: .ref b1 :: .ref a :: st)) :=
  z_callV F (n := 3) (As := [.ref b1, .int x2, .int x3]) (C := (RX7, TX7, 9)) ⟨q_715, q_11, by decide +kernel, rfl, rfl, hR.1, hR.2⟩ (c_X7_fitsSlip E.2.1 D κ.1 κ.2.1 g a b1 x2 x3 hta htb1) hl q_713 q_714 hta rfl rfl rfl hc hW hd kk _ rfl
theorem dX7_make_0 : decode cX7_make 0 = .ok (.aload_n 0, 1) := by decide +kernel
theorem dX7_make_1 : decode cX7_make 1 = .ok (.aload_n 1, 1) := by decide +kernel
theorem dX7_make_2 : decode cX7_make 2 = .ok (.aload_n 2, 1) := by decide +kernel
theorem dX7_make_3 : decode cX7_make 3 = .ok (.iload_n 3, 1) := by decide +kernel
theorem dX7_make_4 : decode cX7_make 4 = .ok (.iload 5, 2) := by decide +kernel
theorem dX7_make_6 : decode cX7_make 6 = .ok (.invokevirtual 24, 3) := by decide +kernel
theorem dX7_make_9 : decode cX7_make 9 = .ok (.iload 5, 2) := by decide +kernel
theorem dX7_make_11 : decode cX7_make 11 = .ok (.istore 6, 2) := by decide +kernel
theorem dX7_make_13 : decode cX7_make 13 = .ok (.iconst 0, 1) := by decide +kernel
theorem dX7_make_14 : decode cX7_make 14 = .ok (.istore 7, 2) := by decide +kernel
theorem dX7_make_16 : decode cX7_make 16 = .ok (.iload 7, 2) := by decide +kernel
theorem dX7_make_18 : decode cX7_make 18 = .ok (.bipush 40, 2) := by decide +kernel
theorem dX7_make_20 : decode cX7_make 20 = .ok (.if_icmp .ge 107, 3) := by decide +kernel
theorem dX7_make_23 : decode cX7_make 23 = .ok (.aload_n 0, 1) := by decide +kernel
theorem dX7_make_24 : decode cX7_make 24 = .ok (.getfield 28, 3) := by decide +kernel
theorem dX7_make_27 : decode cX7_make 27 = .ok (.ifCond .le 100, 3) := by decide +kernel
theorem dX7_make_30 : decode cX7_make 30 = .ok (.aload_n 0, 1) := by decide +kernel
theorem dX7_make_31 : decode cX7_make 31 = .ok (.invokevirtual 32, 3) := by decide +kernel
theorem dX7_make_34 : decode cX7_make 34 = .ok (.istore 8, 2) := by decide +kernel
theorem dX7_make_36 : decode cX7_make 36 = .ok (.aload_n 0, 1) := by decide +kernel
theorem dX7_make_37 : decode cX7_make 37 = .ok (.iload 8, 2) := by decide +kernel
theorem dX7_make_39 : decode cX7_make 39 = .ok (.iload 4, 2) := by decide +kernel
theorem dX7_make_41 : decode cX7_make 41 = .ok (.invokevirtual 36, 3) := by decide +kernel
theorem dX7_make_44 : decode cX7_make 44 = .ok (.iload 8, 2) := by decide +kernel
theorem dX7_make_46 : decode cX7_make 46 = .ok (.iconst 1, 1) := by decide +kernel
theorem dX7_make_47 : decode cX7_make 47 = .ok (.iadd, 1) := by decide +kernel
theorem dX7_make_48 : decode cX7_make 48 = .ok (.istore 6, 2) := by decide +kernel
theorem dX7_make_50 : decode cX7_make 50 = .ok (.iconst 0, 1) := by decide +kernel
theorem dX7_make_51 : decode cX7_make 51 = .ok (.istore 9, 2) := by decide +kernel
theorem dX7_make_53 : decode cX7_make 53 = .ok (.iload 9, 2) := by decide +kernel
theorem dX7_make_55 : decode cX7_make 55 = .ok (.aload_n 0, 1) := by decide +kernel
theorem dX7_make_56 : decode cX7_make 56 = .ok (.getfield 28, 3) := by decide +kernel
theorem dX7_make_59 : decode cX7_make 59 = .ok (.if_icmp .ge 62, 3) := by decide +kernel
theorem dX7_make_62 : decode cX7_make 62 = .ok (.aload_n 0, 1) := by decide +kernel
theorem dX7_make_63 : decode cX7_make 63 = .ok (.getfield 18, 3) := by decide +kernel
theorem dX7_make_66 : decode cX7_make 66 = .ok (.iload 9, 2) := by decide +kernel
theorem dX7_make_68 : decode cX7_make 68 = .ok (.iaload, 1) := by decide +kernel
theorem dX7_make_69 : decode cX7_make 69 = .ok (.istore 10, 2) := by decide +kernel
theorem dX7_make_71 : decode cX7_make 71 = .ok (.aload_n 0, 1) := by decide +kernel
theorem dX7_make_72 : decode cX7_make 72 = .ok (.getfield 21, 3) := by decide +kernel
theorem dX7_make_75 : decode cX7_make 75 = .ok (.iload 9, 2) := by decide +kernel
theorem dX7_make_77 : decode cX7_make 77 = .ok (.iaload, 1) := by decide +kernel
theorem dX7_make_78 : decode cX7_make 78 = .ok (.iload 8, 2) := by decide +kernel
theorem dX7_make_80 : decode cX7_make 80 = .ok (.if_icmp .ne 35, 3) := by decide +kernel
theorem dX7_make_83 : decode cX7_make 83 = .ok (.aload_n 0, 1) := by decide +kernel
theorem dX7_make_84 : decode cX7_make 84 = .ok (.dup, 1) := by decide +kernel
theorem dX7_make_85 : decode cX7_make 85 = .ok (.getfield 40, 3) := by decide +kernel
theorem dX7_make_88 : decode cX7_make 88 = .ok (.lconst 1, 1) := by decide +kernel
theorem dX7_make_89 : decode cX7_make 89 = .ok (.iload 10, 2) := by decide +kernel
theorem dX7_make_91 : decode cX7_make 91 = .ok (.lshl, 1) := by decide +kernel
theorem dX7_make_92 : decode cX7_make 92 = .ok (.lor, 1) := by decide +kernel
theorem dX7_make_93 : decode cX7_make 93 = .ok (.putfield 40, 3) := by decide +kernel
theorem dX7_make_96 : decode cX7_make 96 = .ok (.aload_n 0, 1) := by decide +kernel
theorem dX7_make_97 : decode cX7_make 97 = .ok (.getfield 21, 3) := by decide +kernel
theorem dX7_make_100 : decode cX7_make 100 = .ok (.iload 9, 2) := by decide +kernel
theorem dX7_make_102 : decode cX7_make 102 = .ok (.aload_n 1, 1) := by decide +kernel
theorem dX7_make_103 : decode cX7_make 103 = .ok (.iload 10, 2) := by decide +kernel
theorem dX7_make_105 : decode cX7_make 105 = .ok (.aload_n 2, 1) := by decide +kernel
theorem dX7_make_106 : decode cX7_make 106 = .ok (.iload 10, 2) := by decide +kernel
theorem dX7_make_108 : decode cX7_make 108 = .ok (.iaload, 1) := by decide +kernel
theorem dX7_make_109 : decode cX7_make 109 = .ok (.iload 6, 2) := by decide +kernel
theorem dX7_make_111 : decode cX7_make 111 = .ok (.invokevirtual 44, 3) := by decide +kernel
theorem dX7_make_114 : decode cX7_make 114 = .ok (.iastore, 1) := by decide +kernel
theorem dX7_make_115 : decode cX7_make 115 = .ok (.iinc 9 1, 3) := by decide +kernel
theorem dX7_make_118 : decode cX7_make 118 = .ok (.goto (-65), 3) := by decide +kernel
theorem dX7_make_121 : decode cX7_make 121 = .ok (.iinc 7 1, 3) := by decide +kernel
theorem dX7_make_124 : decode cX7_make 124 = .ok (.goto (-108), 3) := by decide +kernel
theorem dX7_make_127 : decode cX7_make 127 = .ok (.iload 6, 2) := by decide +kernel
theorem dX7_make_129 : decode cX7_make 129 = .ok (.iload 5, 2) := by decide +kernel
theorem dX7_make_131 : decode cX7_make 131 = .ok (.isub, 1) := by decide +kernel
theorem dX7_make_132 : decode cX7_make 132 = .ok (.ireturn, 1) := by decide +kernel
def j_X7_make_127 (a : Nat) (l5 : Int32) (l6 : Int32) (g : zG) : Option (Int32 × zG) :=
  some ((l6 - l5, g))
def j_X7_make_121_16 (a : Nat) (l1 : Nat) (l2 : Nat) (l4 : Int32) (l5 : Int32) (l6 : Int32) (l7 : Int32) (g : zG) : Option ((Int32 × Int32 × zG) ⊕ (Int32 × zG)) :=
  zl (l7 + 1) (fun v3 => some (.inl (l6, v3, g)))
def l_X7_make_53 (a : Nat) (l1 : Nat) (l2 : Nat) (l4 : Int32) (l5 : Int32) (l6 : Int32) (l7 : Int32) (l8 : Int32) (l9 : Int32) (g : zG) : Option ((Int32 × zG) ⊕ (zG)) :=
  if (g.1 a 8) ≤ l9 then (some (.inr g)) else (zc (zin l9 40) (zl (g.1 (g.2.1 a 6) l9.toNatClampNeg) (fun v13 => zc (zin l9 40) (if (g.1 (g.2.1 a 7) l9.toNatClampNeg) = l8 then (zl (zsl g a 5 ((g.2.2 a 5) ||| (zlshl 1 v13))) (fun g16 => zc (zin v13 40) (zb (f_X0_nextTick l1 v13 (g16.1 l2 v13.toNatClampNeg) l6 g16) (fun v18 g19 => zc (zin l9 40) (zl (zsi g19 (g16.2.1 a 7) l9.toNatClampNeg v18) (fun g20 => zl (l9 + 1) (fun v21 => some (.inl (v21, g20))))))))) else (zl (l9 + 1) (fun v22 => some (.inl (v22, g))))))))
def l_X7_make_16 (a : Nat) (l1 : Nat) (l2 : Nat) (l4 : Int32) (l5 : Int32) (l6 : Int32) (l7 : Int32) (g : zG) : Option ((Int32 × Int32 × zG) ⊕ (Int32 × zG)) :=
  if 40 ≤ l7 then (some (.inr (l6, g))) else (if (g.1 a 8) ≤ 0 then (some (.inr (l6, g))) else (zb (f_X7_earliestDue a g) (fun v6 g7 => zb (f_X7_strikeAt a v6 l4 g7) (fun v8 g9 => zl (v6 + 1) (fun v10 => zk (zw zN (fun s => l_X7_make_53 a l1 l2 l4 l5 v10 l7 v6 s.1 s.2) (0, g9)) (fun x => j_X7_make_121_16 a l1 l2 l4 l5 v10 l7 x))))))
def f_X7_make (a : Nat) (b1 : Nat) (b2 : Nat) (x3 : Int32) (x4 : Int32) (x5 : Int32) (g : zG) : Option (Int32 × zG) :=
  zb (f_X7_gather a b1 b2 x3 x5 g) (fun v1 g2 => zk (zw zN (fun s => l_X7_make_16 a b1 b2 x4 x5 s.1 s.2.1 s.2.2) (x5, 0, g2)) (fun x => j_X7_make_127 a x5 x.1 x.2))
abbrev rm_X7_make : Room := { frames := 2, cells := 0, slots := 0, locals := 53 }
set_option maxRecDepth 100000 in
set_option maxHeartbeats 4000000 in
theorem c_X7_make (l : Launch) (D : zD) (sz : Nat) (τ : zT) (g : zG) (a : Nat) (b1 : Nat) (b2 : Nat) (x3 : Int32) (x4 : Int32) (x5 : Int32) (hta : τ a = some (.inr 7)) (htb1 : τ b1 = some (.inr 0)) (htb2 : τ b2 = some (.inl (.int, 40))) : zCon l D yX7_make cX7_make 11 (some .int) rm_X7_make 0 0 zrI [.ref a, .ref b1, .ref b2, .int x3, .int x4, .int x5] sz τ g τ (f_X7_make a b1 b2 x3 x4 x5 g) := by
  refine zCon.of (by decide) (Nat.le_of_ble_eq_true rfl) (fun E r g' hl hR hsz hnm F => ?_)
  have F : zF E D (zA τ sz) cX7_make "TypeChain$Strike" 11 (some .int) := F
  show zSim (fun q : Int32 × zG => q = (r, g')) (f_X7_make a b1 b2 x3 x4 x5 g) (zAt E D (zA τ sz) (zQ E D zrI 0 0 sz τ τ r g') 11 (sz, τ, 0, 0) g 0 [(0, .ref a), (1, .ref b1), (2, .ref b2), (3, .int x3), (4, .int x4), (5, .int x5)] [])
  have hj_X7_make_127 : ∀ (l5_127 : Int32) (l6_127 : Int32) (g_127 : zG), zSim (fun q : Int32 × zG => q = (r, g')) (j_X7_make_127 a l5_127 l6_127 g_127) (zAt E D (zA τ sz) (zQ E D zrI 0 0 sz τ τ r g') 11 (sz, τ, 0, 0) g_127 127 [(5, .int l5_127), (6, .int l6_127)] []) := by
    intro l5_127 l6_127 g_127
    unfold j_X7_make_127
    refine z_iload F 1 rfl dX7_make_127 ?_
    refine z_iload F 0 rfl dX7_make_129 ?_
    refine z_isub F dX7_make_131 ?_
    exact z_ireturn F rfl rfl rfl rfl (fun h => h) dX7_make_132
  unfold f_X7_make
  refine z_aload_n F 0 rfl rfl dX7_make_0 ?_
  refine z_aload_n F 1 rfl rfl dX7_make_1 ?_
  refine z_aload_n F 2 rfl rfl dX7_make_2 ?_
  refine z_iload_n F 3 rfl rfl dX7_make_3 ?_
  refine z_iload F 5 rfl dX7_make_4 ?_
  refine k_X7_gather F (by rw [hR]; exact ⟨by decide, by decide⟩) q_648 hta htb1 htb2 ⟨Nat.zero_le _, Nat.zero_le _⟩ (Nat.le_of_ble_eq_true rfl) dX7_make_6 (fun v1 g2 => ?_)
  refine z_iload F 5 rfl dX7_make_9 ?_
  refine z_istore (lv' := [(6, .int x5), (0, .ref a), (1, .ref b1), (2, .ref b2), (3, .int x3), (4, .int x4), (5, .int x5)]) F (by decide) dX7_make_11 rfl ?_
  refine z_iconst (v := 0) F (by decide) dX7_make_13 ?_
  refine z_istore (lv' := [(7, .int 0), (6, .int x5), (0, .ref a), (1, .ref b1), (2, .ref b2), (3, .int x3), (4, .int x4), (5, .int x5)]) F (by decide) dX7_make_14 rfl ?_
  refine z_sub (lv' := [(0, .ref a), (1, .ref b1), (2, .ref b2), (4, .int x4), (5, .int x5), (6, .int x5), (7, .int 0)]) [2, 3, 4, 6, 7, 1, 0] rfl ?_
  refine z_loop (P := fun s : Int32 × Int32 × zG => zAt E D (zA τ sz) (zQ E D zrI 0 0 sz τ τ r g') 11 (sz, τ, 0, 0) s.2.2 16 [(0, .ref a), (1, .ref b1), (2, .ref b2), (4, .int x4), (5, .int x5), (6, .int s.1), (7, .int s.2.1)] []) (Px := fun x : Int32 × zG => zAt E D (zA τ sz) (zQ E D zrI 0 0 sz τ τ r g') 11 (sz, τ, 0, 0) x.2 127 [(5, .int x5), (6, .int x.1)] []) (x5, 0, g2) (fun s => ?_) (fun x => ?_)
  · obtain ⟨l6_16, l7_16, g_16⟩ := s
    show zSim (zKl (fun s : Int32 × Int32 × zG => zAt E D (zA τ sz) (zQ E D zrI 0 0 sz τ τ r g') 11 (sz, τ, 0, 0) s.2.2 16 [(0, .ref a), (1, .ref b1), (2, .ref b2), (4, .int x4), (5, .int x5), (6, .int s.1), (7, .int s.2.1)] []) (fun x : Int32 × zG => zAt E D (zA τ sz) (zQ E D zrI 0 0 sz τ τ r g') 11 (sz, τ, 0, 0) x.2 127 [(5, .int x5), (6, .int x.1)] [])) (l_X7_make_16 a b1 b2 x4 x5 l6_16 l7_16 g_16) (zAt E D (zA τ sz) (zQ E D zrI 0 0 sz τ τ r g') 11 (sz, τ, 0, 0) g_16 16 [(0, .ref a), (1, .ref b1), (2, .ref b2), (4, .int x4), (5, .int x5), (6, .int l6_16), (7, .int l7_16)] [])
    have hj_X7_make_121_16 : ∀ (l6_121 : Int32) (l7_121 : Int32) (g_121 : zG), zSim (zKl (fun s : Int32 × Int32 × zG => zAt E D (zA τ sz) (zQ E D zrI 0 0 sz τ τ r g') 11 (sz, τ, 0, 0) s.2.2 16 [(0, .ref a), (1, .ref b1), (2, .ref b2), (4, .int x4), (5, .int x5), (6, .int s.1), (7, .int s.2.1)] []) (fun x : Int32 × zG => zAt E D (zA τ sz) (zQ E D zrI 0 0 sz τ τ r g') 11 (sz, τ, 0, 0) x.2 127 [(5, .int x5), (6, .int x.1)] [])) (j_X7_make_121_16 a b1 b2 x4 x5 l6_121 l7_121 g_121) (zAt E D (zA τ sz) (zQ E D zrI 0 0 sz τ τ r g') 11 (sz, τ, 0, 0) g_121 121 [(0, .ref a), (1, .ref b1), (2, .ref b2), (4, .int x4), (5, .int x5), (6, .int l6_121), (7, .int l7_121)] []) := by
      intro l6_121 l7_121 g_121
      unfold j_X7_make_121_16
      refine z_iincl (lv' := fun v3 => [(7, .int v3), (0, .ref a), (1, .ref b1), (2, .ref b2), (4, .int x4), (5, .int x5), (6, .int l6_121)]) F 6 rfl (by decide) (by decide) dX7_make_121 (fun _ => rfl) (fun v3 => ?_)
      refine z_goto (tgt := 16) F dX7_make_124 (by decide) ?_
      refine z_sub (lv' := [(0, .ref a), (1, .ref b1), (2, .ref b2), (4, .int x4), (5, .int x5), (6, .int l6_121), (7, .int v3)]) [1, 2, 3, 4, 5, 6, 0] rfl ?_
      exact z_back (fun h => h)
    unfold l_X7_make_16
    refine z_iload F 6 rfl dX7_make_16 ?_
    refine z_bipush (v := 40) F (by decide) dX7_make_18 ?_
    refine z_icmp_ge (tgt := 127) F dX7_make_20 (by decide) (fun c4 => ?_) (fun c4 => ?_)
    · refine z_sub (lv' := [(5, .int x5), (6, .int l6_16)]) [4, 5] rfl ?_
      exact z_back (fun h => h)
    · refine z_aload_n F 0 rfl rfl dX7_make_23 ?_
      refine gf_X7_28 F hta dX7_make_24 ?_
      refine z_if_le (tgt := 127) F dX7_make_27 (by decide) (fun c5 => ?_) (fun c5 => ?_)
      · refine z_sub (lv' := [(5, .int x5), (6, .int l6_16)]) [4, 5] rfl ?_
        exact z_back (fun h => h)
      · refine z_aload_n F 0 rfl rfl dX7_make_30 ?_
        refine k_X7_earliestDue F (by rw [hR]; exact ⟨by decide, by decide⟩) q_653 hta ⟨Nat.zero_le _, Nat.zero_le _⟩ (Nat.le_of_ble_eq_true rfl) dX7_make_31 (fun v6 g7 => ?_)
        refine z_istore (lv' := [(8, .int v6), (0, .ref a), (1, .ref b1), (2, .ref b2), (4, .int x4), (5, .int x5), (6, .int l6_16), (7, .int l7_16)]) F (by decide) dX7_make_34 rfl ?_
        refine z_aload_n F 1 rfl rfl dX7_make_36 ?_
        refine z_iload F 0 rfl dX7_make_37 ?_
        refine z_iload F 4 rfl dX7_make_39 ?_
        refine k_X7_strikeAt F (by rw [hR]; exact ⟨by decide, by decide⟩) q_660 hta ⟨Nat.zero_le _, Nat.zero_le _⟩ (Nat.le_of_ble_eq_true rfl) dX7_make_41 (fun v8 g9 => ?_)
        refine z_iload F 0 rfl dX7_make_44 ?_
        refine z_iconst (v := 1) F (by decide) dX7_make_46 ?_
        refine z_iadd F dX7_make_47 ?_
        refine z_leti (fun v10 => ?_)
        refine z_istore (lv' := [(6, .int v10), (8, .int v6), (0, .ref a), (1, .ref b1), (2, .ref b2), (4, .int x4), (5, .int x5), (7, .int l7_16)]) F (by decide) dX7_make_48 rfl ?_
        refine z_iconst (v := 0) F (by decide) dX7_make_50 ?_
        refine z_istore (lv' := [(9, .int 0), (6, .int v10), (8, .int v6), (0, .ref a), (1, .ref b1), (2, .ref b2), (4, .int x4), (5, .int x5), (7, .int l7_16)]) F (by decide) dX7_make_51 rfl ?_
        refine z_sub (lv' := [(0, .ref a), (1, .ref b1), (2, .ref b2), (4, .int x4), (5, .int x5), (6, .int v10), (7, .int l7_16), (8, .int v6), (9, .int 0)]) [3, 4, 5, 6, 7, 1, 8, 2, 0] rfl ?_
        refine z_loop (P := fun s : Int32 × zG => zAt E D (zA τ sz) (zQ E D zrI 0 0 sz τ τ r g') 11 (sz, τ, 0, 0) s.2 53 [(0, .ref a), (1, .ref b1), (2, .ref b2), (4, .int x4), (5, .int x5), (6, .int v10), (7, .int l7_16), (8, .int v6), (9, .int s.1)] []) (Px := fun x : zG => zAt E D (zA τ sz) (zQ E D zrI 0 0 sz τ τ r g') 11 (sz, τ, 0, 0) x 121 [(0, .ref a), (1, .ref b1), (2, .ref b2), (4, .int x4), (5, .int x5), (6, .int v10), (7, .int l7_16)] []) (0, g9) (fun s => ?_) (fun x => ?_)
        · obtain ⟨l9_53, g_53⟩ := s
          show zSim (zKl (fun s : Int32 × zG => zAt E D (zA τ sz) (zQ E D zrI 0 0 sz τ τ r g') 11 (sz, τ, 0, 0) s.2 53 [(0, .ref a), (1, .ref b1), (2, .ref b2), (4, .int x4), (5, .int x5), (6, .int v10), (7, .int l7_16), (8, .int v6), (9, .int s.1)] []) (fun x : zG => zAt E D (zA τ sz) (zQ E D zrI 0 0 sz τ τ r g') 11 (sz, τ, 0, 0) x 121 [(0, .ref a), (1, .ref b1), (2, .ref b2), (4, .int x4), (5, .int x5), (6, .int v10), (7, .int l7_16)] [])) (l_X7_make_53 a b1 b2 x4 x5 v10 l7_16 v6 l9_53 g_53) (zAt E D (zA τ sz) (zQ E D zrI 0 0 sz τ τ r g') 11 (sz, τ, 0, 0) g_53 53 [(0, .ref a), (1, .ref b1), (2, .ref b2), (4, .int x4), (5, .int x5), (6, .int v10), (7, .int l7_16), (8, .int v6), (9, .int l9_53)] [])
          unfold l_X7_make_53
          refine z_iload F 8 rfl dX7_make_53 ?_
          refine z_aload_n F 0 rfl rfl dX7_make_55 ?_
          refine gf_X7_28 F hta dX7_make_56 ?_
          refine z_icmp_ge (tgt := 121) F dX7_make_59 (by decide) (fun c11 => ?_) (fun c11 => ?_)
          · refine z_sub (lv' := [(0, .ref a), (1, .ref b1), (2, .ref b2), (4, .int x4), (5, .int x5), (6, .int v10), (7, .int l7_16)]) [0, 1, 2, 3, 4, 5, 6] rfl ?_
            exact z_back (fun h => h)
          · refine z_aload_n F 0 rfl rfl dX7_make_62 ?_
            refine gf_X7_18 F hta dX7_make_63 (fun ht12 => ?_)
            refine z_iload F 8 rfl dX7_make_66 ?_
            refine z_iald F ht12 dX7_make_68 ?_
            refine z_leti (fun v13 => ?_)
            refine z_istore (lv' := [(10, .int v13), (0, .ref a), (1, .ref b1), (2, .ref b2), (4, .int x4), (5, .int x5), (6, .int v10), (7, .int l7_16), (8, .int v6), (9, .int l9_53)]) F (by decide) dX7_make_69 rfl ?_
            refine z_aload_n F 1 rfl rfl dX7_make_71 ?_
            refine gf_X7_21 F hta dX7_make_72 (fun ht14 => ?_)
            refine z_iload F 9 rfl dX7_make_75 ?_
            refine z_iald F ht14 dX7_make_77 ?_
            refine z_iload F 8 rfl dX7_make_78 ?_
            refine z_icmp_ne (tgt := 115) F dX7_make_80 (by decide) (fun c15 => ?_) (fun c15 => ?_)
            · refine z_aload_n F 1 rfl rfl dX7_make_83 ?_
              refine z_dup F rfl dX7_make_84 ?_
              refine gf_X7_40 F hta dX7_make_85 ?_
              refine z_lconst (v := 1) F (by decide) dX7_make_88 ?_
              refine z_iload F 0 rfl dX7_make_89 ?_
              refine z_lshl F dX7_make_91 ?_
              refine z_lor F dX7_make_92 ?_
              refine pf_X7_40 F hta dX7_make_93 ?_
              refine z_letg (fun g16 => ?_)
              refine z_aload_n F 1 rfl rfl dX7_make_96 ?_
              refine gf_X7_21 F hta dX7_make_97 (fun ht17 => ?_)
              refine z_iload F 9 rfl dX7_make_100 ?_
              refine z_aload_n F 2 rfl rfl dX7_make_102 ?_
              refine z_iload F 0 rfl dX7_make_103 ?_
              refine z_aload_n F 3 rfl rfl dX7_make_105 ?_
              refine z_iload F 0 rfl dX7_make_106 ?_
              refine z_iald F htb2 dX7_make_108 ?_
              refine z_iload F 6 rfl dX7_make_109 ?_
              refine k_X0_nextTick F (by rw [hR]; exact ⟨by decide, by decide⟩) q_652 htb1 ⟨Nat.zero_le _, Nat.zero_le _⟩ (Nat.le_of_ble_eq_true rfl) dX7_make_111 (fun v18 g19 => ?_)
              refine z_iast F ht17 dX7_make_114 ?_
              refine z_letg (fun g20 => ?_)
              refine z_iincl (lv' := fun v21 => [(9, .int v21), (10, .int v13), (0, .ref a), (1, .ref b1), (2, .ref b2), (4, .int x4), (5, .int x5), (6, .int v10), (7, .int l7_16), (8, .int v6)]) F 9 rfl (by decide) (by decide) dX7_make_115 (fun _ => rfl) (fun v21 => ?_)
              refine z_goto (tgt := 53) F dX7_make_118 (by decide) ?_
              refine z_sub (lv' := [(0, .ref a), (1, .ref b1), (2, .ref b2), (4, .int x4), (5, .int x5), (6, .int v10), (7, .int l7_16), (8, .int v6), (9, .int v21)]) [2, 3, 4, 5, 6, 7, 8, 9, 0] rfl ?_
              exact z_back (fun h => h)
            · refine z_iincl (lv' := fun v22 => [(9, .int v22), (10, .int v13), (0, .ref a), (1, .ref b1), (2, .ref b2), (4, .int x4), (5, .int x5), (6, .int v10), (7, .int l7_16), (8, .int v6)]) F 9 rfl (by decide) (by decide) dX7_make_115 (fun _ => rfl) (fun v22 => ?_)
              refine z_goto (tgt := 53) F dX7_make_118 (by decide) ?_
              refine z_sub (lv' := [(0, .ref a), (1, .ref b1), (2, .ref b2), (4, .int x4), (5, .int x5), (6, .int v10), (7, .int l7_16), (8, .int v6), (9, .int v22)]) [2, 3, 4, 5, 6, 7, 8, 9, 0] rfl ?_
              exact z_back (fun h => h)
        · show zSim (zKl (fun s : Int32 × Int32 × zG => zAt E D (zA τ sz) (zQ E D zrI 0 0 sz τ τ r g') 11 (sz, τ, 0, 0) s.2.2 16 [(0, .ref a), (1, .ref b1), (2, .ref b2), (4, .int x4), (5, .int x5), (6, .int s.1), (7, .int s.2.1)] []) (fun x : Int32 × zG => zAt E D (zA τ sz) (zQ E D zrI 0 0 sz τ τ r g') 11 (sz, τ, 0, 0) x.2 127 [(5, .int x5), (6, .int x.1)] [])) (j_X7_make_121_16 a b1 b2 x4 x5 v10 l7_16 x) (zAt E D (zA τ sz) (zQ E D zrI 0 0 sz τ τ r g') 11 (sz, τ, 0, 0) x 121 [(0, .ref a), (1, .ref b1), (2, .ref b2), (4, .int x4), (5, .int x5), (6, .int v10), (7, .int l7_16)] [])
          exact hj_X7_make_121_16 v10 l7_16 x
  · show zSim (fun q : Int32 × zG => q = (r, g')) (j_X7_make_127 a x5 x.1 x.2) (zAt E D (zA τ sz) (zQ E D zrI 0 0 sz τ τ r g') 11 (sz, τ, 0, 0) x.2 127 [(5, .int x5), (6, .int x.1)] [])
    exact hj_X7_make_127 x5 x.1 x.2
theorem k_X7_make {ρ : Type} {K : ρ → Prop} {E : zE} {D : zD} {A : Nat → Prop} {Q : State → Prop} {nL : Nat} {κ : zC} {g : zG} {pc : Nat} {lv : List (Nat × Value)} {st : List Value} {cc : ByteArray} {own : String} {ret : Option FieldType} (F : zF E D A cc own nL ret) {index : Nat} {h : Int32 → zG → Option ρ} {a : Nat} {b1 : Nat} {b2 : Nat} {x3 : Int32} {x4 : Int32} {x5 : Int32}  (hR : 2 + 1 ≤ E.2.2.2.1.frames ∧ 8 + (11 + 11) + 53 ≤ E.2.2.2.1.locals) (hl : zTbl (.methodLink own index yX7_make)) (hta : κ.2.1 a = some (.inr 7)) (htb1 : κ.2.1 b1 = some (.inr 0)) (htb2 : κ.2.1 b2 = some (.inl (.int, 40))) (hc : κ.2.2.1 ≤ E.2.2.2.1.cells ∧ κ.2.2.2 ≤ E.2.2.2.1.slots) (hW : (st.map fun v => v.category).sum ≤ 8) (hd : decode cc pc = .ok (.invokevirtual index, 3)) (kk : ∀ r g', zSim K (h r g') (zAt E D A Q nL κ g' (pc + 3) lv (.int r :: st))) : zSim K (zb (f_X7_make a b1 b2 x3 x4 x5 g) h) (zAt E D A Q nL κ g pc lv (.int x5 :: .int x4 :: .int x3 :: .ref b2 :: .ref b1 :: .ref a :: st)) :=
  z_callV F (n := 5) (As := [.ref b1, .ref b2, .int x3, .int x4, .int x5]) (C := (RX7, TX7, 9)) ⟨q_647, q_11, by decide +kernel, rfl, rfl, hR.1, hR.2⟩ (c_X7_make E.2.1 D κ.1 κ.2.1 g a b1 b2 x3 x4 x5 hta htb1 htb2) hl q_645 q_646 hta rfl rfl rfl hc hW hd kk _ rfl
