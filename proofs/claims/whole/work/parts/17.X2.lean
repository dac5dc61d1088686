theorem dX2_begin_0 : decode cX2_begin 0 = .ok (.aload_n 0, 1) := by decide +kernel
theorem dX2_begin_1 : decode cX2_begin 1 = .ok (.aload_n 1, 1) := by decide +kernel
theorem dX2_begin_2 : decode cX2_begin 2 = .ok (.putfield 30, 3) := by decide +kernel
theorem dX2_begin_5 : decode cX2_begin 5 = .ok (.aload_n 0, 1) := by decide +kernel
theorem dX2_begin_6 : decode cX2_begin 6 = .ok (.aload_n 2, 1) := by decide +kernel
theorem dX2_begin_7 : decode cX2_begin 7 = .ok (.putfield 34, 3) := by decide +kernel
theorem dX2_begin_10 : decode cX2_begin 10 = .ok (.aload_n 0, 1) := by decide +kernel
theorem dX2_begin_11 : decode cX2_begin 11 = .ok (.iconst 0, 1) := by decide +kernel
theorem dX2_begin_12 : decode cX2_begin 12 = .ok (.putfield 38, 3) := by decide +kernel
theorem dX2_begin_15 : decode cX2_begin 15 = .ok (.aload_n 0, 1) := by decide +kernel
theorem dX2_begin_16 : decode cX2_begin 16 = .ok (.iconst 0, 1) := by decide +kernel
theorem dX2_begin_17 : decode cX2_begin 17 = .ok (.putfield 42, 3) := by decide +kernel
theorem dX2_begin_20 : decode cX2_begin 20 = .ok (.aload_n 0, 1) := by decide +kernel
theorem dX2_begin_21 : decode cX2_begin 21 = .ok (.iconst 1, 1) := by decide +kernel
theorem dX2_begin_22 : decode cX2_begin 22 = .ok (.putfield 45, 3) := by decide +kernel
theorem dX2_begin_25 : decode cX2_begin 25 = .ok (.aload_n 0, 1) := by decide +kernel
theorem dX2_begin_26 : decode cX2_begin 26 = .ok (.iconst 0, 1) := by decide +kernel
theorem dX2_begin_27 : decode cX2_begin 27 = .ok (.putfield 48, 3) := by decide +kernel
theorem dX2_begin_30 : decode cX2_begin 30 = .ok (.aload_n 0, 1) := by decide +kernel
theorem dX2_begin_31 : decode cX2_begin 31 = .ok (.getfield 18, 3) := by decide +kernel
theorem dX2_begin_34 : decode cX2_begin 34 = .ok (.iconst 0, 1) := by decide +kernel
theorem dX2_begin_35 : decode cX2_begin 35 = .ok (.putfield 51, 3) := by decide +kernel
theorem dX2_begin_38 : decode cX2_begin 38 = .ok (.aload_n 0, 1) := by decide +kernel
theorem dX2_begin_39 : decode cX2_begin 39 = .ok (.getfield 9, 3) := by decide +kernel
theorem dX2_begin_42 : decode cX2_begin 42 = .ok (.iconst 0, 1) := by decide +kernel
theorem dX2_begin_43 : decode cX2_begin 43 = .ok (.invokestatic 55, 3) := by decide +kernel
theorem dX2_begin_46 : decode cX2_begin 46 = .ok (.aload_n 0, 1) := by decide +kernel
theorem dX2_begin_47 : decode cX2_begin 47 = .ok (.getfield 22, 3) := by decide +kernel
theorem dX2_begin_50 : decode cX2_begin 50 = .ok (.ifnull 10, 3) := by decide +kernel
theorem dX2_begin_53 : decode cX2_begin 53 = .ok (.aload_n 0, 1) := by decide +kernel
theorem dX2_begin_54 : decode cX2_begin 54 = .ok (.getfield 22, 3) := by decide +kernel
theorem dX2_begin_57 : decode cX2_begin 57 = .ok (.invokevirtual 61, 3) := by decide +kernel
theorem dX2_begin_60 : decode cX2_begin 60 = .ok (.return_, 1) := by decide +kernel
def f_X2_begin (a : Nat) (b1 : Nat) (b2 : Nat) (g : zG) : Option (Int32 × zG) :=
  zl (zsr g a 7 b1) (fun g1 => zl (zsr g1 a 8 b2) (fun g2 => zl (zsi g2 a 2 0) (fun g3 => zl (zsi g3 a 3 0) (fun g4 => zl (zsi g4 a 4 1) (fun g5 => zl (zsi g5 a 5 0) (fun g6 => zl (zsi g6 (g6.2.1 a 1) 2 0) (fun g8 => zb (f_J7_fill_53178 40 (g8.2.1 a 0) 0 g8) (fun v10 g11 => if (g11.2.1 a 6) = 0 then (some ((0, g11))) else (zb (f_X1_clear (g11.2.1 a 6) g11) (fun v14 g15 => some ((0, g15))))))))))))
abbrev rm_X2_begin : Room := { frames := 2, cells := 0, slots := 0, locals := 43 }
set_option maxRecDepth 100000 in
set_option maxHeartbeats 4000000 in
theorem c_X2_begin (l : Launch) (D : zD) (sz : Nat) (τ : zT) (g : zG) (a : Nat) (b1 : Nat) (b2 : Nat) (hta : τ a = some (.inr 2)) (htb1 : τ b1 = some (.inr 5)) (htb2 : τ b2 = some (.inr 0)) : zCon l D yX2_begin cX2_begin 3 none rm_X2_begin 0 0 zrV [.ref a, .ref b1, .ref b2] sz τ g τ (f_X2_begin a b1 b2 g) := by
  refine zCon.of (by decide) (Nat.le_of_ble_eq_true rfl) (fun E r g' hl hR hsz hnm F => ?_)
  have F : zF E D (zA τ sz) cX2_begin "TypeChain$Printer" 3 none := F
  show zSim (fun q : Int32 × zG => q = (r, g')) (f_X2_begin a b1 b2 g) (zAt E D (zA τ sz) (zQ E D zrV 0 0 sz τ τ r g') 3 (sz, τ, 0, 0) g 0 [(0, .ref a), (1, .ref b1), (2, .ref b2)] [])
  unfold f_X2_begin
  refine z_aload_n F 0 rfl rfl dX2_begin_0 ?_
  refine z_aload_n F 1 rfl rfl dX2_begin_1 ?_
  refine pf_X2_30 F hta htb1 dX2_begin_2 ?_
  refine z_letg (fun g1 => ?_)
  refine z_aload_n F 0 rfl rfl dX2_begin_5 ?_
  refine z_aload_n F 2 rfl rfl dX2_begin_6 ?_
  refine pf_X2_34 F hta htb2 dX2_begin_7 ?_
  refine z_letg (fun g2 => ?_)
  refine z_aload_n F 0 rfl rfl dX2_begin_10 ?_
  refine z_iconst (v := 0) F (by decide) dX2_begin_11 ?_
  refine pf_X2_38 F hta dX2_begin_12 ?_
  refine z_letg (fun g3 => ?_)
  refine z_aload_n F 0 rfl rfl dX2_begin_15 ?_
  refine z_iconst (v := 0) F (by decide) dX2_begin_16 ?_
  refine pf_X2_42 F hta dX2_begin_17 ?_
  refine z_letg (fun g4 => ?_)
  refine z_aload_n F 0 rfl rfl dX2_begin_20 ?_
  refine z_iconst (v := 1) F (by decide) dX2_begin_21 ?_
  refine pf_X2_45 F hta dX2_begin_22 ?_
  refine z_letg (fun g5 => ?_)
  refine z_aload_n F 0 rfl rfl dX2_begin_25 ?_
  refine z_iconst (v := 0) F (by decide) dX2_begin_26 ?_
  refine pf_X2_48 F hta dX2_begin_27 ?_
  refine z_letg (fun g6 => ?_)
  refine z_aload_n F 0 rfl rfl dX2_begin_30 ?_
  refine gf_X2_18 F hta dX2_begin_31 (fun ht7 => ?_)
  refine z_iconst (v := 0) F (by decide) dX2_begin_34 ?_
  refine pf_X2_51 F ht7 (Or.inl rfl) dX2_begin_35 ?_
  refine z_letg (fun g8 => ?_)
  refine z_aload_n F 0 rfl rfl dX2_begin_38 ?_
  refine gf_X2_9 F hta dX2_begin_39 (fun ht9 => ?_)
  refine z_iconst (v := 0) F (by decide) dX2_begin_42 ?_
  refine k_J7_fill_53178 F (by rw [hR]; exact ⟨by decide, by decide⟩) q_280 ht9 ⟨Nat.zero_le _, Nat.zero_le _⟩ (Nat.le_of_ble_eq_true rfl) dX2_begin_43 (fun v10 g11 => ?_)
  refine z_aload_n F 0 rfl rfl dX2_begin_46 ?_
  refine gf_X2_22 F hta dX2_begin_47 ?_
  refine z_ifnull (tgt := 60) F dX2_begin_50 (by decide) (fun c12 => ?_) (fun c12 => ?_)
  · exact z_vreturn F rfl rfl rfl rfl (fun h => h) dX2_begin_60
  · refine z_aload_n F 0 rfl rfl dX2_begin_53 ?_
    refine gf_X2_22_n F hta c12 dX2_begin_54 (fun ht13 => ?_)
    refine k_X1_clear F (by rw [hR]; exact ⟨by decide, by decide⟩) q_281 ht13 ⟨Nat.zero_le _, Nat.zero_le _⟩ (Nat.le_of_ble_eq_true rfl) dX2_begin_57 (fun v14 g15 => ?_)
    exact z_vreturn F rfl rfl rfl rfl (fun h => h) dX2_begin_60
theorem k_X2_begin {ρ : Type} {K : ρ → Prop} {E : zE} {D : zD} {A : Nat → Prop} {Q : State → Prop} {nL : Nat} {κ : zC} {g : zG} {pc : Nat} {lv : List (Nat × Value)} {st : List Value} {cc : ByteArray} {own : String} {ret : Option FieldType} (F : zF E D A cc own nL ret) {index : Nat} {h : Int32 → zG → Option ρ} {a : Nat} {b1 : Nat} {b2 : Nat}  (hR : 2 + 1 ≤ E.2.2.2.1.frames ∧ 8 + (3 + 11) + 43 ≤ E.2.2.2.1.locals) (hl : zTbl (.methodLink own index yX2_begin)) (hta : κ.2.1 a = some (.inr 2)) (htb1 : κ.2.1 b1 = some (.inr 5)) (htb2 : κ.2.1 b2 = some (.inr 0)) (hc : κ.2.2.1 ≤ E.2.2.2.1.cells ∧ κ.2.2.2 ≤ E.2.2.2.1.slots) (hW : (st.map fun v => v.category).sum ≤ 8) (hd : decode cc pc = .ok (.invokevirtual index, 3)) (kk : ∀ r g', zSim K (h r g') (zAt E D A Q nL κ g' (pc + 3) lv (st))) : zSim K (zb (f_X2_begin a b1 b2 g) h) (zAt E D A Q nL κ g pc lv (.ref b2 :: .ref b1 :: .ref a :: st)) :=
  z_callV F (n := 2) (As := [.ref b1, .ref b2]) (C := (RX2, TX2, 9)) ⟨q_279, q_10, by decide +kernel, rfl, rfl, hR.1, hR.2⟩ (c_X2_begin E.2.1 D κ.1 κ.2.1 g a b1 b2 hta htb1 htb2) hl q_277 q_278 hta rfl rfl rfl hc hW hd kk _ rfl
theorem dX2_lettersInLine_0 : decode cX2_lettersInLine 0 = .ok (.iconst 0, 1) := by decide +kernel
theorem dX2_lettersInLine_1 : decode cX2_lettersInLine 1 = .ok (.istore_n 1, 1) := by decide +kernel
theorem dX2_lettersInLine_2 : decode cX2_lettersInLine 2 = .ok (.iconst 0, 1) := by decide +kernel
theorem dX2_lettersInLine_3 : decode cX2_lettersInLine 3 = .ok (.istore_n 2, 1) := by decide +kernel
theorem dX2_lettersInLine_4 : decode cX2_lettersInLine 4 = .ok (.iload_n 2, 1) := by decide +kernel
theorem dX2_lettersInLine_5 : decode cX2_lettersInLine 5 = .ok (.bipush 40, 2) := by decide +kernel
theorem dX2_lettersInLine_7 : decode cX2_lettersInLine 7 = .ok (.if_icmp .ge 21, 3) := by decide +kernel
theorem dX2_lettersInLine_10 : decode cX2_lettersInLine 10 = .ok (.aload_n 0, 1) := by decide +kernel
theorem dX2_lettersInLine_11 : decode cX2_lettersInLine 11 = .ok (.getfield 9, 3) := by decide +kernel
theorem dX2_lettersInLine_14 : decode cX2_lettersInLine 14 = .ok (.iload_n 2, 1) := by decide +kernel
theorem dX2_lettersInLine_15 : decode cX2_lettersInLine 15 = .ok (.iaload, 1) := by decide +kernel
theorem dX2_lettersInLine_16 : decode cX2_lettersInLine 16 = .ok (.ifCond .eq 6, 3) := by decide +kernel
theorem dX2_lettersInLine_19 : decode cX2_lettersInLine 19 = .ok (.iinc 1 1, 3) := by decide +kernel
theorem dX2_lettersInLine_22 : decode cX2_lettersInLine 22 = .ok (.iinc 2 1, 3) := by decide +kernel
theorem dX2_lettersInLine_25 : decode cX2_lettersInLine 25 = .ok (.goto (-21), 3) := by decide +kernel
theorem dX2_lettersInLine_28 : decode cX2_lettersInLine 28 = .ok (.iload_n 1, 1) := by decide +kernel
theorem dX2_lettersInLine_29 : decode cX2_lettersInLine 29 = .ok (.ireturn, 1) := by decide +kernel
def j_X2_lettersInLine_28 (a : Nat) (l1 : Int32) (g : zG) : Option (Int32 × zG) :=
  some ((l1, g))
def l_X2_lettersInLine_4 (a : Nat) (g : zG) (l1 : Int32) (l2 : Int32) : Option ((Int32 × Int32) ⊕ (Int32)) :=
  if 40 ≤ l2 then (some (.inr l1)) else (zc (zin l2 40) (if (g.1 (g.2.1 a 0) l2.toNatClampNeg) = 0 then (zl (l2 + 1) (fun v4 => some (.inl (l1, v4)))) else (zl (l1 + 1) (fun v5 => zl (l2 + 1) (fun v6 => some (.inl (v5, v6)))))))
def f_X2_lettersInLine (a : Nat) (g : zG) : Option (Int32 × zG) :=
  zk (zw zN (fun s => l_X2_lettersInLine_4 a g s.1 s.2) (0, 0)) (fun x => j_X2_lettersInLine_28 a x g)
abbrev rm_X2_lettersInLine : Room := { frames := 0, cells := 0, slots := 0, locals := 0 }
set_option maxRecDepth 100000 in
set_option maxHeartbeats 4000000 in
theorem c_X2_lettersInLine (l : Launch) (D : zD) (sz : Nat) (τ : zT) (g : zG) (a : Nat) (hta : τ a = some (.inr 2)) : zCon l D yX2_lettersInLine cX2_lettersInLine 3 (some .int) rm_X2_lettersInLine 0 0 zrI [.ref a] sz τ g τ (f_X2_lettersInLine a g) := by
  refine zCon.of (by decide) (Nat.le_of_ble_eq_true rfl) (fun E r g' hl hR hsz hnm F => ?_)
  have F : zF E D (zA τ sz) cX2_lettersInLine "TypeChain$Printer" 3 (some .int) := F
  show zSim (fun q : Int32 × zG => q = (r, g')) (f_X2_lettersInLine a g) (zAt E D (zA τ sz) (zQ E D zrI 0 0 sz τ τ r g') 3 (sz, τ, 0, 0) g 0 [(0, .ref a)] [])
  have hj_X2_lettersInLine_28 : ∀ (l1_28 : Int32) (g_28 : zG), zSim (fun q : Int32 × zG => q = (r, g')) (j_X2_lettersInLine_28 a l1_28 g_28) (zAt E D (zA τ sz) (zQ E D zrI 0 0 sz τ τ r g') 3 (sz, τ, 0, 0) g_28 28 [(1, .int l1_28)] []) := by
    intro l1_28 g_28
    unfold j_X2_lettersInLine_28
    refine z_iload_n F 0 rfl rfl dX2_lettersInLine_28 ?_
    exact z_ireturn F rfl rfl rfl rfl (fun h => h) dX2_lettersInLine_29
  unfold f_X2_lettersInLine
  refine z_iconst (v := 0) F (by decide) dX2_lettersInLine_0 ?_
  refine z_istore_n (lv' := [(1, .int 0), (0, .ref a)]) F rfl (by decide) dX2_lettersInLine_1 rfl ?_
  refine z_iconst (v := 0) F (by decide) dX2_lettersInLine_2 ?_
  refine z_istore_n (lv' := [(2, .int 0), (1, .int 0), (0, .ref a)]) F rfl (by decide) dX2_lettersInLine_3 rfl ?_
  refine z_sub (lv' := [(0, .ref a), (1, .int 0), (2, .int 0)]) [2, 1, 0] rfl ?_
  refine z_loop (P := fun s : Int32 × Int32 => zAt E D (zA τ sz) (zQ E D zrI 0 0 sz τ τ r g') 3 (sz, τ, 0, 0) g 4 [(0, .ref a), (1, .int s.1), (2, .int s.2)] []) (Px := fun x : Int32 => zAt E D (zA τ sz) (zQ E D zrI 0 0 sz τ τ r g') 3 (sz, τ, 0, 0) g 28 [(1, .int x)] []) (0, 0) (fun s => ?_) (fun x => ?_)
  · obtain ⟨l1_4, l2_4⟩ := s
    show zSim (zKl (fun s : Int32 × Int32 => zAt E D (zA τ sz) (zQ E D zrI 0 0 sz τ τ r g') 3 (sz, τ, 0, 0) g 4 [(0, .ref a), (1, .int s.1), (2, .int s.2)] []) (fun x : Int32 => zAt E D (zA τ sz) (zQ E D zrI 0 0 sz τ τ r g') 3 (sz, τ, 0, 0) g 28 [(1, .int x)] [])) (l_X2_lettersInLine_4 a g l1_4 l2_4) (zAt E D (zA τ sz) (zQ E D zrI 0 0 sz τ τ r g') 3 (sz, τ, 0, 0) g 4 [(0, .ref a), (1, .int l1_4), (2, .int l2_4)] [])
    unfold l_X2_lettersInLine_4
    refine z_iload_n F 2 rfl rfl dX2_lettersInLine_4 ?_
    refine z_bipush (v := 40) F (by decide) dX2_lettersInLine_5 ?_
    refine z_icmp_ge (tgt := 28) F dX2_lettersInLine_7 (by decide) (fun c1 => ?_) (fun c1 => ?_)
    · refine z_sub (lv' := [(1, .int l1_4)]) [1] rfl ?_
      exact z_back (fun h => h)
    · refine z_aload_n F 0 rfl rfl dX2_lettersInLine_10 ?_
      refine gf_X2_9 F hta dX2_lettersInLine_11 (fun ht2 => ?_)
      refine z_iload_n F 2 rfl rfl dX2_lettersInLine_14 ?_
      refine z_iald F ht2 dX2_lettersInLine_15 ?_
      refine z_if_eq (tgt := 22) F dX2_lettersInLine_16 (by decide) (fun c3 => ?_) (fun c3 => ?_)
      · refine z_iincl (lv' := fun v4 => [(2, .int v4), (0, .ref a), (1, .int l1_4)]) F 2 rfl (by decide) (by decide) dX2_lettersInLine_22 (fun _ => rfl) (fun v4 => ?_)
        refine z_goto (tgt := 4) F dX2_lettersInLine_25 (by decide) ?_
        refine z_sub (lv' := [(0, .ref a), (1, .int l1_4), (2, .int v4)]) [1, 2, 0] rfl ?_
        exact z_back (fun h => h)
      · refine z_iincl (lv' := fun v5 => [(1, .int v5), (0, .ref a), (2, .int l2_4)]) F 1 rfl (by decide) (by decide) dX2_lettersInLine_19 (fun _ => rfl) (fun v5 => ?_)
        refine z_iincl (lv' := fun v6 => [(2, .int v6), (1, .int v5), (0, .ref a)]) F 2 rfl (by decide) (by decide) dX2_lettersInLine_22 (fun _ => rfl) (fun v6 => ?_)
        refine z_goto (tgt := 4) F dX2_lettersInLine_25 (by decide) ?_
        refine z_sub (lv' := [(0, .ref a), (1, .int v5), (2, .int v6)]) [2, 1, 0] rfl ?_
        exact z_back (fun h => h)
  · show zSim (fun q : Int32 × zG => q = (r, g')) (j_X2_lettersInLine_28 a x g) (zAt E D (zA τ sz) (zQ E D zrI 0 0 sz τ τ r g') 3 (sz, τ, 0, 0) g 28 [(1, .int x)] [])
    exact hj_X2_lettersInLine_28 x g
theorem k_X2_lettersInLine {ρ : Type} {K : ρ → Prop} {E : zE} {D : zD} {A : Nat → Prop} {Q : State → Prop} {nL : Nat} {κ : zC} {g : zG} {pc : Nat} {lv : List (Nat × Value)} {st : List Value} {cc : ByteArray} {own : String} {ret : Option FieldType} (F : zF E D A cc own nL ret) {index : Nat} {h : Int32 → zG → Option ρ} {a : Nat}  (hR : 0 + 1 ≤ E.2.2.2.1.frames ∧ 8 + (3 + 11) + 0 ≤ E.2.2.2.1.locals) (hl : zTbl (.methodLink own index yX2_lettersInLine)) (hta : κ.2.1 a = some (.inr 2)) (hc : κ.2.2.1 ≤ E.2.2.2.1.cells ∧ κ.2.2.2 ≤ E.2.2.2.1.slots) (hW : (st.map fun v => v.category).sum ≤ 8) (hd : decode cc pc = .ok (.invokevirtual index, 3)) (kk : ∀ r g', zSim K (h r g') (zAt E D A Q nL κ g' (pc + 3) lv (.int r :: st))) : zSim K (zb (f_X2_lettersInLine a g) h) (zAt E D A Q nL κ g pc lv (.ref a :: st)) :=
  z_callV F (n := 0) (As := []) (C := (RX2, TX2, 9)) ⟨q_858, q_10, by decide +kernel, rfl, rfl, hR.1, hR.2⟩ (c_X2_lettersInLine E.2.1 D κ.1 κ.2.1 g a hta) hl q_856 q_857 hta rfl rfl rfl hc hW hd kk _ rfl
theorem dX2_canStrike_0 : decode cX2_canStrike 0 = .ok (.aload_n 0, 1) := by decide +kernel
theorem dX2_canStrike_1 : decode cX2_canStrike 1 = .ok (.getfield 34, 3) := by decide +kernel
theorem dX2_canStrike_4 : decode cX2_canStrike 4 = .ok (.invokevirtual 66, 3) := by decide +kernel
theorem dX2_canStrike_7 : decode cX2_canStrike 7 = .ok (.iconst 1, 1) := by decide +kernel
theorem dX2_canStrike_8 : decode cX2_canStrike 8 = .ok (.ior, 1) := by decide +kernel
theorem dX2_canStrike_9 : decode cX2_canStrike 9 = .ok (.istore_n 1, 1) := by decide +kernel
theorem dX2_canStrike_10 : decode cX2_canStrike 10 = .ok (.iconst 0, 1) := by decide +kernel
theorem dX2_canStrike_11 : decode cX2_canStrike 11 = .ok (.istore_n 2, 1) := by decide +kernel
theorem dX2_canStrike_12 : decode cX2_canStrike 12 = .ok (.iload_n 2, 1) := by decide +kernel
theorem dX2_canStrike_13 : decode cX2_canStrike 13 = .ok (.bipush 40, 2) := by decide +kernel
theorem dX2_canStrike_15 : decode cX2_canStrike 15 = .ok (.if_icmp .ge 24, 3) := by decide +kernel
theorem dX2_canStrike_18 : decode cX2_canStrike 18 = .ok (.iload_n 1, 1) := by decide +kernel
theorem dX2_canStrike_19 : decode cX2_canStrike 19 = .ok (.aload_n 0, 1) := by decide +kernel
theorem dX2_canStrike_20 : decode cX2_canStrike 20 = .ok (.getfield 9, 3) := by decide +kernel
theorem dX2_canStrike_23 : decode cX2_canStrike 23 = .ok (.iload_n 2, 1) := by decide +kernel
theorem dX2_canStrike_24 : decode cX2_canStrike 24 = .ok (.iaload, 1) := by decide +kernel
theorem dX2_canStrike_25 : decode cX2_canStrike 25 = .ok (.ishr, 1) := by decide +kernel
theorem dX2_canStrike_26 : decode cX2_canStrike 26 = .ok (.iconst 1, 1) := by decide +kernel
theorem dX2_canStrike_27 : decode cX2_canStrike 27 = .ok (.iand, 1) := by decide +kernel
theorem dX2_canStrike_28 : decode cX2_canStrike 28 = .ok (.ifCond .ne 5, 3) := by decide +kernel
theorem dX2_canStrike_31 : decode cX2_canStrike 31 = .ok (.iconst 0, 1) := by decide +kernel
theorem dX2_canStrike_32 : decode cX2_canStrike 32 = .ok (.ireturn, 1) := by decide +kernel
theorem dX2_canStrike_33 : decode cX2_canStrike 33 = .ok (.iinc 2 1, 3) := by decide +kernel
theorem dX2_canStrike_36 : decode cX2_canStrike 36 = .ok (.goto (-24), 3) := by decide +kernel
theorem dX2_canStrike_39 : decode cX2_canStrike 39 = .ok (.iconst 1, 1) := by decide +kernel
theorem dX2_canStrike_40 : decode cX2_canStrike 40 = .ok (.ireturn, 1) := by decide +kernel
def j_X2_canStrike_31 (a : Nat)  (g : zG) : Option (Int32 × zG) :=
  some ((0, g))
def l_X2_canStrike_12 (a : Nat) (l1 : Int32) (g : zG) (l2 : Int32) : Option ((Int32) ⊕ ((Unit) ⊕ (Int32 × zG))) :=
  if 40 ≤ l2 then (some (.inr (.inr (1, g)))) else (zc (zin l2 40) (if ((zshr l1 (g.1 (g.2.1 a 0) l2.toNatClampNeg)) &&& 1) = 0 then (some (.inr (.inl ()))) else (zl (l2 + 1) (fun v8 => some (.inl v8)))))
def f_X2_canStrike (a : Nat) (g : zG) : Option (Int32 × zG) :=
  zb (f_X0_letterSet (g.2.1 a 8) g) (fun v2 g3 => zl (v2 ||| 1) (fun v4 => zk2 (zw zN (fun s => l_X2_canStrike_12 a v4 g3 s) 0) (fun x => j_X2_canStrike_31 a g3)))
abbrev rm_X2_canStrike : Room := { frames := 1, cells := 0, slots := 0, locals := 22 }
set_option maxRecDepth 100000 in
set_option maxHeartbeats 4000000 in
theorem c_X2_canStrike (l : Launch) (D : zD) (sz : Nat) (τ : zT) (g : zG) (a : Nat) (hta : τ a = some (.inr 2)) : zCon l D yX2_canStrike cX2_canStrike 3 (some .boolean) rm_X2_canStrike 0 0 zrI [.ref a] sz τ g τ (f_X2_canStrike a g) := by
  refine zCon.of (by decide) (Nat.le_of_ble_eq_true rfl) (fun E r g' hl hR hsz hnm F => ?_)
  have F : zF E D (zA τ sz) cX2_canStrike "TypeChain$Printer" 3 (some .boolean) := F
  show zSim (fun q : Int32 × zG => q = (r, g')) (f_X2_canStrike a g) (zAt E D (zA τ sz) (zQ E D zrI 0 0 sz τ τ r g') 3 (sz, τ, 0, 0) g 0 [(0, .ref a)] [])
  have hj_X2_canStrike_31 : ∀  (g_31 : zG), zSim (fun q : Int32 × zG => q = (r, g')) (j_X2_canStrike_31 a g_31) (zAt E D (zA τ sz) (zQ E D zrI 0 0 sz τ τ r g') 3 (sz, τ, 0, 0) g_31 31 [] []) := by
    intro g_31
    unfold j_X2_canStrike_31
    refine z_iconst (v := 0) F (by decide) dX2_canStrike_31 ?_
    exact z_zreturn F rfl rfl rfl rfl rfl (fun h => h) dX2_canStrike_32
  unfold f_X2_canStrike
  refine z_aload_n F 0 rfl rfl dX2_canStrike_0 ?_
  refine gf_X2_34 F hta dX2_canStrike_1 (fun ht1 => ?_)
  refine k_X0_letterSet F (by rw [hR]; exact ⟨by decide, by decide⟩) q_640 ht1 ⟨Nat.zero_le _, Nat.zero_le _⟩ (Nat.le_of_ble_eq_true rfl) dX2_canStrike_4 (fun v2 g3 => ?_)
  refine z_iconst (v := 1) F (by decide) dX2_canStrike_7 ?_
  refine z_ior F dX2_canStrike_8 ?_
  refine z_leti (fun v4 => ?_)
  refine z_istore_n (lv' := [(1, .int v4), (0, .ref a)]) F rfl (by decide) dX2_canStrike_9 rfl ?_
  refine z_iconst (v := 0) F (by decide) dX2_canStrike_10 ?_
  refine z_istore_n (lv' := [(2, .int 0), (1, .int v4), (0, .ref a)]) F rfl (by decide) dX2_canStrike_11 rfl ?_
  refine z_sub (lv' := [(0, .ref a), (1, .int v4), (2, .int 0)]) [2, 1, 0] rfl ?_
  refine z_loop2 (P := fun s : Int32 => zAt E D (zA τ sz) (zQ E D zrI 0 0 sz τ τ r g') 3 (sz, τ, 0, 0) g3 12 [(0, .ref a), (1, .int v4), (2, .int s)] []) (Px := fun x : Unit => zAt E D (zA τ sz) (zQ E D zrI 0 0 sz τ τ r g') 3 (sz, τ, 0, 0) g3 31 [] []) 0 (fun s => ?_) (fun x => ?_)
  · generalize s = l2_12
    show zSim (zKl (fun s : Int32 => zAt E D (zA τ sz) (zQ E D zrI 0 0 sz τ τ r g') 3 (sz, τ, 0, 0) g3 12 [(0, .ref a), (1, .int v4), (2, .int s)] []) (zKl (fun x : Unit => zAt E D (zA τ sz) (zQ E D zrI 0 0 sz τ τ r g') 3 (sz, τ, 0, 0) g3 31 [] []) (fun q : Int32 × zG => q = (r, g')))) (l_X2_canStrike_12 a v4 g3 l2_12) (zAt E D (zA τ sz) (zQ E D zrI 0 0 sz τ τ r g') 3 (sz, τ, 0, 0) g3 12 [(0, .ref a), (1, .int v4), (2, .int l2_12)] [])
    unfold l_X2_canStrike_12
    refine z_iload_n F 2 rfl rfl dX2_canStrike_12 ?_
    refine z_bipush (v := 40) F (by decide) dX2_canStrike_13 ?_
    refine z_icmp_ge (tgt := 39) F dX2_canStrike_15 (by decide) (fun c5 => ?_) (fun c5 => ?_)
    · refine z_iconst (v := 1) F (by decide) dX2_canStrike_39 ?_
      exact z_zreturn F rfl rfl rfl rfl rfl (fun h => h) dX2_canStrike_40
    · refine z_iload_n F 1 rfl rfl dX2_canStrike_18 ?_
      refine z_aload_n F 0 rfl rfl dX2_canStrike_19 ?_
      refine gf_X2_9 F hta dX2_canStrike_20 (fun ht6 => ?_)
      refine z_iload_n F 2 rfl rfl dX2_canStrike_23 ?_
      refine z_iald F ht6 dX2_canStrike_24 ?_
      refine z_ishr F dX2_canStrike_25 ?_
      refine z_iconst (v := 1) F (by decide) dX2_canStrike_26 ?_
      refine z_iand F dX2_canStrike_27 ?_
      refine z_if_ne (tgt := 33) F dX2_canStrike_28 (by decide) (fun c7 => ?_) (fun c7 => ?_)
      · refine z_sub (lv' := []) [] rfl ?_
        exact z_back (fun h => h)
      · refine z_iincl (lv' := fun v8 => [(2, .int v8), (0, .ref a), (1, .int v4)]) F 2 rfl (by decide) (by decide) dX2_canStrike_33 (fun _ => rfl) (fun v8 => ?_)
        refine z_goto (tgt := 12) F dX2_canStrike_36 (by decide) ?_
        refine z_sub (lv' := [(0, .ref a), (1, .int v4), (2, .int v8)]) [1, 2, 0] rfl ?_
        exact z_back (fun h => h)
  · show zSim (fun q : Int32 × zG => q = (r, g')) (j_X2_canStrike_31 a g3) (zAt E D (zA τ sz) (zQ E D zrI 0 0 sz τ τ r g') 3 (sz, τ, 0, 0) g3 31 [] [])
    exact hj_X2_canStrike_31 g3
theorem k_X2_canStrike {ρ : Type} {K : ρ → Prop} {E : zE} {D : zD} {A : Nat → Prop} {Q : State → Prop} {nL : Nat} {κ : zC} {g : zG} {pc : Nat} {lv : List (Nat × Value)} {st : List Value} {cc : ByteArray} {own : String} {ret : Option FieldType} (F : zF E D A cc own nL ret) {index : Nat} {h : Int32 → zG → Option ρ} {a : Nat}  (hR : 1 + 1 ≤ E.2.2.2.1.frames ∧ 8 + (3 + 11) + 22 ≤ E.2.2.2.1.locals) (hl : zTbl (.methodLink own index yX2_canStrike)) (hta : κ.2.1 a = some (.inr 2)) (hc : κ.2.2.1 ≤ E.2.2.2.1.cells ∧ κ.2.2.2 ≤ E.2.2.2.1.slots) (hW : (st.map fun v => v.category).sum ≤ 8) (hd : decode cc pc = .ok (.invokevirtual index, 3)) (kk : ∀ r g', zSim K (h r g') (zAt E D A Q nL κ g' (pc + 3) lv (.int r :: st))) : zSim K (zb (f_X2_canStrike a g) h) (zAt E D A Q nL κ g pc lv (.ref a :: st)) :=
  z_callV F (n := 0) (As := []) (C := (RX2, TX2, 9)) ⟨q_639, q_10, by decide +kernel, rfl, rfl, hR.1, hR.2⟩ (c_X2_canStrike E.2.1 D κ.1 κ.2.1 g a hta) hl q_637 q_638 hta rfl rfl rfl hc hW hd kk _ rfl
theorem dX2_moveBy_0 : decode cX2_moveBy 0 = .ok (.iload_n 1, 1) := by decide +kernel
theorem dX2_moveBy_1 : decode cX2_moveBy 1 = .ok (.iconst 1, 1) := by decide +kernel
theorem dX2_moveBy_2 : decode cX2_moveBy 2 = .ok (.if_icmp .ge 5, 3) := by decide +kernel
theorem dX2_moveBy_5 : decode cX2_moveBy 5 = .ok (.iconst 0, 1) := by decide +kernel
theorem dX2_moveBy_6 : decode cX2_moveBy 6 = .ok (.ireturn, 1) := by decide +kernel
theorem dX2_moveBy_7 : decode cX2_moveBy 7 = .ok (.aload_n 0, 1) := by decide +kernel
theorem dX2_moveBy_8 : decode cX2_moveBy 8 = .ok (.getfield 30, 3) := by decide +kernel
theorem dX2_moveBy_11 : decode cX2_moveBy 11 = .ok (.getfield 76, 3) := by decide +kernel
theorem dX2_moveBy_14 : decode cX2_moveBy 14 = .ok (.bipush 7, 2) := by decide +kernel
theorem dX2_moveBy_16 : decode cX2_moveBy 16 = .ok (.iaload, 1) := by decide +kernel
theorem dX2_moveBy_17 : decode cX2_moveBy 17 = .ok (.istore_n 2, 1) := by decide +kernel
theorem dX2_moveBy_18 : decode cX2_moveBy 18 = .ok (.aload_n 0, 1) := by decide +kernel
theorem dX2_moveBy_19 : decode cX2_moveBy 19 = .ok (.getfield 30, 3) := by decide +kernel
theorem dX2_moveBy_22 : decode cX2_moveBy 22 = .ok (.getfield 76, 3) := by decide +kernel
theorem dX2_moveBy_25 : decode cX2_moveBy 25 = .ok (.iconst 5, 1) := by decide +kernel
theorem dX2_moveBy_26 : decode cX2_moveBy 26 = .ok (.iaload, 1) := by decide +kernel
theorem dX2_moveBy_27 : decode cX2_moveBy 27 = .ok (.iload_n 1, 1) := by decide +kernel
theorem dX2_moveBy_28 : decode cX2_moveBy 28 = .ok (.aload_n 0, 1) := by decide +kernel
theorem dX2_moveBy_29 : decode cX2_moveBy 29 = .ok (.getfield 30, 3) := by decide +kernel
theorem dX2_moveBy_32 : decode cX2_moveBy 32 = .ok (.getfield 76, 3) := by decide +kernel
theorem dX2_moveBy_35 : decode cX2_moveBy 35 = .ok (.bipush 6, 2) := by decide +kernel
theorem dX2_moveBy_37 : decode cX2_moveBy 37 = .ok (.iaload, 1) := by decide +kernel
theorem dX2_moveBy_38 : decode cX2_moveBy 38 = .ok (.imul, 1) := by decide +kernel
theorem dX2_moveBy_39 : decode cX2_moveBy 39 = .ok (.iadd, 1) := by decide +kernel
theorem dX2_moveBy_40 : decode cX2_moveBy 40 = .ok (.istore_n 3, 1) := by decide +kernel
theorem dX2_moveBy_41 : decode cX2_moveBy 41 = .ok (.aload_n 0, 1) := by decide +kernel
theorem dX2_moveBy_42 : decode cX2_moveBy 42 = .ok (.dup, 1) := by decide +kernel
theorem dX2_moveBy_43 : decode cX2_moveBy 43 = .ok (.getfield 38, 3) := by decide +kernel
theorem dX2_moveBy_46 : decode cX2_moveBy 46 = .ok (.iload_n 3, 1) := by decide +kernel
theorem dX2_moveBy_47 : decode cX2_moveBy 47 = .ok (.iadd, 1) := by decide +kernel
theorem dX2_moveBy_48 : decode cX2_moveBy 48 = .ok (.putfield 38, 3) := by decide +kernel
theorem dX2_moveBy_51 : decode cX2_moveBy 51 = .ok (.aload_n 0, 1) := by decide +kernel
theorem dX2_moveBy_52 : decode cX2_moveBy 52 = .ok (.dup, 1) := by decide +kernel
theorem dX2_moveBy_53 : decode cX2_moveBy 53 = .ok (.getfield 42, 3) := by decide +kernel
theorem dX2_moveBy_56 : decode cX2_moveBy 56 = .ok (.iload_n 1, 1) := by decide +kernel
theorem dX2_moveBy_57 : decode cX2_moveBy 57 = .ok (.iadd, 1) := by decide +kernel
theorem dX2_moveBy_58 : decode cX2_moveBy 58 = .ok (.putfield 42, 3) := by decide +kernel
theorem dX2_moveBy_61 : decode cX2_moveBy 61 = .ok (.iload_n 2, 1) := by decide +kernel
theorem dX2_moveBy_62 : decode cX2_moveBy 62 = .ok (.iconst 1, 1) := by decide +kernel
theorem dX2_moveBy_63 : decode cX2_moveBy 63 = .ok (.if_icmp .lt 11, 3) := by decide +kernel
theorem dX2_moveBy_66 : decode cX2_moveBy 66 = .ok (.aload_n 0, 1) := by decide +kernel
theorem dX2_moveBy_67 : decode cX2_moveBy 67 = .ok (.getfield 42, 3) := by decide +kernel
theorem dX2_moveBy_70 : decode cX2_moveBy 70 = .ok (.iload_n 2, 1) := by decide +kernel
theorem dX2_moveBy_71 : decode cX2_moveBy 71 = .ok (.if_icmp .ge 5, 3) := by decide +kernel
theorem dX2_moveBy_74 : decode cX2_moveBy 74 = .ok (.iload_n 3, 1) := by decide +kernel
theorem dX2_moveBy_75 : decode cX2_moveBy 75 = .ok (.ireturn, 1) := by decide +kernel
theorem dX2_moveBy_76 : decode cX2_moveBy 76 = .ok (.aload_n 0, 1) := by decide +kernel
theorem dX2_moveBy_77 : decode cX2_moveBy 77 = .ok (.dup, 1) := by decide +kernel
theorem dX2_moveBy_78 : decode cX2_moveBy 78 = .ok (.getfield 45, 3) := by decide +kernel
theorem dX2_moveBy_81 : decode cX2_moveBy 81 = .ok (.aload_n 0, 1) := by decide +kernel
theorem dX2_moveBy_82 : decode cX2_moveBy 82 = .ok (.getfield 42, 3) := by decide +kernel
theorem dX2_moveBy_85 : decode cX2_moveBy 85 = .ok (.iload_n 2, 1) := by decide +kernel
theorem dX2_moveBy_86 : decode cX2_moveBy 86 = .ok (.idiv, 1) := by decide +kernel
theorem dX2_moveBy_87 : decode cX2_moveBy 87 = .ok (.iadd, 1) := by decide +kernel
theorem dX2_moveBy_88 : decode cX2_moveBy 88 = .ok (.putfield 45, 3) := by decide +kernel
theorem dX2_moveBy_91 : decode cX2_moveBy 91 = .ok (.aload_n 0, 1) := by decide +kernel
theorem dX2_moveBy_92 : decode cX2_moveBy 92 = .ok (.dup, 1) := by decide +kernel
theorem dX2_moveBy_93 : decode cX2_moveBy 93 = .ok (.getfield 42, 3) := by decide +kernel
theorem dX2_moveBy_96 : decode cX2_moveBy 96 = .ok (.iload_n 2, 1) := by decide +kernel
theorem dX2_moveBy_97 : decode cX2_moveBy 97 = .ok (.irem, 1) := by decide +kernel
theorem dX2_moveBy_98 : decode cX2_moveBy 98 = .ok (.putfield 42, 3) := by decide +kernel
theorem dX2_moveBy_101 : decode cX2_moveBy 101 = .ok (.aload_n 0, 1) := by decide +kernel
theorem dX2_moveBy_102 : decode cX2_moveBy 102 = .ok (.getfield 22, 3) := by decide +kernel
theorem dX2_moveBy_105 : decode cX2_moveBy 105 = .ok (.ifnull 10, 3) := by decide +kernel
theorem dX2_moveBy_108 : decode cX2_moveBy 108 = .ok (.aload_n 0, 1) := by decide +kernel
theorem dX2_moveBy_109 : decode cX2_moveBy 109 = .ok (.getfield 22, 3) := by decide +kernel
theorem dX2_moveBy_112 : decode cX2_moveBy 112 = .ok (.invokevirtual 61, 3) := by decide +kernel
theorem dX2_moveBy_115 : decode cX2_moveBy 115 = .ok (.iload_n 3, 1) := by decide +kernel
theorem dX2_moveBy_116 : decode cX2_moveBy 116 = .ok (.ireturn, 1) := by decide +kernel
def f_X2_moveBy (a : Nat) (x1 : Int32) (g : zG) : Option (Int32 × zG) :=
  if 1 ≤ x1 then (zc (zin 7 8) (zl (g.1 (g.2.1 (g.2.1 a 7) 2) (7 : Int32).toNatClampNeg) (fun v4 => zc (zin 5 8) (zc (zin 6 8) (zl ((g.1 (g.2.1 (g.2.1 a 7) 2) (5 : Int32).toNatClampNeg) + (x1 * (g.1 (g.2.1 (g.2.1 a 7) 2) (6 : Int32).toNatClampNeg))) (fun v9 => zl (zsi g a 2 ((g.1 a 2) + v9)) (fun g10 => zl (zsi g10 a 3 ((g10.1 a 3) + x1)) (fun g11 => if v4 < 1 then (some ((v9, g11))) else (if v4 ≤ (g11.1 a 3) then (zc (¬ v4 = 0) (zl (zsi g11 a 4 ((g11.1 a 4) + ((g11.1 a 3) / v4))) (fun g14 => zc (¬ v4 = 0) (zl (zsi g14 a 3 (zrem (g14.1 a 3) v4)) (fun g15 => if (g15.2.1 a 6) = 0 then (some ((v9, g15))) else (zb (f_X1_clear (g15.2.1 a 6) g15) (fun v18 g19 => some ((v9, g19))))))))) else (some ((v9, g11)))))))))))) else (some ((0, g)))
abbrev rm_X2_moveBy : Room := { frames := 2, cells := 0, slots := 0, locals := 43 }
set_option maxRecDepth 100000 in
set_option maxHeartbeats 4000000 in
theorem c_X2_moveBy (l : Launch) (D : zD) (sz : Nat) (τ : zT) (g : zG) (a : Nat) (x1 : Int32) (hta : τ a = some (.inr 2)) : zCon l D yX2_moveBy cX2_moveBy 4 (some .int) rm_X2_moveBy 0 0 zrI [.ref a, .int x1] sz τ g τ (f_X2_moveBy a x1 g) := by
  refine zCon.of (by decide) (Nat.le_of_ble_eq_true rfl) (fun E r g' hl hR hsz hnm F => ?_)
  have F : zF E D (zA τ sz) cX2_moveBy "TypeChain$Printer" 4 (some .int) := F
  show zSim (fun q : Int32 × zG => q = (r, g')) (f_X2_moveBy a x1 g) (zAt E D (zA τ sz) (zQ E D zrI 0 0 sz τ τ r g') 4 (sz, τ, 0, 0) g 0 [(0, .ref a), (1, .int x1)] [])
  unfold f_X2_moveBy
  refine z_iload_n F 1 rfl rfl dX2_moveBy_0 ?_
  refine z_iconst (v := 1) F (by decide) dX2_moveBy_1 ?_
  refine z_icmp_ge (tgt := 7) F dX2_moveBy_2 (by decide) (fun c1 => ?_) (fun c1 => ?_)
  · refine z_aload_n F 0 rfl rfl dX2_moveBy_7 ?_
    refine gf_X2_30 F hta dX2_moveBy_8 (fun ht2 => ?_)
    refine gf_X2_76 F ht2 dX2_moveBy_11 (fun ht3 => ?_)
    refine z_bipush (v := 7) F (by decide) dX2_moveBy_14 ?_
    refine z_iald F ht3 dX2_moveBy_16 ?_
    refine z_leti (fun v4 => ?_)
    refine z_istore_n (lv' := [(2, .int v4), (0, .ref a), (1, .int x1)]) F rfl (by decide) dX2_moveBy_17 rfl ?_
    refine z_aload_n F 1 rfl rfl dX2_moveBy_18 ?_
    refine gf_X2_30 F hta dX2_moveBy_19 (fun ht5 => ?_)
    refine gf_X2_76 F ht5 dX2_moveBy_22 (fun ht6 => ?_)
    refine z_iconst (v := 5) F (by decide) dX2_moveBy_25 ?_
    refine z_iald F ht6 dX2_moveBy_26 ?_
    refine z_iload_n F 2 rfl rfl dX2_moveBy_27 ?_
    refine z_aload_n F 1 rfl rfl dX2_moveBy_28 ?_
    refine gf_X2_30 F hta dX2_moveBy_29 (fun ht7 => ?_)
    refine gf_X2_76 F ht7 dX2_moveBy_32 (fun ht8 => ?_)
    refine z_bipush (v := 6) F (by decide) dX2_moveBy_35 ?_
    refine z_iald F ht8 dX2_moveBy_37 ?_
    refine z_imul F dX2_moveBy_38 ?_
    refine z_iadd F dX2_moveBy_39 ?_
    refine z_leti (fun v9 => ?_)
    refine z_istore_n (lv' := [(3, .int v9), (2, .int v4), (0, .ref a), (1, .int x1)]) F rfl (by decide) dX2_moveBy_40 rfl ?_
    refine z_aload_n F 2 rfl rfl dX2_moveBy_41 ?_
    refine z_dup F rfl dX2_moveBy_42 ?_
    refine gf_X2_38 F hta dX2_moveBy_43 ?_
    refine z_iload_n F 0 rfl rfl dX2_moveBy_46 ?_
    refine z_iadd F dX2_moveBy_47 ?_
    refine pf_X2_38 F hta dX2_moveBy_48 ?_
    refine z_letg (fun g10 => ?_)
    refine z_aload_n F 2 rfl rfl dX2_moveBy_51 ?_
    refine z_dup F rfl dX2_moveBy_52 ?_
    refine gf_X2_42 F hta dX2_moveBy_53 ?_
    refine z_iload_n F 3 rfl rfl dX2_moveBy_56 ?_
    refine z_iadd F dX2_moveBy_57 ?_
    refine pf_X2_42 F hta dX2_moveBy_58 ?_
    refine z_letg (fun g11 => ?_)
    refine z_iload_n F 1 rfl rfl dX2_moveBy_61 ?_
    refine z_iconst (v := 1) F (by decide) dX2_moveBy_62 ?_
    refine z_icmp_lt (tgt := 74) F dX2_moveBy_63 (by decide) (fun c12 => ?_) (fun c12 => ?_)
    · refine z_iload_n F 0 rfl rfl dX2_moveBy_74 ?_
      exact z_ireturn F rfl rfl rfl rfl (fun h => h) dX2_moveBy_75
    · refine z_aload_n F 2 rfl rfl dX2_moveBy_66 ?_
      refine gf_X2_42 F hta dX2_moveBy_67 ?_
      refine z_iload_n F 1 rfl rfl dX2_moveBy_70 ?_
      refine z_icmp_ge (tgt := 76) F dX2_moveBy_71 (by decide) (fun c13 => ?_) (fun c13 => ?_)
      · refine z_aload_n F 2 rfl rfl dX2_moveBy_76 ?_
        refine z_dup F rfl dX2_moveBy_77 ?_
        refine gf_X2_45 F hta dX2_moveBy_78 ?_
        refine z_aload_n F 2 rfl rfl dX2_moveBy_81 ?_
        refine gf_X2_42 F hta dX2_moveBy_82 ?_
        refine z_iload_n F 1 rfl rfl dX2_moveBy_85 ?_
        refine z_idiv F dX2_moveBy_86 ?_
        refine z_iadd F dX2_moveBy_87 ?_
        refine pf_X2_45 F hta dX2_moveBy_88 ?_
        refine z_letg (fun g14 => ?_)
        refine z_aload_n F 2 rfl rfl dX2_moveBy_91 ?_
        refine z_dup F rfl dX2_moveBy_92 ?_
        refine gf_X2_42 F hta dX2_moveBy_93 ?_
        refine z_iload_n F 1 rfl rfl dX2_moveBy_96 ?_
        refine z_irem F dX2_moveBy_97 ?_
        refine pf_X2_42 F hta dX2_moveBy_98 ?_
        refine z_letg (fun g15 => ?_)
        refine z_aload_n F 2 rfl rfl dX2_moveBy_101 ?_
        refine gf_X2_22 F hta dX2_moveBy_102 ?_
        refine z_ifnull (tgt := 115) F dX2_moveBy_105 (by decide) (fun c16 => ?_) (fun c16 => ?_)
        · refine z_iload_n F 0 rfl rfl dX2_moveBy_115 ?_
          exact z_ireturn F rfl rfl rfl rfl (fun h => h) dX2_moveBy_116
        · refine z_aload_n F 2 rfl rfl dX2_moveBy_108 ?_
          refine gf_X2_22_n F hta c16 dX2_moveBy_109 (fun ht17 => ?_)
          refine k_X1_clear F (by rw [hR]; exact ⟨by decide, by decide⟩) q_281 ht17 ⟨Nat.zero_le _, Nat.zero_le _⟩ (Nat.le_of_ble_eq_true rfl) dX2_moveBy_112 (fun v18 g19 => ?_)
          refine z_iload_n F 0 rfl rfl dX2_moveBy_115 ?_
          exact z_ireturn F rfl rfl rfl rfl (fun h => h) dX2_moveBy_116
      · refine z_iload_n F 0 rfl rfl dX2_moveBy_74 ?_
        exact z_ireturn F rfl rfl rfl rfl (fun h => h) dX2_moveBy_75
  · refine z_iconst (v := 0) F (by decide) dX2_moveBy_5 ?_
    exact z_ireturn F rfl rfl rfl rfl (fun h => h) dX2_moveBy_6
theorem k_X2_moveBy {ρ : Type} {K : ρ → Prop} {E : zE} {D : zD} {A : Nat → Prop} {Q : State → Prop} {nL : Nat} {κ : zC} {g : zG} {pc : Nat} {lv : List (Nat × Value)} {st : List Value} {cc : ByteArray} {own : String} {ret : Option FieldType} (F : zF E D A cc own nL ret) {index : Nat} {h : Int32 → zG → Option ρ} {a : Nat} {x1 : Int32}  (hR : 2 + 1 ≤ E.2.2.2.1.frames ∧ 8 + (4 + 11) + 43 ≤ E.2.2.2.1.locals) (hl : zTbl (.methodLink own index yX2_moveBy)) (hta : κ.2.1 a = some (.inr 2)) (hc : κ.2.2.1 ≤ E.2.2.2.1.cells ∧ κ.2.2.2 ≤ E.2.2.2.1.slots) (hW : (st.map fun v => v.category).sum ≤ 8) (hd : decode cc pc = .ok (.invokevirtual index, 3)) (kk : ∀ r g', zSim K (h r g') (zAt E D A Q nL κ g' (pc + 3) lv (.int r :: st))) : zSim K (zb (f_X2_moveBy a x1 g) h) (zAt E D A Q nL κ g pc lv (.int x1 :: .ref a :: st)) :=
  z_callV F (n := 1) (As := [.int x1]) (C := (RX2, TX2, 9)) ⟨q_724, q_10, by decide +kernel, rfl, rfl, hR.1, hR.2⟩ (c_X2_moveBy E.2.1 D κ.1 κ.2.1 g a x1 hta) hl q_722 q_723 hta rfl rfl rfl hc hW hd kk _ rfl
theorem dX2_moveToHole_0 : decode cX2_moveToHole 0 = .ok (.aload_n 0, 1) := by decide +kernel
theorem dX2_moveToHole_1 : decode cX2_moveToHole 1 = .ok (.getfield 30, 3) := by decide +kernel
theorem dX2_moveToHole_4 : decode cX2_moveToHole 4 = .ok (.aload_n 0, 1) := by decide +kernel
theorem dX2_moveToHole_5 : decode cX2_moveToHole 5 = .ok (.getfield 42, 3) := by decide +kernel
theorem dX2_moveToHole_8 : decode cX2_moveToHole 8 = .ok (.iload_n 1, 1) := by decide +kernel
theorem dX2_moveToHole_9 : decode cX2_moveToHole 9 = .ok (.invokevirtual 88, 3) := by decide +kernel
theorem dX2_moveToHole_12 : decode cX2_moveToHole 12 = .ok (.istore_n 2, 1) := by decide +kernel
theorem dX2_moveToHole_13 : decode cX2_moveToHole 13 = .ok (.iload_n 2, 1) := by decide +kernel
theorem dX2_moveToHole_14 : decode cX2_moveToHole 14 = .ok (.bipush (-4), 2) := by decide +kernel
theorem dX2_moveToHole_16 : decode cX2_moveToHole 16 = .ok (.if_icmp .ne 8, 3) := by decide +kernel
theorem dX2_moveToHole_19 : decode cX2_moveToHole 19 = .ok (.bipush (-4), 2) := by decide +kernel
theorem dX2_moveToHole_21 : decode cX2_moveToHole 21 = .ok (.goto 8, 3) := by decide +kernel
theorem dX2_moveToHole_24 : decode cX2_moveToHole 24 = .ok (.aload_n 0, 1) := by decide +kernel
theorem dX2_moveToHole_25 : decode cX2_moveToHole 25 = .ok (.iload_n 2, 1) := by decide +kernel
theorem dX2_moveToHole_26 : decode cX2_moveToHole 26 = .ok (.invokevirtual 92, 3) := by decide +kernel
theorem dX2_moveToHole_29 : decode cX2_moveToHole 29 = .ok (.ireturn, 1) := by decide +kernel
def f_X2_moveToHole (a : Nat) (x1 : Int32) (g : zG) : Option (Int32 × zG) :=
  zb (f_X5_rowsToHole (g.2.1 a 7) (g.1 a 3) x1 g) (fun v2 g3 => if v2 = (-4) then (some (((-4), g3))) else (zb (f_X2_moveBy a v2 g3) (fun v5 g6 => some ((v5, g6)))))
abbrev rm_X2_moveToHole : Room := { frames := 3, cells := 0, slots := 0, locals := 66 }
set_option maxRecDepth 100000 in
set_option maxHeartbeats 4000000 in
theorem c_X2_moveToHole (l : Launch) (D : zD) (sz : Nat) (τ : zT) (g : zG) (a : Nat) (x1 : Int32) (hta : τ a = some (.inr 2)) : zCon l D yX2_moveToHole cX2_moveToHole 3 (some .int) rm_X2_moveToHole 0 0 zrI [.ref a, .int x1] sz τ g τ (f_X2_moveToHole a x1 g) := by
  refine zCon.of (by decide) (Nat.le_of_ble_eq_true rfl) (fun E r g' hl hR hsz hnm F => ?_)
  have F : zF E D (zA τ sz) cX2_moveToHole "TypeChain$Printer" 3 (some .int) := F
  show zSim (fun q : Int32 × zG => q = (r, g')) (f_X2_moveToHole a x1 g) (zAt E D (zA τ sz) (zQ E D zrI 0 0 sz τ τ r g') 3 (sz, τ, 0, 0) g 0 [(0, .ref a), (1, .int x1)] [])
  unfold f_X2_moveToHole
  refine z_aload_n F 0 rfl rfl dX2_moveToHole_0 ?_
  refine gf_X2_30 F hta dX2_moveToHole_1 (fun ht1 => ?_)
  refine z_aload_n F 0 rfl rfl dX2_moveToHole_4 ?_
  refine gf_X2_42 F hta dX2_moveToHole_5 ?_
  refine z_iload_n F 1 rfl rfl dX2_moveToHole_8 ?_
  refine k_X5_rowsToHole F (by rw [hR]; exact ⟨by decide, by decide⟩) q_733 ht1 ⟨Nat.zero_le _, Nat.zero_le _⟩ (Nat.le_of_ble_eq_true rfl) dX2_moveToHole_9 (fun v2 g3 => ?_)
  refine z_istore_n (lv' := [(2, .int v2), (0, .ref a), (1, .int x1)]) F rfl (by decide) dX2_moveToHole_12 rfl ?_
  refine z_iload_n F 0 rfl rfl dX2_moveToHole_13 ?_
  refine z_bipush (v := (-4)) F (by decide) dX2_moveToHole_14 ?_
  refine z_icmp_ne (tgt := 24) F dX2_moveToHole_16 (by decide) (fun c4 => ?_) (fun c4 => ?_)
  · refine z_bipush (v := (-4)) F (by decide) dX2_moveToHole_19 ?_
    refine z_goto (tgt := 29) F dX2_moveToHole_21 (by decide) ?_
    exact z_ireturn F rfl rfl rfl rfl (fun h => h) dX2_moveToHole_29
  · refine z_aload_n F 1 rfl rfl dX2_moveToHole_24 ?_
    refine z_iload_n F 0 rfl rfl dX2_moveToHole_25 ?_
    refine k_X2_moveBy F (by rw [hR]; exact ⟨by decide, by decide⟩) q_737 hta ⟨Nat.zero_le _, Nat.zero_le _⟩ (Nat.le_of_ble_eq_true rfl) dX2_moveToHole_26 (fun v5 g6 => ?_)
    exact z_ireturn F rfl rfl rfl rfl (fun h => h) dX2_moveToHole_29
theorem k_X2_moveToHole {ρ : Type} {K : ρ → Prop} {E : zE} {D : zD} {A : Nat → Prop} {Q : State → Prop} {nL : Nat} {κ : zC} {g : zG} {pc : Nat} {lv : List (Nat × Value)} {st : List Value} {cc : ByteArray} {own : String} {ret : Option FieldType} (F : zF E D A cc own nL ret) {index : Nat} {h : Int32 → zG → Option ρ} {a : Nat} {x1 : Int32}  (hR : 3 + 1 ≤ E.2.2.2.1.frames ∧ 8 + (3 + 11) + 66 ≤ E.2.2.2.1.locals) (hl : zTbl (.methodLink own index yX2_moveToHole)) (hta : κ.2.1 a = some (.inr 2)) (hc : κ.2.2.1 ≤ E.2.2.2.1.cells ∧ κ.2.2.2 ≤ E.2.2.2.1.slots) (hW : (st.map fun v => v.category).sum ≤ 8) (hd : decode cc pc = .ok (.invokevirtual index, 3)) (kk : ∀ r g', zSim K (h r g') (zAt E D A Q nL κ g' (pc + 3) lv (.int r :: st))) : zSim K (zb (f_X2_moveToHole a x1 g) h) (zAt E D A Q nL κ g pc lv (.int x1 :: .ref a :: st)) :=
  z_callV F (n := 1) (As := [.int x1]) (C := (RX2, TX2, 9)) ⟨q_732, q_10, by decide +kernel, rfl, rfl, hR.1, hR.2⟩ (c_X2_moveToHole E.2.1 D κ.1 κ.2.1 g a x1 hta) hl q_730 q_731 hta rfl rfl rfl hc hW hd kk _ rfl
theorem dX2_fillLine_0 : decode cX2_fillLine 0 = .ok (.aload_n 1, 1) := by decide +kernel
theorem dX2_fillLine_1 : decode cX2_fillLine 1 = .ok (.getfield 115, 3) := by decide +kernel
theorem dX2_fillLine_4 : decode cX2_fillLine 4 = .ok (.iload_n 2, 1) := by decide +kernel
theorem dX2_fillLine_5 : decode cX2_fillLine 5 = .ok (.iaload, 1) := by decide +kernel
theorem dX2_fillLine_6 : decode cX2_fillLine 6 = .ok (.istore_n 3, 1) := by decide +kernel
theorem dX2_fillLine_7 : decode cX2_fillLine 7 = .ok (.aload_n 1, 1) := by decide +kernel
theorem dX2_fillLine_8 : decode cX2_fillLine 8 = .ok (.getfield 121, 3) := by decide +kernel
theorem dX2_fillLine_11 : decode cX2_fillLine 11 = .ok (.iload_n 2, 1) := by decide +kernel
theorem dX2_fillLine_12 : decode cX2_fillLine 12 = .ok (.iaload, 1) := by decide +kernel
theorem dX2_fillLine_13 : decode cX2_fillLine 13 = .ok (.bipush 40, 2) := by decide +kernel
theorem dX2_fillLine_15 : decode cX2_fillLine 15 = .ok (.iload_n 3, 1) := by decide +kernel
theorem dX2_fillLine_16 : decode cX2_fillLine 16 = .ok (.isub, 1) := by decide +kernel
theorem dX2_fillLine_17 : decode cX2_fillLine 17 = .ok (.invokestatic 124, 3) := by decide +kernel
theorem dX2_fillLine_20 : decode cX2_fillLine 20 = .ok (.istore 4, 2) := by decide +kernel
theorem dX2_fillLine_22 : decode cX2_fillLine 22 = .ok (.iconst 0, 1) := by decide +kernel
theorem dX2_fillLine_23 : decode cX2_fillLine 23 = .ok (.istore 5, 2) := by decide +kernel
theorem dX2_fillLine_25 : decode cX2_fillLine 25 = .ok (.iload 5, 2) := by decide +kernel
theorem dX2_fillLine_27 : decode cX2_fillLine 27 = .ok (.iload 4, 2) := by decide +kernel
theorem dX2_fillLine_29 : decode cX2_fillLine 29 = .ok (.if_icmp .ge 25, 3) := by decide +kernel
theorem dX2_fillLine_32 : decode cX2_fillLine 32 = .ok (.aload_n 0, 1) := by decide +kernel
theorem dX2_fillLine_33 : decode cX2_fillLine 33 = .ok (.getfield 9, 3) := by decide +kernel
theorem dX2_fillLine_36 : decode cX2_fillLine 36 = .ok (.iload_n 3, 1) := by decide +kernel
theorem dX2_fillLine_37 : decode cX2_fillLine 37 = .ok (.iload 5, 2) := by decide +kernel
theorem dX2_fillLine_39 : decode cX2_fillLine 39 = .ok (.iadd, 1) := by decide +kernel
theorem dX2_fillLine_40 : decode cX2_fillLine 40 = .ok (.aload_n 1, 1) := by decide +kernel
theorem dX2_fillLine_41 : decode cX2_fillLine 41 = .ok (.iload_n 2, 1) := by decide +kernel
theorem dX2_fillLine_42 : decode cX2_fillLine 42 = .ok (.iload 5, 2) := by decide +kernel
theorem dX2_fillLine_44 : decode cX2_fillLine 44 = .ok (.invokevirtual 129, 3) := by decide +kernel
theorem dX2_fillLine_47 : decode cX2_fillLine 47 = .ok (.iastore, 1) := by decide +kernel
theorem dX2_fillLine_48 : decode cX2_fillLine 48 = .ok (.iinc 5 1, 3) := by decide +kernel
theorem dX2_fillLine_51 : decode cX2_fillLine 51 = .ok (.goto (-26), 3) := by decide +kernel
theorem dX2_fillLine_54 : decode cX2_fillLine 54 = .ok (.return_, 1) := by decide +kernel
def j_X2_fillLine_54 (a : Nat)  (g : zG) : Option (Int32 × zG) :=
  some ((0, g))
def l_X2_fillLine_25 (a : Nat) (l1 : Nat) (l2 : Int32) (l3 : Int32) (l4 : Int32) (l5 : Int32) (g : zG) : Option ((Int32 × zG) ⊕ (zG)) :=
  if l4 ≤ l5 then (some (.inr g)) else (zb (f_X3_letterOf l1 l2 l5 g) (fun v7 g8 => zc (zin (l3 + l5) 40) (zl (zsi g8 (g.2.1 a 0) (l3 + l5).toNatClampNeg v7) (fun g9 => zl (l5 + 1) (fun v10 => some (.inl (v10, g9)))))))
def f_X2_fillLine (a : Nat) (b1 : Nat) (x2 : Int32) (g : zG) : Option (Int32 × zG) :=
  zc (zin x2 24) (zl (g.1 (g.2.1 b1 1) x2.toNatClampNeg) (fun v2 => zc (zin x2 24) (zl (zmmin (g.1 (g.2.1 b1 3) x2.toNatClampNeg) (40 - v2)) (fun v4 => zk (zw zN (fun s => l_X2_fillLine_25 a b1 x2 v2 v4 s.1 s.2) (0, g)) (fun x => j_X2_fillLine_54 a x)))))
abbrev rm_X2_fillLine : Room := { frames := 1, cells := 0, slots := 0, locals := 22 }
set_option maxRecDepth 100000 in
set_option maxHeartbeats 4000000 in
theorem c_X2_fillLine (l : Launch) (D : zD) (sz : Nat) (τ : zT) (g : zG) (a : Nat) (b1 : Nat) (x2 : Int32) (hta : τ a = some (.inr 2)) (htb1 : τ b1 = some (.inr 3)) : zCon l D yX2_fillLine cX2_fillLine 6 none rm_X2_fillLine 0 0 zrV [.ref a, .ref b1, .int x2] sz τ g τ (f_X2_fillLine a b1 x2 g) := by
  refine zCon.of (by decide) (Nat.le_of_ble_eq_true rfl) (fun E r g' hl hR hsz hnm F => ?_)
  have F : zF E D (zA τ sz) cX2_fillLine "TypeChain$Printer" 6 none := F
  show zSim (fun q : Int32 × zG => q = (r, g')) (f_X2_fillLine a b1 x2 g) (zAt E D (zA τ sz) (zQ E D zrV 0 0 sz τ τ r g') 6 (sz, τ, 0, 0) g 0 [(0, .ref a), (1, .ref b1), (2, .int x2)] [])
  have hj_X2_fillLine_54 : ∀  (g_54 : zG), zSim (fun q : Int32 × zG => q = (r, g')) (j_X2_fillLine_54 a g_54) (zAt E D (zA τ sz) (zQ E D zrV 0 0 sz τ τ r g') 6 (sz, τ, 0, 0) g_54 54 [] []) := by
    intro g_54
    unfold j_X2_fillLine_54
    exact z_vreturn F rfl rfl rfl rfl (fun h => h) dX2_fillLine_54
  unfold f_X2_fillLine
  refine z_aload_n F 1 rfl rfl dX2_fillLine_0 ?_
  refine gf_X2_115 F htb1 dX2_fillLine_1 (fun ht1 => ?_)
  refine z_iload_n F 2 rfl rfl dX2_fillLine_4 ?_
  refine z_iald F ht1 dX2_fillLine_5 ?_
  refine z_leti (fun v2 => ?_)
  refine z_istore_n (lv' := [(3, .int v2), (0, .ref a), (1, .ref b1), (2, .int x2)]) F rfl (by decide) dX2_fillLine_6 rfl ?_
  refine z_aload_n F 2 rfl rfl dX2_fillLine_7 ?_
  refine gf_X2_121 F htb1 dX2_fillLine_8 (fun ht3 => ?_)
  refine z_iload_n F 3 rfl rfl dX2_fillLine_11 ?_
  refine z_iald F ht3 dX2_fillLine_12 ?_
  refine z_bipush (v := 40) F (by decide) dX2_fillLine_13 ?_
  refine z_iload_n F 0 rfl rfl dX2_fillLine_15 ?_
  refine z_isub F dX2_fillLine_16 ?_
  refine z_mmin F q_762 q_658 q_19 q_659 (by rw [hR]; exact ⟨by decide, by decide⟩) ⟨Nat.zero_le _, Nat.zero_le _⟩ (Nat.le_of_ble_eq_true rfl) dX2_fillLine_17 ?_
  refine z_leti (fun v4 => ?_)
  refine z_istore (lv' := [(4, .int v4), (3, .int v2), (0, .ref a), (1, .ref b1), (2, .int x2)]) F (by decide) dX2_fillLine_20 rfl ?_
  refine z_iconst (v := 0) F (by decide) dX2_fillLine_22 ?_
  refine z_istore (lv' := [(5, .int 0), (4, .int v4), (3, .int v2), (0, .ref a), (1, .ref b1), (2, .int x2)]) F (by decide) dX2_fillLine_23 rfl ?_
  refine z_sub (lv' := [(0, .ref a), (1, .ref b1), (2, .int x2), (3, .int v2), (4, .int v4), (5, .int 0)]) [3, 4, 5, 2, 1, 0] rfl ?_
  refine z_loop (P := fun s : Int32 × zG => zAt E D (zA τ sz) (zQ E D zrV 0 0 sz τ τ r g') 6 (sz, τ, 0, 0) s.2 25 [(0, .ref a), (1, .ref b1), (2, .int x2), (3, .int v2), (4, .int v4), (5, .int s.1)] []) (Px := fun x : zG => zAt E D (zA τ sz) (zQ E D zrV 0 0 sz τ τ r g') 6 (sz, τ, 0, 0) x 54 [] []) (0, g) (fun s => ?_) (fun x => ?_)
  · obtain ⟨l5_25, g_25⟩ := s
    show zSim (zKl (fun s : Int32 × zG => zAt E D (zA τ sz) (zQ E D zrV 0 0 sz τ τ r g') 6 (sz, τ, 0, 0) s.2 25 [(0, .ref a), (1, .ref b1), (2, .int x2), (3, .int v2), (4, .int v4), (5, .int s.1)] []) (fun x : zG => zAt E D (zA τ sz) (zQ E D zrV 0 0 sz τ τ r g') 6 (sz, τ, 0, 0) x 54 [] [])) (l_X2_fillLine_25 a b1 x2 v2 v4 l5_25 g_25) (zAt E D (zA τ sz) (zQ E D zrV 0 0 sz τ τ r g') 6 (sz, τ, 0, 0) g_25 25 [(0, .ref a), (1, .ref b1), (2, .int x2), (3, .int v2), (4, .int v4), (5, .int l5_25)] [])
    unfold l_X2_fillLine_25
    refine z_iload F 5 rfl dX2_fillLine_25 ?_
    refine z_iload F 4 rfl dX2_fillLine_27 ?_
    refine z_icmp_ge (tgt := 54) F dX2_fillLine_29 (by decide) (fun c5 => ?_) (fun c5 => ?_)
    · refine z_sub (lv' := []) [] rfl ?_
      exact z_back (fun h => h)
    · refine z_aload_n F 0 rfl rfl dX2_fillLine_32 ?_
      refine gf_X2_9 F hta dX2_fillLine_33 (fun ht6 => ?_)
      refine z_iload_n F 3 rfl rfl dX2_fillLine_36 ?_
      refine z_iload F 5 rfl dX2_fillLine_37 ?_
      refine z_iadd F dX2_fillLine_39 ?_
      refine z_aload_n F 1 rfl rfl dX2_fillLine_40 ?_
      refine z_iload_n F 2 rfl rfl dX2_fillLine_41 ?_
      refine z_iload F 5 rfl dX2_fillLine_42 ?_
      refine k_X3_letterOf F (by rw [hR]; exact ⟨by decide, by decide⟩) q_763 htb1 ⟨Nat.zero_le _, Nat.zero_le _⟩ (Nat.le_of_ble_eq_true rfl) dX2_fillLine_44 (fun v7 g8 => ?_)
      refine z_iast F ht6 dX2_fillLine_47 ?_
      refine z_letg (fun g9 => ?_)
      refine z_iincl (lv' := fun v10 => [(5, .int v10), (0, .ref a), (1, .ref b1), (2, .int x2), (3, .int v2), (4, .int v4)]) F 5 rfl (by decide) (by decide) dX2_fillLine_48 (fun _ => rfl) (fun v10 => ?_)
      refine z_goto (tgt := 25) F dX2_fillLine_51 (by decide) ?_
      refine z_sub (lv' := [(0, .ref a), (1, .ref b1), (2, .int x2), (3, .int v2), (4, .int v4), (5, .int v10)]) [1, 2, 3, 4, 5, 0] rfl ?_
      exact z_back (fun h => h)
  · show zSim (fun q : Int32 × zG => q = (r, g')) (j_X2_fillLine_54 a x) (zAt E D (zA τ sz) (zQ E D zrV 0 0 sz τ τ r g') 6 (sz, τ, 0, 0) x 54 [] [])
    exact hj_X2_fillLine_54 x
theorem k_X2_fillLine {ρ : Type} {K : ρ → Prop} {E : zE} {D : zD} {A : Nat → Prop} {Q : State → Prop} {nL : Nat} {κ : zC} {g : zG} {pc : Nat} {lv : List (Nat × Value)} {st : List Value} {cc : ByteArray} {own : String} {ret : Option FieldType} (F : zF E D A cc own nL ret) {index : Nat} {h : Int32 → zG → Option ρ} {a : Nat} {b1 : Nat} {x2 : Int32}  (hR : 1 + 1 ≤ E.2.2.2.1.frames ∧ 8 + (6 + 11) + 22 ≤ E.2.2.2.1.locals) (hl : zTbl (.methodLink own index yX2_fillLine)) (hta : κ.2.1 a = some (.inr 2)) (htb1 : κ.2.1 b1 = some (.inr 3)) (hc : κ.2.2.1 ≤ E.2.2.2.1.cells ∧ κ.2.2.2 ≤ E.2.2.2.1.slots) (hW : (st.map fun v => v.category).sum ≤ 8) (hd : decode cc pc = .ok (.invokevirtual index, 3)) (kk : ∀ r g', zSim K (h r g') (zAt E D A Q nL κ g' (pc + 3) lv (st))) : zSim K (zb (f_X2_fillLine a b1 x2 g) h) (zAt E D A Q nL κ g pc lv (.int x2 :: .ref b1 :: .ref a :: st)) :=
  z_callV F (n := 2) (As := [.ref b1, .int x2]) (C := (RX2, TX2, 9)) ⟨q_761, q_10, by decide +kernel, rfl, rfl, hR.1, hR.2⟩ (c_X2_fillLine E.2.1 D κ.1 κ.2.1 g a b1 x2 hta htb1) hl q_760 q_1385 hta rfl rfl rfl hc hW hd kk _ rfl
theorem dX2_markPage_0 : decode cX2_markPage 0 = .ok (.iconst 0, 1) := by decide +kernel
theorem dX2_markPage_1 : decode cX2_markPage 1 = .ok (.istore_n 1, 1) := by decide +kernel
theorem dX2_markPage_2 : decode cX2_markPage 2 = .ok (.aload_n 0, 1) := by decide +kernel
theorem dX2_markPage_3 : decode cX2_markPage 3 = .ok (.getfield 22, 3) := by decide +kernel
theorem dX2_markPage_6 : decode cX2_markPage 6 = .ok (.ifnull 42, 3) := by decide +kernel
theorem dX2_markPage_9 : decode cX2_markPage 9 = .ok (.iload_n 1, 1) := by decide +kernel
theorem dX2_markPage_10 : decode cX2_markPage 10 = .ok (.bipush 40, 2) := by decide +kernel
theorem dX2_markPage_12 : decode cX2_markPage 12 = .ok (.if_icmp .ge 36, 3) := by decide +kernel
theorem dX2_markPage_15 : decode cX2_markPage 15 = .ok (.aload_n 0, 1) := by decide +kernel
theorem dX2_markPage_16 : decode cX2_markPage 16 = .ok (.getfield 9, 3) := by decide +kernel
theorem dX2_markPage_19 : decode cX2_markPage 19 = .ok (.iload_n 1, 1) := by decide +kernel
theorem dX2_markPage_20 : decode cX2_markPage 20 = .ok (.iaload, 1) := by decide +kernel
theorem dX2_markPage_21 : decode cX2_markPage 21 = .ok (.ifCond .eq 21, 3) := by decide +kernel
theorem dX2_markPage_24 : decode cX2_markPage 24 = .ok (.aload_n 0, 1) := by decide +kernel
theorem dX2_markPage_25 : decode cX2_markPage 25 = .ok (.getfield 22, 3) := by decide +kernel
theorem dX2_markPage_28 : decode cX2_markPage 28 = .ok (.aload_n 0, 1) := by decide +kernel
theorem dX2_markPage_29 : decode cX2_markPage 29 = .ok (.getfield 42, 3) := by decide +kernel
theorem dX2_markPage_32 : decode cX2_markPage 32 = .ok (.iload_n 1, 1) := by decide +kernel
theorem dX2_markPage_33 : decode cX2_markPage 33 = .ok (.aload_n 0, 1) := by decide +kernel
theorem dX2_markPage_34 : decode cX2_markPage 34 = .ok (.getfield 9, 3) := by decide +kernel
theorem dX2_markPage_37 : decode cX2_markPage 37 = .ok (.iload_n 1, 1) := by decide +kernel
theorem dX2_markPage_38 : decode cX2_markPage 38 = .ok (.iaload, 1) := by decide +kernel
theorem dX2_markPage_39 : decode cX2_markPage 39 = .ok (.invokevirtual 132, 3) := by decide +kernel
theorem dX2_markPage_42 : decode cX2_markPage 42 = .ok (.iinc 1 1, 3) := by decide +kernel
theorem dX2_markPage_45 : decode cX2_markPage 45 = .ok (.goto (-43), 3) := by decide +kernel
theorem dX2_markPage_48 : decode cX2_markPage 48 = .ok (.return_, 1) := by decide +kernel
def j_X2_markPage_48 (a : Nat)  (g : zG) : Option (Int32 × zG) :=
  some ((0, g))
def l_X2_markPage_2 (a : Nat) (l1 : Int32) (g : zG) : Option ((Int32 × zG) ⊕ (zG)) :=
  if (g.2.1 a 6) = 0 then (some (.inr g)) else (if 40 ≤ l1 then (some (.inr g)) else (zc (zin l1 40) (if (g.1 (g.2.1 a 0) l1.toNatClampNeg) = 0 then (zl (l1 + 1) (fun v5 => some (.inl (v5, g)))) else (zc (zin l1 40) (zb (f_X1_mark (g.2.1 a 6) (g.1 a 3) l1 (g.1 (g.2.1 a 0) l1.toNatClampNeg) g) (fun v8 g9 => zl (l1 + 1) (fun v10 => some (.inl (v10, g9)))))))))
def f_X2_markPage (a : Nat) (g : zG) : Option (Int32 × zG) :=
  zk (zw zN (fun s => l_X2_markPage_2 a s.1 s.2) (0, g)) (fun x => j_X2_markPage_48 a x)
abbrev rm_X2_markPage : Room := { frames := 1, cells := 0, slots := 0, locals := 24 }
set_option maxRecDepth 100000 in
set_option maxHeartbeats 4000000 in
theorem c_X2_markPage (l : Launch) (D : zD) (sz : Nat) (τ : zT) (g : zG) (a : Nat) (hta : τ a = some (.inr 2)) : zCon l D yX2_markPage cX2_markPage 2 none rm_X2_markPage 0 0 zrV [.ref a] sz τ g τ (f_X2_markPage a g) := by
  refine zCon.of (by decide) (Nat.le_of_ble_eq_true rfl) (fun E r g' hl hR hsz hnm F => ?_)
  have F : zF E D (zA τ sz) cX2_markPage "TypeChain$Printer" 2 none := F
  show zSim (fun q : Int32 × zG => q = (r, g')) (f_X2_markPage a g) (zAt E D (zA τ sz) (zQ E D zrV 0 0 sz τ τ r g') 2 (sz, τ, 0, 0) g 0 [(0, .ref a)] [])
  have hj_X2_markPage_48 : ∀  (g_48 : zG), zSim (fun q : Int32 × zG => q = (r, g')) (j_X2_markPage_48 a g_48) (zAt E D (zA τ sz) (zQ E D zrV 0 0 sz τ τ r g') 2 (sz, τ, 0, 0) g_48 48 [] []) := by
    intro g_48
    unfold j_X2_markPage_48
    exact z_vreturn F rfl rfl rfl rfl (fun h => h) dX2_markPage_48
  unfold f_X2_markPage
  refine z_iconst (v := 0) F (by decide) dX2_markPage_0 ?_
  refine z_istore_n (lv' := [(1, .int 0), (0, .ref a)]) F rfl (by decide) dX2_markPage_1 rfl ?_
  refine z_sub (lv' := [(0, .ref a), (1, .int 0)]) [1, 0] rfl ?_
  refine z_loop (P := fun s : Int32 × zG => zAt E D (zA τ sz) (zQ E D zrV 0 0 sz τ τ r g') 2 (sz, τ, 0, 0) s.2 2 [(0, .ref a), (1, .int s.1)] []) (Px := fun x : zG => zAt E D (zA τ sz) (zQ E D zrV 0 0 sz τ τ r g') 2 (sz, τ, 0, 0) x 48 [] []) (0, g) (fun s => ?_) (fun x => ?_)
  · obtain ⟨l1_2, g_2⟩ := s
    show zSim (zKl (fun s : Int32 × zG => zAt E D (zA τ sz) (zQ E D zrV 0 0 sz τ τ r g') 2 (sz, τ, 0, 0) s.2 2 [(0, .ref a), (1, .int s.1)] []) (fun x : zG => zAt E D (zA τ sz) (zQ E D zrV 0 0 sz τ τ r g') 2 (sz, τ, 0, 0) x 48 [] [])) (l_X2_markPage_2 a l1_2 g_2) (zAt E D (zA τ sz) (zQ E D zrV 0 0 sz τ τ r g') 2 (sz, τ, 0, 0) g_2 2 [(0, .ref a), (1, .int l1_2)] [])
    unfold l_X2_markPage_2
    refine z_aload_n F 0 rfl rfl dX2_markPage_2 ?_
    refine gf_X2_22 F hta dX2_markPage_3 ?_
    refine z_ifnull (tgt := 48) F dX2_markPage_6 (by decide) (fun c1 => ?_) (fun c1 => ?_)
    · refine z_sub (lv' := []) [] rfl ?_
      exact z_back (fun h => h)
    · refine z_iload_n F 1 rfl rfl dX2_markPage_9 ?_
      refine z_bipush (v := 40) F (by decide) dX2_markPage_10 ?_
      refine z_icmp_ge (tgt := 48) F dX2_markPage_12 (by decide) (fun c2 => ?_) (fun c2 => ?_)
      · refine z_sub (lv' := []) [] rfl ?_
        exact z_back (fun h => h)
      · refine z_aload_n F 0 rfl rfl dX2_markPage_15 ?_
        refine gf_X2_9 F hta dX2_markPage_16 (fun ht3 => ?_)
        refine z_iload_n F 1 rfl rfl dX2_markPage_19 ?_
        refine z_iald F ht3 dX2_markPage_20 ?_
        refine z_if_eq (tgt := 42) F dX2_markPage_21 (by decide) (fun c4 => ?_) (fun c4 => ?_)
        · refine z_iincl (lv' := fun v5 => [(1, .int v5), (0, .ref a)]) F 1 rfl (by decide) (by decide) dX2_markPage_42 (fun _ => rfl) (fun v5 => ?_)
          refine z_goto (tgt := 2) F dX2_markPage_45 (by decide) ?_
          refine z_sub (lv' := [(0, .ref a), (1, .int v5)]) [1, 0] rfl ?_
          exact z_back (fun h => h)
        · refine z_aload_n F 0 rfl rfl dX2_markPage_24 ?_
          refine gf_X2_22_n F hta c1 dX2_markPage_25 (fun ht6 => ?_)
          refine z_aload_n F 0 rfl rfl dX2_markPage_28 ?_
          refine gf_X2_42 F hta dX2_markPage_29 ?_
          refine z_iload_n F 1 rfl rfl dX2_markPage_32 ?_
          refine z_aload_n F 0 rfl rfl dX2_markPage_33 ?_
          refine gf_X2_9 F hta dX2_markPage_34 (fun ht7 => ?_)
          refine z_iload_n F 1 rfl rfl dX2_markPage_37 ?_
          refine z_iald F ht7 dX2_markPage_38 ?_
          refine k_X1_mark F (by rw [hR]; exact ⟨by decide, by decide⟩) q_681 ht6 ⟨Nat.zero_le _, Nat.zero_le _⟩ (Nat.le_of_ble_eq_true rfl) dX2_markPage_39 (fun v8 g9 => ?_)
          refine z_iincl (lv' := fun v10 => [(1, .int v10), (0, .ref a)]) F 1 rfl (by decide) (by decide) dX2_markPage_42 (fun _ => rfl) (fun v10 => ?_)
          refine z_goto (tgt := 2) F dX2_markPage_45 (by decide) ?_
          refine z_sub (lv' := [(0, .ref a), (1, .int v10)]) [1, 0] rfl ?_
          exact z_back (fun h => h)
  · show zSim (fun q : Int32 × zG => q = (r, g')) (j_X2_markPage_48 a x) (zAt E D (zA τ sz) (zQ E D zrV 0 0 sz τ τ r g') 2 (sz, τ, 0, 0) x 48 [] [])
    exact hj_X2_markPage_48 x
theorem k_X2_markPage {ρ : Type} {K : ρ → Prop} {E : zE} {D : zD} {A : Nat → Prop} {Q : State → Prop} {nL : Nat} {κ : zC} {g : zG} {pc : Nat} {lv : List (Nat × Value)} {st : List Value} {cc : ByteArray} {own : String} {ret : Option FieldType} (F : zF E D A cc own nL ret) {index : Nat} {h : Int32 → zG → Option ρ} {a : Nat}  (hR : 1 + 1 ≤ E.2.2.2.1.frames ∧ 8 + (2 + 11) + 24 ≤ E.2.2.2.1.locals) (hl : zTbl (.methodLink own index yX2_markPage)) (hta : κ.2.1 a = some (.inr 2)) (hc : κ.2.2.1 ≤ E.2.2.2.1.cells ∧ κ.2.2.2 ≤ E.2.2.2.1.slots) (hW : (st.map fun v => v.category).sum ≤ 8) (hd : decode cc pc = .ok (.invokevirtual index, 3)) (kk : ∀ r g', zSim K (h r g') (zAt E D A Q nL κ g' (pc + 3) lv (st))) : zSim K (zb (f_X2_markPage a g) h) (zAt E D A Q nL κ g pc lv (.ref a :: st)) :=
  z_callV F (n := 0) (As := []) (C := (RX2, TX2, 9)) ⟨q_680, q_10, by decide +kernel, rfl, rfl, hR.1, hR.2⟩ (c_X2_markPage E.2.1 D κ.1 κ.2.1 g a hta) hl q_679 q_1384 hta rfl rfl rfl hc hW hd kk _ rfl
theorem dX2_strikeLine_0 : decode cX2_strikeLine 0 = .ok (.aload_n 0, 1) := by decide +kernel
theorem dX2_strikeLine_1 : decode cX2_strikeLine 1 = .ok (.invokevirtual 72, 3) := by decide +kernel
theorem dX2_strikeLine_4 : decode cX2_strikeLine 4 = .ok (.ifCond .ne 6, 3) := by decide +kernel
theorem dX2_strikeLine_7 : decode cX2_strikeLine 7 = .ok (.bipush (-2), 2) := by decide +kernel
theorem dX2_strikeLine_9 : decode cX2_strikeLine 9 = .ok (.ireturn, 1) := by decide +kernel
theorem dX2_strikeLine_10 : decode cX2_strikeLine 10 = .ok (.aload_n 0, 1) := by decide +kernel
theorem dX2_strikeLine_11 : decode cX2_strikeLine 11 = .ok (.getfield 18, 3) := by decide +kernel
theorem dX2_strikeLine_14 : decode cX2_strikeLine 14 = .ok (.aload_n 0, 1) := by decide +kernel
theorem dX2_strikeLine_15 : decode cX2_strikeLine 15 = .ok (.getfield 34, 3) := by decide +kernel
theorem dX2_strikeLine_18 : decode cX2_strikeLine 18 = .ok (.aload_n 0, 1) := by decide +kernel
theorem dX2_strikeLine_19 : decode cX2_strikeLine 19 = .ok (.getfield 9, 3) := by decide +kernel
theorem dX2_strikeLine_22 : decode cX2_strikeLine 22 = .ok (.aload_n 0, 1) := by decide +kernel
theorem dX2_strikeLine_23 : decode cX2_strikeLine 23 = .ok (.getfield 30, 3) := by decide +kernel
theorem dX2_strikeLine_26 : decode cX2_strikeLine 26 = .ok (.getfield 76, 3) := by decide +kernel
theorem dX2_strikeLine_29 : decode cX2_strikeLine 29 = .ok (.iconst 3, 1) := by decide +kernel
theorem dX2_strikeLine_30 : decode cX2_strikeLine 30 = .ok (.iaload, 1) := by decide +kernel
theorem dX2_strikeLine_31 : decode cX2_strikeLine 31 = .ok (.aload_n 0, 1) := by decide +kernel
theorem dX2_strikeLine_32 : decode cX2_strikeLine 32 = .ok (.getfield 30, 3) := by decide +kernel
theorem dX2_strikeLine_35 : decode cX2_strikeLine 35 = .ok (.getfield 76, 3) := by decide +kernel
theorem dX2_strikeLine_38 : decode cX2_strikeLine 38 = .ok (.iconst 4, 1) := by decide +kernel
theorem dX2_strikeLine_39 : decode cX2_strikeLine 39 = .ok (.iaload, 1) := by decide +kernel
theorem dX2_strikeLine_40 : decode cX2_strikeLine 40 = .ok (.aload_n 0, 1) := by decide +kernel
theorem dX2_strikeLine_41 : decode cX2_strikeLine 41 = .ok (.getfield 38, 3) := by decide +kernel
theorem dX2_strikeLine_44 : decode cX2_strikeLine 44 = .ok (.invokevirtual 81, 3) := by decide +kernel
theorem dX2_strikeLine_47 : decode cX2_strikeLine 47 = .ok (.istore_n 1, 1) := by decide +kernel
theorem dX2_strikeLine_48 : decode cX2_strikeLine 48 = .ok (.aload_n 0, 1) := by decide +kernel
theorem dX2_strikeLine_49 : decode cX2_strikeLine 49 = .ok (.invokevirtual 85, 3) := by decide +kernel
theorem dX2_strikeLine_52 : decode cX2_strikeLine 52 = .ok (.aload_n 0, 1) := by decide +kernel
theorem dX2_strikeLine_53 : decode cX2_strikeLine 53 = .ok (.getfield 9, 3) := by decide +kernel
theorem dX2_strikeLine_56 : decode cX2_strikeLine 56 = .ok (.iconst 0, 1) := by decide +kernel
theorem dX2_strikeLine_57 : decode cX2_strikeLine 57 = .ok (.invokestatic 55, 3) := by decide +kernel
theorem dX2_strikeLine_60 : decode cX2_strikeLine 60 = .ok (.aload_n 0, 1) := by decide +kernel
theorem dX2_strikeLine_61 : decode cX2_strikeLine 61 = .ok (.dup, 1) := by decide +kernel
theorem dX2_strikeLine_62 : decode cX2_strikeLine 62 = .ok (.getfield 38, 3) := by decide +kernel
theorem dX2_strikeLine_65 : decode cX2_strikeLine 65 = .ok (.iload_n 1, 1) := by decide +kernel
theorem dX2_strikeLine_66 : decode cX2_strikeLine 66 = .ok (.iadd, 1) := by decide +kernel
theorem dX2_strikeLine_67 : decode cX2_strikeLine 67 = .ok (.putfield 38, 3) := by decide +kernel
theorem dX2_strikeLine_70 : decode cX2_strikeLine 70 = .ok (.aload_n 0, 1) := by decide +kernel
theorem dX2_strikeLine_71 : decode cX2_strikeLine 71 = .ok (.dup, 1) := by decide +kernel
theorem dX2_strikeLine_72 : decode cX2_strikeLine 72 = .ok (.getfield 48, 3) := by decide +kernel
theorem dX2_strikeLine_75 : decode cX2_strikeLine 75 = .ok (.iconst 1, 1) := by decide +kernel
theorem dX2_strikeLine_76 : decode cX2_strikeLine 76 = .ok (.iadd, 1) := by decide +kernel
theorem dX2_strikeLine_77 : decode cX2_strikeLine 77 = .ok (.putfield 48, 3) := by decide +kernel
theorem dX2_strikeLine_80 : decode cX2_strikeLine 80 = .ok (.iload_n 1, 1) := by decide +kernel
theorem dX2_strikeLine_81 : decode cX2_strikeLine 81 = .ok (.ireturn, 1) := by decide +kernel
def f_X2_strikeLine (a : Nat) (g : zG) : Option (Int32 × zG) :=
  zb (f_X2_canStrike a g) (fun v1 g2 => if v1 = 0 then (some (((-2), g2))) else (zc (zin 3 8) (zc (zin 4 8) (zb (f_X7_make (g2.2.1 a 1) (g2.2.1 a 8) (g2.2.1 a 0) (g2.1 (g2.2.1 (g2.2.1 a 7) 2) (3 : Int32).toNatClampNeg) (g2.1 (g2.2.1 (g2.2.1 a 7) 2) (4 : Int32).toNatClampNeg) (g2.1 a 2) g2) (fun v11 g12 => zb (f_X2_markPage a g12) (fun v13 g14 => zb (f_J7_fill_53178 40 (g14.2.1 a 0) 0 g14) (fun v16 g17 => zl (zsi g17 a 2 ((g17.1 a 2) + v11)) (fun g18 => zl (zsi g18 a 5 ((g18.1 a 5) + 1)) (fun g19 => some ((v11, g19)))))))))))
abbrev rm_X2_strikeLine : Room := { frames := 3, cells := 0, slots := 0, locals := 83 }
set_option maxRecDepth 100000 in
set_option maxHeartbeats 4000000 in
theorem c_X2_strikeLine (l : Launch) (D : zD) (sz : Nat) (τ : zT) (g : zG) (a : Nat) (hta : τ a = some (.inr 2)) : zCon l D yX2_strikeLine cX2_strikeLine 2 (some .int) rm_X2_strikeLine 0 0 zrI [.ref a] sz τ g τ (f_X2_strikeLine a g) := by
  refine zCon.of (by decide) (Nat.le_of_ble_eq_true rfl) (fun E r g' hl hR hsz hnm F => ?_)
  have F : zF E D (zA τ sz) cX2_strikeLine "TypeChain$Printer" 2 (some .int) := F
  show zSim (fun q : Int32 × zG => q = (r, g')) (f_X2_strikeLine a g) (zAt E D (zA τ sz) (zQ E D zrI 0 0 sz τ τ r g') 2 (sz, τ, 0, 0) g 0 [(0, .ref a)] [])
  unfold f_X2_strikeLine
  refine z_aload_n F 0 rfl rfl dX2_strikeLine_0 ?_
  refine k_X2_canStrike F (by rw [hR]; exact ⟨by decide, by decide⟩) q_675 hta ⟨Nat.zero_le _, Nat.zero_le _⟩ (Nat.le_of_ble_eq_true rfl) dX2_strikeLine_1 (fun v1 g2 => ?_)
  refine z_if_ne (tgt := 10) F dX2_strikeLine_4 (by decide) (fun c3 => ?_) (fun c3 => ?_)
  · refine z_bipush (v := (-2)) F (by decide) dX2_strikeLine_7 ?_
    exact z_ireturn F rfl rfl rfl rfl (fun h => h) dX2_strikeLine_9
  · refine z_aload_n F 0 rfl rfl dX2_strikeLine_10 ?_
    refine gf_X2_18 F hta dX2_strikeLine_11 (fun ht4 => ?_)
    refine z_aload_n F 0 rfl rfl dX2_strikeLine_14 ?_
    refine gf_X2_34 F hta dX2_strikeLine_15 (fun ht5 => ?_)
    refine z_aload_n F 0 rfl rfl dX2_strikeLine_18 ?_
    refine gf_X2_9 F hta dX2_strikeLine_19 (fun ht6 => ?_)
    refine z_aload_n F 0 rfl rfl dX2_strikeLine_22 ?_
    refine gf_X2_30 F hta dX2_strikeLine_23 (fun ht7 => ?_)
    refine gf_X2_76 F ht7 dX2_strikeLine_26 (fun ht8 => ?_)
    refine z_iconst (v := 3) F (by decide) dX2_strikeLine_29 ?_
    refine z_iald F ht8 dX2_strikeLine_30 ?_
    refine z_aload_n F 0 rfl rfl dX2_strikeLine_31 ?_
    refine gf_X2_30 F hta dX2_strikeLine_32 (fun ht9 => ?_)
    refine gf_X2_76 F ht9 dX2_strikeLine_35 (fun ht10 => ?_)
    refine z_iconst (v := 4) F (by decide) dX2_strikeLine_38 ?_
    refine z_iald F ht10 dX2_strikeLine_39 ?_
    refine z_aload_n F 0 rfl rfl dX2_strikeLine_40 ?_
    refine gf_X2_38 F hta dX2_strikeLine_41 ?_
    refine k_X7_make F (by rw [hR]; exact ⟨by decide, by decide⟩) q_676 ht4 ht5 ht6 ⟨Nat.zero_le _, Nat.zero_le _⟩ (Nat.le_of_ble_eq_true rfl) dX2_strikeLine_44 (fun v11 g12 => ?_)
    refine z_istore_n (lv' := [(1, .int v11), (0, .ref a)]) F rfl (by decide) dX2_strikeLine_47 rfl ?_
    refine z_aload_n F 1 rfl rfl dX2_strikeLine_48 ?_
    refine k_X2_markPage F (by rw [hR]; exact ⟨by decide, by decide⟩) q_677 hta ⟨Nat.zero_le _, Nat.zero_le _⟩ (Nat.le_of_ble_eq_true rfl) dX2_strikeLine_49 (fun v13 g14 => ?_)
    refine z_aload_n F 1 rfl rfl dX2_strikeLine_52 ?_
    refine gf_X2_9 F hta dX2_strikeLine_53 (fun ht15 => ?_)
    refine z_iconst (v := 0) F (by decide) dX2_strikeLine_56 ?_
    refine k_J7_fill_53178 F (by rw [hR]; exact ⟨by decide, by decide⟩) q_280 ht15 ⟨Nat.zero_le _, Nat.zero_le _⟩ (Nat.le_of_ble_eq_true rfl) dX2_strikeLine_57 (fun v16 g17 => ?_)
    refine z_aload_n F 1 rfl rfl dX2_strikeLine_60 ?_
    refine z_dup F rfl dX2_strikeLine_61 ?_
    refine gf_X2_38 F hta dX2_strikeLine_62 ?_
    refine z_iload_n F 0 rfl rfl dX2_strikeLine_65 ?_
    refine z_iadd F dX2_strikeLine_66 ?_
    refine pf_X2_38 F hta dX2_strikeLine_67 ?_
    refine z_letg (fun g18 => ?_)
    refine z_aload_n F 1 rfl rfl dX2_strikeLine_70 ?_
    refine z_dup F rfl dX2_strikeLine_71 ?_
    refine gf_X2_48 F hta dX2_strikeLine_72 ?_
    refine z_iconst (v := 1) F (by decide) dX2_strikeLine_75 ?_
    refine z_iadd F dX2_strikeLine_76 ?_
    refine pf_X2_48 F hta dX2_strikeLine_77 ?_
    refine z_letg (fun g19 => ?_)
    refine z_iload_n F 0 rfl rfl dX2_strikeLine_80 ?_
    exact z_ireturn F rfl rfl rfl rfl (fun h => h) dX2_strikeLine_81
theorem k_X2_strikeLine {ρ : Type} {K : ρ → Prop} {E : zE} {D : zD} {A : Nat → Prop} {Q : State → Prop} {nL : Nat} {κ : zC} {g : zG} {pc : Nat} {lv : List (Nat × Value)} {st : List Value} {cc : ByteArray} {own : String} {ret : Option FieldType} (F : zF E D A cc own nL ret) {index : Nat} {h : Int32 → zG → Option ρ} {a : Nat}  (hR : 3 + 1 ≤ E.2.2.2.1.frames ∧ 8 + (2 + 11) + 83 ≤ E.2.2.2.1.locals) (hl : zTbl (.methodLink own index yX2_strikeLine)) (hta : κ.2.1 a = some (.inr 2)) (hc : κ.2.2.1 ≤ E.2.2.2.1.cells ∧ κ.2.2.2 ≤ E.2.2.2.1.slots) (hW : (st.map fun v => v.category).sum ≤ 8) (hd : decode cc pc = .ok (.invokevirtual index, 3)) (kk : ∀ r g', zSim K (h r g') (zAt E D A Q nL κ g' (pc + 3) lv (.int r :: st))) : zSim K (zb (f_X2_strikeLine a g) h) (zAt E D A Q nL κ g pc lv (.ref a :: st)) :=
  z_callV F (n := 0) (As := []) (C := (RX2, TX2, 9)) ⟨q_674, q_10, by decide +kernel, rfl, rfl, hR.1, hR.2⟩ (c_X2_strikeLine E.2.1 D κ.1 κ.2.1 g a hta) hl q_672 q_673 hta rfl rfl rfl hc hW hd kk _ rfl
theorem dX2_runProgram_0 : decode cX2_runProgram 0 = .ok (.aload_n 0, 1) := by decide +kernel
theorem dX2_runProgram_1 : decode cX2_runProgram 1 = .ok (.getfield 30, 3) := by decide +kernel
theorem dX2_runProgram_4 : decode cX2_runProgram 4 = .ok (.getfield 96, 3) := by decide +kernel
theorem dX2_runProgram_7 : decode cX2_runProgram 7 = .ok (.astore_n 1, 1) := by decide +kernel
theorem dX2_runProgram_8 : decode cX2_runProgram 8 = .ok (.iconst 0, 1) := by decide +kernel
theorem dX2_runProgram_9 : decode cX2_runProgram 9 = .ok (.istore_n 2, 1) := by decide +kernel
theorem dX2_runProgram_10 : decode cX2_runProgram 10 = .ok (.iload_n 2, 1) := by decide +kernel
theorem dX2_runProgram_11 : decode cX2_runProgram 11 = .ok (.aload_n 1, 1) := by decide +kernel
theorem dX2_runProgram_12 : decode cX2_runProgram 12 = .ok (.getfield 100, 3) := by decide +kernel
theorem dX2_runProgram_15 : decode cX2_runProgram 15 = .ok (.if_icmp .ge 111, 3) := by decide +kernel
theorem dX2_runProgram_18 : decode cX2_runProgram 18 = .ok (.iconst 1, 1) := by decide +kernel
theorem dX2_runProgram_19 : decode cX2_runProgram 19 = .ok (.istore_n 3, 1) := by decide +kernel
theorem dX2_runProgram_20 : decode cX2_runProgram 20 = .ok (.aload_n 1, 1) := by decide +kernel
theorem dX2_runProgram_21 : decode cX2_runProgram 21 = .ok (.getfield 105, 3) := by decide +kernel
theorem dX2_runProgram_24 : decode cX2_runProgram 24 = .ok (.iload_n 2, 1) := by decide +kernel
theorem dX2_runProgram_25 : decode cX2_runProgram 25 = .ok (.iaload, 1) := by decide +kernel
theorem dX2_runProgram_26 : decode cX2_runProgram 26 = .ok (.tableswitch 67 9 11 #[26, 35, 53], 26) := by decide +kernel
theorem dX2_runProgram_52 : decode cX2_runProgram 52 = .ok (.aload_n 0, 1) := by decide +kernel
theorem dX2_runProgram_53 : decode cX2_runProgram 53 = .ok (.aload_n 1, 1) := by decide +kernel
theorem dX2_runProgram_54 : decode cX2_runProgram 54 = .ok (.iload_n 2, 1) := by decide +kernel
theorem dX2_runProgram_55 : decode cX2_runProgram 55 = .ok (.invokevirtual 108, 3) := by decide +kernel
theorem dX2_runProgram_58 : decode cX2_runProgram 58 = .ok (.goto 56, 3) := by decide +kernel
theorem dX2_runProgram_61 : decode cX2_runProgram 61 = .ok (.aload_n 0, 1) := by decide +kernel
theorem dX2_runProgram_62 : decode cX2_runProgram 62 = .ok (.invokevirtual 112, 3) := by decide +kernel
theorem dX2_runProgram_65 : decode cX2_runProgram 65 = .ok (.bipush (-2), 2) := by decide +kernel
theorem dX2_runProgram_67 : decode cX2_runProgram 67 = .ok (.if_icmp .eq 7, 3) := by decide +kernel
theorem dX2_runProgram_70 : decode cX2_runProgram 70 = .ok (.iconst 1, 1) := by decide +kernel
theorem dX2_runProgram_71 : decode cX2_runProgram 71 = .ok (.goto 4, 3) := by decide +kernel
theorem dX2_runProgram_74 : decode cX2_runProgram 74 = .ok (.iconst 0, 1) := by decide +kernel
theorem dX2_runProgram_75 : decode cX2_runProgram 75 = .ok (.istore_n 3, 1) := by decide +kernel
theorem dX2_runProgram_76 : decode cX2_runProgram 76 = .ok (.goto 38, 3) := by decide +kernel
theorem dX2_runProgram_79 : decode cX2_runProgram 79 = .ok (.aload_n 0, 1) := by decide +kernel
theorem dX2_runProgram_80 : decode cX2_runProgram 80 = .ok (.aload_n 1, 1) := by decide +kernel
theorem dX2_runProgram_81 : decode cX2_runProgram 81 = .ok (.getfield 115, 3) := by decide +kernel
theorem dX2_runProgram_84 : decode cX2_runProgram 84 = .ok (.iload_n 2, 1) := by decide +kernel
theorem dX2_runProgram_85 : decode cX2_runProgram 85 = .ok (.iaload, 1) := by decide +kernel
theorem dX2_runProgram_86 : decode cX2_runProgram 86 = .ok (.invokevirtual 92, 3) := by decide +kernel
theorem dX2_runProgram_89 : decode cX2_runProgram 89 = .ok (.pop, 1) := by decide +kernel
theorem dX2_runProgram_90 : decode cX2_runProgram 90 = .ok (.goto 24, 3) := by decide +kernel
theorem dX2_runProgram_93 : decode cX2_runProgram 93 = .ok (.aload_n 0, 1) := by decide +kernel
theorem dX2_runProgram_94 : decode cX2_runProgram 94 = .ok (.aload_n 1, 1) := by decide +kernel
theorem dX2_runProgram_95 : decode cX2_runProgram 95 = .ok (.getfield 115, 3) := by decide +kernel
theorem dX2_runProgram_98 : decode cX2_runProgram 98 = .ok (.iload_n 2, 1) := by decide +kernel
theorem dX2_runProgram_99 : decode cX2_runProgram 99 = .ok (.iaload, 1) := by decide +kernel
theorem dX2_runProgram_100 : decode cX2_runProgram 100 = .ok (.invokevirtual 118, 3) := by decide +kernel
theorem dX2_runProgram_103 : decode cX2_runProgram 103 = .ok (.bipush (-4), 2) := by decide +kernel
theorem dX2_runProgram_105 : decode cX2_runProgram 105 = .ok (.if_icmp .eq 7, 3) := by decide +kernel
theorem dX2_runProgram_108 : decode cX2_runProgram 108 = .ok (.iconst 1, 1) := by decide +kernel
theorem dX2_runProgram_109 : decode cX2_runProgram 109 = .ok (.goto 4, 3) := by decide +kernel
theorem dX2_runProgram_112 : decode cX2_runProgram 112 = .ok (.iconst 0, 1) := by decide +kernel
theorem dX2_runProgram_113 : decode cX2_runProgram 113 = .ok (.istore_n 3, 1) := by decide +kernel
theorem dX2_runProgram_114 : decode cX2_runProgram 114 = .ok (.iload_n 3, 1) := by decide +kernel
theorem dX2_runProgram_115 : decode cX2_runProgram 115 = .ok (.ifCond .ne 5, 3) := by decide +kernel
theorem dX2_runProgram_118 : decode cX2_runProgram 118 = .ok (.iload_n 2, 1) := by decide +kernel
theorem dX2_runProgram_119 : decode cX2_runProgram 119 = .ok (.ireturn, 1) := by decide +kernel
theorem dX2_runProgram_120 : decode cX2_runProgram 120 = .ok (.iinc 2 1, 3) := by decide +kernel
theorem dX2_runProgram_123 : decode cX2_runProgram 123 = .ok (.goto (-113), 3) := by decide +kernel
theorem dX2_runProgram_126 : decode cX2_runProgram 126 = .ok (.aload_n 1, 1) := by decide +kernel
theorem dX2_runProgram_127 : decode cX2_runProgram 127 = .ok (.getfield 100, 3) := by decide +kernel
theorem dX2_runProgram_130 : decode cX2_runProgram 130 = .ok (.ireturn, 1) := by decide +kernel
def j_X2_runProgram_118 (a : Nat) (l2 : Int32) (g : zG) : Option (Int32 × zG) :=
  some ((l2, g))
def j_X2_runProgram_114_10 (a : Nat) (l1 : Nat) (l2 : Int32) (l3 : Int32) (g : zG) : Option ((Int32 × zG) ⊕ ((Int32 × zG) ⊕ (Int32 × zG))) :=
  if l3 = 0 then (some (.inr (.inl (l2, g)))) else (zl (l2 + 1) (fun v6 => some (.inl (v6, g))))
def j_X2_runProgram_113_10 (a : Nat) (l1 : Nat) (l2 : Int32) (s0 : Int32) (g : zG) : Option ((Int32 × zG) ⊕ ((Int32 × zG) ⊕ (Int32 × zG))) :=
  j_X2_runProgram_114_10 a l1 l2 s0 g
def j_X2_runProgram_75_10 (a : Nat) (l1 : Nat) (l2 : Int32) (s0 : Int32) (g : zG) : Option ((Int32 × zG) ⊕ ((Int32 × zG) ⊕ (Int32 × zG))) :=
  j_X2_runProgram_114_10 a l1 l2 s0 g
def l_X2_runProgram_10 (a : Nat) (l1 : Nat) (l2 : Int32) (g : zG) : Option ((Int32 × zG) ⊕ ((Int32 × zG) ⊕ (Int32 × zG))) :=
  if (g.1 l1 5) ≤ l2 then (some (.inr (.inr (g.1 l1 5, g)))) else (zc (zin l2 24) (zl (g.1 (g.2.1 l1 0) l2.toNatClampNeg) (fun v9 => if v9 = 9 then (zb (f_X2_fillLine a l1 l2 g) (fun v11 g12 => j_X2_runProgram_114_10 a l1 l2 1 g12)) else (if v9 = 10 then (zb (f_X2_strikeLine a g) (fun v14 g15 => if v14 = (-2) then (j_X2_runProgram_75_10 a l1 l2 0 g15) else (j_X2_runProgram_75_10 a l1 l2 1 g15))) else (if v9 = 11 then (zc (zin l2 24) (zb (f_X2_moveBy a (g.1 (g.2.1 l1 1) l2.toNatClampNeg) g) (fun v19 g20 => j_X2_runProgram_114_10 a l1 l2 1 g20))) else (zc (zin l2 24) (zb (f_X2_moveToHole a (g.1 (g.2.1 l1 1) l2.toNatClampNeg) g) (fun v22 g23 => if v22 = (-4) then (j_X2_runProgram_113_10 a l1 l2 0 g23) else (j_X2_runProgram_113_10 a l1 l2 1 g23)))))))))
def f_X2_runProgram (a : Nat) (g : zG) : Option (Int32 × zG) :=
  zl (g.2.1 (g.2.1 a 7) 1) (fun r3 => zk2 (zw zN (fun s => l_X2_runProgram_10 a r3 s.1 s.2) (0, g)) (fun x => j_X2_runProgram_118 a x.1 x.2))
abbrev rm_X2_runProgram : Room := { frames := 4, cells := 0, slots := 0, locals := 104 }
set_option maxRecDepth 100000 in
set_option maxHeartbeats 4000000 in
theorem c_X2_runProgram (l : Launch) (D : zD) (sz : Nat) (τ : zT) (g : zG) (a : Nat) (hta : τ a = some (.inr 2)) : zCon l D yX2_runProgram cX2_runProgram 4 (some .int) rm_X2_runProgram 0 0 zrI [.ref a] sz τ g τ (f_X2_runProgram a g) := by
  refine zCon.of (by decide) (Nat.le_of_ble_eq_true rfl) (fun E r g' hl hR hsz hnm F => ?_)
  have F : zF E D (zA τ sz) cX2_runProgram "TypeChain$Printer" 4 (some .int) := F
  show zSim (fun q : Int32 × zG => q = (r, g')) (f_X2_runProgram a g) (zAt E D (zA τ sz) (zQ E D zrI 0 0 sz τ τ r g') 4 (sz, τ, 0, 0) g 0 [(0, .ref a)] [])
  have hj_X2_runProgram_118 : ∀ (l2_118 : Int32) (g_118 : zG), zSim (fun q : Int32 × zG => q = (r, g')) (j_X2_runProgram_118 a l2_118 g_118) (zAt E D (zA τ sz) (zQ E D zrI 0 0 sz τ τ r g') 4 (sz, τ, 0, 0) g_118 118 [(2, .int l2_118)] []) := by
    intro l2_118 g_118
    unfold j_X2_runProgram_118
    refine z_iload_n F 0 rfl rfl dX2_runProgram_118 ?_
    exact z_ireturn F rfl rfl rfl rfl (fun h => h) dX2_runProgram_119
  unfold f_X2_runProgram
  refine z_aload_n F 0 rfl rfl dX2_runProgram_0 ?_
  refine gf_X2_30 F hta dX2_runProgram_1 (fun ht1 => ?_)
  refine gf_X2_96 F ht1 dX2_runProgram_4 (fun ht2 => ?_)
  refine z_letr ht2 (fun r3 ht4 => ?_)
  refine z_astore_n (lv' := [(1, .ref r3), (0, .ref a)]) F rfl (by decide) dX2_runProgram_7 rfl ?_
  refine z_iconst (v := 0) F (by decide) dX2_runProgram_8 ?_
  refine z_istore_n (lv' := [(2, .int 0), (1, .ref r3), (0, .ref a)]) F rfl (by decide) dX2_runProgram_9 rfl ?_
  refine z_sub (lv' := [(0, .ref a), (1, .ref r3), (2, .int 0)]) [2, 1, 0] rfl ?_
  refine z_loop2 (P := fun s : Int32 × zG => zAt E D (zA τ sz) (zQ E D zrI 0 0 sz τ τ r g') 4 (sz, τ, 0, 0) s.2 10 [(0, .ref a), (1, .ref r3), (2, .int s.1)] []) (Px := fun x : Int32 × zG => zAt E D (zA τ sz) (zQ E D zrI 0 0 sz τ τ r g') 4 (sz, τ, 0, 0) x.2 118 [(2, .int x.1)] []) (0, g) (fun s => ?_) (fun x => ?_)
  · obtain ⟨l2_10, g_10⟩ := s
    show zSim (zKl (fun s : Int32 × zG => zAt E D (zA τ sz) (zQ E D zrI 0 0 sz τ τ r g') 4 (sz, τ, 0, 0) s.2 10 [(0, .ref a), (1, .ref r3), (2, .int s.1)] []) (zKl (fun x : Int32 × zG => zAt E D (zA τ sz) (zQ E D zrI 0 0 sz τ τ r g') 4 (sz, τ, 0, 0) x.2 118 [(2, .int x.1)] []) (fun q : Int32 × zG => q = (r, g')))) (l_X2_runProgram_10 a r3 l2_10 g_10) (zAt E D (zA τ sz) (zQ E D zrI 0 0 sz τ τ r g') 4 (sz, τ, 0, 0) g_10 10 [(0, .ref a), (1, .ref r3), (2, .int l2_10)] [])
    have hj_X2_runProgram_114_10 : ∀ (l2_114 : Int32) (l3_114 : Int32) (g_114 : zG), zSim (zKl (fun s : Int32 × zG => zAt E D (zA τ sz) (zQ E D zrI 0 0 sz τ τ r g') 4 (sz, τ, 0, 0) s.2 10 [(0, .ref a), (1, .ref r3), (2, .int s.1)] []) (zKl (fun x : Int32 × zG => zAt E D (zA τ sz) (zQ E D zrI 0 0 sz τ τ r g') 4 (sz, τ, 0, 0) x.2 118 [(2, .int x.1)] []) (fun q : Int32 × zG => q = (r, g')))) (j_X2_runProgram_114_10 a r3 l2_114 l3_114 g_114) (zAt E D (zA τ sz) (zQ E D zrI 0 0 sz τ τ r g') 4 (sz, τ, 0, 0) g_114 114 [(0, .ref a), (1, .ref r3), (2, .int l2_114), (3, .int l3_114)] []) := by
      intro l2_114 l3_114 g_114
      unfold j_X2_runProgram_114_10
      refine z_iload_n F 3 rfl rfl dX2_runProgram_114 ?_
      refine z_if_ne (tgt := 120) F dX2_runProgram_115 (by decide) (fun c5 => ?_) (fun c5 => ?_)
      · refine z_sub (lv' := [(2, .int l2_114)]) [2] rfl ?_
        exact z_back (fun h => h)
      · refine z_iincl (lv' := fun v6 => [(2, .int v6), (0, .ref a), (1, .ref r3), (3, .int l3_114)]) F 2 rfl (by decide) (by decide) dX2_runProgram_120 (fun _ => rfl) (fun v6 => ?_)
        refine z_goto (tgt := 10) F dX2_runProgram_123 (by decide) ?_
        refine z_sub (lv' := [(0, .ref a), (1, .ref r3), (2, .int v6)]) [1, 2, 0] rfl ?_
        exact z_back (fun h => h)
    have hj_X2_runProgram_113_10 : ∀ (l2_113 : Int32) (s0_113 : Int32) (g_113 : zG), zSim (zKl (fun s : Int32 × zG => zAt E D (zA τ sz) (zQ E D zrI 0 0 sz τ τ r g') 4 (sz, τ, 0, 0) s.2 10 [(0, .ref a), (1, .ref r3), (2, .int s.1)] []) (zKl (fun x : Int32 × zG => zAt E D (zA τ sz) (zQ E D zrI 0 0 sz τ τ r g') 4 (sz, τ, 0, 0) x.2 118 [(2, .int x.1)] []) (fun q : Int32 × zG => q = (r, g')))) (j_X2_runProgram_113_10 a r3 l2_113 s0_113 g_113) (zAt E D (zA τ sz) (zQ E D zrI 0 0 sz τ τ r g') 4 (sz, τ, 0, 0) g_113 113 [(0, .ref a), (1, .ref r3), (2, .int l2_113)] [.int s0_113]) := by
      intro l2_113 s0_113 g_113
      unfold j_X2_runProgram_113_10
      refine z_istore_n (lv' := [(3, .int s0_113), (0, .ref a), (1, .ref r3), (2, .int l2_113)]) F rfl (by decide) dX2_runProgram_113 rfl ?_
      refine z_sub (lv' := [(0, .ref a), (1, .ref r3), (2, .int l2_113), (3, .int s0_113)]) [1, 2, 3, 0] rfl ?_
      exact hj_X2_runProgram_114_10 l2_113 s0_113 g_113
    have hj_X2_runProgram_75_10 : ∀ (l2_75 : Int32) (s0_75 : Int32) (g_75 : zG), zSim (zKl (fun s : Int32 × zG => zAt E D (zA τ sz) (zQ E D zrI 0 0 sz τ τ r g') 4 (sz, τ, 0, 0) s.2 10 [(0, .ref a), (1, .ref r3), (2, .int s.1)] []) (zKl (fun x : Int32 × zG => zAt E D (zA τ sz) (zQ E D zrI 0 0 sz τ τ r g') 4 (sz, τ, 0, 0) x.2 118 [(2, .int x.1)] []) (fun q : Int32 × zG => q = (r, g')))) (j_X2_runProgram_75_10 a r3 l2_75 s0_75 g_75) (zAt E D (zA τ sz) (zQ E D zrI 0 0 sz τ τ r g') 4 (sz, τ, 0, 0) g_75 75 [(0, .ref a), (1, .ref r3), (2, .int l2_75)] [.int s0_75]) := by
      intro l2_75 s0_75 g_75
      unfold j_X2_runProgram_75_10
      refine z_istore_n (lv' := [(3, .int s0_75), (0, .ref a), (1, .ref r3), (2, .int l2_75)]) F rfl (by decide) dX2_runProgram_75 rfl ?_
      refine z_goto (tgt := 114) F dX2_runProgram_76 (by decide) ?_
      refine z_sub (lv' := [(0, .ref a), (1, .ref r3), (2, .int l2_75), (3, .int s0_75)]) [1, 2, 3, 0] rfl ?_
      exact hj_X2_runProgram_114_10 l2_75 s0_75 g_75
    unfold l_X2_runProgram_10
    refine z_iload_n F 2 rfl rfl dX2_runProgram_10 ?_
    refine z_aload_n F 1 rfl rfl dX2_runProgram_11 ?_
    refine gf_X2_100 F ht4 dX2_runProgram_12 ?_
    refine z_icmp_ge (tgt := 126) F dX2_runProgram_15 (by decide) (fun c7 => ?_) (fun c7 => ?_)
    · refine z_aload_n F 1 rfl rfl dX2_runProgram_126 ?_
      refine gf_X2_100 F ht4 dX2_runProgram_127 ?_
      exact z_ireturn F rfl rfl rfl rfl (fun h => h) dX2_runProgram_130
    · refine z_iconst (v := 1) F (by decide) dX2_runProgram_18 ?_
      refine z_istore_n (lv' := [(3, .int 1), (0, .ref a), (1, .ref r3), (2, .int l2_10)]) F rfl (by decide) dX2_runProgram_19 rfl ?_
      refine z_aload_n F 2 rfl rfl dX2_runProgram_20 ?_
      refine gf_X2_105 F ht4 dX2_runProgram_21 (fun ht8 => ?_)
      refine z_iload_n F 3 rfl rfl dX2_runProgram_24 ?_
      refine z_iald F ht8 dX2_runProgram_25 ?_
      refine z_leti (fun v9 => ?_)
      refine z_ite (fun c10 => ?_) (fun c10 => ?_)
      · refine z_tableIn (tgt := 52) F 9 c10 dX2_runProgram_26 (by decide) (by decide) rfl (by decide) ?_
        refine z_aload_n F 1 rfl rfl dX2_runProgram_52 ?_
        refine z_aload_n F 2 rfl rfl dX2_runProgram_53 ?_
        refine z_iload_n F 3 rfl rfl dX2_runProgram_54 ?_
        refine k_X2_fillLine F (by rw [hR]; exact ⟨by decide, by decide⟩) q_758 hta ht4 ⟨Nat.zero_le _, Nat.zero_le _⟩ (Nat.le_of_ble_eq_true rfl) dX2_runProgram_55 (fun v11 g12 => ?_)
        refine z_goto (tgt := 114) F dX2_runProgram_58 (by decide) ?_
        refine z_sub (lv' := [(0, .ref a), (1, .ref r3), (2, .int l2_10), (3, .int 1)]) [1, 2, 3, 0] rfl ?_
        exact hj_X2_runProgram_114_10 l2_10 1 g12
      ·
        refine z_ite (fun c13 => ?_) (fun c13 => ?_)
        · refine z_tableIn (tgt := 61) F 10 c13 dX2_runProgram_26 (by decide) (by decide) rfl (by decide) ?_
          refine z_aload_n F 1 rfl rfl dX2_runProgram_61 ?_
          refine k_X2_strikeLine F (by rw [hR]; exact ⟨by decide, by decide⟩) q_764 hta ⟨Nat.zero_le _, Nat.zero_le _⟩ (Nat.le_of_ble_eq_true rfl) dX2_runProgram_62 (fun v14 g15 => ?_)
          refine z_bipush (v := (-2)) F (by decide) dX2_runProgram_65 ?_
          refine z_icmp_eq (tgt := 74) F dX2_runProgram_67 (by decide) (fun c16 => ?_) (fun c16 => ?_)
          · refine z_iconst (v := 0) F (by decide) dX2_runProgram_74 ?_
            refine z_sub (lv' := [(0, .ref a), (1, .ref r3), (2, .int l2_10)]) [1, 2, 3] rfl ?_
            exact hj_X2_runProgram_75_10 l2_10 0 g15
          · refine z_iconst (v := 1) F (by decide) dX2_runProgram_70 ?_
            refine z_goto (tgt := 75) F dX2_runProgram_71 (by decide) ?_
            refine z_sub (lv' := [(0, .ref a), (1, .ref r3), (2, .int l2_10)]) [1, 2, 3] rfl ?_
            exact hj_X2_runProgram_75_10 l2_10 1 g15
        ·
          refine z_ite (fun c17 => ?_) (fun c17 => ?_)
          · refine z_tableIn (tgt := 79) F 11 c17 dX2_runProgram_26 (by decide) (by decide) rfl (by decide) ?_
            refine z_aload_n F 1 rfl rfl dX2_runProgram_79 ?_
            refine z_aload_n F 2 rfl rfl dX2_runProgram_80 ?_
            refine gf_X2_115 F ht4 dX2_runProgram_81 (fun ht18 => ?_)
            refine z_iload_n F 3 rfl rfl dX2_runProgram_84 ?_
            refine z_iald F ht18 dX2_runProgram_85 ?_
            refine k_X2_moveBy F (by rw [hR]; exact ⟨by decide, by decide⟩) q_737 hta ⟨Nat.zero_le _, Nat.zero_le _⟩ (Nat.le_of_ble_eq_true rfl) dX2_runProgram_86 (fun v19 g20 => ?_)
            refine z_pop F rfl dX2_runProgram_89 ?_
            refine z_goto (tgt := 114) F dX2_runProgram_90 (by decide) ?_
            refine z_sub (lv' := [(0, .ref a), (1, .ref r3), (2, .int l2_10), (3, .int 1)]) [1, 2, 3, 0] rfl ?_
            exact hj_X2_runProgram_114_10 l2_10 1 g20
          ·
            refine z_tableOut (tgt := 93) F dX2_runProgram_26 (by have e0 := lv_neT (a := 9) c10 (by decide); have e1 := lv_neT (a := 10) c13 (by decide); have e2 := lv_neT (a := 11) c17 (by decide); omega) (by decide) ?_
            refine z_aload_n F 1 rfl rfl dX2_runProgram_93 ?_
            refine z_aload_n F 2 rfl rfl dX2_runProgram_94 ?_
            refine gf_X2_115 F ht4 dX2_runProgram_95 (fun ht21 => ?_)
            refine z_iload_n F 3 rfl rfl dX2_runProgram_98 ?_
            refine z_iald F ht21 dX2_runProgram_99 ?_
            refine k_X2_moveToHole F (by rw [hR]; exact ⟨by decide, by decide⟩) q_765 hta ⟨Nat.zero_le _, Nat.zero_le _⟩ (Nat.le_of_ble_eq_true rfl) dX2_runProgram_100 (fun v22 g23 => ?_)
            refine z_bipush (v := (-4)) F (by decide) dX2_runProgram_103 ?_
            refine z_icmp_eq (tgt := 112) F dX2_runProgram_105 (by decide) (fun c24 => ?_) (fun c24 => ?_)
            · refine z_iconst (v := 0) F (by decide) dX2_runProgram_112 ?_
              refine z_sub (lv' := [(0, .ref a), (1, .ref r3), (2, .int l2_10)]) [1, 2, 3] rfl ?_
              exact hj_X2_runProgram_113_10 l2_10 0 g23
            · refine z_iconst (v := 1) F (by decide) dX2_runProgram_108 ?_
              refine z_goto (tgt := 113) F dX2_runProgram_109 (by decide) ?_
              refine z_sub (lv' := [(0, .ref a), (1, .ref r3), (2, .int l2_10)]) [1, 2, 3] rfl ?_
              exact hj_X2_runProgram_113_10 l2_10 1 g23
  · show zSim (fun q : Int32 × zG => q = (r, g')) (j_X2_runProgram_118 a x.1 x.2) (zAt E D (zA τ sz) (zQ E D zrI 0 0 sz τ τ r g') 4 (sz, τ, 0, 0) x.2 118 [(2, .int x.1)] [])
    exact hj_X2_runProgram_118 x.1 x.2
theorem k_X2_runProgram {ρ : Type} {K : ρ → Prop} {E : zE} {D : zD} {A : Nat → Prop} {Q : State → Prop} {nL : Nat} {κ : zC} {g : zG} {pc : Nat} {lv : List (Nat × Value)} {st : List Value} {cc : ByteArray} {own : String} {ret : Option FieldType} (F : zF E D A cc own nL ret) {index : Nat} {h : Int32 → zG → Option ρ} {a : Nat}  (hR : 4 + 1 ≤ E.2.2.2.1.frames ∧ 8 + (4 + 11) + 104 ≤ E.2.2.2.1.locals) (hl : zTbl (.methodLink own index yX2_runProgram)) (hta : κ.2.1 a = some (.inr 2)) (hc : κ.2.2.1 ≤ E.2.2.2.1.cells ∧ κ.2.2.2 ≤ E.2.2.2.1.slots) (hW : (st.map fun v => v.category).sum ≤ 8) (hd : decode cc pc = .ok (.invokevirtual index, 3)) (kk : ∀ r g', zSim K (h r g') (zAt E D A Q nL κ g' (pc + 3) lv (.int r :: st))) : zSim K (zb (f_X2_runProgram a g) h) (zAt E D A Q nL κ g pc lv (.ref a :: st)) :=
  z_callV F (n := 0) (As := []) (C := (RX2, TX2, 9)) ⟨q_757, q_10, by decide +kernel, rfl, rfl, hR.1, hR.2⟩ (c_X2_runProgram E.2.1 D κ.1 κ.2.1 g a hta) hl q_755 q_756 hta rfl rfl rfl hc hW hd kk _ rfl
