theorem dX1_clear_0 : decode cX1_clear 0 = .ok (.aload_n 0, 1) := by decide +kernel
theorem dX1_clear_1 : decode cX1_clear 1 = .ok (.getfield 9, 3) := by decide +kernel
theorem dX1_clear_4 : decode cX1_clear 4 = .ok (.iconst 0, 1) := by decide +kernel
theorem dX1_clear_5 : decode cX1_clear 5 = .ok (.invokestatic 18, 3) := by decide +kernel
theorem dX1_clear_8 : decode cX1_clear 8 = .ok (.aload_n 0, 1) := by decide +kernel
theorem dX1_clear_9 : decode cX1_clear 9 = .ok (.getfield 15, 3) := by decide +kernel
theorem dX1_clear_12 : decode cX1_clear 12 = .ok (.iconst 0, 1) := by decide +kernel
theorem dX1_clear_13 : decode cX1_clear 13 = .ok (.invokestatic 18, 3) := by decide +kernel
theorem dX1_clear_16 : decode cX1_clear 16 = .ok (.return_, 1) := by decide +kernel
def f_X1_clear (a : Nat) (g : zG) : Option (Int32 × zG) :=
  zb (f_J7_fill_53178 2400 (g.2.1 a 0) 0 g) (fun v2 g3 => zb (f_J7_fill_53178 2400 (g3.2.1 a 1) 0 g3) (fun v5 g6 => some ((0, g6))))
abbrev rm_X1_clear : Room := { frames := 1, cells := 0, slots := 0, locals := 23 }
set_option maxRecDepth 100000 in
set_option maxHeartbeats 4000000 in
theorem c_X1_clear (l : Launch) (D : zD) (sz : Nat) (τ : zT) (g : zG) (a : Nat) (hta : τ a = some (.inr 1)) : zCon l D yX1_clear cX1_clear 1 none rm_X1_clear 0 0 zrV [.ref a] sz τ g τ (f_X1_clear a g) := by
  refine zCon.of (by decide) (Nat.le_of_ble_eq_true rfl) (fun E r g' hl hR hsz hnm F => ?_)
  have F : zF E D (zA τ sz) cX1_clear "TypeChain$Page" 1 none := F
  show zSim (fun q : Int32 × zG => q = (r, g')) (f_X1_clear a g) (zAt E D (zA τ sz) (zQ E D zrV 0 0 sz τ τ r g') 1 (sz, τ, 0, 0) g 0 [(0, .ref a)] [])
  unfold f_X1_clear
  refine z_aload_n F 0 rfl rfl dX1_clear_0 ?_
  refine gf_X1_9 F hta dX1_clear_1 (fun ht1 => ?_)
  refine z_iconst (v := 0) F (by decide) dX1_clear_4 ?_
  refine k_J7_fill_53178 F (by rw [hR]; exact ⟨by decide, by decide⟩) q_285 ht1 ⟨Nat.zero_le _, Nat.zero_le _⟩ (Nat.le_of_ble_eq_true rfl) dX1_clear_5 (fun v2 g3 => ?_)
  refine z_aload_n F 0 rfl rfl dX1_clear_8 ?_
  refine gf_X1_15 F hta dX1_clear_9 (fun ht4 => ?_)
  refine z_iconst (v := 0) F (by decide) dX1_clear_12 ?_
  refine k_J7_fill_53178 F (by rw [hR]; exact ⟨by decide, by decide⟩) q_285 ht4 ⟨Nat.zero_le _, Nat.zero_le _⟩ (Nat.le_of_ble_eq_true rfl) dX1_clear_13 (fun v5 g6 => ?_)
  exact z_vreturn F rfl rfl rfl rfl (fun h => h) dX1_clear_16
theorem k_X1_clear {ρ : Type} {K : ρ → Prop} {E : zE} {D : zD} {A : Nat → Prop} {Q : State → Prop} {nL : Nat} {κ : zC} {g : zG} {pc : Nat} {lv : List (Nat × Value)} {st : List Value} {cc : ByteArray} {own : String} {ret : Option FieldType} (F : zF E D A cc own nL ret) {index : Nat} {h : Int32 → zG → Option ρ} {a : Nat}  (hR : 1 + 1 ≤ E.2.2.2.1.frames ∧ 8 + (1 + 11) + 23 ≤ E.2.2.2.1.locals) (hl : zTbl (.methodLink own index yX1_clear)) (hta : κ.2.1 a = some (.inr 1)) (hc : κ.2.2.1 ≤ E.2.2.2.1.cells ∧ κ.2.2.2 ≤ E.2.2.2.1.slots) (hW : (st.map fun v => v.category).sum ≤ 8) (hd : decode cc pc = .ok (.invokevirtual index, 3)) (kk : ∀ r g', zSim K (h r g') (zAt E D A Q nL κ g' (pc + 3) lv (st))) : zSim K (zb (f_X1_clear a g) h) (zAt E D A Q nL κ g pc lv (.ref a :: st)) :=
  z_callV F (n := 0) (As := []) (C := (RX1, TX1, 2)) ⟨q_284, q_9, by decide +kernel, rfl, rfl, hR.1, hR.2⟩ (c_X1_clear E.2.1 D κ.1 κ.2.1 g a hta) hl q_282 q_283 hta rfl rfl rfl hc hW hd kk _ rfl
theorem dX1_mark_0 : decode cX1_mark 0 = .ok (.iload_n 1, 1) := by decide +kernel
theorem dX1_mark_1 : decode cX1_mark 1 = .ok (.bipush 40, 2) := by decide +kernel
theorem dX1_mark_3 : decode cX1_mark 3 = .ok (.imul, 1) := by decide +kernel
theorem dX1_mark_4 : decode cX1_mark 4 = .ok (.iload_n 2, 1) := by decide +kernel
theorem dX1_mark_5 : decode cX1_mark 5 = .ok (.iadd, 1) := by decide +kernel
theorem dX1_mark_6 : decode cX1_mark 6 = .ok (.istore 4, 2) := by decide +kernel
theorem dX1_mark_8 : decode cX1_mark 8 = .ok (.aload_n 0, 1) := by decide +kernel
theorem dX1_mark_9 : decode cX1_mark 9 = .ok (.getfield 9, 3) := by decide +kernel
theorem dX1_mark_12 : decode cX1_mark 12 = .ok (.iload 4, 2) := by decide +kernel
theorem dX1_mark_14 : decode cX1_mark 14 = .ok (.iload_n 3, 1) := by decide +kernel
theorem dX1_mark_15 : decode cX1_mark 15 = .ok (.iastore, 1) := by decide +kernel
theorem dX1_mark_16 : decode cX1_mark 16 = .ok (.aload_n 0, 1) := by decide +kernel
theorem dX1_mark_17 : decode cX1_mark 17 = .ok (.getfield 15, 3) := by decide +kernel
theorem dX1_mark_20 : decode cX1_mark 20 = .ok (.iload 4, 2) := by decide +kernel
theorem dX1_mark_22 : decode cX1_mark 22 = .ok (.dup2, 1) := by decide +kernel
theorem dX1_mark_23 : decode cX1_mark 23 = .ok (.iaload, 1) := by decide +kernel
theorem dX1_mark_24 : decode cX1_mark 24 = .ok (.iconst 1, 1) := by decide +kernel
theorem dX1_mark_25 : decode cX1_mark 25 = .ok (.iadd, 1) := by decide +kernel
theorem dX1_mark_26 : decode cX1_mark 26 = .ok (.iastore, 1) := by decide +kernel
theorem dX1_mark_27 : decode cX1_mark 27 = .ok (.return_, 1) := by decide +kernel
def f_X1_mark (a : Nat) (x1 : Int32) (x2 : Int32) (x3 : Int32) (g : zG) : Option (Int32 × zG) :=
  zl ((x1 * 40) + x2) (fun v1 => zc (zin v1 2400) (zl (zsi g (g.2.1 a 0) v1.toNatClampNeg x3) (fun g3 => zc (zin v1 2400) (zc (zin v1 2400) (zl (zsi g3 (g3.2.1 a 1) v1.toNatClampNeg ((g3.1 (g3.2.1 a 1) v1.toNatClampNeg) + 1)) (fun g5 => some ((0, g5))))))))
abbrev rm_X1_mark : Room := { frames := 0, cells := 0, slots := 0, locals := 0 }
set_option maxRecDepth 100000 in
set_option maxHeartbeats 4000000 in
theorem c_X1_mark (l : Launch) (D : zD) (sz : Nat) (τ : zT) (g : zG) (a : Nat) (x1 : Int32) (x2 : Int32) (x3 : Int32) (hta : τ a = some (.inr 1)) : zCon l D yX1_mark cX1_mark 5 none rm_X1_mark 0 0 zrV [.ref a, .int x1, .int x2, .int x3] sz τ g τ (f_X1_mark a x1 x2 x3 g) := by
  refine zCon.of (by decide) (Nat.le_of_ble_eq_true rfl) (fun E r g' hl hR hsz hnm F => ?_)
  have F : zF E D (zA τ sz) cX1_mark "TypeChain$Page" 5 none := F
  show zSim (fun q : Int32 × zG => q = (r, g')) (f_X1_mark a x1 x2 x3 g) (zAt E D (zA τ sz) (zQ E D zrV 0 0 sz τ τ r g') 5 (sz, τ, 0, 0) g 0 [(0, .ref a), (1, .int x1), (2, .int x2), (3, .int x3)] [])
  unfold f_X1_mark
  refine z_iload_n F 1 rfl rfl dX1_mark_0 ?_
  refine z_bipush (v := 40) F (by decide) dX1_mark_1 ?_
  refine z_imul F dX1_mark_3 ?_
  refine z_iload_n F 2 rfl rfl dX1_mark_4 ?_
  refine z_iadd F dX1_mark_5 ?_
  refine z_leti (fun v1 => ?_)
  refine z_istore (lv' := [(4, .int v1), (0, .ref a), (1, .int x1), (2, .int x2), (3, .int x3)]) F (by decide) dX1_mark_6 rfl ?_
  refine z_aload_n F 1 rfl rfl dX1_mark_8 ?_
  refine gf_X1_9 F hta dX1_mark_9 (fun ht2 => ?_)
  refine z_iload F 0 rfl dX1_mark_12 ?_
  refine z_iload_n F 4 rfl rfl dX1_mark_14 ?_
  refine z_iast F ht2 dX1_mark_15 ?_
  refine z_letg (fun g3 => ?_)
  refine z_aload_n F 1 rfl rfl dX1_mark_16 ?_
  refine gf_X1_15 F hta dX1_mark_17 (fun ht4 => ?_)
  refine z_iload F 0 rfl dX1_mark_20 ?_
  refine z_dup2 F rfl rfl dX1_mark_22 ?_
  refine z_iald F ht4 dX1_mark_23 ?_
  refine z_iconst (v := 1) F (by decide) dX1_mark_24 ?_
  refine z_iadd F dX1_mark_25 ?_
  refine z_iast F ht4 dX1_mark_26 ?_
  refine z_letg (fun g5 => ?_)
  exact z_vreturn F rfl rfl rfl rfl (fun h => h) dX1_mark_27
theorem k_X1_mark {ρ : Type} {K : ρ → Prop} {E : zE} {D : zD} {A : Nat → Prop} {Q : State → Prop} {nL : Nat} {κ : zC} {g : zG} {pc : Nat} {lv : List (Nat × Value)} {st : List Value} {cc : ByteArray} {own : String} {ret : Option FieldType} (F : zF E D A cc own nL ret) {index : Nat} {h : Int32 → zG → Option ρ} {a : Nat} {x1 : Int32} {x2 : Int32} {x3 : Int32}  (hR : 0 + 1 ≤ E.2.2.2.1.frames ∧ 8 + (5 + 11) + 0 ≤ E.2.2.2.1.locals) (hl : zTbl (.methodLink own index yX1_mark)) (hta : κ.2.1 a = some (.inr 1)) (hc : κ.2.2.1 ≤ E.2.2.2.1.cells ∧ κ.2.2.2 ≤ E.2.2.2.1.slots) (hW : (st.map fun v => v.category).sum ≤ 8) (hd : decode cc pc = .ok (.invokevirtual index, 3)) (kk : ∀ r g', zSim K (h r g') (zAt E D A Q nL κ g' (pc + 3) lv (st))) : zSim K (zb (f_X1_mark a x1 x2 x3 g) h) (zAt E D A Q nL κ g pc lv (.int x3 :: .int x2 :: .int x1 :: .ref a :: st)) :=
  z_callV F (n := 3) (As := [.int x1, .int x2, .int x3]) (C := (RX1, TX1, 2)) ⟨q_684, q_9, by decide +kernel, rfl, rfl, hR.1, hR.2⟩ (c_X1_mark E.2.1 D κ.1 κ.2.1 g a x1 x2 x3 hta) hl q_682 q_683 hta rfl rfl rfl hc hW hd kk _ rfl
theorem dX1_placesStruck_0 : decode cX1_placesStruck 0 = .ok (.iconst 0, 1) := by decide +kernel
theorem dX1_placesStruck_1 : decode cX1_placesStruck 1 = .ok (.istore_n 2, 1) := by decide +kernel
theorem dX1_placesStruck_2 : decode cX1_placesStruck 2 = .ok (.iconst 0, 1) := by decide +kernel
theorem dX1_placesStruck_3 : decode cX1_placesStruck 3 = .ok (.istore_n 3, 1) := by decide +kernel
theorem dX1_placesStruck_4 : decode cX1_placesStruck 4 = .ok (.iload_n 3, 1) := by decide +kernel
theorem dX1_placesStruck_5 : decode cX1_placesStruck 5 = .ok (.aload_n 0, 1) := by decide +kernel
theorem dX1_placesStruck_6 : decode cX1_placesStruck 6 = .ok (.getfield 15, 3) := by decide +kernel
theorem dX1_placesStruck_9 : decode cX1_placesStruck 9 = .ok (.arraylength, 1) := by decide +kernel
theorem dX1_placesStruck_10 : decode cX1_placesStruck 10 = .ok (.if_icmp .ge 22, 3) := by decide +kernel
theorem dX1_placesStruck_13 : decode cX1_placesStruck 13 = .ok (.aload_n 0, 1) := by decide +kernel
theorem dX1_placesStruck_14 : decode cX1_placesStruck 14 = .ok (.getfield 15, 3) := by decide +kernel
theorem dX1_placesStruck_17 : decode cX1_placesStruck 17 = .ok (.iload_n 3, 1) := by decide +kernel
theorem dX1_placesStruck_18 : decode cX1_placesStruck 18 = .ok (.iaload, 1) := by decide +kernel
theorem dX1_placesStruck_19 : decode cX1_placesStruck 19 = .ok (.iload_n 1, 1) := by decide +kernel
theorem dX1_placesStruck_20 : decode cX1_placesStruck 20 = .ok (.if_icmp .lt 6, 3) := by decide +kernel
theorem dX1_placesStruck_23 : decode cX1_placesStruck 23 = .ok (.iinc 2 1, 3) := by decide +kernel
theorem dX1_placesStruck_26 : decode cX1_placesStruck 26 = .ok (.iinc 3 1, 3) := by decide +kernel
theorem dX1_placesStruck_29 : decode cX1_placesStruck 29 = .ok (.goto (-25), 3) := by decide +kernel
theorem dX1_placesStruck_32 : decode cX1_placesStruck 32 = .ok (.iload_n 2, 1) := by decide +kernel
theorem dX1_placesStruck_33 : decode cX1_placesStruck 33 = .ok (.ireturn, 1) := by decide +kernel
def j_X1_placesStruck_32 (a : Nat) (l2 : Int32) (g : zG) : Option (Int32 × zG) :=
  some ((l2, g))
def l_X1_placesStruck_4 (a : Nat) (l1 : Int32) (g : zG) (l2 : Int32) (l3 : Int32) : Option ((Int32 × Int32) ⊕ (Int32)) :=
  if 2400 ≤ l3 then (some (.inr l2)) else (zc (zin l3 2400) (if (g.1 (g.2.1 a 1) l3.toNatClampNeg) < l1 then (zl (l3 + 1) (fun v5 => some (.inl (l2, v5)))) else (zl (l2 + 1) (fun v6 => zl (l3 + 1) (fun v7 => some (.inl (v6, v7)))))))
def f_X1_placesStruck (a : Nat) (x1 : Int32) (g : zG) : Option (Int32 × zG) :=
  zk (zw zN (fun s => l_X1_placesStruck_4 a x1 g s.1 s.2) (0, 0)) (fun x => j_X1_placesStruck_32 a x g)
abbrev rm_X1_placesStruck : Room := { frames := 0, cells := 0, slots := 0, locals := 0 }
set_option maxRecDepth 100000 in
set_option maxHeartbeats 4000000 in
theorem c_X1_placesStruck (l : Launch) (D : zD) (sz : Nat) (τ : zT) (g : zG) (a : Nat) (x1 : Int32) (hta : τ a = some (.inr 1)) : zCon l D yX1_placesStruck cX1_placesStruck 4 (some .int) rm_X1_placesStruck 0 0 zrI [.ref a, .int x1] sz τ g τ (f_X1_placesStruck a x1 g) := by
  refine zCon.of (by decide) (Nat.le_of_ble_eq_true rfl) (fun E r g' hl hR hsz hnm F => ?_)
  have F : zF E D (zA τ sz) cX1_placesStruck "TypeChain$Page" 4 (some .int) := F
  show zSim (fun q : Int32 × zG => q = (r, g')) (f_X1_placesStruck a x1 g) (zAt E D (zA τ sz) (zQ E D zrI 0 0 sz τ τ r g') 4 (sz, τ, 0, 0) g 0 [(0, .ref a), (1, .int x1)] [])
  have hj_X1_placesStruck_32 : ∀ (l2_32 : Int32) (g_32 : zG), zSim (fun q : Int32 × zG => q = (r, g')) (j_X1_placesStruck_32 a l2_32 g_32) (zAt E D (zA τ sz) (zQ E D zrI 0 0 sz τ τ r g') 4 (sz, τ, 0, 0) g_32 32 [(2, .int l2_32)] []) := by
    intro l2_32 g_32
    unfold j_X1_placesStruck_32
    refine z_iload_n F 0 rfl rfl dX1_placesStruck_32 ?_
    exact z_ireturn F rfl rfl rfl rfl (fun h => h) dX1_placesStruck_33
  unfold f_X1_placesStruck
  refine z_iconst (v := 0) F (by decide) dX1_placesStruck_0 ?_
  refine z_istore_n (lv' := [(2, .int 0), (0, .ref a), (1, .int x1)]) F rfl (by decide) dX1_placesStruck_1 rfl ?_
  refine z_iconst (v := 0) F (by decide) dX1_placesStruck_2 ?_
  refine z_istore_n (lv' := [(3, .int 0), (2, .int 0), (0, .ref a), (1, .int x1)]) F rfl (by decide) dX1_placesStruck_3 rfl ?_
  refine z_sub (lv' := [(0, .ref a), (1, .int x1), (2, .int 0), (3, .int 0)]) [2, 3, 1, 0] rfl ?_
  refine z_loop (P := fun s : Int32 × Int32 => zAt E D (zA τ sz) (zQ E D zrI 0 0 sz τ τ r g') 4 (sz, τ, 0, 0) g 4 [(0, .ref a), (1, .int x1), (2, .int s.1), (3, .int s.2)] []) (Px := fun x : Int32 => zAt E D (zA τ sz) (zQ E D zrI 0 0 sz τ τ r g') 4 (sz, τ, 0, 0) g 32 [(2, .int x)] []) (0, 0) (fun s => ?_) (fun x => ?_)
  · obtain ⟨l2_4, l3_4⟩ := s
    show zSim (zKl (fun s : Int32 × Int32 => zAt E D (zA τ sz) (zQ E D zrI 0 0 sz τ τ r g') 4 (sz, τ, 0, 0) g 4 [(0, .ref a), (1, .int x1), (2, .int s.1), (3, .int s.2)] []) (fun x : Int32 => zAt E D (zA τ sz) (zQ E D zrI 0 0 sz τ τ r g') 4 (sz, τ, 0, 0) g 32 [(2, .int x)] [])) (l_X1_placesStruck_4 a x1 g l2_4 l3_4) (zAt E D (zA τ sz) (zQ E D zrI 0 0 sz τ τ r g') 4 (sz, τ, 0, 0) g 4 [(0, .ref a), (1, .int x1), (2, .int l2_4), (3, .int l3_4)] [])
    unfold l_X1_placesStruck_4
    refine z_iload_n F 3 rfl rfl dX1_placesStruck_4 ?_
    refine z_aload_n F 0 rfl rfl dX1_placesStruck_5 ?_
    refine gf_X1_15 F hta dX1_placesStruck_6 (fun ht1 => ?_)
    refine z_alen (v := 2400) F (by decide) ht1 rfl dX1_placesStruck_9 ?_
    refine z_icmp_ge (tgt := 32) F dX1_placesStruck_10 (by decide) (fun c2 => ?_) (fun c2 => ?_)
    · refine z_sub (lv' := [(2, .int l2_4)]) [2] rfl ?_
      exact z_back (fun h => h)
    · refine z_aload_n F 0 rfl rfl dX1_placesStruck_13 ?_
      refine gf_X1_15 F hta dX1_placesStruck_14 (fun ht3 => ?_)
      refine z_iload_n F 3 rfl rfl dX1_placesStruck_17 ?_
      refine z_iald F ht3 dX1_placesStruck_18 ?_
      refine z_iload_n F 1 rfl rfl dX1_placesStruck_19 ?_
      refine z_icmp_lt (tgt := 26) F dX1_placesStruck_20 (by decide) (fun c4 => ?_) (fun c4 => ?_)
      · refine z_iincl (lv' := fun v5 => [(3, .int v5), (0, .ref a), (1, .int x1), (2, .int l2_4)]) F 3 rfl (by decide) (by decide) dX1_placesStruck_26 (fun _ => rfl) (fun v5 => ?_)
        refine z_goto (tgt := 4) F dX1_placesStruck_29 (by decide) ?_
        refine z_sub (lv' := [(0, .ref a), (1, .int x1), (2, .int l2_4), (3, .int v5)]) [1, 2, 3, 0] rfl ?_
        exact z_back (fun h => h)
      · refine z_iincl (lv' := fun v6 => [(2, .int v6), (0, .ref a), (1, .int x1), (3, .int l3_4)]) F 2 rfl (by decide) (by decide) dX1_placesStruck_23 (fun _ => rfl) (fun v6 => ?_)
        refine z_iincl (lv' := fun v7 => [(3, .int v7), (2, .int v6), (0, .ref a), (1, .int x1)]) F 3 rfl (by decide) (by decide) dX1_placesStruck_26 (fun _ => rfl) (fun v7 => ?_)
        refine z_goto (tgt := 4) F dX1_placesStruck_29 (by decide) ?_
        refine z_sub (lv' := [(0, .ref a), (1, .int x1), (2, .int v6), (3, .int v7)]) [2, 3, 1, 0] rfl ?_
        exact z_back (fun h => h)
  · show zSim (fun q : Int32 × zG => q = (r, g')) (j_X1_placesStruck_32 a x g) (zAt E D (zA τ sz) (zQ E D zrI 0 0 sz τ τ r g') 4 (sz, τ, 0, 0) g 32 [(2, .int x)] [])
    exact hj_X1_placesStruck_32 x g
theorem k_X1_placesStruck {ρ : Type} {K : ρ → Prop} {E : zE} {D : zD} {A : Nat → Prop} {Q : State → Prop} {nL : Nat} {κ : zC} {g : zG} {pc : Nat} {lv : List (Nat × Value)} {st : List Value} {cc : ByteArray} {own : String} {ret : Option FieldType} (F : zF E D A cc own nL ret) {index : Nat} {h : Int32 → zG → Option ρ} {a : Nat} {x1 : Int32}  (hR : 0 + 1 ≤ E.2.2.2.1.frames ∧ 8 + (4 + 11) + 0 ≤ E.2.2.2.1.locals) (hl : zTbl (.methodLink own index yX1_placesStruck)) (hta : κ.2.1 a = some (.inr 1)) (hc : κ.2.2.1 ≤ E.2.2.2.1.cells ∧ κ.2.2.2 ≤ E.2.2.2.1.slots) (hW : (st.map fun v => v.category).sum ≤ 8) (hd : decode cc pc = .ok (.invokevirtual index, 3)) (kk : ∀ r g', zSim K (h r g') (zAt E D A Q nL κ g' (pc + 3) lv (.int r :: st))) : zSim K (zb (f_X1_placesStruck a x1 g) h) (zAt E D A Q nL κ g pc lv (.int x1 :: .ref a :: st)) :=
  z_callV F (n := 1) (As := [.int x1]) (C := (RX1, TX1, 2)) ⟨q_745, q_9, by decide +kernel, rfl, rfl, hR.1, hR.2⟩ (c_X1_placesStruck E.2.1 D κ.1 κ.2.1 g a x1 hta) hl q_743 q_744 hta rfl rfl rfl hc hW hd kk _ rfl
