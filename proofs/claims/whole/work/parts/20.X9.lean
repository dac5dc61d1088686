theorem dX9_feed_0 : decode cX9_feed 0 = .ok (.aload_n 0, 1) := by decide +kernel
theorem dX9_feed_1 : decode cX9_feed 1 = .ok (.getfield 22, 3) := by decide +kernel
theorem dX9_feed_4 : decode cX9_feed 4 = .ok (.lload_n 1, 1) := by decide +kernel
theorem dX9_feed_5 : decode cX9_feed 5 = .ok (.invokevirtual 62, 3) := by decide +kernel
theorem dX9_feed_8 : decode cX9_feed 8 = .ok (.ifCond .eq 13, 3) := by decide +kernel
theorem dX9_feed_11 : decode cX9_feed 11 = .ok (.aload_n 0, 1) := by decide +kernel
theorem dX9_feed_12 : decode cX9_feed 12 = .ok (.getfield 22, 3) := by decide +kernel
theorem dX9_feed_15 : decode cX9_feed 15 = .ok (.getfield 66, 3) := by decide +kernel
theorem dX9_feed_18 : decode cX9_feed 18 = .ok (.goto 5, 3) := by decide +kernel
theorem dX9_feed_21 : decode cX9_feed 21 = .ok (.bipush (-3), 2) := by decide +kernel
theorem dX9_feed_23 : decode cX9_feed 23 = .ok (.ireturn, 1) := by decide +kernel
def f_X9_feed (a : Nat) (x1 : Int64) (g : zG) : Option (Int32 × zG) :=
  zb (f_X4_append (g.2.1 a 2) x1 g) (fun v2 g3 => if v2 = 0 then (some (((-3), g3))) else (some ((g3.1 (g3.2.1 a 2) 1, g3))))
abbrev rm_X9_feed : Room := { frames := 1, cells := 0, slots := 0, locals := 23 }
set_option maxRecDepth 100000 in
set_option maxHeartbeats 4000000 in
theorem c_X9_feed (l : Launch) (D : zD) (sz : Nat) (τ : zT) (g : zG) (a : Nat) (x1 : Int64) (hta : τ a = some (.inr 9)) : zCon l D yX9_feed cX9_feed 3 (some .int) rm_X9_feed 0 0 zrI [.ref a, .long x1] sz τ g τ (f_X9_feed a x1 g) := by
  refine zCon.of (by decide) (Nat.le_of_ble_eq_true rfl) (fun E r g' hl hR hsz hnm F => ?_)
  have F : zF E D (zA τ sz) cX9_feed "TypeChain" 3 (some .int) := F
  show zSim (fun q : Int32 × zG => q = (r, g')) (f_X9_feed a x1 g) (zAt E D (zA τ sz) (zQ E D zrI 0 0 sz τ τ r g') 3 (sz, τ, 0, 0) g 0 [(0, .ref a), (1, .long x1)] [])
  unfold f_X9_feed
  refine z_aload_n F 0 rfl rfl dX9_feed_0 ?_
  refine gf_X9_22 F hta dX9_feed_1 (fun ht1 => ?_)
  refine z_lload_n F 1 rfl rfl dX9_feed_4 ?_
  refine k_X4_append F (by rw [hR]; exact ⟨by decide, by decide⟩) q_422 ht1 ⟨Nat.zero_le _, Nat.zero_le _⟩ (Nat.le_of_ble_eq_true rfl) dX9_feed_5 (fun v2 g3 => ?_)
  refine z_if_eq (tgt := 21) F dX9_feed_8 (by decide) (fun c4 => ?_) (fun c4 => ?_)
  · refine z_bipush (v := (-3)) F (by decide) dX9_feed_21 ?_
    exact z_ireturn F rfl rfl rfl rfl (fun h => h) dX9_feed_23
  · refine z_aload_n F 0 rfl rfl dX9_feed_11 ?_
    refine gf_X9_22 F hta dX9_feed_12 (fun ht5 => ?_)
    refine gf_X9_66 F ht5 dX9_feed_15 ?_
    refine z_goto (tgt := 23) F dX9_feed_18 (by decide) ?_
    exact z_ireturn F rfl rfl rfl rfl (fun h => h) dX9_feed_23
theorem k_X9_feed {ρ : Type} {K : ρ → Prop} {E : zE} {D : zD} {A : Nat → Prop} {Q : State → Prop} {nL : Nat} {κ : zC} {g : zG} {pc : Nat} {lv : List (Nat × Value)} {st : List Value} {cc : ByteArray} {own : String} {ret : Option FieldType} (F : zF E D A cc own nL ret) {index : Nat} {h : Int32 → zG → Option ρ} {a : Nat} {x1 : Int64}  (hR : 1 + 1 ≤ E.2.2.2.1.frames ∧ 8 + (3 + 11) + 23 ≤ E.2.2.2.1.locals) (hl : zTbl (.methodLink own index yX9_feed)) (hta : κ.2.1 a = some (.inr 9)) (hc : κ.2.2.1 ≤ E.2.2.2.1.cells ∧ κ.2.2.2 ≤ E.2.2.2.1.slots) (hW : (st.map fun v => v.category).sum ≤ 8) (hd : decode cc pc = .ok (.invokevirtual index, 3)) (kk : ∀ r g', zSim K (h r g') (zAt E D A Q nL κ g' (pc + 3) lv (.int r :: st))) : zSim K (zb (f_X9_feed a x1 g) h) (zAt E D A Q nL κ g pc lv (.long x1 :: .ref a :: st)) :=
  z_callV F (n := 1) (As := [.long x1]) (C := (RX9, TX9, 11)) ⟨q_421, q_1, by decide +kernel, rfl, rfl, hR.1, hR.2⟩ (c_X9_feed E.2.1 D κ.1 κ.2.1 g a x1 hta) hl q_419 q_420 hta rfl rfl rfl hc hW hd kk _ rfl
theorem dX9_end_0 : decode cX9_end 0 = .ok (.iload_n 1, 1) := by decide +kernel
theorem dX9_end_1 : decode cX9_end 1 = .ok (.ifCond .lt 14, 3) := by decide +kernel
theorem dX9_end_4 : decode cX9_end 4 = .ok (.iload_n 1, 1) := by decide +kernel
theorem dX9_end_5 : decode cX9_end 5 = .ok (.aload_n 0, 1) := by decide +kernel
theorem dX9_end_6 : decode cX9_end 6 = .ok (.getfield 22, 3) := by decide +kernel
theorem dX9_end_9 : decode cX9_end 9 = .ok (.getfield 66, 3) := by decide +kernel
theorem dX9_end_12 : decode cX9_end 12 = .ok (.if_icmp .le 5, 3) := by decide +kernel
theorem dX9_end_15 : decode cX9_end 15 = .ok (.iconst (-1), 1) := by decide +kernel
theorem dX9_end_16 : decode cX9_end 16 = .ok (.ireturn, 1) := by decide +kernel
theorem dX9_end_17 : decode cX9_end 17 = .ok (.aload_n 0, 1) := by decide +kernel
theorem dX9_end_18 : decode cX9_end 18 = .ok (.getfield 22, 3) := by decide +kernel
theorem dX9_end_21 : decode cX9_end 21 = .ok (.getfield 66, 3) := by decide +kernel
theorem dX9_end_24 : decode cX9_end 24 = .ok (.istore_n 2, 1) := by decide +kernel
theorem dX9_end_25 : decode cX9_end 25 = .ok (.aload_n 0, 1) := by decide +kernel
theorem dX9_end_26 : decode cX9_end 26 = .ok (.getfield 22, 3) := by decide +kernel
theorem dX9_end_29 : decode cX9_end 29 = .ok (.iload_n 1, 1) := by decide +kernel
theorem dX9_end_30 : decode cX9_end 30 = .ok (.putfield 66, 3) := by decide +kernel
theorem dX9_end_33 : decode cX9_end 33 = .ok (.iload_n 2, 1) := by decide +kernel
theorem dX9_end_34 : decode cX9_end 34 = .ok (.ireturn, 1) := by decide +kernel
def f_X9_end (a : Nat) (x1 : Int32) (g : zG) : Option (Int32 × zG) :=
  if x1 < 0 then (some (((-1), g))) else (if x1 ≤ (g.1 (g.2.1 a 2) 1) then (zl (g.1 (g.2.1 a 2) 1) (fun v5 => zl (zsi g (g.2.1 a 2) 1 x1) (fun g7 => some ((v5, g7))))) else (some (((-1), g))))
abbrev rm_X9_end : Room := { frames := 0, cells := 0, slots := 0, locals := 0 }
set_option maxRecDepth 100000 in
set_option maxHeartbeats 4000000 in
theorem c_X9_end (l : Launch) (D : zD) (sz : Nat) (τ : zT) (g : zG) (a : Nat) (x1 : Int32) (hta : τ a = some (.inr 9)) : zCon l D yX9_end cX9_end 3 (some .int) rm_X9_end 0 0 zrI [.ref a, .int x1] sz τ g τ (f_X9_end a x1 g) := by
  refine zCon.of (by decide) (Nat.le_of_ble_eq_true rfl) (fun E r g' hl hR hsz hnm F => ?_)
  have F : zF E D (zA τ sz) cX9_end "TypeChain" 3 (some .int) := F
  show zSim (fun q : Int32 × zG => q = (r, g')) (f_X9_end a x1 g) (zAt E D (zA τ sz) (zQ E D zrI 0 0 sz τ τ r g') 3 (sz, τ, 0, 0) g 0 [(0, .ref a), (1, .int x1)] [])
  unfold f_X9_end
  refine z_iload_n F 1 rfl rfl dX9_end_0 ?_
  refine z_if_lt (tgt := 15) F dX9_end_1 (by decide) (fun c1 => ?_) (fun c1 => ?_)
  · refine z_iconst (v := (-1)) F (by decide) dX9_end_15 ?_
    exact z_ireturn F rfl rfl rfl rfl (fun h => h) dX9_end_16
  · refine z_iload_n F 1 rfl rfl dX9_end_4 ?_
    refine z_aload_n F 0 rfl rfl dX9_end_5 ?_
    refine gf_X9_22 F hta dX9_end_6 (fun ht2 => ?_)
    refine gf_X9_66 F ht2 dX9_end_9 ?_
    refine z_icmp_le (tgt := 17) F dX9_end_12 (by decide) (fun c3 => ?_) (fun c3 => ?_)
    · refine z_aload_n F 0 rfl rfl dX9_end_17 ?_
      refine gf_X9_22 F hta dX9_end_18 (fun ht4 => ?_)
      refine gf_X9_66 F ht4 dX9_end_21 ?_
      refine z_leti (fun v5 => ?_)
      refine z_istore_n (lv' := [(2, .int v5), (0, .ref a), (1, .int x1)]) F rfl (by decide) dX9_end_24 rfl ?_
      refine z_aload_n F 1 rfl rfl dX9_end_25 ?_
      refine gf_X9_22 F hta dX9_end_26 (fun ht6 => ?_)
      refine z_iload_n F 2 rfl rfl dX9_end_29 ?_
      refine pf_X9_66 F ht6 dX9_end_30 ?_
      refine z_letg (fun g7 => ?_)
      refine z_iload_n F 0 rfl rfl dX9_end_33 ?_
      exact z_ireturn F rfl rfl rfl rfl (fun h => h) dX9_end_34
    · refine z_iconst (v := (-1)) F (by decide) dX9_end_15 ?_
      exact z_ireturn F rfl rfl rfl rfl (fun h => h) dX9_end_16
theorem k_X9_end {ρ : Type} {K : ρ → Prop} {E : zE} {D : zD} {A : Nat → Prop} {Q : State → Prop} {nL : Nat} {κ : zC} {g : zG} {pc : Nat} {lv : List (Nat × Value)} {st : List Value} {cc : ByteArray} {own : String} {ret : Option FieldType} (F : zF E D A cc own nL ret) {index : Nat} {h : Int32 → zG → Option ρ} {a : Nat} {x1 : Int32}  (hR : 0 + 1 ≤ E.2.2.2.1.frames ∧ 8 + (3 + 11) + 0 ≤ E.2.2.2.1.locals) (hl : zTbl (.methodLink own index yX9_end)) (hta : κ.2.1 a = some (.inr 9)) (hc : κ.2.2.1 ≤ E.2.2.2.1.cells ∧ κ.2.2.2 ≤ E.2.2.2.1.slots) (hW : (st.map fun v => v.category).sum ≤ 8) (hd : decode cc pc = .ok (.invokevirtual index, 3)) (kk : ∀ r g', zSim K (h r g') (zAt E D A Q nL κ g' (pc + 3) lv (.int r :: st))) : zSim K (zb (f_X9_end a x1 g) h) (zAt E D A Q nL κ g pc lv (.int x1 :: .ref a :: st)) :=
  z_callV F (n := 1) (As := [.int x1]) (C := (RX9, TX9, 11)) ⟨q_429, q_1, by decide +kernel, rfl, rfl, hR.1, hR.2⟩ (c_X9_end E.2.1 D κ.1 κ.2.1 g a x1 hta) hl q_427 q_428 hta rfl rfl rfl hc hW hd kk _ rfl
theorem dX9_fault_0 : decode cX9_fault 0 = .ok (.aload_n 0, 1) := by decide +kernel
theorem dX9_fault_1 : decode cX9_fault 1 = .ok (.getfield 22, 3) := by decide +kernel
theorem dX9_fault_4 : decode cX9_fault 4 = .ok (.getfield 83, 3) := by decide +kernel
theorem dX9_fault_7 : decode cX9_fault 7 = .ok (.ireturn, 1) := by decide +kernel
def f_X9_fault (a : Nat) (g : zG) : Option (Int32 × zG) :=
  some ((g.1 (g.2.1 a 2) 2, g))
abbrev rm_X9_fault : Room := { frames := 0, cells := 0, slots := 0, locals := 0 }
set_option maxRecDepth 100000 in
set_option maxHeartbeats 4000000 in
theorem c_X9_fault (l : Launch) (D : zD) (sz : Nat) (τ : zT) (g : zG) (a : Nat) (hta : τ a = some (.inr 9)) : zCon l D yX9_fault cX9_fault 1 (some .int) rm_X9_fault 0 0 zrI [.ref a] sz τ g τ (f_X9_fault a g) := by
  refine zCon.of (by decide) (Nat.le_of_ble_eq_true rfl) (fun E r g' hl hR hsz hnm F => ?_)
  have F : zF E D (zA τ sz) cX9_fault "TypeChain" 1 (some .int) := F
  show zSim (fun q : Int32 × zG => q = (r, g')) (f_X9_fault a g) (zAt E D (zA τ sz) (zQ E D zrI 0 0 sz τ τ r g') 1 (sz, τ, 0, 0) g 0 [(0, .ref a)] [])
  unfold f_X9_fault
  refine z_aload_n F 0 rfl rfl dX9_fault_0 ?_
  refine gf_X9_22 F hta dX9_fault_1 (fun ht1 => ?_)
  refine gf_X9_83 F ht1 dX9_fault_4 ?_
  exact z_ireturn F rfl rfl rfl rfl (fun h => h) dX9_fault_7
theorem k_X9_fault {ρ : Type} {K : ρ → Prop} {E : zE} {D : zD} {A : Nat → Prop} {Q : State → Prop} {nL : Nat} {κ : zC} {g : zG} {pc : Nat} {lv : List (Nat × Value)} {st : List Value} {cc : ByteArray} {own : String} {ret : Option FieldType} (F : zF E D A cc own nL ret) {index : Nat} {h : Int32 → zG → Option ρ} {a : Nat}  (hR : 0 + 1 ≤ E.2.2.2.1.frames ∧ 8 + (1 + 11) + 0 ≤ E.2.2.2.1.locals) (hl : zTbl (.methodLink own index yX9_fault)) (hta : κ.2.1 a = some (.inr 9)) (hc : κ.2.2.1 ≤ E.2.2.2.1.cells ∧ κ.2.2.2 ≤ E.2.2.2.1.slots) (hW : (st.map fun v => v.category).sum ≤ 8) (hd : decode cc pc = .ok (.invokevirtual index, 3)) (kk : ∀ r g', zSim K (h r g') (zAt E D A Q nL κ g' (pc + 3) lv (.int r :: st))) : zSim K (zb (f_X9_fault a g) h) (zAt E D A Q nL κ g pc lv (.ref a :: st)) :=
  z_callV F (n := 0) (As := []) (C := (RX9, TX9, 11)) ⟨q_564, q_1, by decide +kernel, rfl, rfl, hR.1, hR.2⟩ (c_X9_fault E.2.1 D κ.1 κ.2.1 g a hta) hl q_562 q_563 hta rfl rfl rfl hc hW hd kk _ rfl
theorem dX9_rule_0 : decode cX9_rule 0 = .ok (.iload_n 1, 1) := by decide +kernel
theorem dX9_rule_1 : decode cX9_rule 1 = .ok (.ifCond .lt 9, 3) := by decide +kernel
theorem dX9_rule_4 : decode cX9_rule 4 = .ok (.iload_n 1, 1) := by decide +kernel
theorem dX9_rule_5 : decode cX9_rule 5 = .ok (.bipush 8, 2) := by decide +kernel
theorem dX9_rule_7 : decode cX9_rule 7 = .ok (.if_icmp .le 5, 3) := by decide +kernel
theorem dX9_rule_10 : decode cX9_rule 10 = .ok (.iconst (-1), 1) := by decide +kernel
theorem dX9_rule_11 : decode cX9_rule 11 = .ok (.ireturn, 1) := by decide +kernel
theorem dX9_rule_12 : decode cX9_rule 12 = .ok (.iload_n 1, 1) := by decide +kernel
theorem dX9_rule_13 : decode cX9_rule 13 = .ok (.bipush 8, 2) := by decide +kernel
theorem dX9_rule_15 : decode cX9_rule 15 = .ok (.if_icmp .ne 14, 3) := by decide +kernel
theorem dX9_rule_18 : decode cX9_rule 18 = .ok (.aload_n 0, 1) := by decide +kernel
theorem dX9_rule_19 : decode cX9_rule 19 = .ok (.getfield 12, 3) := by decide +kernel
theorem dX9_rule_22 : decode cX9_rule 22 = .ok (.getfield 86, 3) := by decide +kernel
theorem dX9_rule_25 : decode cX9_rule 25 = .ok (.getfield 90, 3) := by decide +kernel
theorem dX9_rule_28 : decode cX9_rule 28 = .ok (.ireturn, 1) := by decide +kernel
theorem dX9_rule_29 : decode cX9_rule 29 = .ok (.iload_n 1, 1) := by decide +kernel
theorem dX9_rule_30 : decode cX9_rule 30 = .ok (.ifCond .ne 16, 3) := by decide +kernel
theorem dX9_rule_33 : decode cX9_rule 33 = .ok (.aload_n 0, 1) := by decide +kernel
theorem dX9_rule_34 : decode cX9_rule 34 = .ok (.getfield 12, 3) := by decide +kernel
theorem dX9_rule_37 : decode cX9_rule 37 = .ok (.getfield 35, 3) := by decide +kernel
theorem dX9_rule_40 : decode cX9_rule 40 = .ok (.getfield 95, 3) := by decide +kernel
theorem dX9_rule_43 : decode cX9_rule 43 = .ok (.goto 12, 3) := by decide +kernel
theorem dX9_rule_46 : decode cX9_rule 46 = .ok (.aload_n 0, 1) := by decide +kernel
theorem dX9_rule_47 : decode cX9_rule 47 = .ok (.getfield 12, 3) := by decide +kernel
theorem dX9_rule_50 : decode cX9_rule 50 = .ok (.getfield 98, 3) := by decide +kernel
theorem dX9_rule_53 : decode cX9_rule 53 = .ok (.iload_n 1, 1) := by decide +kernel
theorem dX9_rule_54 : decode cX9_rule 54 = .ok (.iaload, 1) := by decide +kernel
theorem dX9_rule_55 : decode cX9_rule 55 = .ok (.ireturn, 1) := by decide +kernel
def f_X9_rule (a : Nat) (x1 : Int32) (g : zG) : Option (Int32 × zG) :=
  if x1 < 0 then (some (((-1), g))) else (if x1 ≤ 8 then (if x1 = 8 then (some ((g.1 (g.2.1 (g.2.1 a 0) 1) 5, g))) else (if x1 = 0 then (some ((g.1 (g.2.1 (g.2.1 a 0) 0) 1, g))) else (zc (zin x1 8) (some ((g.1 (g.2.1 (g.2.1 a 0) 2) x1.toNatClampNeg, g)))))) else (some (((-1), g))))
abbrev rm_X9_rule : Room := { frames := 0, cells := 0, slots := 0, locals := 0 }
set_option maxRecDepth 100000 in
set_option maxHeartbeats 4000000 in
theorem c_X9_rule (l : Launch) (D : zD) (sz : Nat) (τ : zT) (g : zG) (a : Nat) (x1 : Int32) (hta : τ a = some (.inr 9)) : zCon l D yX9_rule cX9_rule 2 (some .int) rm_X9_rule 0 0 zrI [.ref a, .int x1] sz τ g τ (f_X9_rule a x1 g) := by
  refine zCon.of (by decide) (Nat.le_of_ble_eq_true rfl) (fun E r g' hl hR hsz hnm F => ?_)
  have F : zF E D (zA τ sz) cX9_rule "TypeChain" 2 (some .int) := F
  show zSim (fun q : Int32 × zG => q = (r, g')) (f_X9_rule a x1 g) (zAt E D (zA τ sz) (zQ E D zrI 0 0 sz τ τ r g') 2 (sz, τ, 0, 0) g 0 [(0, .ref a), (1, .int x1)] [])
  unfold f_X9_rule
  refine z_iload_n F 1 rfl rfl dX9_rule_0 ?_
  refine z_if_lt (tgt := 10) F dX9_rule_1 (by decide) (fun c1 => ?_) (fun c1 => ?_)
  · refine z_iconst (v := (-1)) F (by decide) dX9_rule_10 ?_
    exact z_ireturn F rfl rfl rfl rfl (fun h => h) dX9_rule_11
  · refine z_iload_n F 1 rfl rfl dX9_rule_4 ?_
    refine z_bipush (v := 8) F (by decide) dX9_rule_5 ?_
    refine z_icmp_le (tgt := 12) F dX9_rule_7 (by decide) (fun c2 => ?_) (fun c2 => ?_)
    · refine z_iload_n F 1 rfl rfl dX9_rule_12 ?_
      refine z_bipush (v := 8) F (by decide) dX9_rule_13 ?_
      refine z_icmp_ne (tgt := 29) F dX9_rule_15 (by decide) (fun c3 => ?_) (fun c3 => ?_)
      · refine z_aload_n F 0 rfl rfl dX9_rule_18 ?_
        refine gf_X9_12 F hta dX9_rule_19 (fun ht4 => ?_)
        refine gf_X9_86 F ht4 dX9_rule_22 (fun ht5 => ?_)
        refine gf_X9_90 F ht5 dX9_rule_25 ?_
        exact z_ireturn F rfl rfl rfl rfl (fun h => h) dX9_rule_28
      · refine z_iload_n F 1 rfl rfl dX9_rule_29 ?_
        refine z_if_ne (tgt := 46) F dX9_rule_30 (by decide) (fun c6 => ?_) (fun c6 => ?_)
        · refine z_aload_n F 0 rfl rfl dX9_rule_33 ?_
          refine gf_X9_12 F hta dX9_rule_34 (fun ht7 => ?_)
          refine gf_X9_35 F ht7 dX9_rule_37 (fun ht8 => ?_)
          refine gf_X9_95 F ht8 dX9_rule_40 ?_
          refine z_goto (tgt := 55) F dX9_rule_43 (by decide) ?_
          exact z_ireturn F rfl rfl rfl rfl (fun h => h) dX9_rule_55
        · refine z_aload_n F 0 rfl rfl dX9_rule_46 ?_
          refine gf_X9_12 F hta dX9_rule_47 (fun ht9 => ?_)
          refine gf_X9_98 F ht9 dX9_rule_50 (fun ht10 => ?_)
          refine z_iload_n F 1 rfl rfl dX9_rule_53 ?_
          refine z_iald F ht10 dX9_rule_54 ?_
          exact z_ireturn F rfl rfl rfl rfl (fun h => h) dX9_rule_55
    · refine z_iconst (v := (-1)) F (by decide) dX9_rule_10 ?_
      exact z_ireturn F rfl rfl rfl rfl (fun h => h) dX9_rule_11
theorem k_X9_rule {ρ : Type} {K : ρ → Prop} {E : zE} {D : zD} {A : Nat → Prop} {Q : State → Prop} {nL : Nat} {κ : zC} {g : zG} {pc : Nat} {lv : List (Nat × Value)} {st : List Value} {cc : ByteArray} {own : String} {ret : Option FieldType} (F : zF E D A cc own nL ret) {index : Nat} {h : Int32 → zG → Option ρ} {a : Nat} {x1 : Int32}  (hR : 0 + 1 ≤ E.2.2.2.1.frames ∧ 8 + (2 + 11) + 0 ≤ E.2.2.2.1.locals) (hl : zTbl (.methodLink own index yX9_rule)) (hta : κ.2.1 a = some (.inr 9)) (hc : κ.2.2.1 ≤ E.2.2.2.1.cells ∧ κ.2.2.2 ≤ E.2.2.2.1.slots) (hW : (st.map fun v => v.category).sum ≤ 8) (hd : decode cc pc = .ok (.invokevirtual index, 3)) (kk : ∀ r g', zSim K (h r g') (zAt E D A Q nL κ g' (pc + 3) lv (.int r :: st))) : zSim K (zb (f_X9_rule a x1 g) h) (zAt E D A Q nL κ g pc lv (.int x1 :: .ref a :: st)) :=
  z_callV F (n := 1) (As := [.int x1]) (C := (RX9, TX9, 11)) ⟨q_568, q_1, by decide +kernel, rfl, rfl, hR.1, hR.2⟩ (c_X9_rule E.2.1 D κ.1 κ.2.1 g a x1 hta) hl q_566 q_567 hta rfl rfl rfl hc hW hd kk _ rfl
theorem dX9_slug_0 : decode cX9_slug 0 = .ok (.iload_n 1, 1) := by decide +kernel
theorem dX9_slug_1 : decode cX9_slug 1 = .ok (.ifCond .lt 17, 3) := by decide +kernel
theorem dX9_slug_4 : decode cX9_slug 4 = .ok (.iload_n 1, 1) := by decide +kernel
theorem dX9_slug_5 : decode cX9_slug 5 = .ok (.aload_n 0, 1) := by decide +kernel
theorem dX9_slug_6 : decode cX9_slug 6 = .ok (.getfield 12, 3) := by decide +kernel
theorem dX9_slug_9 : decode cX9_slug 9 = .ok (.getfield 35, 3) := by decide +kernel
theorem dX9_slug_12 : decode cX9_slug 12 = .ok (.getfield 95, 3) := by decide +kernel
theorem dX9_slug_15 : decode cX9_slug 15 = .ok (.if_icmp .lt 7, 3) := by decide +kernel
theorem dX9_slug_18 : decode cX9_slug 18 = .ok (.iconst (-1), 1) := by decide +kernel
theorem dX9_slug_19 : decode cX9_slug 19 = .ok (.goto 15, 3) := by decide +kernel
theorem dX9_slug_22 : decode cX9_slug 22 = .ok (.aload_n 0, 1) := by decide +kernel
theorem dX9_slug_23 : decode cX9_slug 23 = .ok (.getfield 12, 3) := by decide +kernel
theorem dX9_slug_26 : decode cX9_slug 26 = .ok (.getfield 35, 3) := by decide +kernel
theorem dX9_slug_29 : decode cX9_slug 29 = .ok (.getfield 102, 3) := by decide +kernel
theorem dX9_slug_32 : decode cX9_slug 32 = .ok (.iload_n 1, 1) := by decide +kernel
theorem dX9_slug_33 : decode cX9_slug 33 = .ok (.iaload, 1) := by decide +kernel
theorem dX9_slug_34 : decode cX9_slug 34 = .ok (.ireturn, 1) := by decide +kernel
def f_X9_slug (a : Nat) (x1 : Int32) (g : zG) : Option (Int32 × zG) :=
  if x1 < 0 then (some (((-1), g))) else (if x1 < (g.1 (g.2.1 (g.2.1 a 0) 0) 1) then (zc (zin x1 48) (some ((g.1 (g.2.1 (g.2.1 (g.2.1 a 0) 0) 0) x1.toNatClampNeg, g)))) else (some (((-1), g))))
abbrev rm_X9_slug : Room := { frames := 0, cells := 0, slots := 0, locals := 0 }
set_option maxRecDepth 100000 in
set_option maxHeartbeats 4000000 in
theorem c_X9_slug (l : Launch) (D : zD) (sz : Nat) (τ : zT) (g : zG) (a : Nat) (x1 : Int32) (hta : τ a = some (.inr 9)) : zCon l D yX9_slug cX9_slug 2 (some .int) rm_X9_slug 0 0 zrI [.ref a, .int x1] sz τ g τ (f_X9_slug a x1 g) := by
  refine zCon.of (by decide) (Nat.le_of_ble_eq_true rfl) (fun E r g' hl hR hsz hnm F => ?_)
  have F : zF E D (zA τ sz) cX9_slug "TypeChain" 2 (some .int) := F
  show zSim (fun q : Int32 × zG => q = (r, g')) (f_X9_slug a x1 g) (zAt E D (zA τ sz) (zQ E D zrI 0 0 sz τ τ r g') 2 (sz, τ, 0, 0) g 0 [(0, .ref a), (1, .int x1)] [])
  unfold f_X9_slug
  refine z_iload_n F 1 rfl rfl dX9_slug_0 ?_
  refine z_if_lt (tgt := 18) F dX9_slug_1 (by decide) (fun c1 => ?_) (fun c1 => ?_)
  · refine z_iconst (v := (-1)) F (by decide) dX9_slug_18 ?_
    refine z_goto (tgt := 34) F dX9_slug_19 (by decide) ?_
    exact z_ireturn F rfl rfl rfl rfl (fun h => h) dX9_slug_34
  · refine z_iload_n F 1 rfl rfl dX9_slug_4 ?_
    refine z_aload_n F 0 rfl rfl dX9_slug_5 ?_
    refine gf_X9_12 F hta dX9_slug_6 (fun ht2 => ?_)
    refine gf_X9_35 F ht2 dX9_slug_9 (fun ht3 => ?_)
    refine gf_X9_95 F ht3 dX9_slug_12 ?_
    refine z_icmp_lt (tgt := 22) F dX9_slug_15 (by decide) (fun c4 => ?_) (fun c4 => ?_)
    · refine z_aload_n F 0 rfl rfl dX9_slug_22 ?_
      refine gf_X9_12 F hta dX9_slug_23 (fun ht5 => ?_)
      refine gf_X9_35 F ht5 dX9_slug_26 (fun ht6 => ?_)
      refine gf_X9_102 F ht6 dX9_slug_29 (fun ht7 => ?_)
      refine z_iload_n F 1 rfl rfl dX9_slug_32 ?_
      refine z_iald F ht7 dX9_slug_33 ?_
      exact z_ireturn F rfl rfl rfl rfl (fun h => h) dX9_slug_34
    · refine z_iconst (v := (-1)) F (by decide) dX9_slug_18 ?_
      refine z_goto (tgt := 34) F dX9_slug_19 (by decide) ?_
      exact z_ireturn F rfl rfl rfl rfl (fun h => h) dX9_slug_34
theorem k_X9_slug {ρ : Type} {K : ρ → Prop} {E : zE} {D : zD} {A : Nat → Prop} {Q : State → Prop} {nL : Nat} {κ : zC} {g : zG} {pc : Nat} {lv : List (Nat × Value)} {st : List Value} {cc : ByteArray} {own : String} {ret : Option FieldType} (F : zF E D A cc own nL ret) {index : Nat} {h : Int32 → zG → Option ρ} {a : Nat} {x1 : Int32}  (hR : 0 + 1 ≤ E.2.2.2.1.frames ∧ 8 + (2 + 11) + 0 ≤ E.2.2.2.1.locals) (hl : zTbl (.methodLink own index yX9_slug)) (hta : κ.2.1 a = some (.inr 9)) (hc : κ.2.2.1 ≤ E.2.2.2.1.cells ∧ κ.2.2.2 ≤ E.2.2.2.1.slots) (hW : (st.map fun v => v.category).sum ≤ 8) (hd : decode cc pc = .ok (.invokevirtual index, 3)) (kk : ∀ r g', zSim K (h r g') (zAt E D A Q nL κ g' (pc + 3) lv (.int r :: st))) : zSim K (zb (f_X9_slug a x1 g) h) (zAt E D A Q nL κ g pc lv (.int x1 :: .ref a :: st)) :=
  z_callV F (n := 1) (As := [.int x1]) (C := (RX9, TX9, 11)) ⟨q_572, q_1, by decide +kernel, rfl, rfl, hR.1, hR.2⟩ (c_X9_slug E.2.1 D κ.1 κ.2.1 g a x1 hta) hl q_570 q_571 hta rfl rfl rfl hc hW hd kk _ rfl
theorem dX9_order_0 : decode cX9_order 0 = .ok (.aload_n 0, 1) := by decide +kernel
theorem dX9_order_1 : decode cX9_order 1 = .ok (.getfield 12, 3) := by decide +kernel
theorem dX9_order_4 : decode cX9_order 4 = .ok (.getfield 86, 3) := by decide +kernel
theorem dX9_order_7 : decode cX9_order 7 = .ok (.astore_n 3, 1) := by decide +kernel
theorem dX9_order_8 : decode cX9_order 8 = .ok (.iload_n 1, 1) := by decide +kernel
theorem dX9_order_9 : decode cX9_order 9 = .ok (.ifCond .lt 11, 3) := by decide +kernel
theorem dX9_order_12 : decode cX9_order 12 = .ok (.iload_n 1, 1) := by decide +kernel
theorem dX9_order_13 : decode cX9_order 13 = .ok (.aload_n 3, 1) := by decide +kernel
theorem dX9_order_14 : decode cX9_order 14 = .ok (.getfield 90, 3) := by decide +kernel
theorem dX9_order_17 : decode cX9_order 17 = .ok (.if_icmp .lt 5, 3) := by decide +kernel
theorem dX9_order_20 : decode cX9_order 20 = .ok (.iconst (-1), 1) := by decide +kernel
theorem dX9_order_21 : decode cX9_order 21 = .ok (.ireturn, 1) := by decide +kernel
theorem dX9_order_22 : decode cX9_order 22 = .ok (.iload_n 2, 1) := by decide +kernel
theorem dX9_order_23 : decode cX9_order 23 = .ok (.tableswitch 49 0 2 #[25, 35, 42], 25) := by decide +kernel
theorem dX9_order_48 : decode cX9_order 48 = .ok (.aload_n 3, 1) := by decide +kernel
theorem dX9_order_49 : decode cX9_order 49 = .ok (.getfield 112, 3) := by decide +kernel
theorem dX9_order_52 : decode cX9_order 52 = .ok (.iload_n 1, 1) := by decide +kernel
theorem dX9_order_53 : decode cX9_order 53 = .ok (.iaload, 1) := by decide +kernel
theorem dX9_order_54 : decode cX9_order 54 = .ok (.bipush 9, 2) := by decide +kernel
theorem dX9_order_56 : decode cX9_order 56 = .ok (.isub, 1) := by decide +kernel
theorem dX9_order_57 : decode cX9_order 57 = .ok (.ireturn, 1) := by decide +kernel
theorem dX9_order_58 : decode cX9_order 58 = .ok (.aload_n 3, 1) := by decide +kernel
theorem dX9_order_59 : decode cX9_order 59 = .ok (.getfield 115, 3) := by decide +kernel
theorem dX9_order_62 : decode cX9_order 62 = .ok (.iload_n 1, 1) := by decide +kernel
theorem dX9_order_63 : decode cX9_order 63 = .ok (.iaload, 1) := by decide +kernel
theorem dX9_order_64 : decode cX9_order 64 = .ok (.ireturn, 1) := by decide +kernel
theorem dX9_order_65 : decode cX9_order 65 = .ok (.aload_n 3, 1) := by decide +kernel
theorem dX9_order_66 : decode cX9_order 66 = .ok (.getfield 118, 3) := by decide +kernel
theorem dX9_order_69 : decode cX9_order 69 = .ok (.iload_n 1, 1) := by decide +kernel
theorem dX9_order_70 : decode cX9_order 70 = .ok (.iaload, 1) := by decide +kernel
theorem dX9_order_71 : decode cX9_order 71 = .ok (.ireturn, 1) := by decide +kernel
theorem dX9_order_72 : decode cX9_order 72 = .ok (.iload_n 2, 1) := by decide +kernel
theorem dX9_order_73 : decode cX9_order 73 = .ok (.bipush 10, 2) := by decide +kernel
theorem dX9_order_75 : decode cX9_order 75 = .ok (.if_icmp .lt 16, 3) := by decide +kernel
theorem dX9_order_78 : decode cX9_order 78 = .ok (.iload_n 2, 1) := by decide +kernel
theorem dX9_order_79 : decode cX9_order 79 = .ok (.bipush 10, 2) := by decide +kernel
theorem dX9_order_81 : decode cX9_order 81 = .ok (.isub, 1) := by decide +kernel
theorem dX9_order_82 : decode cX9_order 82 = .ok (.aload_n 3, 1) := by decide +kernel
theorem dX9_order_83 : decode cX9_order 83 = .ok (.getfield 118, 3) := by decide +kernel
theorem dX9_order_86 : decode cX9_order 86 = .ok (.iload_n 1, 1) := by decide +kernel
theorem dX9_order_87 : decode cX9_order 87 = .ok (.iaload, 1) := by decide +kernel
theorem dX9_order_88 : decode cX9_order 88 = .ok (.if_icmp .lt 7, 3) := by decide +kernel
theorem dX9_order_91 : decode cX9_order 91 = .ok (.iconst (-1), 1) := by decide +kernel
theorem dX9_order_92 : decode cX9_order 92 = .ok (.goto 12, 3) := by decide +kernel
theorem dX9_order_95 : decode cX9_order 95 = .ok (.aload_n 3, 1) := by decide +kernel
theorem dX9_order_96 : decode cX9_order 96 = .ok (.iload_n 1, 1) := by decide +kernel
theorem dX9_order_97 : decode cX9_order 97 = .ok (.iload_n 2, 1) := by decide +kernel
theorem dX9_order_98 : decode cX9_order 98 = .ok (.bipush 10, 2) := by decide +kernel
theorem dX9_order_100 : decode cX9_order 100 = .ok (.isub, 1) := by decide +kernel
theorem dX9_order_101 : decode cX9_order 101 = .ok (.invokevirtual 121, 3) := by decide +kernel
theorem dX9_order_104 : decode cX9_order 104 = .ok (.ireturn, 1) := by decide +kernel
def f_X9_order (a : Nat) (x1 : Int32) (x2 : Int32) (g : zG) : Option (Int32 × zG) :=
  zl (g.2.1 (g.2.1 a 0) 1) (fun r3 => if x1 < 0 then (some (((-1), g))) else (if x1 < (g.1 r3 5) then (if x2 = 0 then (zc (zin x1 24) (some (((g.1 (g.2.1 r3 0) x1.toNatClampNeg) - 9, g)))) else (if x2 = 1 then (zc (zin x1 24) (some ((g.1 (g.2.1 r3 1) x1.toNatClampNeg, g)))) else (if x2 = 2 then (zc (zin x1 24) (some ((g.1 (g.2.1 r3 3) x1.toNatClampNeg, g)))) else (if x2 < 10 then (some (((-1), g))) else (zc (zin x1 24) (if (x2 - 10) < (g.1 (g.2.1 r3 3) x1.toNatClampNeg) then (zb (f_X3_letterOf r3 x1 (x2 - 10) g) (fun v16 g17 => some ((v16, g17)))) else (some (((-1), g))))))))) else (some (((-1), g)))))
abbrev rm_X9_order : Room := { frames := 1, cells := 0, slots := 0, locals := 22 }
set_option maxRecDepth 100000 in
set_option maxHeartbeats 4000000 in
theorem c_X9_order (l : Launch) (D : zD) (sz : Nat) (τ : zT) (g : zG) (a : Nat) (x1 : Int32) (x2 : Int32) (hta : τ a = some (.inr 9)) : zCon l D yX9_order cX9_order 4 (some .int) rm_X9_order 0 0 zrI [.ref a, .int x1, .int x2] sz τ g τ (f_X9_order a x1 x2 g) := by
  refine zCon.of (by decide) (Nat.le_of_ble_eq_true rfl) (fun E r g' hl hR hsz hnm F => ?_)
  have F : zF E D (zA τ sz) cX9_order "TypeChain" 4 (some .int) := F
  show zSim (fun q : Int32 × zG => q = (r, g')) (f_X9_order a x1 x2 g) (zAt E D (zA τ sz) (zQ E D zrI 0 0 sz τ τ r g') 4 (sz, τ, 0, 0) g 0 [(0, .ref a), (1, .int x1), (2, .int x2)] [])
  unfold f_X9_order
  refine z_aload_n F 0 rfl rfl dX9_order_0 ?_
  refine gf_X9_12 F hta dX9_order_1 (fun ht1 => ?_)
  refine gf_X9_86 F ht1 dX9_order_4 (fun ht2 => ?_)
  refine z_letr ht2 (fun r3 ht4 => ?_)
  refine z_astore_n (lv' := [(3, .ref r3), (0, .ref a), (1, .int x1), (2, .int x2)]) F rfl (by decide) dX9_order_7 rfl ?_
  refine z_iload_n F 2 rfl rfl dX9_order_8 ?_
  refine z_if_lt (tgt := 20) F dX9_order_9 (by decide) (fun c5 => ?_) (fun c5 => ?_)
  · refine z_iconst (v := (-1)) F (by decide) dX9_order_20 ?_
    exact z_ireturn F rfl rfl rfl rfl (fun h => h) dX9_order_21
  · refine z_iload_n F 2 rfl rfl dX9_order_12 ?_
    refine z_aload_n F 0 rfl rfl dX9_order_13 ?_
    refine gf_X9_90 F ht4 dX9_order_14 ?_
    refine z_icmp_lt (tgt := 22) F dX9_order_17 (by decide) (fun c6 => ?_) (fun c6 => ?_)
    · refine z_iload_n F 3 rfl rfl dX9_order_22 ?_
      refine z_ite (fun c7 => ?_) (fun c7 => ?_)
      · refine z_tableIn (tgt := 48) F 0 c7 dX9_order_23 (by decide) (by decide) rfl (by decide) ?_
        refine z_aload_n F 0 rfl rfl dX9_order_48 ?_
        refine gf_X9_112 F ht4 dX9_order_49 (fun ht8 => ?_)
        refine z_iload_n F 2 rfl rfl dX9_order_52 ?_
        refine z_iald F ht8 dX9_order_53 ?_
        refine z_bipush (v := 9) F (by decide) dX9_order_54 ?_
        refine z_isub F dX9_order_56 ?_
        exact z_ireturn F rfl rfl rfl rfl (fun h => h) dX9_order_57
      ·
        refine z_ite (fun c9 => ?_) (fun c9 => ?_)
        · refine z_tableIn (tgt := 58) F 1 c9 dX9_order_23 (by decide) (by decide) rfl (by decide) ?_
          refine z_aload_n F 0 rfl rfl dX9_order_58 ?_
          refine gf_X9_115 F ht4 dX9_order_59 (fun ht10 => ?_)
          refine z_iload_n F 2 rfl rfl dX9_order_62 ?_
          refine z_iald F ht10 dX9_order_63 ?_
          exact z_ireturn F rfl rfl rfl rfl (fun h => h) dX9_order_64
        ·
          refine z_ite (fun c11 => ?_) (fun c11 => ?_)
          · refine z_tableIn (tgt := 65) F 2 c11 dX9_order_23 (by decide) (by decide) rfl (by decide) ?_
            refine z_aload_n F 0 rfl rfl dX9_order_65 ?_
            refine gf_X9_118 F ht4 dX9_order_66 (fun ht12 => ?_)
            refine z_iload_n F 2 rfl rfl dX9_order_69 ?_
            refine z_iald F ht12 dX9_order_70 ?_
            exact z_ireturn F rfl rfl rfl rfl (fun h => h) dX9_order_71
          ·
            refine z_tableOut (tgt := 72) F dX9_order_23 (by have e0 := lv_neT (a := 0) c7 (by decide); have e1 := lv_neT (a := 1) c9 (by decide); have e2 := lv_neT (a := 2) c11 (by decide); omega) (by decide) ?_
            refine z_iload_n F 3 rfl rfl dX9_order_72 ?_
            refine z_bipush (v := 10) F (by decide) dX9_order_73 ?_
            refine z_icmp_lt (tgt := 91) F dX9_order_75 (by decide) (fun c13 => ?_) (fun c13 => ?_)
            · refine z_iconst (v := (-1)) F (by decide) dX9_order_91 ?_
              refine z_goto (tgt := 104) F dX9_order_92 (by decide) ?_
              exact z_ireturn F rfl rfl rfl rfl (fun h => h) dX9_order_104
            · refine z_iload_n F 3 rfl rfl dX9_order_78 ?_
              refine z_bipush (v := 10) F (by decide) dX9_order_79 ?_
              refine z_isub F dX9_order_81 ?_
              refine z_aload_n F 0 rfl rfl dX9_order_82 ?_
              refine gf_X9_118 F ht4 dX9_order_83 (fun ht14 => ?_)
              refine z_iload_n F 2 rfl rfl dX9_order_86 ?_
              refine z_iald F ht14 dX9_order_87 ?_
              refine z_icmp_lt (tgt := 95) F dX9_order_88 (by decide) (fun c15 => ?_) (fun c15 => ?_)
              · refine z_aload_n F 0 rfl rfl dX9_order_95 ?_
                refine z_iload_n F 2 rfl rfl dX9_order_96 ?_
                refine z_iload_n F 3 rfl rfl dX9_order_97 ?_
                refine z_bipush (v := 10) F (by decide) dX9_order_98 ?_
                refine z_isub F dX9_order_100 ?_
                refine k_X3_letterOf F (by rw [hR]; exact ⟨by decide, by decide⟩) q_585 ht4 ⟨Nat.zero_le _, Nat.zero_le _⟩ (Nat.le_of_ble_eq_true rfl) dX9_order_101 (fun v16 g17 => ?_)
                exact z_ireturn F rfl rfl rfl rfl (fun h => h) dX9_order_104
              · refine z_iconst (v := (-1)) F (by decide) dX9_order_91 ?_
                refine z_goto (tgt := 104) F dX9_order_92 (by decide) ?_
                exact z_ireturn F rfl rfl rfl rfl (fun h => h) dX9_order_104
    · refine z_iconst (v := (-1)) F (by decide) dX9_order_20 ?_
      exact z_ireturn F rfl rfl rfl rfl (fun h => h) dX9_order_21
theorem k_X9_order {ρ : Type} {K : ρ → Prop} {E : zE} {D : zD} {A : Nat → Prop} {Q : State → Prop} {nL : Nat} {κ : zC} {g : zG} {pc : Nat} {lv : List (Nat × Value)} {st : List Value} {cc : ByteArray} {own : String} {ret : Option FieldType} (F : zF E D A cc own nL ret) {index : Nat} {h : Int32 → zG → Option ρ} {a : Nat} {x1 : Int32} {x2 : Int32}  (hR : 1 + 1 ≤ E.2.2.2.1.frames ∧ 8 + (4 + 11) + 22 ≤ E.2.2.2.1.locals) (hl : zTbl (.methodLink own index yX9_order)) (hta : κ.2.1 a = some (.inr 9)) (hc : κ.2.2.1 ≤ E.2.2.2.1.cells ∧ κ.2.2.2 ≤ E.2.2.2.1.slots) (hW : (st.map fun v => v.category).sum ≤ 8) (hd : decode cc pc = .ok (.invokevirtual index, 3)) (kk : ∀ r g', zSim K (h r g') (zAt E D A Q nL κ g' (pc + 3) lv (.int r :: st))) : zSim K (zb (f_X9_order a x1 x2 g) h) (zAt E D A Q nL κ g pc lv (.int x2 :: .int x1 :: .ref a :: st)) :=
  z_callV F (n := 2) (As := [.int x1, .int x2]) (C := (RX9, TX9, 11)) ⟨q_584, q_1, by decide +kernel, rfl, rfl, hR.1, hR.2⟩ (c_X9_order E.2.1 D κ.1 κ.2.1 g a x1 x2 hta) hl q_582 q_583 hta rfl rfl rfl hc hW hd kk _ rfl
theorem dX9_ticks_0 : decode cX9_ticks 0 = .ok (.iload_n 1, 1) := by decide +kernel
theorem dX9_ticks_1 : decode cX9_ticks 1 = .ok (.iconst 1, 1) := by decide +kernel
theorem dX9_ticks_2 : decode cX9_ticks 2 = .ok (.if_icmp .lt 9, 3) := by decide +kernel
theorem dX9_ticks_5 : decode cX9_ticks 5 = .ok (.iload_n 1, 1) := by decide +kernel
theorem dX9_ticks_6 : decode cX9_ticks 6 = .ok (.bipush 40, 2) := by decide +kernel
theorem dX9_ticks_8 : decode cX9_ticks 8 = .ok (.if_icmp .le 5, 3) := by decide +kernel
theorem dX9_ticks_11 : decode cX9_ticks 11 = .ok (.iconst (-1), 1) := by decide +kernel
theorem dX9_ticks_12 : decode cX9_ticks 12 = .ok (.ireturn, 1) := by decide +kernel
theorem dX9_ticks_13 : decode cX9_ticks 13 = .ok (.aload_n 0, 1) := by decide +kernel
theorem dX9_ticks_14 : decode cX9_ticks 14 = .ok (.getfield 42, 3) := by decide +kernel
theorem dX9_ticks_17 : decode cX9_ticks 17 = .ok (.invokevirtual 145, 3) := by decide +kernel
theorem dX9_ticks_20 : decode cX9_ticks 20 = .ok (.ifCond .ne 6, 3) := by decide +kernel
theorem dX9_ticks_23 : decode cX9_ticks 23 = .ok (.bipush (-2), 2) := by decide +kernel
theorem dX9_ticks_25 : decode cX9_ticks 25 = .ok (.ireturn, 1) := by decide +kernel
theorem dX9_ticks_26 : decode cX9_ticks 26 = .ok (.aload_n 0, 1) := by decide +kernel
theorem dX9_ticks_27 : decode cX9_ticks 27 = .ok (.getfield 51, 3) := by decide +kernel
theorem dX9_ticks_30 : decode cX9_ticks 30 = .ok (.getfield 149, 3) := by decide +kernel
theorem dX9_ticks_33 : decode cX9_ticks 33 = .ok (.getfield 150, 3) := by decide +kernel
theorem dX9_ticks_36 : decode cX9_ticks 36 = .ok (.aload_n 0, 1) := by decide +kernel
theorem dX9_ticks_37 : decode cX9_ticks 37 = .ok (.getfield 12, 3) := by decide +kernel
theorem dX9_ticks_40 : decode cX9_ticks 40 = .ok (.getfield 35, 3) := by decide +kernel
theorem dX9_ticks_43 : decode cX9_ticks 43 = .ok (.aload_n 0, 1) := by decide +kernel
theorem dX9_ticks_44 : decode cX9_ticks 44 = .ok (.getfield 42, 3) := by decide +kernel
theorem dX9_ticks_47 : decode cX9_ticks 47 = .ok (.getfield 144, 3) := by decide +kernel
theorem dX9_ticks_50 : decode cX9_ticks 50 = .ok (.aload_n 0, 1) := by decide +kernel
theorem dX9_ticks_51 : decode cX9_ticks 51 = .ok (.getfield 12, 3) := by decide +kernel
theorem dX9_ticks_54 : decode cX9_ticks 54 = .ok (.getfield 98, 3) := by decide +kernel
theorem dX9_ticks_57 : decode cX9_ticks 57 = .ok (.iconst 3, 1) := by decide +kernel
theorem dX9_ticks_58 : decode cX9_ticks 58 = .ok (.iaload, 1) := by decide +kernel
theorem dX9_ticks_59 : decode cX9_ticks 59 = .ok (.iload_n 1, 1) := by decide +kernel
theorem dX9_ticks_60 : decode cX9_ticks 60 = .ok (.aload_n 0, 1) := by decide +kernel
theorem dX9_ticks_61 : decode cX9_ticks 61 = .ok (.getfield 42, 3) := by decide +kernel
theorem dX9_ticks_64 : decode cX9_ticks 64 = .ok (.getfield 141, 3) := by decide +kernel
theorem dX9_ticks_67 : decode cX9_ticks 67 = .ok (.invokevirtual 154, 3) := by decide +kernel
theorem dX9_ticks_70 : decode cX9_ticks 70 = .ok (.ireturn, 1) := by decide +kernel
def f_X9_ticks (a : Nat) (x1 : Int32) (g : zG) : Option (Int32 × zG) :=
  if x1 < 1 then (some (((-1), g))) else (if x1 ≤ 40 then (zb (f_X2_canStrike (g.2.1 a 4) g) (fun v4 g5 => if v4 = 0 then (some (((-2), g5))) else (zc (zin 3 8) (zb (f_X7_make (g5.2.1 (g5.2.1 (g5.2.1 a 5) 0) 1) (g5.2.1 (g5.2.1 a 0) 0) (g5.2.1 (g5.2.1 a 4) 0) (g5.1 (g5.2.1 (g5.2.1 a 0) 2) (3 : Int32).toNatClampNeg) x1 (g5.1 (g5.2.1 a 4) 2) g5) (fun v17 g18 => some ((v17, g18))))))) else (some (((-1), g))))
abbrev rm_X9_ticks : Room := { frames := 3, cells := 0, slots := 0, locals := 83 }
set_option maxRecDepth 100000 in
set_option maxHeartbeats 4000000 in
theorem c_X9_ticks (l : Launch) (D : zD) (sz : Nat) (τ : zT) (g : zG) (a : Nat) (x1 : Int32) (hta : τ a = some (.inr 9)) : zCon l D yX9_ticks cX9_ticks 2 (some .int) rm_X9_ticks 0 0 zrI [.ref a, .int x1] sz τ g τ (f_X9_ticks a x1 g) := by
  refine zCon.of (by decide) (Nat.le_of_ble_eq_true rfl) (fun E r g' hl hR hsz hnm F => ?_)
  have F : zF E D (zA τ sz) cX9_ticks "TypeChain" 2 (some .int) := F
  show zSim (fun q : Int32 × zG => q = (r, g')) (f_X9_ticks a x1 g) (zAt E D (zA τ sz) (zQ E D zrI 0 0 sz τ τ r g') 2 (sz, τ, 0, 0) g 0 [(0, .ref a), (1, .int x1)] [])
  unfold f_X9_ticks
  refine z_iload_n F 1 rfl rfl dX9_ticks_0 ?_
  refine z_iconst (v := 1) F (by decide) dX9_ticks_1 ?_
  refine z_icmp_lt (tgt := 11) F dX9_ticks_2 (by decide) (fun c1 => ?_) (fun c1 => ?_)
  · refine z_iconst (v := (-1)) F (by decide) dX9_ticks_11 ?_
    exact z_ireturn F rfl rfl rfl rfl (fun h => h) dX9_ticks_12
  · refine z_iload_n F 1 rfl rfl dX9_ticks_5 ?_
    refine z_bipush (v := 40) F (by decide) dX9_ticks_6 ?_
    refine z_icmp_le (tgt := 13) F dX9_ticks_8 (by decide) (fun c2 => ?_) (fun c2 => ?_)
    · refine z_aload_n F 0 rfl rfl dX9_ticks_13 ?_
      refine gf_X9_42 F hta dX9_ticks_14 (fun ht3 => ?_)
      refine k_X2_canStrike F (by rw [hR]; exact ⟨by decide, by decide⟩) q_636 ht3 ⟨Nat.zero_le _, Nat.zero_le _⟩ (Nat.le_of_ble_eq_true rfl) dX9_ticks_17 (fun v4 g5 => ?_)
      refine z_if_ne (tgt := 26) F dX9_ticks_20 (by decide) (fun c6 => ?_) (fun c6 => ?_)
      · refine z_bipush (v := (-2)) F (by decide) dX9_ticks_23 ?_
        exact z_ireturn F rfl rfl rfl rfl (fun h => h) dX9_ticks_25
      · refine z_aload_n F 0 rfl rfl dX9_ticks_26 ?_
        refine gf_X9_51 F hta dX9_ticks_27 (fun ht7 => ?_)
        refine gf_X9_149 F ht7 dX9_ticks_30 (fun ht8 => ?_)
        refine gf_X9_150 F ht8 dX9_ticks_33 (fun ht9 => ?_)
        refine z_aload_n F 0 rfl rfl dX9_ticks_36 ?_
        refine gf_X9_12 F hta dX9_ticks_37 (fun ht10 => ?_)
        refine gf_X9_35 F ht10 dX9_ticks_40 (fun ht11 => ?_)
        refine z_aload_n F 0 rfl rfl dX9_ticks_43 ?_
        refine gf_X9_42 F hta dX9_ticks_44 (fun ht12 => ?_)
        refine gf_X9_144 F ht12 dX9_ticks_47 (fun ht13 => ?_)
        refine z_aload_n F 0 rfl rfl dX9_ticks_50 ?_
        refine gf_X9_12 F hta dX9_ticks_51 (fun ht14 => ?_)
        refine gf_X9_98 F ht14 dX9_ticks_54 (fun ht15 => ?_)
        refine z_iconst (v := 3) F (by decide) dX9_ticks_57 ?_
        refine z_iald F ht15 dX9_ticks_58 ?_
        refine z_iload_n F 1 rfl rfl dX9_ticks_59 ?_
        refine z_aload_n F 0 rfl rfl dX9_ticks_60 ?_
        refine gf_X9_42 F hta dX9_ticks_61 (fun ht16 => ?_)
        refine gf_X9_141 F ht16 dX9_ticks_64 ?_
        refine k_X7_make F (by rw [hR]; exact ⟨by decide, by decide⟩) q_644 ht9 ht11 ht13 ⟨Nat.zero_le _, Nat.zero_le _⟩ (Nat.le_of_ble_eq_true rfl) dX9_ticks_67 (fun v17 g18 => ?_)
        exact z_ireturn F rfl rfl rfl rfl (fun h => h) dX9_ticks_70
    · refine z_iconst (v := (-1)) F (by decide) dX9_ticks_11 ?_
      exact z_ireturn F rfl rfl rfl rfl (fun h => h) dX9_ticks_12
theorem k_X9_ticks {ρ : Type} {K : ρ → Prop} {E : zE} {D : zD} {A : Nat → Prop} {Q : State → Prop} {nL : Nat} {κ : zC} {g : zG} {pc : Nat} {lv : List (Nat × Value)} {st : List Value} {cc : ByteArray} {own : String} {ret : Option FieldType} (F : zF E D A cc own nL ret) {index : Nat} {h : Int32 → zG → Option ρ} {a : Nat} {x1 : Int32}  (hR : 3 + 1 ≤ E.2.2.2.1.frames ∧ 8 + (2 + 11) + 83 ≤ E.2.2.2.1.locals) (hl : zTbl (.methodLink own index yX9_ticks)) (hta : κ.2.1 a = some (.inr 9)) (hc : κ.2.2.1 ≤ E.2.2.2.1.cells ∧ κ.2.2.2 ≤ E.2.2.2.1.slots) (hW : (st.map fun v => v.category).sum ≤ 8) (hd : decode cc pc = .ok (.invokevirtual index, 3)) (kk : ∀ r g', zSim K (h r g') (zAt E D A Q nL κ g' (pc + 3) lv (.int r :: st))) : zSim K (zb (f_X9_ticks a x1 g) h) (zAt E D A Q nL κ g pc lv (.int x1 :: .ref a :: st)) :=
  z_callV F (n := 1) (As := [.int x1]) (C := (RX9, TX9, 11)) ⟨q_635, q_1, by decide +kernel, rfl, rfl, hR.1, hR.2⟩ (c_X9_ticks E.2.1 D κ.1 κ.2.1 g a x1 hta) hl q_633 q_634 hta rfl rfl rfl hc hW hd kk _ rfl
theorem dX9_go_0 : decode cX9_go 0 = .ok (.aload_n 0, 1) := by decide +kernel
theorem dX9_go_1 : decode cX9_go 1 = .ok (.getfield 42, 3) := by decide +kernel
theorem dX9_go_4 : decode cX9_go 4 = .ok (.invokevirtual 160, 3) := by decide +kernel
theorem dX9_go_7 : decode cX9_go 7 = .ok (.ireturn, 1) := by decide +kernel
def f_X9_go (a : Nat) (g : zG) : Option (Int32 × zG) :=
  zb (f_X2_strikeLine (g.2.1 a 4) g) (fun v2 g3 => some ((v2, g3)))
abbrev rm_X9_go : Room := { frames := 4, cells := 0, slots := 0, locals := 104 }
set_option maxRecDepth 100000 in
set_option maxHeartbeats 4000000 in
theorem c_X9_go (l : Launch) (D : zD) (sz : Nat) (τ : zT) (g : zG) (a : Nat) (hta : τ a = some (.inr 9)) : zCon l D yX9_go cX9_go 1 (some .int) rm_X9_go 0 0 zrI [.ref a] sz τ g τ (f_X9_go a g) := by
  refine zCon.of (by decide) (Nat.le_of_ble_eq_true rfl) (fun E r g' hl hR hsz hnm F => ?_)
  have F : zF E D (zA τ sz) cX9_go "TypeChain" 1 (some .int) := F
  show zSim (fun q : Int32 × zG => q = (r, g')) (f_X9_go a g) (zAt E D (zA τ sz) (zQ E D zrI 0 0 sz τ τ r g') 1 (sz, τ, 0, 0) g 0 [(0, .ref a)] [])
  unfold f_X9_go
  refine z_aload_n F 0 rfl rfl dX9_go_0 ?_
  refine gf_X9_42 F hta dX9_go_1 (fun ht1 => ?_)
  refine k_X2_strikeLine F (by rw [hR]; exact ⟨by decide, by decide⟩) q_671 ht1 ⟨Nat.zero_le _, Nat.zero_le _⟩ (Nat.le_of_ble_eq_true rfl) dX9_go_4 (fun v2 g3 => ?_)
  exact z_ireturn F rfl rfl rfl rfl (fun h => h) dX9_go_7
theorem k_X9_go {ρ : Type} {K : ρ → Prop} {E : zE} {D : zD} {A : Nat → Prop} {Q : State → Prop} {nL : Nat} {κ : zC} {g : zG} {pc : Nat} {lv : List (Nat × Value)} {st : List Value} {cc : ByteArray} {own : String} {ret : Option FieldType} (F : zF E D A cc own nL ret) {index : Nat} {h : Int32 → zG → Option ρ} {a : Nat}  (hR : 4 + 1 ≤ E.2.2.2.1.frames ∧ 8 + (1 + 11) + 104 ≤ E.2.2.2.1.locals) (hl : zTbl (.methodLink own index yX9_go)) (hta : κ.2.1 a = some (.inr 9)) (hc : κ.2.2.1 ≤ E.2.2.2.1.cells ∧ κ.2.2.2 ≤ E.2.2.2.1.slots) (hW : (st.map fun v => v.category).sum ≤ 8) (hd : decode cc pc = .ok (.invokevirtual index, 3)) (kk : ∀ r g', zSim K (h r g') (zAt E D A Q nL κ g' (pc + 3) lv (.int r :: st))) : zSim K (zb (f_X9_go a g) h) (zAt E D A Q nL κ g pc lv (.ref a :: st)) :=
  z_callV F (n := 0) (As := []) (C := (RX9, TX9, 11)) ⟨q_670, q_1, by decide +kernel, rfl, rfl, hR.1, hR.2⟩ (c_X9_go E.2.1 D κ.1 κ.2.1 g a hta) hl q_668 q_669 hta rfl rfl rfl hc hW hd kk _ rfl
theorem dX9_slips_0 : decode cX9_slips 0 = .ok (.iload_n 1, 1) := by decide +kernel
theorem dX9_slips_1 : decode cX9_slips 1 = .ok (.ifCond .eq 10, 3) := by decide +kernel
theorem dX9_slips_4 : decode cX9_slips 4 = .ok (.iload_n 1, 1) := by decide +kernel
theorem dX9_slips_5 : decode cX9_slips 5 = .ok (.iconst 1, 1) := by decide +kernel
theorem dX9_slips_6 : decode cX9_slips 6 = .ok (.if_icmp .eq 5, 3) := by decide +kernel
theorem dX9_slips_9 : decode cX9_slips 9 = .ok (.iconst (-1), 1) := by decide +kernel
theorem dX9_slips_10 : decode cX9_slips 10 = .ok (.ireturn, 1) := by decide +kernel
theorem dX9_slips_11 : decode cX9_slips 11 = .ok (.aload_n 0, 1) := by decide +kernel
theorem dX9_slips_12 : decode cX9_slips 12 = .ok (.getfield 42, 3) := by decide +kernel
theorem dX9_slips_15 : decode cX9_slips 15 = .ok (.getfield 150, 3) := by decide +kernel
theorem dX9_slips_18 : decode cX9_slips 18 = .ok (.getfield 164, 3) := by decide +kernel
theorem dX9_slips_21 : decode cX9_slips 21 = .ok (.ifCond .ne 6, 3) := by decide +kernel
theorem dX9_slips_24 : decode cX9_slips 24 = .ok (.bipush (-2), 2) := by decide +kernel
theorem dX9_slips_26 : decode cX9_slips 26 = .ok (.ireturn, 1) := by decide +kernel
theorem dX9_slips_27 : decode cX9_slips 27 = .ok (.iconst 0, 1) := by decide +kernel
theorem dX9_slips_28 : decode cX9_slips 28 = .ok (.istore_n 2, 1) := by decide +kernel
theorem dX9_slips_29 : decode cX9_slips 29 = .ok (.bipush (-4), 2) := by decide +kernel
theorem dX9_slips_31 : decode cX9_slips 31 = .ok (.istore_n 3, 1) := by decide +kernel
theorem dX9_slips_32 : decode cX9_slips 32 = .ok (.aload_n 0, 1) := by decide +kernel
theorem dX9_slips_33 : decode cX9_slips 33 = .ok (.getfield 12, 3) := by decide +kernel
theorem dX9_slips_36 : decode cX9_slips 36 = .ok (.getfield 35, 3) := by decide +kernel
theorem dX9_slips_39 : decode cX9_slips 39 = .ok (.getfield 95, 3) := by decide +kernel
theorem dX9_slips_42 : decode cX9_slips 42 = .ok (.iconst 1, 1) := by decide +kernel
theorem dX9_slips_43 : decode cX9_slips 43 = .ok (.isub, 1) := by decide +kernel
theorem dX9_slips_44 : decode cX9_slips 44 = .ok (.istore 4, 2) := by decide +kernel
theorem dX9_slips_46 : decode cX9_slips 46 = .ok (.iload 4, 2) := by decide +kernel
theorem dX9_slips_48 : decode cX9_slips 48 = .ok (.ifCond .lt 46, 3) := by decide +kernel
theorem dX9_slips_51 : decode cX9_slips 51 = .ok (.aload_n 0, 1) := by decide +kernel
theorem dX9_slips_52 : decode cX9_slips 52 = .ok (.getfield 42, 3) := by decide +kernel
theorem dX9_slips_55 : decode cX9_slips 55 = .ok (.getfield 150, 3) := by decide +kernel
theorem dX9_slips_58 : decode cX9_slips 58 = .ok (.aload_n 0, 1) := by decide +kernel
theorem dX9_slips_59 : decode cX9_slips 59 = .ok (.getfield 12, 3) := by decide +kernel
theorem dX9_slips_62 : decode cX9_slips 62 = .ok (.getfield 35, 3) := by decide +kernel
theorem dX9_slips_65 : decode cX9_slips 65 = .ok (.iload 4, 2) := by decide +kernel
theorem dX9_slips_67 : decode cX9_slips 67 = .ok (.aload_n 0, 1) := by decide +kernel
theorem dX9_slips_68 : decode cX9_slips 68 = .ok (.getfield 12, 3) := by decide +kernel
theorem dX9_slips_71 : decode cX9_slips 71 = .ok (.getfield 98, 3) := by decide +kernel
theorem dX9_slips_74 : decode cX9_slips 74 = .ok (.iconst 3, 1) := by decide +kernel
theorem dX9_slips_75 : decode cX9_slips 75 = .ok (.iaload, 1) := by decide +kernel
theorem dX9_slips_76 : decode cX9_slips 76 = .ok (.invokevirtual 194, 3) := by decide +kernel
theorem dX9_slips_79 : decode cX9_slips 79 = .ok (.ifCond .eq 9, 3) := by decide +kernel
theorem dX9_slips_82 : decode cX9_slips 82 = .ok (.iinc 2 1, 3) := by decide +kernel
theorem dX9_slips_85 : decode cX9_slips 85 = .ok (.iload 4, 2) := by decide +kernel
theorem dX9_slips_87 : decode cX9_slips 87 = .ok (.istore_n 3, 1) := by decide +kernel
theorem dX9_slips_88 : decode cX9_slips 88 = .ok (.iinc 4 (-1), 3) := by decide +kernel
theorem dX9_slips_91 : decode cX9_slips 91 = .ok (.goto (-45), 3) := by decide +kernel
theorem dX9_slips_94 : decode cX9_slips 94 = .ok (.iload_n 1, 1) := by decide +kernel
theorem dX9_slips_95 : decode cX9_slips 95 = .ok (.ifCond .ne 7, 3) := by decide +kernel
theorem dX9_slips_98 : decode cX9_slips 98 = .ok (.iload_n 2, 1) := by decide +kernel
theorem dX9_slips_99 : decode cX9_slips 99 = .ok (.goto 4, 3) := by decide +kernel
theorem dX9_slips_102 : decode cX9_slips 102 = .ok (.iload_n 3, 1) := by decide +kernel
theorem dX9_slips_103 : decode cX9_slips 103 = .ok (.ireturn, 1) := by decide +kernel
def j_X9_slips_94 (a : Nat) (l1 : Int32) (l2 : Int32) (l3 : Int32) (g : zG) : Option (Int32 × zG) :=
  if l1 = 0 then (some ((l2, g))) else (some ((l3, g)))
def l_X9_slips_46 (a : Nat) (l1 : Int32) (l2 : Int32) (l3 : Int32) (l4 : Int32) (g : zG) : Option ((Int32 × Int32 × Int32 × zG) ⊕ (Int32 × Int32 × zG)) :=
  if l4 < 0 then (some (.inr (l2, l3, g))) else (zc (zin 3 8) (zb (f_X7_fitsSlip (g.2.1 (g.2.1 a 4) 1) (g.2.1 (g.2.1 a 0) 0) l4 (g.1 (g.2.1 (g.2.1 a 0) 2) (3 : Int32).toNatClampNeg) g) (fun v15 g16 => if v15 = 0 then (zl (l4 + (-1)) (fun v18 => some (.inl (l2, l3, v18, g16)))) else (zl (l2 + 1) (fun v19 => zl (l4 + (-1)) (fun v20 => some (.inl (v19, l4, v20, g16))))))))
def j_X9_slips_11 (a : Nat) (l1 : Int32) (g : zG) : Option (Int32 × zG) :=
  if (g.1 (g.2.1 (g.2.1 a 4) 1) 2) = 0 then (some (((-2), g))) else (zl ((g.1 (g.2.1 (g.2.1 a 0) 0) 1) - 1) (fun v7 => zk (zw zN (fun s => l_X9_slips_46 a l1 s.1 s.2.1 s.2.2.1 s.2.2.2) (0, (-4), v7, g)) (fun x => j_X9_slips_94 a l1 x.1 x.2.1 x.2.2)))
def f_X9_slips (a : Nat) (x1 : Int32) (g : zG) : Option (Int32 × zG) :=
  if x1 = 0 then (j_X9_slips_11 a x1 g) else (if x1 = 1 then (j_X9_slips_11 a x1 g) else (some (((-1), g))))
abbrev rm_X9_slips : Room := { frames := 3, cells := 0, slots := 0, locals := 71 }
set_option maxRecDepth 100000 in
set_option maxHeartbeats 4000000 in
theorem c_X9_slips (l : Launch) (D : zD) (sz : Nat) (τ : zT) (g : zG) (a : Nat) (x1 : Int32) (hta : τ a = some (.inr 9)) : zCon l D yX9_slips cX9_slips 5 (some .int) rm_X9_slips 0 0 zrI [.ref a, .int x1] sz τ g τ (f_X9_slips a x1 g) := by
  refine zCon.of (by decide) (Nat.le_of_ble_eq_true rfl) (fun E r g' hl hR hsz hnm F => ?_)
  have F : zF E D (zA τ sz) cX9_slips "TypeChain" 5 (some .int) := F
  show zSim (fun q : Int32 × zG => q = (r, g')) (f_X9_slips a x1 g) (zAt E D (zA τ sz) (zQ E D zrI 0 0 sz τ τ r g') 5 (sz, τ, 0, 0) g 0 [(0, .ref a), (1, .int x1)] [])
  have hj_X9_slips_94 : ∀ (l1_94 : Int32) (l2_94 : Int32) (l3_94 : Int32) (g_94 : zG), zSim (fun q : Int32 × zG => q = (r, g')) (j_X9_slips_94 a l1_94 l2_94 l3_94 g_94) (zAt E D (zA τ sz) (zQ E D zrI 0 0 sz τ τ r g') 5 (sz, τ, 0, 0) g_94 94 [(1, .int l1_94), (2, .int l2_94), (3, .int l3_94)] []) := by
    intro l1_94 l2_94 l3_94 g_94
    unfold j_X9_slips_94
    refine z_iload_n F 0 rfl rfl dX9_slips_94 ?_
    refine z_if_ne (tgt := 102) F dX9_slips_95 (by decide) (fun c1 => ?_) (fun c1 => ?_)
    · refine z_iload_n F 1 rfl rfl dX9_slips_98 ?_
      refine z_goto (tgt := 103) F dX9_slips_99 (by decide) ?_
      exact z_ireturn F rfl rfl rfl rfl (fun h => h) dX9_slips_103
    · refine z_iload_n F 2 rfl rfl dX9_slips_102 ?_
      exact z_ireturn F rfl rfl rfl rfl (fun h => h) dX9_slips_103
  have hj_X9_slips_11 : ∀ (l1_11 : Int32) (g_11 : zG), zSim (fun q : Int32 × zG => q = (r, g')) (j_X9_slips_11 a l1_11 g_11) (zAt E D (zA τ sz) (zQ E D zrI 0 0 sz τ τ r g') 5 (sz, τ, 0, 0) g_11 11 [(0, .ref a), (1, .int l1_11)] []) := by
    intro l1_11 g_11
    unfold j_X9_slips_11
    refine z_aload_n F 0 rfl rfl dX9_slips_11 ?_
    refine gf_X9_42 F hta dX9_slips_12 (fun ht2 => ?_)
    refine gf_X9_150 F ht2 dX9_slips_15 (fun ht3 => ?_)
    refine gf_X9_164 F ht3 dX9_slips_18 ?_
    refine z_if_ne (tgt := 27) F dX9_slips_21 (by decide) (fun c4 => ?_) (fun c4 => ?_)
    · refine z_bipush (v := (-2)) F (by decide) dX9_slips_24 ?_
      exact z_ireturn F rfl rfl rfl rfl (fun h => h) dX9_slips_26
    · refine z_iconst (v := 0) F (by decide) dX9_slips_27 ?_
      refine z_istore_n (lv' := [(2, .int 0), (0, .ref a), (1, .int l1_11)]) F rfl (by decide) dX9_slips_28 rfl ?_
      refine z_bipush (v := (-4)) F (by decide) dX9_slips_29 ?_
      refine z_istore_n (lv' := [(3, .int (-4)), (2, .int 0), (0, .ref a), (1, .int l1_11)]) F rfl (by decide) dX9_slips_31 rfl ?_
      refine z_aload_n F 2 rfl rfl dX9_slips_32 ?_
      refine gf_X9_12 F hta dX9_slips_33 (fun ht5 => ?_)
      refine gf_X9_35 F ht5 dX9_slips_36 (fun ht6 => ?_)
      refine gf_X9_95 F ht6 dX9_slips_39 ?_
      refine z_iconst (v := 1) F (by decide) dX9_slips_42 ?_
      refine z_isub F dX9_slips_43 ?_
      refine z_leti (fun v7 => ?_)
      refine z_istore (lv' := [(4, .int v7), (3, .int (-4)), (2, .int 0), (0, .ref a), (1, .int l1_11)]) F (by decide) dX9_slips_44 rfl ?_
      refine z_sub (lv' := [(0, .ref a), (1, .int l1_11), (2, .int 0), (3, .int (-4)), (4, .int v7)]) [3, 4, 2, 1, 0] rfl ?_
      refine z_loop (P := fun s : Int32 × Int32 × Int32 × zG => zAt E D (zA τ sz) (zQ E D zrI 0 0 sz τ τ r g') 5 (sz, τ, 0, 0) s.2.2.2 46 [(0, .ref a), (1, .int l1_11), (2, .int s.1), (3, .int s.2.1), (4, .int s.2.2.1)] []) (Px := fun x : Int32 × Int32 × zG => zAt E D (zA τ sz) (zQ E D zrI 0 0 sz τ τ r g') 5 (sz, τ, 0, 0) x.2.2 94 [(1, .int l1_11), (2, .int x.1), (3, .int x.2.1)] []) (0, (-4), v7, g_11) (fun s => ?_) (fun x => ?_)
      · obtain ⟨l2_46, l3_46, l4_46, g_46⟩ := s
        show zSim (zKl (fun s : Int32 × Int32 × Int32 × zG => zAt E D (zA τ sz) (zQ E D zrI 0 0 sz τ τ r g') 5 (sz, τ, 0, 0) s.2.2.2 46 [(0, .ref a), (1, .int l1_11), (2, .int s.1), (3, .int s.2.1), (4, .int s.2.2.1)] []) (fun x : Int32 × Int32 × zG => zAt E D (zA τ sz) (zQ E D zrI 0 0 sz τ τ r g') 5 (sz, τ, 0, 0) x.2.2 94 [(1, .int l1_11), (2, .int x.1), (3, .int x.2.1)] [])) (l_X9_slips_46 a l1_11 l2_46 l3_46 l4_46 g_46) (zAt E D (zA τ sz) (zQ E D zrI 0 0 sz τ τ r g') 5 (sz, τ, 0, 0) g_46 46 [(0, .ref a), (1, .int l1_11), (2, .int l2_46), (3, .int l3_46), (4, .int l4_46)] [])
        unfold l_X9_slips_46
        refine z_iload F 4 rfl dX9_slips_46 ?_
        refine z_if_lt (tgt := 94) F dX9_slips_48 (by decide) (fun c8 => ?_) (fun c8 => ?_)
        · refine z_sub (lv' := [(1, .int l1_11), (2, .int l2_46), (3, .int l3_46)]) [1, 2, 3] rfl ?_
          exact z_back (fun h => h)
        · refine z_aload_n F 0 rfl rfl dX9_slips_51 ?_
          refine gf_X9_42 F hta dX9_slips_52 (fun ht9 => ?_)
          refine gf_X9_150 F ht9 dX9_slips_55 (fun ht10 => ?_)
          refine z_aload_n F 0 rfl rfl dX9_slips_58 ?_
          refine gf_X9_12 F hta dX9_slips_59 (fun ht11 => ?_)
          refine gf_X9_35 F ht11 dX9_slips_62 (fun ht12 => ?_)
          refine z_iload F 4 rfl dX9_slips_65 ?_
          refine z_aload_n F 0 rfl rfl dX9_slips_67 ?_
          refine gf_X9_12 F hta dX9_slips_68 (fun ht13 => ?_)
          refine gf_X9_98 F ht13 dX9_slips_71 (fun ht14 => ?_)
          refine z_iconst (v := 3) F (by decide) dX9_slips_74 ?_
          refine z_iald F ht14 dX9_slips_75 ?_
          refine k_X7_fitsSlip F (by rw [hR]; exact ⟨by decide, by decide⟩) q_712 ht10 ht12 ⟨Nat.zero_le _, Nat.zero_le _⟩ (Nat.le_of_ble_eq_true rfl) dX9_slips_76 (fun v15 g16 => ?_)
          refine z_if_eq (tgt := 88) F dX9_slips_79 (by decide) (fun c17 => ?_) (fun c17 => ?_)
          · refine z_iincl (lv' := fun v18 => [(4, .int v18), (0, .ref a), (1, .int l1_11), (2, .int l2_46), (3, .int l3_46)]) F 4 rfl (by decide) (by decide) dX9_slips_88 (fun _ => rfl) (fun v18 => ?_)
            refine z_goto (tgt := 46) F dX9_slips_91 (by decide) ?_
            refine z_sub (lv' := [(0, .ref a), (1, .int l1_11), (2, .int l2_46), (3, .int l3_46), (4, .int v18)]) [1, 2, 3, 4, 0] rfl ?_
            exact z_back (fun h => h)
          · refine z_iincl (lv' := fun v19 => [(2, .int v19), (0, .ref a), (1, .int l1_11), (3, .int l3_46), (4, .int l4_46)]) F 2 rfl (by decide) (by decide) dX9_slips_82 (fun _ => rfl) (fun v19 => ?_)
            refine z_iload F 4 rfl dX9_slips_85 ?_
            refine z_istore_n (lv' := [(3, .int l4_46), (2, .int v19), (0, .ref a), (1, .int l1_11), (4, .int l4_46)]) F rfl (by decide) dX9_slips_87 rfl ?_
            refine z_iincl (lv' := fun v20 => [(4, .int v20), (3, .int l4_46), (2, .int v19), (0, .ref a), (1, .int l1_11)]) F 4 rfl (by decide) (by decide) dX9_slips_88 (fun _ => rfl) (fun v20 => ?_)
            refine z_goto (tgt := 46) F dX9_slips_91 (by decide) ?_
            refine z_sub (lv' := [(0, .ref a), (1, .int l1_11), (2, .int v19), (3, .int l4_46), (4, .int v20)]) [3, 4, 2, 1, 0] rfl ?_
            exact z_back (fun h => h)
      · show zSim (fun q : Int32 × zG => q = (r, g')) (j_X9_slips_94 a l1_11 x.1 x.2.1 x.2.2) (zAt E D (zA τ sz) (zQ E D zrI 0 0 sz τ τ r g') 5 (sz, τ, 0, 0) x.2.2 94 [(1, .int l1_11), (2, .int x.1), (3, .int x.2.1)] [])
        exact hj_X9_slips_94 l1_11 x.1 x.2.1 x.2.2
  unfold f_X9_slips
  refine z_iload_n F 1 rfl rfl dX9_slips_0 ?_
  refine z_if_eq (tgt := 11) F dX9_slips_1 (by decide) (fun c21 => ?_) (fun c21 => ?_)
  · exact hj_X9_slips_11 x1 g
  · refine z_iload_n F 1 rfl rfl dX9_slips_4 ?_
    refine z_iconst (v := 1) F (by decide) dX9_slips_5 ?_
    refine z_icmp_eq (tgt := 11) F dX9_slips_6 (by decide) (fun c22 => ?_) (fun c22 => ?_)
    · exact hj_X9_slips_11 x1 g
    · refine z_iconst (v := (-1)) F (by decide) dX9_slips_9 ?_
      exact z_ireturn F rfl rfl rfl rfl (fun h => h) dX9_slips_10
theorem k_X9_slips {ρ : Type} {K : ρ → Prop} {E : zE} {D : zD} {A : Nat → Prop} {Q : State → Prop} {nL : Nat} {κ : zC} {g : zG} {pc : Nat} {lv : List (Nat × Value)} {st : List Value} {cc : ByteArray} {own : String} {ret : Option FieldType} (F : zF E D A cc own nL ret) {index : Nat} {h : Int32 → zG → Option ρ} {a : Nat} {x1 : Int32}  (hR : 3 + 1 ≤ E.2.2.2.1.frames ∧ 8 + (5 + 11) + 71 ≤ E.2.2.2.1.locals) (hl : zTbl (.methodLink own index yX9_slips)) (hta : κ.2.1 a = some (.inr 9)) (hc : κ.2.2.1 ≤ E.2.2.2.1.cells ∧ κ.2.2.2 ≤ E.2.2.2.1.slots) (hW : (st.map fun v => v.category).sum ≤ 8) (hd : decode cc pc = .ok (.invokevirtual index, 3)) (kk : ∀ r g', zSim K (h r g') (zAt E D A Q nL κ g' (pc + 3) lv (.int r :: st))) : zSim K (zb (f_X9_slips a x1 g) h) (zAt E D A Q nL κ g pc lv (.int x1 :: .ref a :: st)) :=
  z_callV F (n := 1) (As := [.int x1]) (C := (RX9, TX9, 11)) ⟨q_711, q_1, by decide +kernel, rfl, rfl, hR.1, hR.2⟩ (c_X9_slips E.2.1 D κ.1 κ.2.1 g a x1 hta) hl q_709 q_710 hta rfl rfl rfl hc hW hd kk _ rfl
theorem dX9_space_0 : decode cX9_space 0 = .ok (.iload_n 1, 1) := by decide +kernel
theorem dX9_space_1 : decode cX9_space 1 = .ok (.ifCond .lt 9, 3) := by decide +kernel
theorem dX9_space_4 : decode cX9_space 4 = .ok (.iload_n 1, 1) := by decide +kernel
theorem dX9_space_5 : decode cX9_space 5 = .ok (.bipush 9, 2) := by decide +kernel
theorem dX9_space_7 : decode cX9_space 7 = .ok (.if_icmp .le 7, 3) := by decide +kernel
theorem dX9_space_10 : decode cX9_space 10 = .ok (.iconst (-1), 1) := by decide +kernel
theorem dX9_space_11 : decode cX9_space 11 = .ok (.goto 11, 3) := by decide +kernel
theorem dX9_space_14 : decode cX9_space 14 = .ok (.aload_n 0, 1) := by decide +kernel
theorem dX9_space_15 : decode cX9_space 15 = .ok (.getfield 42, 3) := by decide +kernel
theorem dX9_space_18 : decode cX9_space 18 = .ok (.iload_n 1, 1) := by decide +kernel
theorem dX9_space_19 : decode cX9_space 19 = .ok (.invokevirtual 198, 3) := by decide +kernel
theorem dX9_space_22 : decode cX9_space 22 = .ok (.ireturn, 1) := by decide +kernel
def f_X9_space (a : Nat) (x1 : Int32) (g : zG) : Option (Int32 × zG) :=
  if x1 < 0 then (some (((-1), g))) else (if x1 ≤ 9 then (zb (f_X2_moveBy (g.2.1 a 4) x1 g) (fun v4 g5 => some ((v4, g5)))) else (some (((-1), g))))
abbrev rm_X9_space : Room := { frames := 3, cells := 0, slots := 0, locals := 66 }
set_option maxRecDepth 100000 in
set_option maxHeartbeats 4000000 in
theorem c_X9_space (l : Launch) (D : zD) (sz : Nat) (τ : zT) (g : zG) (a : Nat) (x1 : Int32) (hta : τ a = some (.inr 9)) : zCon l D yX9_space cX9_space 2 (some .int) rm_X9_space 0 0 zrI [.ref a, .int x1] sz τ g τ (f_X9_space a x1 g) := by
  refine zCon.of (by decide) (Nat.le_of_ble_eq_true rfl) (fun E r g' hl hR hsz hnm F => ?_)
  have F : zF E D (zA τ sz) cX9_space "TypeChain" 2 (some .int) := F
  show zSim (fun q : Int32 × zG => q = (r, g')) (f_X9_space a x1 g) (zAt E D (zA τ sz) (zQ E D zrI 0 0 sz τ τ r g') 2 (sz, τ, 0, 0) g 0 [(0, .ref a), (1, .int x1)] [])
  unfold f_X9_space
  refine z_iload_n F 1 rfl rfl dX9_space_0 ?_
  refine z_if_lt (tgt := 10) F dX9_space_1 (by decide) (fun c1 => ?_) (fun c1 => ?_)
  · refine z_iconst (v := (-1)) F (by decide) dX9_space_10 ?_
    refine z_goto (tgt := 22) F dX9_space_11 (by decide) ?_
    exact z_ireturn F rfl rfl rfl rfl (fun h => h) dX9_space_22
  · refine z_iload_n F 1 rfl rfl dX9_space_4 ?_
    refine z_bipush (v := 9) F (by decide) dX9_space_5 ?_
    refine z_icmp_le (tgt := 14) F dX9_space_7 (by decide) (fun c2 => ?_) (fun c2 => ?_)
    · refine z_aload_n F 0 rfl rfl dX9_space_14 ?_
      refine gf_X9_42 F hta dX9_space_15 (fun ht3 => ?_)
      refine z_iload_n F 1 rfl rfl dX9_space_18 ?_
      refine k_X2_moveBy F (by rw [hR]; exact ⟨by decide, by decide⟩) q_721 ht3 ⟨Nat.zero_le _, Nat.zero_le _⟩ (Nat.le_of_ble_eq_true rfl) dX9_space_19 (fun v4 g5 => ?_)
      exact z_ireturn F rfl rfl rfl rfl (fun h => h) dX9_space_22
    · refine z_iconst (v := (-1)) F (by decide) dX9_space_10 ?_
      refine z_goto (tgt := 22) F dX9_space_11 (by decide) ?_
      exact z_ireturn F rfl rfl rfl rfl (fun h => h) dX9_space_22
theorem k_X9_space {ρ : Type} {K : ρ → Prop} {E : zE} {D : zD} {A : Nat → Prop} {Q : State → Prop} {nL : Nat} {κ : zC} {g : zG} {pc : Nat} {lv : List (Nat × Value)} {st : List Value} {cc : ByteArray} {own : String} {ret : Option FieldType} (F : zF E D A cc own nL ret) {index : Nat} {h : Int32 → zG → Option ρ} {a : Nat} {x1 : Int32}  (hR : 3 + 1 ≤ E.2.2.2.1.frames ∧ 8 + (2 + 11) + 66 ≤ E.2.2.2.1.locals) (hl : zTbl (.methodLink own index yX9_space)) (hta : κ.2.1 a = some (.inr 9)) (hc : κ.2.2.1 ≤ E.2.2.2.1.cells ∧ κ.2.2.2 ≤ E.2.2.2.1.slots) (hW : (st.map fun v => v.category).sum ≤ 8) (hd : decode cc pc = .ok (.invokevirtual index, 3)) (kk : ∀ r g', zSim K (h r g') (zAt E D A Q nL κ g' (pc + 3) lv (.int r :: st))) : zSim K (zb (f_X9_space a x1 g) h) (zAt E D A Q nL κ g pc lv (.int x1 :: .ref a :: st)) :=
  z_callV F (n := 1) (As := [.int x1]) (C := (RX9, TX9, 11)) ⟨q_720, q_1, by decide +kernel, rfl, rfl, hR.1, hR.2⟩ (c_X9_space E.2.1 D κ.1 κ.2.1 g a x1 hta) hl q_718 q_719 hta rfl rfl rfl hc hW hd kk _ rfl
theorem dX9_skip_0 : decode cX9_skip 0 = .ok (.iload_n 1, 1) := by decide +kernel
theorem dX9_skip_1 : decode cX9_skip 1 = .ok (.ifCond .lt 9, 3) := by decide +kernel
theorem dX9_skip_4 : decode cX9_skip 4 = .ok (.iload_n 1, 1) := by decide +kernel
theorem dX9_skip_5 : decode cX9_skip 5 = .ok (.bipush 8, 2) := by decide +kernel
theorem dX9_skip_7 : decode cX9_skip 7 = .ok (.if_icmp .lt 7, 3) := by decide +kernel
theorem dX9_skip_10 : decode cX9_skip 10 = .ok (.iconst (-1), 1) := by decide +kernel
theorem dX9_skip_11 : decode cX9_skip 11 = .ok (.goto 11, 3) := by decide +kernel
theorem dX9_skip_14 : decode cX9_skip 14 = .ok (.aload_n 0, 1) := by decide +kernel
theorem dX9_skip_15 : decode cX9_skip 15 = .ok (.getfield 42, 3) := by decide +kernel
theorem dX9_skip_18 : decode cX9_skip 18 = .ok (.iload_n 1, 1) := by decide +kernel
theorem dX9_skip_19 : decode cX9_skip 19 = .ok (.invokevirtual 202, 3) := by decide +kernel
theorem dX9_skip_22 : decode cX9_skip 22 = .ok (.ireturn, 1) := by decide +kernel
def f_X9_skip (a : Nat) (x1 : Int32) (g : zG) : Option (Int32 × zG) :=
  if x1 < 0 then (some (((-1), g))) else (if x1 < 8 then (zb (f_X2_moveToHole (g.2.1 a 4) x1 g) (fun v4 g5 => some ((v4, g5)))) else (some (((-1), g))))
abbrev rm_X9_skip : Room := { frames := 4, cells := 0, slots := 0, locals := 88 }
set_option maxRecDepth 100000 in
set_option maxHeartbeats 4000000 in
theorem c_X9_skip (l : Launch) (D : zD) (sz : Nat) (τ : zT) (g : zG) (a : Nat) (x1 : Int32) (hta : τ a = some (.inr 9)) : zCon l D yX9_skip cX9_skip 2 (some .int) rm_X9_skip 0 0 zrI [.ref a, .int x1] sz τ g τ (f_X9_skip a x1 g) := by
  refine zCon.of (by decide) (Nat.le_of_ble_eq_true rfl) (fun E r g' hl hR hsz hnm F => ?_)
  have F : zF E D (zA τ sz) cX9_skip "TypeChain" 2 (some .int) := F
  show zSim (fun q : Int32 × zG => q = (r, g')) (f_X9_skip a x1 g) (zAt E D (zA τ sz) (zQ E D zrI 0 0 sz τ τ r g') 2 (sz, τ, 0, 0) g 0 [(0, .ref a), (1, .int x1)] [])
  unfold f_X9_skip
  refine z_iload_n F 1 rfl rfl dX9_skip_0 ?_
  refine z_if_lt (tgt := 10) F dX9_skip_1 (by decide) (fun c1 => ?_) (fun c1 => ?_)
  · refine z_iconst (v := (-1)) F (by decide) dX9_skip_10 ?_
    refine z_goto (tgt := 22) F dX9_skip_11 (by decide) ?_
    exact z_ireturn F rfl rfl rfl rfl (fun h => h) dX9_skip_22
  · refine z_iload_n F 1 rfl rfl dX9_skip_4 ?_
    refine z_bipush (v := 8) F (by decide) dX9_skip_5 ?_
    refine z_icmp_lt (tgt := 14) F dX9_skip_7 (by decide) (fun c2 => ?_) (fun c2 => ?_)
    · refine z_aload_n F 0 rfl rfl dX9_skip_14 ?_
      refine gf_X9_42 F hta dX9_skip_15 (fun ht3 => ?_)
      refine z_iload_n F 1 rfl rfl dX9_skip_18 ?_
      refine k_X2_moveToHole F (by rw [hR]; exact ⟨by decide, by decide⟩) q_729 ht3 ⟨Nat.zero_le _, Nat.zero_le _⟩ (Nat.le_of_ble_eq_true rfl) dX9_skip_19 (fun v4 g5 => ?_)
      exact z_ireturn F rfl rfl rfl rfl (fun h => h) dX9_skip_22
    · refine z_iconst (v := (-1)) F (by decide) dX9_skip_10 ?_
      refine z_goto (tgt := 22) F dX9_skip_11 (by decide) ?_
      exact z_ireturn F rfl rfl rfl rfl (fun h => h) dX9_skip_22
theorem k_X9_skip {ρ : Type} {K : ρ → Prop} {E : zE} {D : zD} {A : Nat → Prop} {Q : State → Prop} {nL : Nat} {κ : zC} {g : zG} {pc : Nat} {lv : List (Nat × Value)} {st : List Value} {cc : ByteArray} {own : String} {ret : Option FieldType} (F : zF E D A cc own nL ret) {index : Nat} {h : Int32 → zG → Option ρ} {a : Nat} {x1 : Int32}  (hR : 4 + 1 ≤ E.2.2.2.1.frames ∧ 8 + (2 + 11) + 88 ≤ E.2.2.2.1.locals) (hl : zTbl (.methodLink own index yX9_skip)) (hta : κ.2.1 a = some (.inr 9)) (hc : κ.2.2.1 ≤ E.2.2.2.1.cells ∧ κ.2.2.2 ≤ E.2.2.2.1.slots) (hW : (st.map fun v => v.category).sum ≤ 8) (hd : decode cc pc = .ok (.invokevirtual index, 3)) (kk : ∀ r g', zSim K (h r g') (zAt E D A Q nL κ g' (pc + 3) lv (.int r :: st))) : zSim K (zb (f_X9_skip a x1 g) h) (zAt E D A Q nL κ g pc lv (.int x1 :: .ref a :: st)) :=
  z_callV F (n := 1) (As := [.int x1]) (C := (RX9, TX9, 11)) ⟨q_728, q_1, by decide +kernel, rfl, rfl, hR.1, hR.2⟩ (c_X9_skip E.2.1 D κ.1 κ.2.1 g a x1 hta) hl q_726 q_727 hta rfl rfl rfl hc hW hd kk _ rfl
theorem dX9_now_0 : decode cX9_now 0 = .ok (.iload_n 1, 1) := by decide +kernel
theorem dX9_now_1 : decode cX9_now 1 = .ok (.tableswitch 77 0 4 #[35, 43, 51, 59, 68], 35) := by decide +kernel
theorem dX9_now_36 : decode cX9_now 36 = .ok (.aload_n 0, 1) := by decide +kernel
theorem dX9_now_37 : decode cX9_now 37 = .ok (.getfield 42, 3) := by decide +kernel
theorem dX9_now_40 : decode cX9_now 40 = .ok (.getfield 141, 3) := by decide +kernel
theorem dX9_now_43 : decode cX9_now 43 = .ok (.ireturn, 1) := by decide +kernel
theorem dX9_now_44 : decode cX9_now 44 = .ok (.aload_n 0, 1) := by decide +kernel
theorem dX9_now_45 : decode cX9_now 45 = .ok (.getfield 42, 3) := by decide +kernel
theorem dX9_now_48 : decode cX9_now 48 = .ok (.getfield 205, 3) := by decide +kernel
theorem dX9_now_51 : decode cX9_now 51 = .ok (.ireturn, 1) := by decide +kernel
theorem dX9_now_52 : decode cX9_now 52 = .ok (.aload_n 0, 1) := by decide +kernel
theorem dX9_now_53 : decode cX9_now 53 = .ok (.getfield 42, 3) := by decide +kernel
theorem dX9_now_56 : decode cX9_now 56 = .ok (.getfield 208, 3) := by decide +kernel
theorem dX9_now_59 : decode cX9_now 59 = .ok (.ireturn, 1) := by decide +kernel
theorem dX9_now_60 : decode cX9_now 60 = .ok (.aload_n 0, 1) := by decide +kernel
theorem dX9_now_61 : decode cX9_now 61 = .ok (.getfield 29, 3) := by decide +kernel
theorem dX9_now_64 : decode cX9_now 64 = .ok (.iconst 1, 1) := by decide +kernel
theorem dX9_now_65 : decode cX9_now 65 = .ok (.invokevirtual 211, 3) := by decide +kernel
theorem dX9_now_68 : decode cX9_now 68 = .ok (.ireturn, 1) := by decide +kernel
theorem dX9_now_69 : decode cX9_now 69 = .ok (.aload_n 0, 1) := by decide +kernel
theorem dX9_now_70 : decode cX9_now 70 = .ok (.getfield 29, 3) := by decide +kernel
theorem dX9_now_73 : decode cX9_now 73 = .ok (.iconst 2, 1) := by decide +kernel
theorem dX9_now_74 : decode cX9_now 74 = .ok (.invokevirtual 211, 3) := by decide +kernel
theorem dX9_now_77 : decode cX9_now 77 = .ok (.ireturn, 1) := by decide +kernel
theorem dX9_now_78 : decode cX9_now 78 = .ok (.iconst (-1), 1) := by decide +kernel
theorem dX9_now_79 : decode cX9_now 79 = .ok (.ireturn, 1) := by decide +kernel
def f_X9_now (a : Nat) (x1 : Int32) (g : zG) : Option (Int32 × zG) :=
  if x1 = 0 then (some ((g.1 (g.2.1 a 4) 2, g))) else (if x1 = 1 then (some ((g.1 (g.2.1 a 4) 3, g))) else (if x1 = 2 then (some ((g.1 (g.2.1 a 4) 4, g))) else (if x1 = 3 then (zb (f_X1_placesStruck (g.2.1 a 3) 1 g) (fun v9 g10 => some ((v9, g10)))) else (if x1 = 4 then (zb (f_X1_placesStruck (g.2.1 a 3) 2 g) (fun v13 g14 => some ((v13, g14)))) else (some (((-1), g)))))))
abbrev rm_X9_now : Room := { frames := 1, cells := 0, slots := 0, locals := 23 }
set_option maxRecDepth 100000 in
set_option maxHeartbeats 4000000 in
theorem c_X9_now (l : Launch) (D : zD) (sz : Nat) (τ : zT) (g : zG) (a : Nat) (x1 : Int32) (hta : τ a = some (.inr 9)) : zCon l D yX9_now cX9_now 2 (some .int) rm_X9_now 0 0 zrI [.ref a, .int x1] sz τ g τ (f_X9_now a x1 g) := by
  refine zCon.of (by decide) (Nat.le_of_ble_eq_true rfl) (fun E r g' hl hR hsz hnm F => ?_)
  have F : zF E D (zA τ sz) cX9_now "TypeChain" 2 (some .int) := F
  show zSim (fun q : Int32 × zG => q = (r, g')) (f_X9_now a x1 g) (zAt E D (zA τ sz) (zQ E D zrI 0 0 sz τ τ r g') 2 (sz, τ, 0, 0) g 0 [(0, .ref a), (1, .int x1)] [])
  unfold f_X9_now
  refine z_iload_n F 1 rfl rfl dX9_now_0 ?_
  refine z_ite (fun c1 => ?_) (fun c1 => ?_)
  · refine z_tableIn (tgt := 36) F 0 c1 dX9_now_1 (by decide) (by decide) rfl (by decide) ?_
    refine z_aload_n F 0 rfl rfl dX9_now_36 ?_
    refine gf_X9_42 F hta dX9_now_37 (fun ht2 => ?_)
    refine gf_X9_141 F ht2 dX9_now_40 ?_
    exact z_ireturn F rfl rfl rfl rfl (fun h => h) dX9_now_43
  ·
    refine z_ite (fun c3 => ?_) (fun c3 => ?_)
    · refine z_tableIn (tgt := 44) F 1 c3 dX9_now_1 (by decide) (by decide) rfl (by decide) ?_
      refine z_aload_n F 0 rfl rfl dX9_now_44 ?_
      refine gf_X9_42 F hta dX9_now_45 (fun ht4 => ?_)
      refine gf_X9_205 F ht4 dX9_now_48 ?_
      exact z_ireturn F rfl rfl rfl rfl (fun h => h) dX9_now_51
    ·
      refine z_ite (fun c5 => ?_) (fun c5 => ?_)
      · refine z_tableIn (tgt := 52) F 2 c5 dX9_now_1 (by decide) (by decide) rfl (by decide) ?_
        refine z_aload_n F 0 rfl rfl dX9_now_52 ?_
        refine gf_X9_42 F hta dX9_now_53 (fun ht6 => ?_)
        refine gf_X9_208 F ht6 dX9_now_56 ?_
        exact z_ireturn F rfl rfl rfl rfl (fun h => h) dX9_now_59
      ·
        refine z_ite (fun c7 => ?_) (fun c7 => ?_)
        · refine z_tableIn (tgt := 60) F 3 c7 dX9_now_1 (by decide) (by decide) rfl (by decide) ?_
          refine z_aload_n F 0 rfl rfl dX9_now_60 ?_
          refine gf_X9_29 F hta dX9_now_61 (fun ht8 => ?_)
          refine z_iconst (v := 1) F (by decide) dX9_now_64 ?_
          refine k_X1_placesStruck F (by rw [hR]; exact ⟨by decide, by decide⟩) q_742 ht8 ⟨Nat.zero_le _, Nat.zero_le _⟩ (Nat.le_of_ble_eq_true rfl) dX9_now_65 (fun v9 g10 => ?_)
          exact z_ireturn F rfl rfl rfl rfl (fun h => h) dX9_now_68
        ·
          refine z_ite (fun c11 => ?_) (fun c11 => ?_)
          · refine z_tableIn (tgt := 69) F 4 c11 dX9_now_1 (by decide) (by decide) rfl (by decide) ?_
            refine z_aload_n F 0 rfl rfl dX9_now_69 ?_
            refine gf_X9_29 F hta dX9_now_70 (fun ht12 => ?_)
            refine z_iconst (v := 2) F (by decide) dX9_now_73 ?_
            refine k_X1_placesStruck F (by rw [hR]; exact ⟨by decide, by decide⟩) q_742 ht12 ⟨Nat.zero_le _, Nat.zero_le _⟩ (Nat.le_of_ble_eq_true rfl) dX9_now_74 (fun v13 g14 => ?_)
            exact z_ireturn F rfl rfl rfl rfl (fun h => h) dX9_now_77
          ·
            refine z_tableOut (tgt := 78) F dX9_now_1 (by have e0 := lv_neT (a := 0) c1 (by decide); have e1 := lv_neT (a := 1) c3 (by decide); have e2 := lv_neT (a := 2) c5 (by decide); have e3 := lv_neT (a := 3) c7 (by decide); have e4 := lv_neT (a := 4) c11 (by decide); omega) (by decide) ?_
            refine z_iconst (v := (-1)) F (by decide) dX9_now_78 ?_
            exact z_ireturn F rfl rfl rfl rfl (fun h => h) dX9_now_79
theorem k_X9_now {ρ : Type} {K : ρ → Prop} {E : zE} {D : zD} {A : Nat → Prop} {Q : State → Prop} {nL : Nat} {κ : zC} {g : zG} {pc : Nat} {lv : List (Nat × Value)} {st : List Value} {cc : ByteArray} {own : String} {ret : Option FieldType} (F : zF E D A cc own nL ret) {index : Nat} {h : Int32 → zG → Option ρ} {a : Nat} {x1 : Int32}  (hR : 1 + 1 ≤ E.2.2.2.1.frames ∧ 8 + (2 + 11) + 23 ≤ E.2.2.2.1.locals) (hl : zTbl (.methodLink own index yX9_now)) (hta : κ.2.1 a = some (.inr 9)) (hc : κ.2.2.1 ≤ E.2.2.2.1.cells ∧ κ.2.2.2 ≤ E.2.2.2.1.slots) (hW : (st.map fun v => v.category).sum ≤ 8) (hd : decode cc pc = .ok (.invokevirtual index, 3)) (kk : ∀ r g', zSim K (h r g') (zAt E D A Q nL κ g' (pc + 3) lv (.int r :: st))) : zSim K (zb (f_X9_now a x1 g) h) (zAt E D A Q nL κ g pc lv (.int x1 :: .ref a :: st)) :=
  z_callV F (n := 1) (As := [.int x1]) (C := (RX9, TX9, 11)) ⟨q_741, q_1, by decide +kernel, rfl, rfl, hR.1, hR.2⟩ (c_X9_now E.2.1 D κ.1 κ.2.1 g a x1 hta) hl q_739 q_740 hta rfl rfl rfl hc hW hd kk _ rfl
theorem dX9_run_0 : decode cX9_run 0 = .ok (.aload_n 0, 1) := by decide +kernel
theorem dX9_run_1 : decode cX9_run 1 = .ok (.getfield 42, 3) := by decide +kernel
theorem dX9_run_4 : decode cX9_run 4 = .ok (.getfield 141, 3) := by decide +kernel
theorem dX9_run_7 : decode cX9_run 7 = .ok (.istore_n 1, 1) := by decide +kernel
theorem dX9_run_8 : decode cX9_run 8 = .ok (.aload_n 0, 1) := by decide +kernel
theorem dX9_run_9 : decode cX9_run 9 = .ok (.getfield 42, 3) := by decide +kernel
theorem dX9_run_12 : decode cX9_run 12 = .ok (.getfield 218, 3) := by decide +kernel
theorem dX9_run_15 : decode cX9_run 15 = .ok (.istore_n 2, 1) := by decide +kernel
theorem dX9_run_16 : decode cX9_run 16 = .ok (.aload_n 0, 1) := by decide +kernel
theorem dX9_run_17 : decode cX9_run 17 = .ok (.getfield 42, 3) := by decide +kernel
theorem dX9_run_20 : decode cX9_run 20 = .ok (.invokevirtual 221, 3) := by decide +kernel
theorem dX9_run_23 : decode cX9_run 23 = .ok (.istore_n 3, 1) := by decide +kernel
theorem dX9_run_24 : decode cX9_run 24 = .ok (.aload_n 0, 1) := by decide +kernel
theorem dX9_run_25 : decode cX9_run 25 = .ok (.iconst 1, 1) := by decide +kernel
theorem dX9_run_26 : decode cX9_run 26 = .ok (.putfield 224, 3) := by decide +kernel
theorem dX9_run_29 : decode cX9_run 29 = .ok (.aload_n 0, 1) := by decide +kernel
theorem dX9_run_30 : decode cX9_run 30 = .ok (.aload_n 0, 1) := by decide +kernel
theorem dX9_run_31 : decode cX9_run 31 = .ok (.getfield 42, 3) := by decide +kernel
theorem dX9_run_34 : decode cX9_run 34 = .ok (.getfield 141, 3) := by decide +kernel
theorem dX9_run_37 : decode cX9_run 37 = .ok (.iload_n 1, 1) := by decide +kernel
theorem dX9_run_38 : decode cX9_run 38 = .ok (.isub, 1) := by decide +kernel
theorem dX9_run_39 : decode cX9_run 39 = .ok (.putfield 227, 3) := by decide +kernel
theorem dX9_run_42 : decode cX9_run 42 = .ok (.aload_n 0, 1) := by decide +kernel
theorem dX9_run_43 : decode cX9_run 43 = .ok (.aload_n 0, 1) := by decide +kernel
theorem dX9_run_44 : decode cX9_run 44 = .ok (.getfield 42, 3) := by decide +kernel
theorem dX9_run_47 : decode cX9_run 47 = .ok (.getfield 218, 3) := by decide +kernel
theorem dX9_run_50 : decode cX9_run 50 = .ok (.iload_n 2, 1) := by decide +kernel
theorem dX9_run_51 : decode cX9_run 51 = .ok (.isub, 1) := by decide +kernel
theorem dX9_run_52 : decode cX9_run 52 = .ok (.putfield 230, 3) := by decide +kernel
theorem dX9_run_55 : decode cX9_run 55 = .ok (.aload_n 0, 1) := by decide +kernel
theorem dX9_run_56 : decode cX9_run 56 = .ok (.iload_n 3, 1) := by decide +kernel
theorem dX9_run_57 : decode cX9_run 57 = .ok (.aload_n 0, 1) := by decide +kernel
theorem dX9_run_58 : decode cX9_run 58 = .ok (.getfield 12, 3) := by decide +kernel
theorem dX9_run_61 : decode cX9_run 61 = .ok (.getfield 86, 3) := by decide +kernel
theorem dX9_run_64 : decode cX9_run 64 = .ok (.getfield 90, 3) := by decide +kernel
theorem dX9_run_67 : decode cX9_run 67 = .ok (.if_icmp .ne 8, 3) := by decide +kernel
theorem dX9_run_70 : decode cX9_run 70 = .ok (.bipush (-4), 2) := by decide +kernel
theorem dX9_run_72 : decode cX9_run 72 = .ok (.goto 4, 3) := by decide +kernel
theorem dX9_run_75 : decode cX9_run 75 = .ok (.iload_n 3, 1) := by decide +kernel
theorem dX9_run_76 : decode cX9_run 76 = .ok (.putfield 233, 3) := by decide +kernel
theorem dX9_run_79 : decode cX9_run 79 = .ok (.iload_n 3, 1) := by decide +kernel
theorem dX9_run_80 : decode cX9_run 80 = .ok (.ireturn, 1) := by decide +kernel
def f_X9_run (a : Nat) (g : zG) : Option (Int32 × zG) :=
  zl (g.1 (g.2.1 a 4) 2) (fun v2 => zl (g.1 (g.2.1 a 4) 5) (fun v4 => zb (f_X2_runProgram (g.2.1 a 4) g) (fun v6 g7 => zl (zsi g7 a 7 1) (fun g8 => zl (zsi g8 a 8 ((g8.1 (g8.2.1 a 4) 2) - v2)) (fun g10 => zl (zsi g10 a 9 ((g10.1 (g10.2.1 a 4) 5) - v4)) (fun g12 => if v6 = (g12.1 (g12.2.1 (g12.2.1 a 0) 1) 5) then (zl (zsi g12 a 10 (-4)) (fun g16 => some ((v6, g16)))) else (zl (zsi g12 a 10 v6) (fun g17 => some ((v6, g17))))))))))
abbrev rm_X9_run : Room := { frames := 5, cells := 0, slots := 0, locals := 127 }
set_option maxRecDepth 100000 in
set_option maxHeartbeats 4000000 in
theorem c_X9_run (l : Launch) (D : zD) (sz : Nat) (τ : zT) (g : zG) (a : Nat) (hta : τ a = some (.inr 9)) : zCon l D yX9_run cX9_run 4 (some .int) rm_X9_run 0 0 zrI [.ref a] sz τ g τ (f_X9_run a g) := by
  refine zCon.of (by decide) (Nat.le_of_ble_eq_true rfl) (fun E r g' hl hR hsz hnm F => ?_)
  have F : zF E D (zA τ sz) cX9_run "TypeChain" 4 (some .int) := F
  show zSim (fun q : Int32 × zG => q = (r, g')) (f_X9_run a g) (zAt E D (zA τ sz) (zQ E D zrI 0 0 sz τ τ r g') 4 (sz, τ, 0, 0) g 0 [(0, .ref a)] [])
  unfold f_X9_run
  refine z_aload_n F 0 rfl rfl dX9_run_0 ?_
  refine gf_X9_42 F hta dX9_run_1 (fun ht1 => ?_)
  refine gf_X9_141 F ht1 dX9_run_4 ?_
  refine z_leti (fun v2 => ?_)
  refine z_istore_n (lv' := [(1, .int v2), (0, .ref a)]) F rfl (by decide) dX9_run_7 rfl ?_
  refine z_aload_n F 1 rfl rfl dX9_run_8 ?_
  refine gf_X9_42 F hta dX9_run_9 (fun ht3 => ?_)
  refine gf_X9_218 F ht3 dX9_run_12 ?_
  refine z_leti (fun v4 => ?_)
  refine z_istore_n (lv' := [(2, .int v4), (1, .int v2), (0, .ref a)]) F rfl (by decide) dX9_run_15 rfl ?_
  refine z_aload_n F 2 rfl rfl dX9_run_16 ?_
  refine gf_X9_42 F hta dX9_run_17 (fun ht5 => ?_)
  refine k_X2_runProgram F (by rw [hR]; exact ⟨by decide, by decide⟩) q_754 ht5 ⟨Nat.zero_le _, Nat.zero_le _⟩ (Nat.le_of_ble_eq_true rfl) dX9_run_20 (fun v6 g7 => ?_)
  refine z_istore_n (lv' := [(3, .int v6), (2, .int v4), (1, .int v2), (0, .ref a)]) F rfl (by decide) dX9_run_23 rfl ?_
  refine z_aload_n F 3 rfl rfl dX9_run_24 ?_
  refine z_iconst (v := 1) F (by decide) dX9_run_25 ?_
  refine pf_X9_224 F hta (Or.inr rfl) dX9_run_26 ?_
  refine z_letg (fun g8 => ?_)
  refine z_aload_n F 3 rfl rfl dX9_run_29 ?_
  refine z_aload_n F 3 rfl rfl dX9_run_30 ?_
  refine gf_X9_42 F hta dX9_run_31 (fun ht9 => ?_)
  refine gf_X9_141 F ht9 dX9_run_34 ?_
  refine z_iload_n F 2 rfl rfl dX9_run_37 ?_
  refine z_isub F dX9_run_38 ?_
  refine pf_X9_227 F hta dX9_run_39 ?_
  refine z_letg (fun g10 => ?_)
  refine z_aload_n F 3 rfl rfl dX9_run_42 ?_
  refine z_aload_n F 3 rfl rfl dX9_run_43 ?_
  refine gf_X9_42 F hta dX9_run_44 (fun ht11 => ?_)
  refine gf_X9_218 F ht11 dX9_run_47 ?_
  refine z_iload_n F 1 rfl rfl dX9_run_50 ?_
  refine z_isub F dX9_run_51 ?_
  refine pf_X9_230 F hta dX9_run_52 ?_
  refine z_letg (fun g12 => ?_)
  refine z_aload_n F 3 rfl rfl dX9_run_55 ?_
  refine z_iload_n F 0 rfl rfl dX9_run_56 ?_
  refine z_aload_n F 3 rfl rfl dX9_run_57 ?_
  refine gf_X9_12 F hta dX9_run_58 (fun ht13 => ?_)
  refine gf_X9_86 F ht13 dX9_run_61 (fun ht14 => ?_)
  refine gf_X9_90 F ht14 dX9_run_64 ?_
  refine z_icmp_ne (tgt := 75) F dX9_run_67 (by decide) (fun c15 => ?_) (fun c15 => ?_)
  · refine z_bipush (v := (-4)) F (by decide) dX9_run_70 ?_
    refine z_goto (tgt := 76) F dX9_run_72 (by decide) ?_
    refine pf_X9_233 F hta dX9_run_76 ?_
    refine z_letg (fun g16 => ?_)
    refine z_iload_n F 0 rfl rfl dX9_run_79 ?_
    exact z_ireturn F rfl rfl rfl rfl (fun h => h) dX9_run_80
  · refine z_iload_n F 0 rfl rfl dX9_run_75 ?_
    refine pf_X9_233 F hta dX9_run_76 ?_
    refine z_letg (fun g17 => ?_)
    refine z_iload_n F 0 rfl rfl dX9_run_79 ?_
    exact z_ireturn F rfl rfl rfl rfl (fun h => h) dX9_run_80
theorem k_X9_run {ρ : Type} {K : ρ → Prop} {E : zE} {D : zD} {A : Nat → Prop} {Q : State → Prop} {nL : Nat} {κ : zC} {g : zG} {pc : Nat} {lv : List (Nat × Value)} {st : List Value} {cc : ByteArray} {own : String} {ret : Option FieldType} (F : zF E D A cc own nL ret) {index : Nat} {h : Int32 → zG → Option ρ} {a : Nat}  (hR : 5 + 1 ≤ E.2.2.2.1.frames ∧ 8 + (4 + 11) + 127 ≤ E.2.2.2.1.locals) (hl : zTbl (.methodLink own index yX9_run)) (hta : κ.2.1 a = some (.inr 9)) (hc : κ.2.2.1 ≤ E.2.2.2.1.cells ∧ κ.2.2.2 ≤ E.2.2.2.1.slots) (hW : (st.map fun v => v.category).sum ≤ 8) (hd : decode cc pc = .ok (.invokevirtual index, 3)) (kk : ∀ r g', zSim K (h r g') (zAt E D A Q nL κ g' (pc + 3) lv (.int r :: st))) : zSim K (zb (f_X9_run a g) h) (zAt E D A Q nL κ g pc lv (.ref a :: st)) :=
  z_callV F (n := 0) (As := []) (C := (RX9, TX9, 11)) ⟨q_753, q_1, by decide +kernel, rfl, rfl, hR.1, hR.2⟩ (c_X9_run E.2.1 D κ.1 κ.2.1 g a hta) hl q_751 q_752 hta rfl rfl rfl hc hW hd kk _ rfl
theorem dX9_ran_0 : decode cX9_ran 0 = .ok (.iload_n 1, 1) := by decide +kernel
theorem dX9_ran_1 : decode cX9_ran 1 = .ok (.ifCond .lt 8, 3) := by decide +kernel
theorem dX9_ran_4 : decode cX9_ran 4 = .ok (.iload_n 1, 1) := by decide +kernel
theorem dX9_ran_5 : decode cX9_ran 5 = .ok (.iconst 2, 1) := by decide +kernel
theorem dX9_ran_6 : decode cX9_ran 6 = .ok (.if_icmp .le 5, 3) := by decide +kernel
theorem dX9_ran_9 : decode cX9_ran 9 = .ok (.iconst (-1), 1) := by decide +kernel
theorem dX9_ran_10 : decode cX9_ran 10 = .ok (.ireturn, 1) := by decide +kernel
theorem dX9_ran_11 : decode cX9_ran 11 = .ok (.aload_n 0, 1) := by decide +kernel
theorem dX9_ran_12 : decode cX9_ran 12 = .ok (.getfield 224, 3) := by decide +kernel
theorem dX9_ran_15 : decode cX9_ran 15 = .ok (.ifCond .ne 6, 3) := by decide +kernel
theorem dX9_ran_18 : decode cX9_ran 18 = .ok (.bipush (-2), 2) := by decide +kernel
theorem dX9_ran_20 : decode cX9_ran 20 = .ok (.ireturn, 1) := by decide +kernel
theorem dX9_ran_21 : decode cX9_ran 21 = .ok (.iload_n 1, 1) := by decide +kernel
theorem dX9_ran_22 : decode cX9_ran 22 = .ok (.lookupswitch 36 #[(0, 26), (1, 31)], 26) := by decide +kernel
theorem dX9_ran_48 : decode cX9_ran 48 = .ok (.aload_n 0, 1) := by decide +kernel
theorem dX9_ran_49 : decode cX9_ran 49 = .ok (.getfield 227, 3) := by decide +kernel
theorem dX9_ran_52 : decode cX9_ran 52 = .ok (.ireturn, 1) := by decide +kernel
theorem dX9_ran_53 : decode cX9_ran 53 = .ok (.aload_n 0, 1) := by decide +kernel
theorem dX9_ran_54 : decode cX9_ran 54 = .ok (.getfield 230, 3) := by decide +kernel
theorem dX9_ran_57 : decode cX9_ran 57 = .ok (.ireturn, 1) := by decide +kernel
theorem dX9_ran_58 : decode cX9_ran 58 = .ok (.aload_n 0, 1) := by decide +kernel
theorem dX9_ran_59 : decode cX9_ran 59 = .ok (.getfield 233, 3) := by decide +kernel
theorem dX9_ran_62 : decode cX9_ran 62 = .ok (.ireturn, 1) := by decide +kernel
def f_X9_ran (a : Nat) (x1 : Int32) (g : zG) : Option (Int32 × zG) :=
  if x1 < 0 then (some (((-1), g))) else (if x1 ≤ 2 then (if (g.1 a 7) = 0 then (some (((-2), g))) else (if x1 = 0 then (some ((g.1 a 8, g))) else (if x1 = 1 then (some ((g.1 a 9, g))) else (some ((g.1 a 10, g)))))) else (some (((-1), g))))
abbrev rm_X9_ran : Room := { frames := 0, cells := 0, slots := 0, locals := 0 }
set_option maxRecDepth 100000 in
set_option maxHeartbeats 4000000 in
theorem c_X9_ran (l : Launch) (D : zD) (sz : Nat) (τ : zT) (g : zG) (a : Nat) (x1 : Int32) (hta : τ a = some (.inr 9)) : zCon l D yX9_ran cX9_ran 2 (some .int) rm_X9_ran 0 0 zrI [.ref a, .int x1] sz τ g τ (f_X9_ran a x1 g) := by
  refine zCon.of (by decide) (Nat.le_of_ble_eq_true rfl) (fun E r g' hl hR hsz hnm F => ?_)
  have F : zF E D (zA τ sz) cX9_ran "TypeChain" 2 (some .int) := F
  show zSim (fun q : Int32 × zG => q = (r, g')) (f_X9_ran a x1 g) (zAt E D (zA τ sz) (zQ E D zrI 0 0 sz τ τ r g') 2 (sz, τ, 0, 0) g 0 [(0, .ref a), (1, .int x1)] [])
  unfold f_X9_ran
  refine z_iload_n F 1 rfl rfl dX9_ran_0 ?_
  refine z_if_lt (tgt := 9) F dX9_ran_1 (by decide) (fun c1 => ?_) (fun c1 => ?_)
  · refine z_iconst (v := (-1)) F (by decide) dX9_ran_9 ?_
    exact z_ireturn F rfl rfl rfl rfl (fun h => h) dX9_ran_10
  · refine z_iload_n F 1 rfl rfl dX9_ran_4 ?_
    refine z_iconst (v := 2) F (by decide) dX9_ran_5 ?_
    refine z_icmp_le (tgt := 11) F dX9_ran_6 (by decide) (fun c2 => ?_) (fun c2 => ?_)
    · refine z_aload_n F 0 rfl rfl dX9_ran_11 ?_
      refine gf_X9_224 F hta dX9_ran_12 ?_
      refine z_if_ne (tgt := 21) F dX9_ran_15 (by decide) (fun c3 => ?_) (fun c3 => ?_)
      · refine z_bipush (v := (-2)) F (by decide) dX9_ran_18 ?_
        exact z_ireturn F rfl rfl rfl rfl (fun h => h) dX9_ran_20
      · refine z_iload_n F 1 rfl rfl dX9_ran_21 ?_
        refine z_ite (fun c4 => ?_) (fun c4 => ?_)
        · refine z_lookup (off := 26) (tgt := 48) F dX9_ran_22 rfl (by rw [c4]; decide) (by decide) ?_
          refine z_aload_n F 0 rfl rfl dX9_ran_48 ?_
          refine gf_X9_227 F hta dX9_ran_49 ?_
          exact z_ireturn F rfl rfl rfl rfl (fun h => h) dX9_ran_52
        ·
          refine z_ite (fun c5 => ?_) (fun c5 => ?_)
          · refine z_lookup (off := 31) (tgt := 53) F dX9_ran_22 rfl (by rw [c5]; decide) (by decide) ?_
            refine z_aload_n F 0 rfl rfl dX9_ran_53 ?_
            refine gf_X9_230 F hta dX9_ran_54 ?_
            exact z_ireturn F rfl rfl rfl rfl (fun h => h) dX9_ran_57
          ·
            refine z_lookup (off := 36) (tgt := 58) F dX9_ran_22 rfl (by rw [lv_osw c4 (by decide), lv_osw c5 (by decide)]; rfl) (by decide) ?_
            refine z_aload_n F 0 rfl rfl dX9_ran_58 ?_
            refine gf_X9_233 F hta dX9_ran_59 ?_
            exact z_ireturn F rfl rfl rfl rfl (fun h => h) dX9_ran_62
    · refine z_iconst (v := (-1)) F (by decide) dX9_ran_9 ?_
      exact z_ireturn F rfl rfl rfl rfl (fun h => h) dX9_ran_10
theorem k_X9_ran {ρ : Type} {K : ρ → Prop} {E : zE} {D : zD} {A : Nat → Prop} {Q : State → Prop} {nL : Nat} {κ : zC} {g : zG} {pc : Nat} {lv : List (Nat × Value)} {st : List Value} {cc : ByteArray} {own : String} {ret : Option FieldType} (F : zF E D A cc own nL ret) {index : Nat} {h : Int32 → zG → Option ρ} {a : Nat} {x1 : Int32}  (hR : 0 + 1 ≤ E.2.2.2.1.frames ∧ 8 + (2 + 11) + 0 ≤ E.2.2.2.1.locals) (hl : zTbl (.methodLink own index yX9_ran)) (hta : κ.2.1 a = some (.inr 9)) (hc : κ.2.2.1 ≤ E.2.2.2.1.cells ∧ κ.2.2.2 ≤ E.2.2.2.1.slots) (hW : (st.map fun v => v.category).sum ≤ 8) (hd : decode cc pc = .ok (.invokevirtual index, 3)) (kk : ∀ r g', zSim K (h r g') (zAt E D A Q nL κ g' (pc + 3) lv (.int r :: st))) : zSim K (zb (f_X9_ran a x1 g) h) (zAt E D A Q nL κ g pc lv (.int x1 :: .ref a :: st)) :=
  z_callV F (n := 1) (As := [.int x1]) (C := (RX9, TX9, 11)) ⟨q_769, q_1, by decide +kernel, rfl, rfl, hR.1, hR.2⟩ (c_X9_ran E.2.1 D κ.1 κ.2.1 g a x1 hta) hl q_767 q_768 hta rfl rfl rfl hc hW hd kk _ rfl
theorem dX9_best_0 : decode cX9_best 0 = .ok (.iload_n 1, 1) := by decide +kernel
theorem dX9_best_1 : decode cX9_best 1 = .ok (.ifCond .eq 17, 3) := by decide +kernel
theorem dX9_best_4 : decode cX9_best 4 = .ok (.iload_n 1, 1) := by decide +kernel
theorem dX9_best_5 : decode cX9_best 5 = .ok (.bipush 10, 2) := by decide +kernel
theorem dX9_best_7 : decode cX9_best 7 = .ok (.if_icmp .lt 9, 3) := by decide +kernel
theorem dX9_best_10 : decode cX9_best 10 = .ok (.iload_n 1, 1) := by decide +kernel
theorem dX9_best_11 : decode cX9_best 11 = .ok (.bipush 16, 2) := by decide +kernel
theorem dX9_best_13 : decode cX9_best 13 = .ok (.if_icmp .lt 5, 3) := by decide +kernel
theorem dX9_best_16 : decode cX9_best 16 = .ok (.iconst (-1), 1) := by decide +kernel
theorem dX9_best_17 : decode cX9_best 17 = .ok (.ireturn, 1) := by decide +kernel
theorem dX9_best_18 : decode cX9_best 18 = .ok (.aload_n 0, 1) := by decide +kernel
theorem dX9_best_19 : decode cX9_best 19 = .ok (.getfield 12, 3) := by decide +kernel
theorem dX9_best_22 : decode cX9_best 22 = .ok (.getfield 35, 3) := by decide +kernel
theorem dX9_best_25 : decode cX9_best 25 = .ok (.getfield 95, 3) := by decide +kernel
theorem dX9_best_28 : decode cX9_best 28 = .ok (.bipush 6, 2) := by decide +kernel
theorem dX9_best_30 : decode cX9_best 30 = .ok (.if_icmp .gt 16, 3) := by decide +kernel
theorem dX9_best_33 : decode cX9_best 33 = .ok (.aload_n 0, 1) := by decide +kernel
theorem dX9_best_34 : decode cX9_best 34 = .ok (.getfield 12, 3) := by decide +kernel
theorem dX9_best_37 : decode cX9_best 37 = .ok (.getfield 86, 3) := by decide +kernel
theorem dX9_best_40 : decode cX9_best 40 = .ok (.getfield 90, 3) := by decide +kernel
theorem dX9_best_43 : decode cX9_best 43 = .ok (.ifCond .ne 6, 3) := by decide +kernel
theorem dX9_best_46 : decode cX9_best 46 = .ok (.bipush (-2), 2) := by decide +kernel
theorem dX9_best_48 : decode cX9_best 48 = .ok (.ireturn, 1) := by decide +kernel
theorem dX9_best_49 : decode cX9_best 49 = .ok (.aload_n 0, 1) := by decide +kernel
theorem dX9_best_50 : decode cX9_best 50 = .ok (.getfield 51, 3) := by decide +kernel
theorem dX9_best_53 : decode cX9_best 53 = .ok (.aload_n 0, 1) := by decide +kernel
theorem dX9_best_54 : decode cX9_best 54 = .ok (.getfield 12, 3) := by decide +kernel
theorem dX9_best_57 : decode cX9_best 57 = .ok (.invokevirtual 236, 3) := by decide +kernel
theorem dX9_best_60 : decode cX9_best 60 = .ok (.aload_n 0, 1) := by decide +kernel
theorem dX9_best_61 : decode cX9_best 61 = .ok (.getfield 51, 3) := by decide +kernel
theorem dX9_best_64 : decode cX9_best 64 = .ok (.getfield 239, 3) := by decide +kernel
theorem dX9_best_67 : decode cX9_best 67 = .ok (.bipush (-4), 2) := by decide +kernel
theorem dX9_best_69 : decode cX9_best 69 = .ok (.if_icmp .ne 6, 3) := by decide +kernel
theorem dX9_best_72 : decode cX9_best 72 = .ok (.bipush (-2), 2) := by decide +kernel
theorem dX9_best_74 : decode cX9_best 74 = .ok (.ireturn, 1) := by decide +kernel
theorem dX9_best_75 : decode cX9_best 75 = .ok (.iload_n 1, 1) := by decide +kernel
theorem dX9_best_76 : decode cX9_best 76 = .ok (.ifCond .ne 11, 3) := by decide +kernel
theorem dX9_best_79 : decode cX9_best 79 = .ok (.aload_n 0, 1) := by decide +kernel
theorem dX9_best_80 : decode cX9_best 80 = .ok (.getfield 51, 3) := by decide +kernel
theorem dX9_best_83 : decode cX9_best 83 = .ok (.getfield 239, 3) := by decide +kernel
theorem dX9_best_86 : decode cX9_best 86 = .ok (.ireturn, 1) := by decide +kernel
theorem dX9_best_87 : decode cX9_best 87 = .ok (.iload_n 1, 1) := by decide +kernel
theorem dX9_best_88 : decode cX9_best 88 = .ok (.bipush 10, 2) := by decide +kernel
theorem dX9_best_90 : decode cX9_best 90 = .ok (.isub, 1) := by decide +kernel
theorem dX9_best_91 : decode cX9_best 91 = .ok (.aload_n 0, 1) := by decide +kernel
theorem dX9_best_92 : decode cX9_best 92 = .ok (.getfield 12, 3) := by decide +kernel
theorem dX9_best_95 : decode cX9_best 95 = .ok (.getfield 35, 3) := by decide +kernel
theorem dX9_best_98 : decode cX9_best 98 = .ok (.getfield 95, 3) := by decide +kernel
theorem dX9_best_101 : decode cX9_best 101 = .ok (.if_icmp .ge 18, 3) := by decide +kernel
theorem dX9_best_104 : decode cX9_best 104 = .ok (.aload_n 0, 1) := by decide +kernel
theorem dX9_best_105 : decode cX9_best 105 = .ok (.getfield 51, 3) := by decide +kernel
theorem dX9_best_108 : decode cX9_best 108 = .ok (.getfield 242, 3) := by decide +kernel
theorem dX9_best_111 : decode cX9_best 111 = .ok (.iload_n 1, 1) := by decide +kernel
theorem dX9_best_112 : decode cX9_best 112 = .ok (.bipush 10, 2) := by decide +kernel
theorem dX9_best_114 : decode cX9_best 114 = .ok (.isub, 1) := by decide +kernel
theorem dX9_best_115 : decode cX9_best 115 = .ok (.iaload, 1) := by decide +kernel
theorem dX9_best_116 : decode cX9_best 116 = .ok (.goto 5, 3) := by decide +kernel
theorem dX9_best_119 : decode cX9_best 119 = .ok (.bipush (-4), 2) := by decide +kernel
theorem dX9_best_121 : decode cX9_best 121 = .ok (.ireturn, 1) := by decide +kernel
def j_X9_best_18 (a : Nat) (l1 : Int32) (g : zG) : Option (Int32 × zG) :=
  if 6 < (g.1 (g.2.1 (g.2.1 a 0) 0) 1) then (some (((-2), g))) else (if (g.1 (g.2.1 (g.2.1 a 0) 1) 5) = 0 then (some (((-2), g))) else (zb (f_X8_findOrder (g.2.1 a 5) (g.2.1 a 0) g) (fun v9 g10 => if (g10.1 (g10.2.1 a 5) 2) = (-4) then (some (((-2), g10))) else (if l1 = 0 then (some ((g10.1 (g10.2.1 a 5) 2, g10))) else (if (g10.1 (g10.2.1 (g10.2.1 a 0) 0) 1) ≤ (l1 - 10) then (some (((-4), g10))) else (zc (zin (l1 - 10) 6) (some ((g10.1 (g10.2.1 (g10.2.1 a 5) 1) (l1 - 10).toNatClampNeg, g10)))))))))
def f_X9_best (a : Nat) (x1 : Int32) (g : zG) : Option (Int32 × zG) :=
  if x1 = 0 then (j_X9_best_18 a x1 g) else (if x1 < 10 then (some (((-1), g))) else (if x1 < 16 then (j_X9_best_18 a x1 g) else (some (((-1), g)))))
abbrev rm_X9_best : Room := { frames := 7, cells := 0, slots := 0, locals := 171 }
set_option maxRecDepth 100000 in
set_option maxHeartbeats 4000000 in
theorem c_X9_best (l : Launch) (D : zD) (sz : Nat) (τ : zT) (g : zG) (a : Nat) (x1 : Int32) (hta : τ a = some (.inr 9)) : zCon l D yX9_best cX9_best 2 (some .int) rm_X9_best 0 0 zrI [.ref a, .int x1] sz τ g τ (f_X9_best a x1 g) := by
  refine zCon.of (by decide) (Nat.le_of_ble_eq_true rfl) (fun E r g' hl hR hsz hnm F => ?_)
  have F : zF E D (zA τ sz) cX9_best "TypeChain" 2 (some .int) := F
  show zSim (fun q : Int32 × zG => q = (r, g')) (f_X9_best a x1 g) (zAt E D (zA τ sz) (zQ E D zrI 0 0 sz τ τ r g') 2 (sz, τ, 0, 0) g 0 [(0, .ref a), (1, .int x1)] [])
  have hj_X9_best_18 : ∀ (l1_18 : Int32) (g_18 : zG), zSim (fun q : Int32 × zG => q = (r, g')) (j_X9_best_18 a l1_18 g_18) (zAt E D (zA τ sz) (zQ E D zrI 0 0 sz τ τ r g') 2 (sz, τ, 0, 0) g_18 18 [(0, .ref a), (1, .int l1_18)] []) := by
    intro l1_18 g_18
    unfold j_X9_best_18
    refine z_aload_n F 0 rfl rfl dX9_best_18 ?_
    refine gf_X9_12 F hta dX9_best_19 (fun ht1 => ?_)
    refine gf_X9_35 F ht1 dX9_best_22 (fun ht2 => ?_)
    refine gf_X9_95 F ht2 dX9_best_25 ?_
    refine z_bipush (v := 6) F (by decide) dX9_best_28 ?_
    refine z_icmp_gt (tgt := 46) F dX9_best_30 (by decide) (fun c3 => ?_) (fun c3 => ?_)
    · refine z_bipush (v := (-2)) F (by decide) dX9_best_46 ?_
      exact z_ireturn F rfl rfl rfl rfl (fun h => h) dX9_best_48
    · refine z_aload_n F 0 rfl rfl dX9_best_33 ?_
      refine gf_X9_12 F hta dX9_best_34 (fun ht4 => ?_)
      refine gf_X9_86 F ht4 dX9_best_37 (fun ht5 => ?_)
      refine gf_X9_90 F ht5 dX9_best_40 ?_
      refine z_if_ne (tgt := 49) F dX9_best_43 (by decide) (fun c6 => ?_) (fun c6 => ?_)
      · refine z_bipush (v := (-2)) F (by decide) dX9_best_46 ?_
        exact z_ireturn F rfl rfl rfl rfl (fun h => h) dX9_best_48
      · refine z_aload_n F 0 rfl rfl dX9_best_49 ?_
        refine gf_X9_51 F hta dX9_best_50 (fun ht7 => ?_)
        refine z_aload_n F 0 rfl rfl dX9_best_53 ?_
        refine gf_X9_12 F hta dX9_best_54 (fun ht8 => ?_)
        refine k_X8_findOrder F (by rw [hR]; exact ⟨by decide, by decide⟩) q_774 ht7 ht8 ⟨Nat.zero_le _, Nat.zero_le _⟩ (Nat.le_of_ble_eq_true rfl) dX9_best_57 (fun v9 g10 => ?_)
        refine z_aload_n F 0 rfl rfl dX9_best_60 ?_
        refine gf_X9_51 F hta dX9_best_61 (fun ht11 => ?_)
        refine gf_X9_239 F ht11 dX9_best_64 ?_
        refine z_bipush (v := (-4)) F (by decide) dX9_best_67 ?_
        refine z_icmp_ne (tgt := 75) F dX9_best_69 (by decide) (fun c12 => ?_) (fun c12 => ?_)
        · refine z_bipush (v := (-2)) F (by decide) dX9_best_72 ?_
          exact z_ireturn F rfl rfl rfl rfl (fun h => h) dX9_best_74
        · refine z_iload_n F 1 rfl rfl dX9_best_75 ?_
          refine z_if_ne (tgt := 87) F dX9_best_76 (by decide) (fun c13 => ?_) (fun c13 => ?_)
          · refine z_aload_n F 0 rfl rfl dX9_best_79 ?_
            refine gf_X9_51 F hta dX9_best_80 (fun ht14 => ?_)
            refine gf_X9_239 F ht14 dX9_best_83 ?_
            exact z_ireturn F rfl rfl rfl rfl (fun h => h) dX9_best_86
          · refine z_iload_n F 1 rfl rfl dX9_best_87 ?_
            refine z_bipush (v := 10) F (by decide) dX9_best_88 ?_
            refine z_isub F dX9_best_90 ?_
            refine z_aload_n F 0 rfl rfl dX9_best_91 ?_
            refine gf_X9_12 F hta dX9_best_92 (fun ht15 => ?_)
            refine gf_X9_35 F ht15 dX9_best_95 (fun ht16 => ?_)
            refine gf_X9_95 F ht16 dX9_best_98 ?_
            refine z_icmp_ge (tgt := 119) F dX9_best_101 (by decide) (fun c17 => ?_) (fun c17 => ?_)
            · refine z_bipush (v := (-4)) F (by decide) dX9_best_119 ?_
              exact z_ireturn F rfl rfl rfl rfl (fun h => h) dX9_best_121
            · refine z_aload_n F 0 rfl rfl dX9_best_104 ?_
              refine gf_X9_51 F hta dX9_best_105 (fun ht18 => ?_)
              refine gf_X9_242 F ht18 dX9_best_108 (fun ht19 => ?_)
              refine z_iload_n F 1 rfl rfl dX9_best_111 ?_
              refine z_bipush (v := 10) F (by decide) dX9_best_112 ?_
              refine z_isub F dX9_best_114 ?_
              refine z_iald F ht19 dX9_best_115 ?_
              refine z_goto (tgt := 121) F dX9_best_116 (by decide) ?_
              exact z_ireturn F rfl rfl rfl rfl (fun h => h) dX9_best_121
  unfold f_X9_best
  refine z_iload_n F 1 rfl rfl dX9_best_0 ?_
  refine z_if_eq (tgt := 18) F dX9_best_1 (by decide) (fun c20 => ?_) (fun c20 => ?_)
  · exact hj_X9_best_18 x1 g
  · refine z_iload_n F 1 rfl rfl dX9_best_4 ?_
    refine z_bipush (v := 10) F (by decide) dX9_best_5 ?_
    refine z_icmp_lt (tgt := 16) F dX9_best_7 (by decide) (fun c21 => ?_) (fun c21 => ?_)
    · refine z_iconst (v := (-1)) F (by decide) dX9_best_16 ?_
      exact z_ireturn F rfl rfl rfl rfl (fun h => h) dX9_best_17
    · refine z_iload_n F 1 rfl rfl dX9_best_10 ?_
      refine z_bipush (v := 16) F (by decide) dX9_best_11 ?_
      refine z_icmp_lt (tgt := 18) F dX9_best_13 (by decide) (fun c22 => ?_) (fun c22 => ?_)
      · exact hj_X9_best_18 x1 g
      · refine z_iconst (v := (-1)) F (by decide) dX9_best_16 ?_
        exact z_ireturn F rfl rfl rfl rfl (fun h => h) dX9_best_17
theorem k_X9_best {ρ : Type} {K : ρ → Prop} {E : zE} {D : zD} {A : Nat → Prop} {Q : State → Prop} {nL : Nat} {κ : zC} {g : zG} {pc : Nat} {lv : List (Nat × Value)} {st : List Value} {cc : ByteArray} {own : String} {ret : Option FieldType} (F : zF E D A cc own nL ret) {index : Nat} {h : Int32 → zG → Option ρ} {a : Nat} {x1 : Int32}  (hR : 7 + 1 ≤ E.2.2.2.1.frames ∧ 8 + (2 + 11) + 171 ≤ E.2.2.2.1.locals) (hl : zTbl (.methodLink own index yX9_best)) (hta : κ.2.1 a = some (.inr 9)) (hc : κ.2.2.1 ≤ E.2.2.2.1.cells ∧ κ.2.2.2 ≤ E.2.2.2.1.slots) (hW : (st.map fun v => v.category).sum ≤ 8) (hd : decode cc pc = .ok (.invokevirtual index, 3)) (kk : ∀ r g', zSim K (h r g') (zAt E D A Q nL κ g' (pc + 3) lv (.int r :: st))) : zSim K (zb (f_X9_best a x1 g) h) (zAt E D A Q nL κ g pc lv (.int x1 :: .ref a :: st)) :=
  z_callV F (n := 1) (As := [.int x1]) (C := (RX9, TX9, 11)) ⟨q_773, q_1, by decide +kernel, rfl, rfl, hR.1, hR.2⟩ (c_X9_best E.2.1 D κ.1 κ.2.1 g a x1 hta) hl q_771 q_772 hta rfl rfl rfl hc hW hd kk _ rfl
theorem dX9_twice_0 : decode cX9_twice 0 = .ok (.iload_n 1, 1) := by decide +kernel
theorem dX9_twice_1 : decode cX9_twice 1 = .ok (.ifCond .lt 8, 3) := by decide +kernel
theorem dX9_twice_4 : decode cX9_twice 4 = .ok (.iload_n 1, 1) := by decide +kernel
theorem dX9_twice_5 : decode cX9_twice 5 = .ok (.iconst 2, 1) := by decide +kernel
theorem dX9_twice_6 : decode cX9_twice 6 = .ok (.if_icmp .le 6, 3) := by decide +kernel
theorem dX9_twice_9 : decode cX9_twice 9 = .ok (.ldc 245, 2) := by decide +kernel
theorem dX9_twice_11 : decode cX9_twice 11 = .ok (.ireturn, 1) := by decide +kernel
theorem dX9_twice_12 : decode cX9_twice 12 = .ok (.aload_n 0, 1) := by decide +kernel
theorem dX9_twice_13 : decode cX9_twice 13 = .ok (.getfield 12, 3) := by decide +kernel
theorem dX9_twice_16 : decode cX9_twice 16 = .ok (.getfield 35, 3) := by decide +kernel
theorem dX9_twice_19 : decode cX9_twice 19 = .ok (.getfield 95, 3) := by decide +kernel
theorem dX9_twice_22 : decode cX9_twice 22 = .ok (.bipush 48, 2) := by decide +kernel
theorem dX9_twice_24 : decode cX9_twice 24 = .ok (.if_icmp .ge 16, 3) := by decide +kernel
theorem dX9_twice_27 : decode cX9_twice 27 = .ok (.aload_n 0, 1) := by decide +kernel
theorem dX9_twice_28 : decode cX9_twice 28 = .ok (.getfield 12, 3) := by decide +kernel
theorem dX9_twice_31 : decode cX9_twice 31 = .ok (.getfield 86, 3) := by decide +kernel
theorem dX9_twice_34 : decode cX9_twice 34 = .ok (.getfield 90, 3) := by decide +kernel
theorem dX9_twice_37 : decode cX9_twice 37 = .ok (.ifCond .ne 6, 3) := by decide +kernel
theorem dX9_twice_40 : decode cX9_twice 40 = .ok (.ldc 246, 2) := by decide +kernel
theorem dX9_twice_42 : decode cX9_twice 42 = .ok (.ireturn, 1) := by decide +kernel
theorem dX9_twice_43 : decode cX9_twice 43 = .ok (.aload_n 0, 1) := by decide +kernel
theorem dX9_twice_44 : decode cX9_twice 44 = .ok (.getfield 51, 3) := by decide +kernel
theorem dX9_twice_47 : decode cX9_twice 47 = .ok (.aload_n 0, 1) := by decide +kernel
theorem dX9_twice_48 : decode cX9_twice 48 = .ok (.getfield 12, 3) := by decide +kernel
theorem dX9_twice_51 : decode cX9_twice 51 = .ok (.invokevirtual 247, 3) := by decide +kernel
theorem dX9_twice_54 : decode cX9_twice 54 = .ok (.aload_n 0, 1) := by decide +kernel
theorem dX9_twice_55 : decode cX9_twice 55 = .ok (.getfield 51, 3) := by decide +kernel
theorem dX9_twice_58 : decode cX9_twice 58 = .ok (.getfield 250, 3) := by decide +kernel
theorem dX9_twice_61 : decode cX9_twice 61 = .ok (.bipush (-4), 2) := by decide +kernel
theorem dX9_twice_63 : decode cX9_twice 63 = .ok (.if_icmp .ne 6, 3) := by decide +kernel
theorem dX9_twice_66 : decode cX9_twice 66 = .ok (.ldc 246, 2) := by decide +kernel
theorem dX9_twice_68 : decode cX9_twice 68 = .ok (.ireturn, 1) := by decide +kernel
theorem dX9_twice_69 : decode cX9_twice 69 = .ok (.iload_n 1, 1) := by decide +kernel
theorem dX9_twice_70 : decode cX9_twice 70 = .ok (.lookupswitch 42 #[(0, 26), (1, 34)], 26) := by decide +kernel
theorem dX9_twice_96 : decode cX9_twice 96 = .ok (.aload_n 0, 1) := by decide +kernel
theorem dX9_twice_97 : decode cX9_twice 97 = .ok (.getfield 51, 3) := by decide +kernel
theorem dX9_twice_100 : decode cX9_twice 100 = .ok (.getfield 253, 3) := by decide +kernel
theorem dX9_twice_103 : decode cX9_twice 103 = .ok (.ireturn, 1) := by decide +kernel
theorem dX9_twice_104 : decode cX9_twice 104 = .ok (.aload_n 0, 1) := by decide +kernel
theorem dX9_twice_105 : decode cX9_twice 105 = .ok (.getfield 51, 3) := by decide +kernel
theorem dX9_twice_108 : decode cX9_twice 108 = .ok (.getfield 250, 3) := by decide +kernel
theorem dX9_twice_111 : decode cX9_twice 111 = .ok (.ireturn, 1) := by decide +kernel
theorem dX9_twice_112 : decode cX9_twice 112 = .ok (.aload_n 0, 1) := by decide +kernel
theorem dX9_twice_113 : decode cX9_twice 113 = .ok (.getfield 51, 3) := by decide +kernel
theorem dX9_twice_116 : decode cX9_twice 116 = .ok (.getfield 256, 3) := by decide +kernel
theorem dX9_twice_119 : decode cX9_twice 119 = .ok (.bipush (-4), 2) := by decide +kernel
theorem dX9_twice_121 : decode cX9_twice 121 = .ok (.if_icmp .ne 9, 3) := by decide +kernel
theorem dX9_twice_124 : decode cX9_twice 124 = .ok (.ldc_w 259, 3) := by decide +kernel
theorem dX9_twice_127 : decode cX9_twice 127 = .ok (.goto 18, 3) := by decide +kernel
theorem dX9_twice_130 : decode cX9_twice 130 = .ok (.aload_n 0, 1) := by decide +kernel
theorem dX9_twice_131 : decode cX9_twice 131 = .ok (.getfield 51, 3) := by decide +kernel
theorem dX9_twice_134 : decode cX9_twice 134 = .ok (.getfield 256, 3) := by decide +kernel
theorem dX9_twice_137 : decode cX9_twice 137 = .ok (.aload_n 0, 1) := by decide +kernel
theorem dX9_twice_138 : decode cX9_twice 138 = .ok (.getfield 51, 3) := by decide +kernel
theorem dX9_twice_141 : decode cX9_twice 141 = .ok (.getfield 250, 3) := by decide +kernel
theorem dX9_twice_144 : decode cX9_twice 144 = .ok (.isub, 1) := by decide +kernel
theorem dX9_twice_145 : decode cX9_twice 145 = .ok (.ireturn, 1) := by decide +kernel
def f_X9_twice (a : Nat) (x1 : Int32) (g : zG) : Option (Int32 × zG) :=
  if x1 < 0 then (some (((-1000000), g))) else (if x1 ≤ 2 then (if 48 ≤ (g.1 (g.2.1 (g.2.1 a 0) 0) 1) then (some (((-1000002), g))) else (if (g.1 (g.2.1 (g.2.1 a 0) 1) 5) = 0 then (some (((-1000002), g))) else (zb (f_X8_findDouble (g.2.1 a 5) (g.2.1 a 0) g) (fun v11 g12 => if (g12.1 (g12.2.1 a 5) 3) = (-4) then (some (((-1000002), g12))) else (if x1 = 0 then (some ((g12.1 (g12.2.1 a 5) 4, g12))) else (if x1 = 1 then (some ((g12.1 (g12.2.1 a 5) 3, g12))) else (if (g12.1 (g12.2.1 a 5) 5) = (-4) then (some (((-1000004), g12))) else (some (((g12.1 (g12.2.1 a 5) 5) - (g12.1 (g12.2.1 a 5) 3), g12)))))))))) else (some (((-1000000), g))))
abbrev rm_X9_twice : Room := { frames := 7, cells := 0, slots := 0, locals := 171 }
set_option maxRecDepth 100000 in
set_option maxHeartbeats 4000000 in
theorem c_X9_twice (l : Launch) (D : zD) (sz : Nat) (τ : zT) (g : zG) (a : Nat) (x1 : Int32) (hta : τ a = some (.inr 9)) : zCon l D yX9_twice cX9_twice 2 (some .int) rm_X9_twice 0 0 zrI [.ref a, .int x1] sz τ g τ (f_X9_twice a x1 g) := by
  refine zCon.of (by decide) (Nat.le_of_ble_eq_true rfl) (fun E r g' hl hR hsz hnm F => ?_)
  have F : zF E D (zA τ sz) cX9_twice "TypeChain" 2 (some .int) := F
  show zSim (fun q : Int32 × zG => q = (r, g')) (f_X9_twice a x1 g) (zAt E D (zA τ sz) (zQ E D zrI 0 0 sz τ τ r g') 2 (sz, τ, 0, 0) g 0 [(0, .ref a), (1, .int x1)] [])
  unfold f_X9_twice
  refine z_iload_n F 1 rfl rfl dX9_twice_0 ?_
  refine z_if_lt (tgt := 9) F dX9_twice_1 (by decide) (fun c1 => ?_) (fun c1 => ?_)
  · refine z_ldc F q_810 dX9_twice_9 ?_
    exact z_ireturn F rfl rfl rfl rfl (fun h => h) dX9_twice_11
  · refine z_iload_n F 1 rfl rfl dX9_twice_4 ?_
    refine z_iconst (v := 2) F (by decide) dX9_twice_5 ?_
    refine z_icmp_le (tgt := 12) F dX9_twice_6 (by decide) (fun c2 => ?_) (fun c2 => ?_)
    · refine z_aload_n F 0 rfl rfl dX9_twice_12 ?_
      refine gf_X9_12 F hta dX9_twice_13 (fun ht3 => ?_)
      refine gf_X9_35 F ht3 dX9_twice_16 (fun ht4 => ?_)
      refine gf_X9_95 F ht4 dX9_twice_19 ?_
      refine z_bipush (v := 48) F (by decide) dX9_twice_22 ?_
      refine z_icmp_ge (tgt := 40) F dX9_twice_24 (by decide) (fun c5 => ?_) (fun c5 => ?_)
      · refine z_ldc F q_811 dX9_twice_40 ?_
        exact z_ireturn F rfl rfl rfl rfl (fun h => h) dX9_twice_42
      · refine z_aload_n F 0 rfl rfl dX9_twice_27 ?_
        refine gf_X9_12 F hta dX9_twice_28 (fun ht6 => ?_)
        refine gf_X9_86 F ht6 dX9_twice_31 (fun ht7 => ?_)
        refine gf_X9_90 F ht7 dX9_twice_34 ?_
        refine z_if_ne (tgt := 43) F dX9_twice_37 (by decide) (fun c8 => ?_) (fun c8 => ?_)
        · refine z_ldc F q_811 dX9_twice_40 ?_
          exact z_ireturn F rfl rfl rfl rfl (fun h => h) dX9_twice_42
        · refine z_aload_n F 0 rfl rfl dX9_twice_43 ?_
          refine gf_X9_51 F hta dX9_twice_44 (fun ht9 => ?_)
          refine z_aload_n F 0 rfl rfl dX9_twice_47 ?_
          refine gf_X9_12 F hta dX9_twice_48 (fun ht10 => ?_)
          refine k_X8_findDouble F (by rw [hR]; exact ⟨by decide, by decide⟩) q_812 ht9 ht10 ⟨Nat.zero_le _, Nat.zero_le _⟩ (Nat.le_of_ble_eq_true rfl) dX9_twice_51 (fun v11 g12 => ?_)
          refine z_aload_n F 0 rfl rfl dX9_twice_54 ?_
          refine gf_X9_51 F hta dX9_twice_55 (fun ht13 => ?_)
          refine gf_X9_250 F ht13 dX9_twice_58 ?_
          refine z_bipush (v := (-4)) F (by decide) dX9_twice_61 ?_
          refine z_icmp_ne (tgt := 69) F dX9_twice_63 (by decide) (fun c14 => ?_) (fun c14 => ?_)
          · refine z_ldc F q_811 dX9_twice_66 ?_
            exact z_ireturn F rfl rfl rfl rfl (fun h => h) dX9_twice_68
          · refine z_iload_n F 1 rfl rfl dX9_twice_69 ?_
            refine z_ite (fun c15 => ?_) (fun c15 => ?_)
            · refine z_lookup (off := 26) (tgt := 96) F dX9_twice_70 rfl (by rw [c15]; decide) (by decide) ?_
              refine z_aload_n F 0 rfl rfl dX9_twice_96 ?_
              refine gf_X9_51 F hta dX9_twice_97 (fun ht16 => ?_)
              refine gf_X9_253 F ht16 dX9_twice_100 ?_
              exact z_ireturn F rfl rfl rfl rfl (fun h => h) dX9_twice_103
            ·
              refine z_ite (fun c17 => ?_) (fun c17 => ?_)
              · refine z_lookup (off := 34) (tgt := 104) F dX9_twice_70 rfl (by rw [c17]; decide) (by decide) ?_
                refine z_aload_n F 0 rfl rfl dX9_twice_104 ?_
                refine gf_X9_51 F hta dX9_twice_105 (fun ht18 => ?_)
                refine gf_X9_250 F ht18 dX9_twice_108 ?_
                exact z_ireturn F rfl rfl rfl rfl (fun h => h) dX9_twice_111
              ·
                refine z_lookup (off := 42) (tgt := 112) F dX9_twice_70 rfl (by rw [lv_osw c15 (by decide), lv_osw c17 (by decide)]; rfl) (by decide) ?_
                refine z_aload_n F 0 rfl rfl dX9_twice_112 ?_
                refine gf_X9_51 F hta dX9_twice_113 (fun ht19 => ?_)
                refine gf_X9_256 F ht19 dX9_twice_116 ?_
                refine z_bipush (v := (-4)) F (by decide) dX9_twice_119 ?_
                refine z_icmp_ne (tgt := 130) F dX9_twice_121 (by decide) (fun c20 => ?_) (fun c20 => ?_)
                · refine z_ldcw F q_816 dX9_twice_124 ?_
                  refine z_goto (tgt := 145) F dX9_twice_127 (by decide) ?_
                  exact z_ireturn F rfl rfl rfl rfl (fun h => h) dX9_twice_145
                · refine z_aload_n F 0 rfl rfl dX9_twice_130 ?_
                  refine gf_X9_51 F hta dX9_twice_131 (fun ht21 => ?_)
                  refine gf_X9_256 F ht21 dX9_twice_134 ?_
                  refine z_aload_n F 0 rfl rfl dX9_twice_137 ?_
                  refine gf_X9_51 F hta dX9_twice_138 (fun ht22 => ?_)
                  refine gf_X9_250 F ht22 dX9_twice_141 ?_
                  refine z_isub F dX9_twice_144 ?_
                  exact z_ireturn F rfl rfl rfl rfl (fun h => h) dX9_twice_145
    · refine z_ldc F q_810 dX9_twice_9 ?_
      exact z_ireturn F rfl rfl rfl rfl (fun h => h) dX9_twice_11
theorem k_X9_twice {ρ : Type} {K : ρ → Prop} {E : zE} {D : zD} {A : Nat → Prop} {Q : State → Prop} {nL : Nat} {κ : zC} {g : zG} {pc : Nat} {lv : List (Nat × Value)} {st : List Value} {cc : ByteArray} {own : String} {ret : Option FieldType} (F : zF E D A cc own nL ret) {index : Nat} {h : Int32 → zG → Option ρ} {a : Nat} {x1 : Int32}  (hR : 7 + 1 ≤ E.2.2.2.1.frames ∧ 8 + (2 + 11) + 171 ≤ E.2.2.2.1.locals) (hl : zTbl (.methodLink own index yX9_twice)) (hta : κ.2.1 a = some (.inr 9)) (hc : κ.2.2.1 ≤ E.2.2.2.1.cells ∧ κ.2.2.2 ≤ E.2.2.2.1.slots) (hW : (st.map fun v => v.category).sum ≤ 8) (hd : decode cc pc = .ok (.invokevirtual index, 3)) (kk : ∀ r g', zSim K (h r g') (zAt E D A Q nL κ g' (pc + 3) lv (.int r :: st))) : zSim K (zb (f_X9_twice a x1 g) h) (zAt E D A Q nL κ g pc lv (.int x1 :: .ref a :: st)) :=
  z_callV F (n := 1) (As := [.int x1]) (C := (RX9, TX9, 11)) ⟨q_809, q_1, by decide +kernel, rfl, rfl, hR.1, hR.2⟩ (c_X9_twice E.2.1 D κ.1 κ.2.1 g a x1 hta) hl q_807 q_808 hta rfl rfl rfl hc hW hd kk _ rfl
theorem dX9_count_0 : decode cX9_count 0 = .ok (.iload_n 1, 1) := by decide +kernel
theorem dX9_count_1 : decode cX9_count 1 = .ok (.tableswitch 99 0 4 #[35, 43, 57, 65, 73], 35) := by decide +kernel
theorem dX9_count_36 : decode cX9_count 36 = .ok (.aload_n 0, 1) := by decide +kernel
theorem dX9_count_37 : decode cX9_count 37 = .ok (.getfield 42, 3) := by decide +kernel
theorem dX9_count_40 : decode cX9_count 40 = .ok (.invokevirtual 286, 3) := by decide +kernel
theorem dX9_count_43 : decode cX9_count 43 = .ok (.ireturn, 1) := by decide +kernel
theorem dX9_count_44 : decode cX9_count 44 = .ok (.aload_n 0, 1) := by decide +kernel
theorem dX9_count_45 : decode cX9_count 45 = .ok (.getfield 12, 3) := by decide +kernel
theorem dX9_count_48 : decode cX9_count 48 = .ok (.getfield 35, 3) := by decide +kernel
theorem dX9_count_51 : decode cX9_count 51 = .ok (.invokevirtual 289, 3) := by decide +kernel
theorem dX9_count_54 : decode cX9_count 54 = .ok (.invokestatic 292, 3) := by decide +kernel
theorem dX9_count_57 : decode cX9_count 57 = .ok (.ireturn, 1) := by decide +kernel
theorem dX9_count_58 : decode cX9_count 58 = .ok (.aload_n 0, 1) := by decide +kernel
theorem dX9_count_59 : decode cX9_count 59 = .ok (.getfield 12, 3) := by decide +kernel
theorem dX9_count_62 : decode cX9_count 62 = .ok (.invokevirtual 296, 3) := by decide +kernel
theorem dX9_count_65 : decode cX9_count 65 = .ok (.ireturn, 1) := by decide +kernel
theorem dX9_count_66 : decode cX9_count 66 = .ok (.aload_n 0, 1) := by decide +kernel
theorem dX9_count_67 : decode cX9_count 67 = .ok (.getfield 22, 3) := by decide +kernel
theorem dX9_count_70 : decode cX9_count 70 = .ok (.getfield 66, 3) := by decide +kernel
theorem dX9_count_73 : decode cX9_count 73 = .ok (.ireturn, 1) := by decide +kernel
theorem dX9_count_74 : decode cX9_count 74 = .ok (.aload_n 0, 1) := by decide +kernel
theorem dX9_count_75 : decode cX9_count 75 = .ok (.getfield 58, 3) := by decide +kernel
theorem dX9_count_78 : decode cX9_count 78 = .ok (.iconst 0, 1) := by decide +kernel
theorem dX9_count_79 : decode cX9_count 79 = .ok (.invokevirtual 270, 3) := by decide +kernel
theorem dX9_count_82 : decode cX9_count 82 = .ok (.ifCond .eq 8, 3) := by decide +kernel
theorem dX9_count_85 : decode cX9_count 85 = .ok (.bipush (-4), 2) := by decide +kernel
theorem dX9_count_87 : decode cX9_count 87 = .ok (.goto 12, 3) := by decide +kernel
theorem dX9_count_90 : decode cX9_count 90 = .ok (.aload_n 0, 1) := by decide +kernel
theorem dX9_count_91 : decode cX9_count 91 = .ok (.getfield 58, 3) := by decide +kernel
theorem dX9_count_94 : decode cX9_count 94 = .ok (.getfield 299, 3) := by decide +kernel
theorem dX9_count_97 : decode cX9_count 97 = .ok (.iconst 0, 1) := by decide +kernel
theorem dX9_count_98 : decode cX9_count 98 = .ok (.iaload, 1) := by decide +kernel
theorem dX9_count_99 : decode cX9_count 99 = .ok (.ireturn, 1) := by decide +kernel
theorem dX9_count_100 : decode cX9_count 100 = .ok (.iconst (-1), 1) := by decide +kernel
theorem dX9_count_101 : decode cX9_count 101 = .ok (.ireturn, 1) := by decide +kernel
def f_X9_count (a : Nat) (x1 : Int32) (g : zG) : Option (Int32 × zG) :=
  if x1 = 0 then (zb (f_X2_lettersInLine (g.2.1 a 4) g) (fun v3 g4 => some ((v3, g4)))) else (if x1 = 1 then (zb (f_X0_letterSet (g.2.1 (g.2.1 a 0) 0) g) (fun v8 g9 => zb (f_J6_bitCount_0f7a4 v8 g9) (fun v10 g11 => some ((v10, g11))))) else (if x1 = 2 then (zb (f_X5_holeCount (g.2.1 a 0) g) (fun v14 g15 => some ((v14, g15)))) else (if x1 = 3 then (some ((g.1 (g.2.1 a 2) 1, g))) else (if x1 = 4 then (zb (f_X6_isNothing (g.2.1 a 6) 0 g) (fun v20 g21 => if v20 = 0 then (zc (zin 0 4) (some ((g21.1 (g21.2.1 (g21.2.1 a 6) 1) (0 : Int32).toNatClampNeg, g21)))) else (some (((-4), g21))))) else (some (((-1), g)))))))
abbrev rm_X9_count : Room := { frames := 2, cells := 0, slots := 0, locals := 42 }
set_option maxRecDepth 100000 in
set_option maxHeartbeats 4000000 in
theorem c_X9_count (l : Launch) (D : zD) (sz : Nat) (τ : zT) (g : zG) (a : Nat) (x1 : Int32) (hta : τ a = some (.inr 9)) : zCon l D yX9_count cX9_count 2 (some .int) rm_X9_count 0 0 zrI [.ref a, .int x1] sz τ g τ (f_X9_count a x1 g) := by
  refine zCon.of (by decide) (Nat.le_of_ble_eq_true rfl) (fun E r g' hl hR hsz hnm F => ?_)
  have F : zF E D (zA τ sz) cX9_count "TypeChain" 2 (some .int) := F
  show zSim (fun q : Int32 × zG => q = (r, g')) (f_X9_count a x1 g) (zAt E D (zA τ sz) (zQ E D zrI 0 0 sz τ τ r g') 2 (sz, τ, 0, 0) g 0 [(0, .ref a), (1, .int x1)] [])
  unfold f_X9_count
  refine z_iload_n F 1 rfl rfl dX9_count_0 ?_
  refine z_ite (fun c1 => ?_) (fun c1 => ?_)
  · refine z_tableIn (tgt := 36) F 0 c1 dX9_count_1 (by decide) (by decide) rfl (by decide) ?_
    refine z_aload_n F 0 rfl rfl dX9_count_36 ?_
    refine gf_X9_42 F hta dX9_count_37 (fun ht2 => ?_)
    refine k_X2_lettersInLine F (by rw [hR]; exact ⟨by decide, by decide⟩) q_855 ht2 ⟨Nat.zero_le _, Nat.zero_le _⟩ (Nat.le_of_ble_eq_true rfl) dX9_count_40 (fun v3 g4 => ?_)
    exact z_ireturn F rfl rfl rfl rfl (fun h => h) dX9_count_43
  ·
    refine z_ite (fun c5 => ?_) (fun c5 => ?_)
    · refine z_tableIn (tgt := 44) F 1 c5 dX9_count_1 (by decide) (by decide) rfl (by decide) ?_
      refine z_aload_n F 0 rfl rfl dX9_count_44 ?_
      refine gf_X9_12 F hta dX9_count_45 (fun ht6 => ?_)
      refine gf_X9_35 F ht6 dX9_count_48 (fun ht7 => ?_)
      refine k_X0_letterSet F (by rw [hR]; exact ⟨by decide, by decide⟩) q_863 ht7 ⟨Nat.zero_le _, Nat.zero_le _⟩ (Nat.le_of_ble_eq_true rfl) dX9_count_51 (fun v8 g9 => ?_)
      refine k_J6_bitCount_0f7a4 F (by rw [hR]; exact ⟨by decide, by decide⟩) q_864  ⟨Nat.zero_le _, Nat.zero_le _⟩ (Nat.le_of_ble_eq_true rfl) dX9_count_54 (fun v10 g11 => ?_)
      exact z_ireturn F rfl rfl rfl rfl (fun h => h) dX9_count_57
    ·
      refine z_ite (fun c12 => ?_) (fun c12 => ?_)
      · refine z_tableIn (tgt := 58) F 2 c12 dX9_count_1 (by decide) (by decide) rfl (by decide) ?_
        refine z_aload_n F 0 rfl rfl dX9_count_58 ?_
        refine gf_X9_12 F hta dX9_count_59 (fun ht13 => ?_)
        refine k_X5_holeCount F (by rw [hR]; exact ⟨by decide, by decide⟩) q_865 ht13 ⟨Nat.zero_le _, Nat.zero_le _⟩ (Nat.le_of_ble_eq_true rfl) dX9_count_62 (fun v14 g15 => ?_)
        exact z_ireturn F rfl rfl rfl rfl (fun h => h) dX9_count_65
      ·
        refine z_ite (fun c16 => ?_) (fun c16 => ?_)
        · refine z_tableIn (tgt := 66) F 3 c16 dX9_count_1 (by decide) (by decide) rfl (by decide) ?_
          refine z_aload_n F 0 rfl rfl dX9_count_66 ?_
          refine gf_X9_22 F hta dX9_count_67 (fun ht17 => ?_)
          refine gf_X9_66 F ht17 dX9_count_70 ?_
          exact z_ireturn F rfl rfl rfl rfl (fun h => h) dX9_count_73
        ·
          refine z_ite (fun c18 => ?_) (fun c18 => ?_)
          · refine z_tableIn (tgt := 74) F 4 c18 dX9_count_1 (by decide) (by decide) rfl (by decide) ?_
            refine z_aload_n F 0 rfl rfl dX9_count_74 ?_
            refine gf_X9_58 F hta dX9_count_75 (fun ht19 => ?_)
            refine z_iconst (v := 0) F (by decide) dX9_count_78 ?_
            refine k_X6_isNothing F (by rw [hR]; exact ⟨by decide, by decide⟩) q_835 ht19 ⟨Nat.zero_le _, Nat.zero_le _⟩ (Nat.le_of_ble_eq_true rfl) dX9_count_79 (fun v20 g21 => ?_)
            refine z_if_eq (tgt := 90) F dX9_count_82 (by decide) (fun c22 => ?_) (fun c22 => ?_)
            · refine z_aload_n F 0 rfl rfl dX9_count_90 ?_
              refine gf_X9_58 F hta dX9_count_91 (fun ht23 => ?_)
              refine gf_X9_299 F ht23 dX9_count_94 (fun ht24 => ?_)
              refine z_iconst (v := 0) F (by decide) dX9_count_97 ?_
              refine z_iald F ht24 dX9_count_98 ?_
              exact z_ireturn F rfl rfl rfl rfl (fun h => h) dX9_count_99
            · refine z_bipush (v := (-4)) F (by decide) dX9_count_85 ?_
              refine z_goto (tgt := 99) F dX9_count_87 (by decide) ?_
              exact z_ireturn F rfl rfl rfl rfl (fun h => h) dX9_count_99
          ·
            refine z_tableOut (tgt := 100) F dX9_count_1 (by have e0 := lv_neT (a := 0) c1 (by decide); have e1 := lv_neT (a := 1) c5 (by decide); have e2 := lv_neT (a := 2) c12 (by decide); have e3 := lv_neT (a := 3) c16 (by decide); have e4 := lv_neT (a := 4) c18 (by decide); omega) (by decide) ?_
            refine z_iconst (v := (-1)) F (by decide) dX9_count_100 ?_
            exact z_ireturn F rfl rfl rfl rfl (fun h => h) dX9_count_101
theorem k_X9_count {ρ : Type} {K : ρ → Prop} {E : zE} {D : zD} {A : Nat → Prop} {Q : State → Prop} {nL : Nat} {κ : zC} {g : zG} {pc : Nat} {lv : List (Nat × Value)} {st : List Value} {cc : ByteArray} {own : String} {ret : Option FieldType} (F : zF E D A cc own nL ret) {index : Nat} {h : Int32 → zG → Option ρ} {a : Nat} {x1 : Int32}  (hR : 2 + 1 ≤ E.2.2.2.1.frames ∧ 8 + (2 + 11) + 42 ≤ E.2.2.2.1.locals) (hl : zTbl (.methodLink own index yX9_count)) (hta : κ.2.1 a = some (.inr 9)) (hc : κ.2.2.1 ≤ E.2.2.2.1.cells ∧ κ.2.2.2 ≤ E.2.2.2.1.slots) (hW : (st.map fun v => v.category).sum ≤ 8) (hd : decode cc pc = .ok (.invokevirtual index, 3)) (kk : ∀ r g', zSim K (h r g') (zAt E D A Q nL κ g' (pc + 3) lv (.int r :: st))) : zSim K (zb (f_X9_count a x1 g) h) (zAt E D A Q nL κ g pc lv (.int x1 :: .ref a :: st)) :=
  z_callV F (n := 1) (As := [.int x1]) (C := (RX9, TX9, 11)) ⟨q_862, q_1, by decide +kernel, rfl, rfl, hR.1, hR.2⟩ (c_X9_count E.2.1 D κ.1 κ.2.1 g a x1 hta) hl q_860 q_861 hta rfl rfl rfl hc hW hd kk _ rfl
theorem dX9_takeRules_0 : decode cX9_takeRules 0 = .ok (.aload_n 0, 1) := by decide +kernel
theorem dX9_takeRules_1 : decode cX9_takeRules 1 = .ok (.getfield 42, 3) := by decide +kernel
theorem dX9_takeRules_4 : decode cX9_takeRules 4 = .ok (.aload_n 0, 1) := by decide +kernel
theorem dX9_takeRules_5 : decode cX9_takeRules 5 = .ok (.getfield 12, 3) := by decide +kernel
theorem dX9_takeRules_8 : decode cX9_takeRules 8 = .ok (.aload_n 0, 1) := by decide +kernel
theorem dX9_takeRules_9 : decode cX9_takeRules 9 = .ok (.getfield 12, 3) := by decide +kernel
theorem dX9_takeRules_12 : decode cX9_takeRules 12 = .ok (.getfield 35, 3) := by decide +kernel
theorem dX9_takeRules_15 : decode cX9_takeRules 15 = .ok (.invokevirtual 302, 3) := by decide +kernel
theorem dX9_takeRules_18 : decode cX9_takeRules 18 = .ok (.aload_n 0, 1) := by decide +kernel
theorem dX9_takeRules_19 : decode cX9_takeRules 19 = .ok (.getfield 51, 3) := by decide +kernel
theorem dX9_takeRules_22 : decode cX9_takeRules 22 = .ok (.invokevirtual 306, 3) := by decide +kernel
theorem dX9_takeRules_25 : decode cX9_takeRules 25 = .ok (.aload_n 0, 1) := by decide +kernel
theorem dX9_takeRules_26 : decode cX9_takeRules 26 = .ok (.iconst 0, 1) := by decide +kernel
theorem dX9_takeRules_27 : decode cX9_takeRules 27 = .ok (.putfield 224, 3) := by decide +kernel
theorem dX9_takeRules_30 : decode cX9_takeRules 30 = .ok (.return_, 1) := by decide +kernel
def f_X9_takeRules (a : Nat) (g : zG) : Option (Int32 × zG) :=
  zb (f_X2_begin (g.2.1 a 4) (g.2.1 a 0) (g.2.1 (g.2.1 a 0) 0) g) (fun v5 g6 => zb (f_X8_forget (g6.2.1 a 5) g6) (fun v8 g9 => zl (zsi g9 a 7 0) (fun g10 => some ((0, g10)))))
abbrev rm_X9_takeRules : Room := { frames := 3, cells := 0, slots := 0, locals := 65 }
set_option maxRecDepth 100000 in
set_option maxHeartbeats 4000000 in
theorem c_X9_takeRules (l : Launch) (D : zD) (sz : Nat) (τ : zT) (g : zG) (a : Nat) (hta : τ a = some (.inr 9)) : zCon l D yX9_takeRules cX9_takeRules 1 none rm_X9_takeRules 0 0 zrV [.ref a] sz τ g τ (f_X9_takeRules a g) := by
  refine zCon.of (by decide) (Nat.le_of_ble_eq_true rfl) (fun E r g' hl hR hsz hnm F => ?_)
  have F : zF E D (zA τ sz) cX9_takeRules "TypeChain" 1 none := F
  show zSim (fun q : Int32 × zG => q = (r, g')) (f_X9_takeRules a g) (zAt E D (zA τ sz) (zQ E D zrV 0 0 sz τ τ r g') 1 (sz, τ, 0, 0) g 0 [(0, .ref a)] [])
  unfold f_X9_takeRules
  refine z_aload_n F 0 rfl rfl dX9_takeRules_0 ?_
  refine gf_X9_42 F hta dX9_takeRules_1 (fun ht1 => ?_)
  refine z_aload_n F 0 rfl rfl dX9_takeRules_4 ?_
  refine gf_X9_12 F hta dX9_takeRules_5 (fun ht2 => ?_)
  refine z_aload_n F 0 rfl rfl dX9_takeRules_8 ?_
  refine gf_X9_12 F hta dX9_takeRules_9 (fun ht3 => ?_)
  refine gf_X9_35 F ht3 dX9_takeRules_12 (fun ht4 => ?_)
  refine k_X2_begin F (by rw [hR]; exact ⟨by decide, by decide⟩) q_556 ht1 ht2 ht4 ⟨Nat.zero_le _, Nat.zero_le _⟩ (Nat.le_of_ble_eq_true rfl) dX9_takeRules_15 (fun v5 g6 => ?_)
  refine z_aload_n F 0 rfl rfl dX9_takeRules_18 ?_
  refine gf_X9_51 F hta dX9_takeRules_19 (fun ht7 => ?_)
  refine k_X8_forget F (by rw [hR]; exact ⟨by decide, by decide⟩) q_557 ht7 ⟨Nat.zero_le _, Nat.zero_le _⟩ (Nat.le_of_ble_eq_true rfl) dX9_takeRules_22 (fun v8 g9 => ?_)
  refine z_aload_n F 0 rfl rfl dX9_takeRules_25 ?_
  refine z_iconst (v := 0) F (by decide) dX9_takeRules_26 ?_
  refine pf_X9_224 F hta (Or.inl rfl) dX9_takeRules_27 ?_
  refine z_letg (fun g10 => ?_)
  exact z_vreturn F rfl rfl rfl rfl (fun h => h) dX9_takeRules_30
theorem k_X9_takeRules {ρ : Type} {K : ρ → Prop} {E : zE} {D : zD} {A : Nat → Prop} {Q : State → Prop} {nL : Nat} {κ : zC} {g : zG} {pc : Nat} {lv : List (Nat × Value)} {st : List Value} {cc : ByteArray} {own : String} {ret : Option FieldType} (F : zF E D A cc own nL ret) {index : Nat} {h : Int32 → zG → Option ρ} {a : Nat}  (hR : 3 + 1 ≤ E.2.2.2.1.frames ∧ 8 + (1 + 11) + 65 ≤ E.2.2.2.1.locals) (hl : zTbl (.methodLink own index yX9_takeRules)) (hta : κ.2.1 a = some (.inr 9)) (hc : κ.2.2.1 ≤ E.2.2.2.1.cells ∧ κ.2.2.2 ≤ E.2.2.2.1.slots) (hW : (st.map fun v => v.category).sum ≤ 8) (hd : decode cc pc = .ok (.invokevirtual index, 3)) (kk : ∀ r g', zSim K (h r g') (zAt E D A Q nL κ g' (pc + 3) lv (st))) : zSim K (zb (f_X9_takeRules a g) h) (zAt E D A Q nL κ g pc lv (.ref a :: st)) :=
  z_callV F (n := 0) (As := []) (C := (RX9, TX9, 11)) ⟨q_555, q_1, by decide +kernel, rfl, rfl, hR.1, hR.2⟩ (c_X9_takeRules E.2.1 D κ.1 κ.2.1 g a hta) hl q_554 q_1378 hta rfl rfl rfl hc hW hd kk _ rfl
theorem dX9_isColumn_0 : decode cX9_isColumn 0 = .ok (.iload_n 1, 1) := by decide +kernel
theorem dX9_isColumn_1 : decode cX9_isColumn 1 = .ok (.ifCond .lt 20, 3) := by decide +kernel
theorem dX9_isColumn_4 : decode cX9_isColumn 4 = .ok (.iload_n 1, 1) := by decide +kernel
theorem dX9_isColumn_5 : decode cX9_isColumn 5 = .ok (.aload_n 0, 1) := by decide +kernel
theorem dX9_isColumn_6 : decode cX9_isColumn 6 = .ok (.getfield 12, 3) := by decide +kernel
theorem dX9_isColumn_9 : decode cX9_isColumn 9 = .ok (.getfield 98, 3) := by decide +kernel
theorem dX9_isColumn_12 : decode cX9_isColumn 12 = .ok (.iconst 3, 1) := by decide +kernel
theorem dX9_isColumn_13 : decode cX9_isColumn 13 = .ok (.iaload, 1) := by decide +kernel
theorem dX9_isColumn_14 : decode cX9_isColumn 14 = .ok (.if_icmp .ge 7, 3) := by decide +kernel
theorem dX9_isColumn_17 : decode cX9_isColumn 17 = .ok (.iconst 1, 1) := by decide +kernel
theorem dX9_isColumn_18 : decode cX9_isColumn 18 = .ok (.goto 4, 3) := by decide +kernel
theorem dX9_isColumn_21 : decode cX9_isColumn 21 = .ok (.iconst 0, 1) := by decide +kernel
theorem dX9_isColumn_22 : decode cX9_isColumn 22 = .ok (.ireturn, 1) := by decide +kernel
def f_X9_isColumn (a : Nat) (x1 : Int32) (g : zG) : Option (Int32 × zG) :=
  if x1 < 0 then (some ((0, g))) else (zc (zin 3 8) (if (g.1 (g.2.1 (g.2.1 a 0) 2) (3 : Int32).toNatClampNeg) ≤ x1 then (some ((0, g))) else (some ((1, g)))))
abbrev rm_X9_isColumn : Room := { frames := 0, cells := 0, slots := 0, locals := 0 }
set_option maxRecDepth 100000 in
set_option maxHeartbeats 4000000 in
theorem c_X9_isColumn (l : Launch) (D : zD) (sz : Nat) (τ : zT) (g : zG) (a : Nat) (x1 : Int32) (hta : τ a = some (.inr 9)) : zCon l D yX9_isColumn cX9_isColumn 2 (some .boolean) rm_X9_isColumn 0 0 zrI [.ref a, .int x1] sz τ g τ (f_X9_isColumn a x1 g) := by
  refine zCon.of (by decide) (Nat.le_of_ble_eq_true rfl) (fun E r g' hl hR hsz hnm F => ?_)
  have F : zF E D (zA τ sz) cX9_isColumn "TypeChain" 2 (some .boolean) := F
  show zSim (fun q : Int32 × zG => q = (r, g')) (f_X9_isColumn a x1 g) (zAt E D (zA τ sz) (zQ E D zrI 0 0 sz τ τ r g') 2 (sz, τ, 0, 0) g 0 [(0, .ref a), (1, .int x1)] [])
  unfold f_X9_isColumn
  refine z_iload_n F 1 rfl rfl dX9_isColumn_0 ?_
  refine z_if_lt (tgt := 21) F dX9_isColumn_1 (by decide) (fun c1 => ?_) (fun c1 => ?_)
  · refine z_iconst (v := 0) F (by decide) dX9_isColumn_21 ?_
    exact z_zreturn F rfl rfl rfl rfl rfl (fun h => h) dX9_isColumn_22
  · refine z_iload_n F 1 rfl rfl dX9_isColumn_4 ?_
    refine z_aload_n F 0 rfl rfl dX9_isColumn_5 ?_
    refine gf_X9_12 F hta dX9_isColumn_6 (fun ht2 => ?_)
    refine gf_X9_98 F ht2 dX9_isColumn_9 (fun ht3 => ?_)
    refine z_iconst (v := 3) F (by decide) dX9_isColumn_12 ?_
    refine z_iald F ht3 dX9_isColumn_13 ?_
    refine z_icmp_ge (tgt := 21) F dX9_isColumn_14 (by decide) (fun c4 => ?_) (fun c4 => ?_)
    · refine z_iconst (v := 0) F (by decide) dX9_isColumn_21 ?_
      exact z_zreturn F rfl rfl rfl rfl rfl (fun h => h) dX9_isColumn_22
    · refine z_iconst (v := 1) F (by decide) dX9_isColumn_17 ?_
      refine z_goto (tgt := 22) F dX9_isColumn_18 (by decide) ?_
      exact z_zreturn F rfl rfl rfl rfl rfl (fun h => h) dX9_isColumn_22
theorem k_X9_isColumn {ρ : Type} {K : ρ → Prop} {E : zE} {D : zD} {A : Nat → Prop} {Q : State → Prop} {nL : Nat} {κ : zC} {g : zG} {pc : Nat} {lv : List (Nat × Value)} {st : List Value} {cc : ByteArray} {own : String} {ret : Option FieldType} (F : zF E D A cc own nL ret) {index : Nat} {h : Int32 → zG → Option ρ} {a : Nat} {x1 : Int32}  (hR : 0 + 1 ≤ E.2.2.2.1.frames ∧ 8 + (2 + 11) + 0 ≤ E.2.2.2.1.locals) (hl : zTbl (.methodLink own index yX9_isColumn)) (hta : κ.2.1 a = some (.inr 9)) (hc : κ.2.2.1 ≤ E.2.2.2.1.cells ∧ κ.2.2.2 ≤ E.2.2.2.1.slots) (hW : (st.map fun v => v.category).sum ≤ 8) (hd : decode cc pc = .ok (.invokevirtual index, 3)) (kk : ∀ r g', zSim K (h r g') (zAt E D A Q nL κ g' (pc + 3) lv (.int r :: st))) : zSim K (zb (f_X9_isColumn a x1 g) h) (zAt E D A Q nL κ g pc lv (.int x1 :: .ref a :: st)) :=
  z_callV F (n := 1) (As := [.int x1]) (C := (RX9, TX9, 11)) ⟨q_596, q_1, by decide +kernel, rfl, rfl, hR.1, hR.2⟩ (c_X9_isColumn E.2.1 D κ.1 κ.2.1 g a x1 hta) hl q_595 q_1380 hta rfl rfl rfl hc hW hd kk _ rfl
theorem dX9_isRow_0 : decode cX9_isRow 0 = .ok (.iload_n 1, 1) := by decide +kernel
theorem dX9_isRow_1 : decode cX9_isRow 1 = .ok (.ifCond .lt 21, 3) := by decide +kernel
theorem dX9_isRow_4 : decode cX9_isRow 4 = .ok (.iload_n 1, 1) := by decide +kernel
theorem dX9_isRow_5 : decode cX9_isRow 5 = .ok (.aload_n 0, 1) := by decide +kernel
theorem dX9_isRow_6 : decode cX9_isRow 6 = .ok (.getfield 12, 3) := by decide +kernel
theorem dX9_isRow_9 : decode cX9_isRow 9 = .ok (.getfield 98, 3) := by decide +kernel
theorem dX9_isRow_12 : decode cX9_isRow 12 = .ok (.bipush 7, 2) := by decide +kernel
theorem dX9_isRow_14 : decode cX9_isRow 14 = .ok (.iaload, 1) := by decide +kernel
theorem dX9_isRow_15 : decode cX9_isRow 15 = .ok (.if_icmp .ge 7, 3) := by decide +kernel
theorem dX9_isRow_18 : decode cX9_isRow 18 = .ok (.iconst 1, 1) := by decide +kernel
theorem dX9_isRow_19 : decode cX9_isRow 19 = .ok (.goto 4, 3) := by decide +kernel
theorem dX9_isRow_22 : decode cX9_isRow 22 = .ok (.iconst 0, 1) := by decide +kernel
theorem dX9_isRow_23 : decode cX9_isRow 23 = .ok (.ireturn, 1) := by decide +kernel
def f_X9_isRow (a : Nat) (x1 : Int32) (g : zG) : Option (Int32 × zG) :=
  if x1 < 0 then (some ((0, g))) else (zc (zin 7 8) (if (g.1 (g.2.1 (g.2.1 a 0) 2) (7 : Int32).toNatClampNeg) ≤ x1 then (some ((0, g))) else (some ((1, g)))))
abbrev rm_X9_isRow : Room := { frames := 0, cells := 0, slots := 0, locals := 0 }
set_option maxRecDepth 100000 in
set_option maxHeartbeats 4000000 in
theorem c_X9_isRow (l : Launch) (D : zD) (sz : Nat) (τ : zT) (g : zG) (a : Nat) (x1 : Int32) (hta : τ a = some (.inr 9)) : zCon l D yX9_isRow cX9_isRow 2 (some .boolean) rm_X9_isRow 0 0 zrI [.ref a, .int x1] sz τ g τ (f_X9_isRow a x1 g) := by
  refine zCon.of (by decide) (Nat.le_of_ble_eq_true rfl) (fun E r g' hl hR hsz hnm F => ?_)
  have F : zF E D (zA τ sz) cX9_isRow "TypeChain" 2 (some .boolean) := F
  show zSim (fun q : Int32 × zG => q = (r, g')) (f_X9_isRow a x1 g) (zAt E D (zA τ sz) (zQ E D zrI 0 0 sz τ τ r g') 2 (sz, τ, 0, 0) g 0 [(0, .ref a), (1, .int x1)] [])
  unfold f_X9_isRow
  refine z_iload_n F 1 rfl rfl dX9_isRow_0 ?_
  refine z_if_lt (tgt := 22) F dX9_isRow_1 (by decide) (fun c1 => ?_) (fun c1 => ?_)
  · refine z_iconst (v := 0) F (by decide) dX9_isRow_22 ?_
    exact z_zreturn F rfl rfl rfl rfl rfl (fun h => h) dX9_isRow_23
  · refine z_iload_n F 1 rfl rfl dX9_isRow_4 ?_
    refine z_aload_n F 0 rfl rfl dX9_isRow_5 ?_
    refine gf_X9_12 F hta dX9_isRow_6 (fun ht2 => ?_)
    refine gf_X9_98 F ht2 dX9_isRow_9 (fun ht3 => ?_)
    refine z_bipush (v := 7) F (by decide) dX9_isRow_12 ?_
    refine z_iald F ht3 dX9_isRow_14 ?_
    refine z_icmp_ge (tgt := 22) F dX9_isRow_15 (by decide) (fun c4 => ?_) (fun c4 => ?_)
    · refine z_iconst (v := 0) F (by decide) dX9_isRow_22 ?_
      exact z_zreturn F rfl rfl rfl rfl rfl (fun h => h) dX9_isRow_23
    · refine z_iconst (v := 1) F (by decide) dX9_isRow_18 ?_
      refine z_goto (tgt := 23) F dX9_isRow_19 (by decide) ?_
      exact z_zreturn F rfl rfl rfl rfl rfl (fun h => h) dX9_isRow_23
theorem k_X9_isRow {ρ : Type} {K : ρ → Prop} {E : zE} {D : zD} {A : Nat → Prop} {Q : State → Prop} {nL : Nat} {κ : zC} {g : zG} {pc : Nat} {lv : List (Nat × Value)} {st : List Value} {cc : ByteArray} {own : String} {ret : Option FieldType} (F : zF E D A cc own nL ret) {index : Nat} {h : Int32 → zG → Option ρ} {a : Nat} {x1 : Int32}  (hR : 0 + 1 ≤ E.2.2.2.1.frames ∧ 8 + (2 + 11) + 0 ≤ E.2.2.2.1.locals) (hl : zTbl (.methodLink own index yX9_isRow)) (hta : κ.2.1 a = some (.inr 9)) (hc : κ.2.2.1 ≤ E.2.2.2.1.cells ∧ κ.2.2.2 ≤ E.2.2.2.1.slots) (hW : (st.map fun v => v.category).sum ≤ 8) (hd : decode cc pc = .ok (.invokevirtual index, 3)) (kk : ∀ r g', zSim K (h r g') (zAt E D A Q nL κ g' (pc + 3) lv (.int r :: st))) : zSim K (zb (f_X9_isRow a x1 g) h) (zAt E D A Q nL κ g pc lv (.int x1 :: .ref a :: st)) :=
  z_callV F (n := 1) (As := [.int x1]) (C := (RX9, TX9, 11)) ⟨q_580, q_1, by decide +kernel, rfl, rfl, hR.1, hR.2⟩ (c_X9_isRow E.2.1 D κ.1 κ.2.1 g a x1 hta) hl q_579 q_1379 hta rfl rfl rfl hc hW hd kk _ rfl
theorem dX9_isLetter_0 : decode cX9_isLetter 0 = .ok (.iload_n 0, 1) := by decide +kernel
theorem dX9_isLetter_1 : decode cX9_isLetter 1 = .ok (.iconst 1, 1) := by decide +kernel
theorem dX9_isLetter_2 : decode cX9_isLetter 2 = .ok (.if_icmp .lt 13, 3) := by decide +kernel
theorem dX9_isLetter_5 : decode cX9_isLetter 5 = .ok (.iload_n 0, 1) := by decide +kernel
theorem dX9_isLetter_6 : decode cX9_isLetter 6 = .ok (.bipush 26, 2) := by decide +kernel
theorem dX9_isLetter_8 : decode cX9_isLetter 8 = .ok (.if_icmp .gt 7, 3) := by decide +kernel
theorem dX9_isLetter_11 : decode cX9_isLetter 11 = .ok (.iconst 1, 1) := by decide +kernel
theorem dX9_isLetter_12 : decode cX9_isLetter 12 = .ok (.goto 4, 3) := by decide +kernel
theorem dX9_isLetter_15 : decode cX9_isLetter 15 = .ok (.iconst 0, 1) := by decide +kernel
theorem dX9_isLetter_16 : decode cX9_isLetter 16 = .ok (.ireturn, 1) := by decide +kernel
def f_X9_isLetter (x1 : Int32) (g : zG) : Option (Int32 × zG) :=
  if x1 < 1 then (some ((0, g))) else (if 26 < x1 then (some ((0, g))) else (some ((1, g))))
abbrev rm_X9_isLetter : Room := { frames := 0, cells := 0, slots := 0, locals := 0 }
set_option maxRecDepth 100000 in
set_option maxHeartbeats 4000000 in
theorem c_X9_isLetter (l : Launch) (D : zD) (sz : Nat) (τ : zT) (g : zG) (x1 : Int32) : zCon l D yX9_isLetter cX9_isLetter 1 (some .boolean) rm_X9_isLetter 0 0 zrI [.int x1] sz τ g τ (f_X9_isLetter x1 g) := by
  refine zCon.of (by decide) (Nat.le_of_ble_eq_true rfl) (fun E r g' hl hR hsz hnm F => ?_)
  have F : zF E D (zA τ sz) cX9_isLetter "TypeChain" 1 (some .boolean) := F
  show zSim (fun q : Int32 × zG => q = (r, g')) (f_X9_isLetter x1 g) (zAt E D (zA τ sz) (zQ E D zrI 0 0 sz τ τ r g') 1 (sz, τ, 0, 0) g 0 [(0, .int x1)] [])
  unfold f_X9_isLetter
  refine z_iload_n F 0 rfl rfl dX9_isLetter_0 ?_
  refine z_iconst (v := 1) F (by decide) dX9_isLetter_1 ?_
  refine z_icmp_lt (tgt := 15) F dX9_isLetter_2 (by decide) (fun c1 => ?_) (fun c1 => ?_)
  · refine z_iconst (v := 0) F (by decide) dX9_isLetter_15 ?_
    exact z_zreturn F rfl rfl rfl rfl rfl (fun h => h) dX9_isLetter_16
  · refine z_iload_n F 0 rfl rfl dX9_isLetter_5 ?_
    refine z_bipush (v := 26) F (by decide) dX9_isLetter_6 ?_
    refine z_icmp_gt (tgt := 15) F dX9_isLetter_8 (by decide) (fun c2 => ?_) (fun c2 => ?_)
    · refine z_iconst (v := 0) F (by decide) dX9_isLetter_15 ?_
      exact z_zreturn F rfl rfl rfl rfl rfl (fun h => h) dX9_isLetter_16
    · refine z_iconst (v := 1) F (by decide) dX9_isLetter_11 ?_
      refine z_goto (tgt := 16) F dX9_isLetter_12 (by decide) ?_
      exact z_zreturn F rfl rfl rfl rfl rfl (fun h => h) dX9_isLetter_16
theorem k_X9_isLetter {ρ : Type} {K : ρ → Prop} {E : zE} {D : zD} {A : Nat → Prop} {Q : State → Prop} {nL : Nat} {κ : zC} {g : zG} {pc : Nat} {lv : List (Nat × Value)} {st : List Value} {cc : ByteArray} {own : String} {ret : Option FieldType} (F : zF E D A cc own nL ret) {index : Nat} {h : Int32 → zG → Option ρ} {x1 : Int32}  (hR : 0 + 1 ≤ E.2.2.2.1.frames ∧ 8 + (1 + 11) + 0 ≤ E.2.2.2.1.locals) (hl : zTbl (.methodLink own index yX9_isLetter)) (hc : κ.2.2.1 ≤ E.2.2.2.1.cells ∧ κ.2.2.2 ≤ E.2.2.2.1.slots) (hW : (st.map fun v => v.category).sum ≤ 8) (hd : decode cc pc = .ok (.invokestatic index, 3)) (kk : ∀ r g', zSim K (h r g') (zAt E D A Q nL κ g' (pc + 3) lv (.int r :: st))) : zSim K (zb (f_X9_isLetter x1 g) h) (zAt E D A Q nL κ g pc lv (.int x1 :: st)) :=
  z_callS F (n := 1) (As := [.int x1]) ⟨q_615, q_1, by decide +kernel, rfl, rfl, hR.1, hR.2⟩ (c_X9_isLetter E.2.1 D κ.1 κ.2.1 g x1 ) hl q_614 rfl hc hW hd kk _ rfl
theorem dX9_isTick_0 : decode cX9_isTick 0 = .ok (.iload_n 0, 1) := by decide +kernel
theorem dX9_isTick_1 : decode cX9_isTick 1 = .ok (.ifCond .lt 14, 3) := by decide +kernel
theorem dX9_isTick_4 : decode cX9_isTick 4 = .ok (.iload_n 0, 1) := by decide +kernel
theorem dX9_isTick_5 : decode cX9_isTick 5 = .ok (.ldc_w 309, 3) := by decide +kernel
theorem dX9_isTick_8 : decode cX9_isTick 8 = .ok (.if_icmp .gt 7, 3) := by decide +kernel
theorem dX9_isTick_11 : decode cX9_isTick 11 = .ok (.iconst 1, 1) := by decide +kernel
theorem dX9_isTick_12 : decode cX9_isTick 12 = .ok (.goto 4, 3) := by decide +kernel
theorem dX9_isTick_15 : decode cX9_isTick 15 = .ok (.iconst 0, 1) := by decide +kernel
theorem dX9_isTick_16 : decode cX9_isTick 16 = .ok (.ireturn, 1) := by decide +kernel
def f_X9_isTick (x1 : Int32) (g : zG) : Option (Int32 × zG) :=
  if x1 < 0 then (some ((0, g))) else (if 1000000 < x1 then (some ((0, g))) else (some ((1, g))))
abbrev rm_X9_isTick : Room := { frames := 0, cells := 0, slots := 0, locals := 0 }
set_option maxRecDepth 100000 in
set_option maxHeartbeats 4000000 in
theorem c_X9_isTick (l : Launch) (D : zD) (sz : Nat) (τ : zT) (g : zG) (x1 : Int32) : zCon l D yX9_isTick cX9_isTick 1 (some .boolean) rm_X9_isTick 0 0 zrI [.int x1] sz τ g τ (f_X9_isTick x1 g) := by
  refine zCon.of (by decide) (Nat.le_of_ble_eq_true rfl) (fun E r g' hl hR hsz hnm F => ?_)
  have F : zF E D (zA τ sz) cX9_isTick "TypeChain" 1 (some .boolean) := F
  show zSim (fun q : Int32 × zG => q = (r, g')) (f_X9_isTick x1 g) (zAt E D (zA τ sz) (zQ E D zrI 0 0 sz τ τ r g') 1 (sz, τ, 0, 0) g 0 [(0, .int x1)] [])
  unfold f_X9_isTick
  refine z_iload_n F 0 rfl rfl dX9_isTick_0 ?_
  refine z_if_lt (tgt := 15) F dX9_isTick_1 (by decide) (fun c1 => ?_) (fun c1 => ?_)
  · refine z_iconst (v := 0) F (by decide) dX9_isTick_15 ?_
    exact z_zreturn F rfl rfl rfl rfl rfl (fun h => h) dX9_isTick_16
  · refine z_iload_n F 0 rfl rfl dX9_isTick_4 ?_
    refine z_ldcw F q_600 dX9_isTick_5 ?_
    refine z_icmp_gt (tgt := 15) F dX9_isTick_8 (by decide) (fun c2 => ?_) (fun c2 => ?_)
    · refine z_iconst (v := 0) F (by decide) dX9_isTick_15 ?_
      exact z_zreturn F rfl rfl rfl rfl rfl (fun h => h) dX9_isTick_16
    · refine z_iconst (v := 1) F (by decide) dX9_isTick_11 ?_
      refine z_goto (tgt := 16) F dX9_isTick_12 (by decide) ?_
      exact z_zreturn F rfl rfl rfl rfl rfl (fun h => h) dX9_isTick_16
theorem k_X9_isTick {ρ : Type} {K : ρ → Prop} {E : zE} {D : zD} {A : Nat → Prop} {Q : State → Prop} {nL : Nat} {κ : zC} {g : zG} {pc : Nat} {lv : List (Nat × Value)} {st : List Value} {cc : ByteArray} {own : String} {ret : Option FieldType} (F : zF E D A cc own nL ret) {index : Nat} {h : Int32 → zG → Option ρ} {x1 : Int32}  (hR : 0 + 1 ≤ E.2.2.2.1.frames ∧ 8 + (1 + 11) + 0 ≤ E.2.2.2.1.locals) (hl : zTbl (.methodLink own index yX9_isTick)) (hc : κ.2.2.1 ≤ E.2.2.2.1.cells ∧ κ.2.2.2 ≤ E.2.2.2.1.slots) (hW : (st.map fun v => v.category).sum ≤ 8) (hd : decode cc pc = .ok (.invokestatic index, 3)) (kk : ∀ r g', zSim K (h r g') (zAt E D A Q nL κ g' (pc + 3) lv (.int r :: st))) : zSim K (zb (f_X9_isTick x1 g) h) (zAt E D A Q nL κ g pc lv (.int x1 :: st)) :=
  z_callS F (n := 1) (As := [.int x1]) ⟨q_599, q_1, by decide +kernel, rfl, rfl, hR.1, hR.2⟩ (c_X9_isTick E.2.1 D κ.1 κ.2.1 g x1 ) hl q_598 rfl hc hW hd kk _ rfl
theorem dX9_isSheet_0 : decode cX9_isSheet 0 = .ok (.iload_n 0, 1) := by decide +kernel
theorem dX9_isSheet_1 : decode cX9_isSheet 1 = .ok (.ifCond .lt 12, 3) := by decide +kernel
theorem dX9_isSheet_4 : decode cX9_isSheet 4 = .ok (.iload_n 0, 1) := by decide +kernel
theorem dX9_isSheet_5 : decode cX9_isSheet 5 = .ok (.iconst 4, 1) := by decide +kernel
theorem dX9_isSheet_6 : decode cX9_isSheet 6 = .ok (.if_icmp .ge 7, 3) := by decide +kernel
theorem dX9_isSheet_9 : decode cX9_isSheet 9 = .ok (.iconst 1, 1) := by decide +kernel
theorem dX9_isSheet_10 : decode cX9_isSheet 10 = .ok (.goto 4, 3) := by decide +kernel
theorem dX9_isSheet_13 : decode cX9_isSheet 13 = .ok (.iconst 0, 1) := by decide +kernel
theorem dX9_isSheet_14 : decode cX9_isSheet 14 = .ok (.ireturn, 1) := by decide +kernel
def f_X9_isSheet (x1 : Int32) (g : zG) : Option (Int32 × zG) :=
  if x1 < 0 then (some ((0, g))) else (if 4 ≤ x1 then (some ((0, g))) else (some ((1, g))))
abbrev rm_X9_isSheet : Room := { frames := 0, cells := 0, slots := 0, locals := 0 }
set_option maxRecDepth 100000 in
set_option maxHeartbeats 4000000 in
theorem c_X9_isSheet (l : Launch) (D : zD) (sz : Nat) (τ : zT) (g : zG) (x1 : Int32) : zCon l D yX9_isSheet cX9_isSheet 1 (some .boolean) rm_X9_isSheet 0 0 zrI [.int x1] sz τ g τ (f_X9_isSheet x1 g) := by
  refine zCon.of (by decide) (Nat.le_of_ble_eq_true rfl) (fun E r g' hl hR hsz hnm F => ?_)
  have F : zF E D (zA τ sz) cX9_isSheet "TypeChain" 1 (some .boolean) := F
  show zSim (fun q : Int32 × zG => q = (r, g')) (f_X9_isSheet x1 g) (zAt E D (zA τ sz) (zQ E D zrI 0 0 sz τ τ r g') 1 (sz, τ, 0, 0) g 0 [(0, .int x1)] [])
  unfold f_X9_isSheet
  refine z_iload_n F 0 rfl rfl dX9_isSheet_0 ?_
  refine z_if_lt (tgt := 13) F dX9_isSheet_1 (by decide) (fun c1 => ?_) (fun c1 => ?_)
  · refine z_iconst (v := 0) F (by decide) dX9_isSheet_13 ?_
    exact z_zreturn F rfl rfl rfl rfl rfl (fun h => h) dX9_isSheet_14
  · refine z_iload_n F 0 rfl rfl dX9_isSheet_4 ?_
    refine z_iconst (v := 4) F (by decide) dX9_isSheet_5 ?_
    refine z_icmp_ge (tgt := 13) F dX9_isSheet_6 (by decide) (fun c2 => ?_) (fun c2 => ?_)
    · refine z_iconst (v := 0) F (by decide) dX9_isSheet_13 ?_
      exact z_zreturn F rfl rfl rfl rfl rfl (fun h => h) dX9_isSheet_14
    · refine z_iconst (v := 1) F (by decide) dX9_isSheet_9 ?_
      refine z_goto (tgt := 14) F dX9_isSheet_10 (by decide) ?_
      exact z_zreturn F rfl rfl rfl rfl rfl (fun h => h) dX9_isSheet_14
theorem k_X9_isSheet {ρ : Type} {K : ρ → Prop} {E : zE} {D : zD} {A : Nat → Prop} {Q : State → Prop} {nL : Nat} {κ : zC} {g : zG} {pc : Nat} {lv : List (Nat × Value)} {st : List Value} {cc : ByteArray} {own : String} {ret : Option FieldType} (F : zF E D A cc own nL ret) {index : Nat} {h : Int32 → zG → Option ρ} {x1 : Int32}  (hR : 0 + 1 ≤ E.2.2.2.1.frames ∧ 8 + (1 + 11) + 0 ≤ E.2.2.2.1.locals) (hl : zTbl (.methodLink own index yX9_isSheet)) (hc : κ.2.2.1 ≤ E.2.2.2.1.cells ∧ κ.2.2.2 ≤ E.2.2.2.1.slots) (hW : (st.map fun v => v.category).sum ≤ 8) (hd : decode cc pc = .ok (.invokestatic index, 3)) (kk : ∀ r g', zSim K (h r g') (zAt E D A Q nL κ g' (pc + 3) lv (.int r :: st))) : zSim K (zb (f_X9_isSheet x1 g) h) (zAt E D A Q nL κ g pc lv (.int x1 :: st)) :=
  z_callS F (n := 1) (As := [.int x1]) ⟨q_823, q_1, by decide +kernel, rfl, rfl, hR.1, hR.2⟩ (c_X9_isSheet E.2.1 D κ.1 κ.2.1 g x1 ) hl q_822 rfl hc hW hd kk _ rfl
theorem dX9_isLane_0 : decode cX9_isLane 0 = .ok (.iload_n 0, 1) := by decide +kernel
theorem dX9_isLane_1 : decode cX9_isLane 1 = .ok (.ifCond .lt 12, 3) := by decide +kernel
theorem dX9_isLane_4 : decode cX9_isLane 4 = .ok (.iload_n 0, 1) := by decide +kernel
theorem dX9_isLane_5 : decode cX9_isLane 5 = .ok (.iconst 3, 1) := by decide +kernel
theorem dX9_isLane_6 : decode cX9_isLane 6 = .ok (.if_icmp .ge 7, 3) := by decide +kernel
theorem dX9_isLane_9 : decode cX9_isLane 9 = .ok (.iconst 1, 1) := by decide +kernel
theorem dX9_isLane_10 : decode cX9_isLane 10 = .ok (.goto 4, 3) := by decide +kernel
theorem dX9_isLane_13 : decode cX9_isLane 13 = .ok (.iconst 0, 1) := by decide +kernel
theorem dX9_isLane_14 : decode cX9_isLane 14 = .ok (.ireturn, 1) := by decide +kernel
def f_X9_isLane (x1 : Int32) (g : zG) : Option (Int32 × zG) :=
  if x1 < 0 then (some ((0, g))) else (if 3 ≤ x1 then (some ((0, g))) else (some ((1, g))))
abbrev rm_X9_isLane : Room := { frames := 0, cells := 0, slots := 0, locals := 0 }
set_option maxRecDepth 100000 in
set_option maxHeartbeats 4000000 in
theorem c_X9_isLane (l : Launch) (D : zD) (sz : Nat) (τ : zT) (g : zG) (x1 : Int32) : zCon l D yX9_isLane cX9_isLane 1 (some .boolean) rm_X9_isLane 0 0 zrI [.int x1] sz τ g τ (f_X9_isLane x1 g) := by
  refine zCon.of (by decide) (Nat.le_of_ble_eq_true rfl) (fun E r g' hl hR hsz hnm F => ?_)
  have F : zF E D (zA τ sz) cX9_isLane "TypeChain" 1 (some .boolean) := F
  show zSim (fun q : Int32 × zG => q = (r, g')) (f_X9_isLane x1 g) (zAt E D (zA τ sz) (zQ E D zrI 0 0 sz τ τ r g') 1 (sz, τ, 0, 0) g 0 [(0, .int x1)] [])
  unfold f_X9_isLane
  refine z_iload_n F 0 rfl rfl dX9_isLane_0 ?_
  refine z_if_lt (tgt := 13) F dX9_isLane_1 (by decide) (fun c1 => ?_) (fun c1 => ?_)
  · refine z_iconst (v := 0) F (by decide) dX9_isLane_13 ?_
    exact z_zreturn F rfl rfl rfl rfl rfl (fun h => h) dX9_isLane_14
  · refine z_iload_n F 0 rfl rfl dX9_isLane_4 ?_
    refine z_iconst (v := 3) F (by decide) dX9_isLane_5 ?_
    refine z_icmp_ge (tgt := 13) F dX9_isLane_6 (by decide) (fun c2 => ?_) (fun c2 => ?_)
    · refine z_iconst (v := 0) F (by decide) dX9_isLane_13 ?_
      exact z_zreturn F rfl rfl rfl rfl rfl (fun h => h) dX9_isLane_14
    · refine z_iconst (v := 1) F (by decide) dX9_isLane_9 ?_
      refine z_goto (tgt := 14) F dX9_isLane_10 (by decide) ?_
      exact z_zreturn F rfl rfl rfl rfl rfl (fun h => h) dX9_isLane_14
theorem k_X9_isLane {ρ : Type} {K : ρ → Prop} {E : zE} {D : zD} {A : Nat → Prop} {Q : State → Prop} {nL : Nat} {κ : zC} {g : zG} {pc : Nat} {lv : List (Nat × Value)} {st : List Value} {cc : ByteArray} {own : String} {ret : Option FieldType} (F : zF E D A cc own nL ret) {index : Nat} {h : Int32 → zG → Option ρ} {x1 : Int32}  (hR : 0 + 1 ≤ E.2.2.2.1.frames ∧ 8 + (1 + 11) + 0 ≤ E.2.2.2.1.locals) (hl : zTbl (.methodLink own index yX9_isLane)) (hc : κ.2.2.1 ≤ E.2.2.2.1.cells ∧ κ.2.2.2 ≤ E.2.2.2.1.slots) (hW : (st.map fun v => v.category).sum ≤ 8) (hd : decode cc pc = .ok (.invokestatic index, 3)) (kk : ∀ r g', zSim K (h r g') (zAt E D A Q nL κ g' (pc + 3) lv (.int r :: st))) : zSim K (zb (f_X9_isLane x1 g) h) (zAt E D A Q nL κ g pc lv (.int x1 :: st)) :=
  z_callS F (n := 1) (As := [.int x1]) ⟨q_826, q_1, by decide +kernel, rfl, rfl, hR.1, hR.2⟩ (c_X9_isLane E.2.1 D κ.1 κ.2.1 g x1 ) hl q_825 rfl hc hW hd kk _ rfl
theorem dX9_text_0 : decode cX9_text 0 = .ok (.aload_n 0, 1) := by decide +kernel
theorem dX9_text_1 : decode cX9_text 1 = .ok (.getfield 22, 3) := by decide +kernel
theorem dX9_text_4 : decode cX9_text 4 = .ok (.aload_n 0, 1) := by decide +kernel
theorem dX9_text_5 : decode cX9_text 5 = .ok (.getfield 16, 3) := by decide +kernel
theorem dX9_text_8 : decode cX9_text 8 = .ok (.invokevirtual 70, 3) := by decide +kernel
theorem dX9_text_11 : decode cX9_text 11 = .ok (.istore_n 1, 1) := by decide +kernel
theorem dX9_text_12 : decode cX9_text 12 = .ok (.aload_n 0, 1) := by decide +kernel
theorem dX9_text_13 : decode cX9_text 13 = .ok (.getfield 22, 3) := by decide +kernel
theorem dX9_text_16 : decode cX9_text 16 = .ok (.iconst 0, 1) := by decide +kernel
theorem dX9_text_17 : decode cX9_text 17 = .ok (.putfield 66, 3) := by decide +kernel
theorem dX9_text_20 : decode cX9_text 20 = .ok (.iload_n 1, 1) := by decide +kernel
theorem dX9_text_21 : decode cX9_text 21 = .ok (.ifCond .ne 14, 3) := by decide +kernel
theorem dX9_text_24 : decode cX9_text 24 = .ok (.bipush (-10), 2) := by decide +kernel
theorem dX9_text_26 : decode cX9_text 26 = .ok (.aload_n 0, 1) := by decide +kernel
theorem dX9_text_27 : decode cX9_text 27 = .ok (.getfield 22, 3) := by decide +kernel
theorem dX9_text_30 : decode cX9_text 30 = .ok (.getfield 74, 3) := by decide +kernel
theorem dX9_text_33 : decode cX9_text 33 = .ok (.isub, 1) := by decide +kernel
theorem dX9_text_34 : decode cX9_text 34 = .ok (.ireturn, 1) := by decide +kernel
theorem dX9_text_35 : decode cX9_text 35 = .ok (.aload_n 0, 1) := by decide +kernel
theorem dX9_text_36 : decode cX9_text 36 = .ok (.getfield 12, 3) := by decide +kernel
theorem dX9_text_39 : decode cX9_text 39 = .ok (.astore_n 2, 1) := by decide +kernel
theorem dX9_text_40 : decode cX9_text 40 = .ok (.aload_n 0, 1) := by decide +kernel
theorem dX9_text_41 : decode cX9_text 41 = .ok (.aload_n 0, 1) := by decide +kernel
theorem dX9_text_42 : decode cX9_text 42 = .ok (.getfield 16, 3) := by decide +kernel
theorem dX9_text_45 : decode cX9_text 45 = .ok (.putfield 12, 3) := by decide +kernel
theorem dX9_text_48 : decode cX9_text 48 = .ok (.aload_n 0, 1) := by decide +kernel
theorem dX9_text_49 : decode cX9_text 49 = .ok (.aload_n 2, 1) := by decide +kernel
theorem dX9_text_50 : decode cX9_text 50 = .ok (.putfield 16, 3) := by decide +kernel
theorem dX9_text_53 : decode cX9_text 53 = .ok (.aload_n 0, 1) := by decide +kernel
theorem dX9_text_54 : decode cX9_text 54 = .ok (.invokevirtual 77, 3) := by decide +kernel
theorem dX9_text_57 : decode cX9_text 57 = .ok (.aload_n 0, 1) := by decide +kernel
theorem dX9_text_58 : decode cX9_text 58 = .ok (.getfield 22, 3) := by decide +kernel
theorem dX9_text_61 : decode cX9_text 61 = .ok (.getfield 80, 3) := by decide +kernel
theorem dX9_text_64 : decode cX9_text 64 = .ok (.ireturn, 1) := by decide +kernel
def f_X9_text (a : Nat) (g : zG) : Option (Int32 × zG) :=
  zb (f_X4_readInto (g.2.1 a 2) (g.2.1 a 1) g) (fun v3 g4 => zl (zsi g4 (g4.2.1 a 2) 1 0) (fun g6 => if v3 = 0 then (some (((-10) - (g6.1 (g6.2.1 a 2) 3), g6))) else (zl (g6.2.1 a 0) (fun r10 => zl (zsr g6 a 0 (g6.2.1 a 1)) (fun g13 => zl (zsr g13 a 1 r10) (fun g14 => zb (f_X9_takeRules a g14) (fun v15 g16 => some ((g16.1 (g16.2.1 a 2) 4, g16)))))))))
abbrev rm_X9_text : Room := { frames := 8, cells := 0, slots := 0, locals := 176 }
set_option maxRecDepth 100000 in
set_option maxHeartbeats 4000000 in
theorem c_X9_text (l : Launch) (D : zD) (sz : Nat) (τ : zT) (g : zG) (a : Nat) (hta : τ a = some (.inr 9)) : zCon l D yX9_text cX9_text 3 (some .int) rm_X9_text 0 0 zrI [.ref a] sz τ g τ (f_X9_text a g) := by
  refine zCon.of (by decide) (Nat.le_of_ble_eq_true rfl) (fun E r g' hl hR hsz hnm F => ?_)
  have F : zF E D (zA τ sz) cX9_text "TypeChain" 3 (some .int) := F
  show zSim (fun q : Int32 × zG => q = (r, g')) (f_X9_text a g) (zAt E D (zA τ sz) (zQ E D zrI 0 0 sz τ τ r g') 3 (sz, τ, 0, 0) g 0 [(0, .ref a)] [])
  unfold f_X9_text
  refine z_aload_n F 0 rfl rfl dX9_text_0 ?_
  refine gf_X9_22 F hta dX9_text_1 (fun ht1 => ?_)
  refine z_aload_n F 0 rfl rfl dX9_text_4 ?_
  refine gf_X9_16 F hta dX9_text_5 (fun ht2 => ?_)
  refine k_X4_readInto F (by rw [hR]; exact ⟨by decide, by decide⟩) q_434 ht1 ht2 ⟨Nat.zero_le _, Nat.zero_le _⟩ (Nat.le_of_ble_eq_true rfl) dX9_text_8 (fun v3 g4 => ?_)
  refine z_istore_n (lv' := [(1, .int v3), (0, .ref a)]) F rfl (by decide) dX9_text_11 rfl ?_
  refine z_aload_n F 1 rfl rfl dX9_text_12 ?_
  refine gf_X9_22 F hta dX9_text_13 (fun ht5 => ?_)
  refine z_iconst (v := 0) F (by decide) dX9_text_16 ?_
  refine pf_X9_66 F ht5 dX9_text_17 ?_
  refine z_letg (fun g6 => ?_)
  refine z_iload_n F 0 rfl rfl dX9_text_20 ?_
  refine z_if_ne (tgt := 35) F dX9_text_21 (by decide) (fun c7 => ?_) (fun c7 => ?_)
  · refine z_bipush (v := (-10)) F (by decide) dX9_text_24 ?_
    refine z_aload_n F 1 rfl rfl dX9_text_26 ?_
    refine gf_X9_22 F hta dX9_text_27 (fun ht8 => ?_)
    refine gf_X9_74 F ht8 dX9_text_30 ?_
    refine z_isub F dX9_text_33 ?_
    exact z_ireturn F rfl rfl rfl rfl (fun h => h) dX9_text_34
  · refine z_aload_n F 1 rfl rfl dX9_text_35 ?_
    refine gf_X9_12 F hta dX9_text_36 (fun ht9 => ?_)
    refine z_letr ht9 (fun r10 ht11 => ?_)
    refine z_astore_n (lv' := [(2, .ref r10), (1, .int v3), (0, .ref a)]) F rfl (by decide) dX9_text_39 rfl ?_
    refine z_aload_n F 2 rfl rfl dX9_text_40 ?_
    refine z_aload_n F 2 rfl rfl dX9_text_41 ?_
    refine gf_X9_16 F hta dX9_text_42 (fun ht12 => ?_)
    refine pf_X9_12 F hta ht12 dX9_text_45 ?_
    refine z_letg (fun g13 => ?_)
    refine z_aload_n F 2 rfl rfl dX9_text_48 ?_
    refine z_aload_n F 0 rfl rfl dX9_text_49 ?_
    refine pf_X9_16 F hta ht11 dX9_text_50 ?_
    refine z_letg (fun g14 => ?_)
    refine z_aload_n F 2 rfl rfl dX9_text_53 ?_
    refine k_X9_takeRules F (by rw [hR]; exact ⟨by decide, by decide⟩) q_552 hta ⟨Nat.zero_le _, Nat.zero_le _⟩ (Nat.le_of_ble_eq_true rfl) dX9_text_54 (fun v15 g16 => ?_)
    refine z_aload_n F 2 rfl rfl dX9_text_57 ?_
    refine gf_X9_22 F hta dX9_text_58 (fun ht17 => ?_)
    refine gf_X9_80 F ht17 dX9_text_61 ?_
    exact z_ireturn F rfl rfl rfl rfl (fun h => h) dX9_text_64
theorem k_X9_text {ρ : Type} {K : ρ → Prop} {E : zE} {D : zD} {A : Nat → Prop} {Q : State → Prop} {nL : Nat} {κ : zC} {g : zG} {pc : Nat} {lv : List (Nat × Value)} {st : List Value} {cc : ByteArray} {own : String} {ret : Option FieldType} (F : zF E D A cc own nL ret) {index : Nat} {h : Int32 → zG → Option ρ} {a : Nat}  (hR : 8 + 1 ≤ E.2.2.2.1.frames ∧ 8 + (3 + 11) + 176 ≤ E.2.2.2.1.locals) (hl : zTbl (.methodLink own index yX9_text)) (hta : κ.2.1 a = some (.inr 9)) (hc : κ.2.2.1 ≤ E.2.2.2.1.cells ∧ κ.2.2.2 ≤ E.2.2.2.1.slots) (hW : (st.map fun v => v.category).sum ≤ 8) (hd : decode cc pc = .ok (.invokevirtual index, 3)) (kk : ∀ r g', zSim K (h r g') (zAt E D A Q nL κ g' (pc + 3) lv (.int r :: st))) : zSim K (zb (f_X9_text a g) h) (zAt E D A Q nL κ g pc lv (.ref a :: st)) :=
  z_callV F (n := 0) (As := []) (C := (RX9, TX9, 11)) ⟨q_433, q_1, by decide +kernel, rfl, rfl, hR.1, hR.2⟩ (c_X9_text E.2.1 D κ.1 κ.2.1 g a hta) hl q_431 q_432 hta rfl rfl rfl hc hW hd kk _ rfl
theorem dX9_holes_0 : decode cX9_holes 0 = .ok (.aload_n 0, 1) := by decide +kernel
theorem dX9_holes_1 : decode cX9_holes 1 = .ok (.iload_n 1, 1) := by decide +kernel
theorem dX9_holes_2 : decode cX9_holes 2 = .ok (.invokevirtual 105, 3) := by decide +kernel
theorem dX9_holes_5 : decode cX9_holes 5 = .ok (.ifCond .eq 15, 3) := by decide +kernel
theorem dX9_holes_8 : decode cX9_holes 8 = .ok (.aload_n 0, 1) := by decide +kernel
theorem dX9_holes_9 : decode cX9_holes 9 = .ok (.getfield 12, 3) := by decide +kernel
theorem dX9_holes_12 : decode cX9_holes 12 = .ok (.getfield 109, 3) := by decide +kernel
theorem dX9_holes_15 : decode cX9_holes 15 = .ok (.iload_n 1, 1) := by decide +kernel
theorem dX9_holes_16 : decode cX9_holes 16 = .ok (.iaload, 1) := by decide +kernel
theorem dX9_holes_17 : decode cX9_holes 17 = .ok (.goto 4, 3) := by decide +kernel
theorem dX9_holes_20 : decode cX9_holes 20 = .ok (.iconst (-1), 1) := by decide +kernel
theorem dX9_holes_21 : decode cX9_holes 21 = .ok (.ireturn, 1) := by decide +kernel
def f_X9_holes (a : Nat) (x1 : Int32) (g : zG) : Option (Int32 × zG) :=
  zb (f_X9_isRow a x1 g) (fun v1 g2 => if v1 = 0 then (some (((-1), g2))) else (zc (zin x1 60) (some ((g2.1 (g2.2.1 (g2.2.1 a 0) 3) x1.toNatClampNeg, g2)))))
abbrev rm_X9_holes : Room := { frames := 1, cells := 0, slots := 0, locals := 21 }
set_option maxRecDepth 100000 in
set_option maxHeartbeats 4000000 in
theorem c_X9_holes (l : Launch) (D : zD) (sz : Nat) (τ : zT) (g : zG) (a : Nat) (x1 : Int32) (hta : τ a = some (.inr 9)) : zCon l D yX9_holes cX9_holes 2 (some .int) rm_X9_holes 0 0 zrI [.ref a, .int x1] sz τ g τ (f_X9_holes a x1 g) := by
  refine zCon.of (by decide) (Nat.le_of_ble_eq_true rfl) (fun E r g' hl hR hsz hnm F => ?_)
  have F : zF E D (zA τ sz) cX9_holes "TypeChain" 2 (some .int) := F
  show zSim (fun q : Int32 × zG => q = (r, g')) (f_X9_holes a x1 g) (zAt E D (zA τ sz) (zQ E D zrI 0 0 sz τ τ r g') 2 (sz, τ, 0, 0) g 0 [(0, .ref a), (1, .int x1)] [])
  unfold f_X9_holes
  refine z_aload_n F 0 rfl rfl dX9_holes_0 ?_
  refine z_iload_n F 1 rfl rfl dX9_holes_1 ?_
  refine k_X9_isRow F (by rw [hR]; exact ⟨by decide, by decide⟩) q_577 hta ⟨Nat.zero_le _, Nat.zero_le _⟩ (Nat.le_of_ble_eq_true rfl) dX9_holes_2 (fun v1 g2 => ?_)
  refine z_if_eq (tgt := 20) F dX9_holes_5 (by decide) (fun c3 => ?_) (fun c3 => ?_)
  · refine z_iconst (v := (-1)) F (by decide) dX9_holes_20 ?_
    exact z_ireturn F rfl rfl rfl rfl (fun h => h) dX9_holes_21
  · refine z_aload_n F 0 rfl rfl dX9_holes_8 ?_
    refine gf_X9_12 F hta dX9_holes_9 (fun ht4 => ?_)
    refine gf_X9_109 F ht4 dX9_holes_12 (fun ht5 => ?_)
    refine z_iload_n F 1 rfl rfl dX9_holes_15 ?_
    refine z_iald F ht5 dX9_holes_16 ?_
    refine z_goto (tgt := 21) F dX9_holes_17 (by decide) ?_
    exact z_ireturn F rfl rfl rfl rfl (fun h => h) dX9_holes_21
theorem k_X9_holes {ρ : Type} {K : ρ → Prop} {E : zE} {D : zD} {A : Nat → Prop} {Q : State → Prop} {nL : Nat} {κ : zC} {g : zG} {pc : Nat} {lv : List (Nat × Value)} {st : List Value} {cc : ByteArray} {own : String} {ret : Option FieldType} (F : zF E D A cc own nL ret) {index : Nat} {h : Int32 → zG → Option ρ} {a : Nat} {x1 : Int32}  (hR : 1 + 1 ≤ E.2.2.2.1.frames ∧ 8 + (2 + 11) + 21 ≤ E.2.2.2.1.locals) (hl : zTbl (.methodLink own index yX9_holes)) (hta : κ.2.1 a = some (.inr 9)) (hc : κ.2.2.1 ≤ E.2.2.2.1.cells ∧ κ.2.2.2 ≤ E.2.2.2.1.slots) (hW : (st.map fun v => v.category).sum ≤ 8) (hd : decode cc pc = .ok (.invokevirtual index, 3)) (kk : ∀ r g', zSim K (h r g') (zAt E D A Q nL κ g' (pc + 3) lv (.int r :: st))) : zSim K (zb (f_X9_holes a x1 g) h) (zAt E D A Q nL κ g pc lv (.int x1 :: .ref a :: st)) :=
  z_callV F (n := 1) (As := [.int x1]) (C := (RX9, TX9, 11)) ⟨q_576, q_1, by decide +kernel, rfl, rfl, hR.1, hR.2⟩ (c_X9_holes E.2.1 D κ.1 κ.2.1 g a x1 hta) hl q_574 q_575 hta rfl rfl rfl hc hW hd kk _ rfl
theorem dX9_faces_0 : decode cX9_faces 0 = .ok (.aload_n 0, 1) := by decide +kernel
theorem dX9_faces_1 : decode cX9_faces 1 = .ok (.iload_n 1, 1) := by decide +kernel
theorem dX9_faces_2 : decode cX9_faces 2 = .ok (.invokevirtual 125, 3) := by decide +kernel
theorem dX9_faces_5 : decode cX9_faces 5 = .ok (.ifCond .eq 10, 3) := by decide +kernel
theorem dX9_faces_8 : decode cX9_faces 8 = .ok (.iload_n 2, 1) := by decide +kernel
theorem dX9_faces_9 : decode cX9_faces 9 = .ok (.invokestatic 128, 3) := by decide +kernel
theorem dX9_faces_12 : decode cX9_faces 12 = .ok (.ifCond .ne 5, 3) := by decide +kernel
theorem dX9_faces_15 : decode cX9_faces 15 = .ok (.iconst (-1), 1) := by decide +kernel
theorem dX9_faces_16 : decode cX9_faces 16 = .ok (.ireturn, 1) := by decide +kernel
theorem dX9_faces_17 : decode cX9_faces 17 = .ok (.aload_n 0, 1) := by decide +kernel
theorem dX9_faces_18 : decode cX9_faces 18 = .ok (.getfield 12, 3) := by decide +kernel
theorem dX9_faces_21 : decode cX9_faces 21 = .ok (.getfield 35, 3) := by decide +kernel
theorem dX9_faces_24 : decode cX9_faces 24 = .ok (.iload_n 1, 1) := by decide +kernel
theorem dX9_faces_25 : decode cX9_faces 25 = .ok (.iload_n 2, 1) := by decide +kernel
theorem dX9_faces_26 : decode cX9_faces 26 = .ok (.invokevirtual 131, 3) := by decide +kernel
theorem dX9_faces_29 : decode cX9_faces 29 = .ok (.ireturn, 1) := by decide +kernel
def f_X9_faces (a : Nat) (x1 : Int32) (x2 : Int32) (g : zG) : Option (Int32 × zG) :=
  zb (f_X9_isColumn a x1 g) (fun v1 g2 => if v1 = 0 then (some (((-1), g2))) else (zb (f_X9_isTick x2 g2) (fun v4 g5 => if v4 = 0 then (some (((-1), g5))) else (zb (f_X0_letterFacing (g5.2.1 (g5.2.1 a 0) 0) x1 x2 g5) (fun v9 g10 => some ((v9, g10)))))))
abbrev rm_X9_faces : Room := { frames := 2, cells := 0, slots := 0, locals := 46 }
set_option maxRecDepth 100000 in
set_option maxHeartbeats 4000000 in
theorem c_X9_faces (l : Launch) (D : zD) (sz : Nat) (τ : zT) (g : zG) (a : Nat) (x1 : Int32) (x2 : Int32) (hta : τ a = some (.inr 9)) : zCon l D yX9_faces cX9_faces 3 (some .int) rm_X9_faces 0 0 zrI [.ref a, .int x1, .int x2] sz τ g τ (f_X9_faces a x1 x2 g) := by
  refine zCon.of (by decide) (Nat.le_of_ble_eq_true rfl) (fun E r g' hl hR hsz hnm F => ?_)
  have F : zF E D (zA τ sz) cX9_faces "TypeChain" 3 (some .int) := F
  show zSim (fun q : Int32 × zG => q = (r, g')) (f_X9_faces a x1 x2 g) (zAt E D (zA τ sz) (zQ E D zrI 0 0 sz τ τ r g') 3 (sz, τ, 0, 0) g 0 [(0, .ref a), (1, .int x1), (2, .int x2)] [])
  unfold f_X9_faces
  refine z_aload_n F 0 rfl rfl dX9_faces_0 ?_
  refine z_iload_n F 1 rfl rfl dX9_faces_1 ?_
  refine k_X9_isColumn F (by rw [hR]; exact ⟨by decide, by decide⟩) q_593 hta ⟨Nat.zero_le _, Nat.zero_le _⟩ (Nat.le_of_ble_eq_true rfl) dX9_faces_2 (fun v1 g2 => ?_)
  refine z_if_eq (tgt := 15) F dX9_faces_5 (by decide) (fun c3 => ?_) (fun c3 => ?_)
  · refine z_iconst (v := (-1)) F (by decide) dX9_faces_15 ?_
    exact z_ireturn F rfl rfl rfl rfl (fun h => h) dX9_faces_16
  · refine z_iload_n F 2 rfl rfl dX9_faces_8 ?_
    refine k_X9_isTick F (by rw [hR]; exact ⟨by decide, by decide⟩) q_597  ⟨Nat.zero_le _, Nat.zero_le _⟩ (Nat.le_of_ble_eq_true rfl) dX9_faces_9 (fun v4 g5 => ?_)
    refine z_if_ne (tgt := 17) F dX9_faces_12 (by decide) (fun c6 => ?_) (fun c6 => ?_)
    · refine z_iconst (v := (-1)) F (by decide) dX9_faces_15 ?_
      exact z_ireturn F rfl rfl rfl rfl (fun h => h) dX9_faces_16
    · refine z_aload_n F 0 rfl rfl dX9_faces_17 ?_
      refine gf_X9_12 F hta dX9_faces_18 (fun ht7 => ?_)
      refine gf_X9_35 F ht7 dX9_faces_21 (fun ht8 => ?_)
      refine z_iload_n F 1 rfl rfl dX9_faces_24 ?_
      refine z_iload_n F 2 rfl rfl dX9_faces_25 ?_
      refine k_X0_letterFacing F (by rw [hR]; exact ⟨by decide, by decide⟩) q_601 ht8 ⟨Nat.zero_le _, Nat.zero_le _⟩ (Nat.le_of_ble_eq_true rfl) dX9_faces_26 (fun v9 g10 => ?_)
      exact z_ireturn F rfl rfl rfl rfl (fun h => h) dX9_faces_29
theorem k_X9_faces {ρ : Type} {K : ρ → Prop} {E : zE} {D : zD} {A : Nat → Prop} {Q : State → Prop} {nL : Nat} {κ : zC} {g : zG} {pc : Nat} {lv : List (Nat × Value)} {st : List Value} {cc : ByteArray} {own : String} {ret : Option FieldType} (F : zF E D A cc own nL ret) {index : Nat} {h : Int32 → zG → Option ρ} {a : Nat} {x1 : Int32} {x2 : Int32}  (hR : 2 + 1 ≤ E.2.2.2.1.frames ∧ 8 + (3 + 11) + 46 ≤ E.2.2.2.1.locals) (hl : zTbl (.methodLink own index yX9_faces)) (hta : κ.2.1 a = some (.inr 9)) (hc : κ.2.2.1 ≤ E.2.2.2.1.cells ∧ κ.2.2.2 ≤ E.2.2.2.1.slots) (hW : (st.map fun v => v.category).sum ≤ 8) (hd : decode cc pc = .ok (.invokevirtual index, 3)) (kk : ∀ r g', zSim K (h r g') (zAt E D A Q nL κ g' (pc + 3) lv (.int r :: st))) : zSim K (zb (f_X9_faces a x1 x2 g) h) (zAt E D A Q nL κ g pc lv (.int x2 :: .int x1 :: .ref a :: st)) :=
  z_callV F (n := 2) (As := [.int x1, .int x2]) (C := (RX9, TX9, 11)) ⟨q_592, q_1, by decide +kernel, rfl, rfl, hR.1, hR.2⟩ (c_X9_faces E.2.1 D κ.1 κ.2.1 g a x1 x2 hta) hl q_590 q_591 hta rfl rfl rfl hc hW hd kk _ rfl
theorem dX9_comes_0 : decode cX9_comes 0 = .ok (.aload_n 0, 1) := by decide +kernel
theorem dX9_comes_1 : decode cX9_comes 1 = .ok (.iload_n 1, 1) := by decide +kernel
theorem dX9_comes_2 : decode cX9_comes 2 = .ok (.invokevirtual 125, 3) := by decide +kernel
theorem dX9_comes_5 : decode cX9_comes 5 = .ok (.ifCond .eq 17, 3) := by decide +kernel
theorem dX9_comes_8 : decode cX9_comes 8 = .ok (.iload_n 2, 1) := by decide +kernel
theorem dX9_comes_9 : decode cX9_comes 9 = .ok (.invokestatic 134, 3) := by decide +kernel
theorem dX9_comes_12 : decode cX9_comes 12 = .ok (.ifCond .eq 10, 3) := by decide +kernel
theorem dX9_comes_15 : decode cX9_comes 15 = .ok (.iload_n 3, 1) := by decide +kernel
theorem dX9_comes_16 : decode cX9_comes 16 = .ok (.invokestatic 128, 3) := by decide +kernel
theorem dX9_comes_19 : decode cX9_comes 19 = .ok (.ifCond .ne 5, 3) := by decide +kernel
theorem dX9_comes_22 : decode cX9_comes 22 = .ok (.iconst (-1), 1) := by decide +kernel
theorem dX9_comes_23 : decode cX9_comes 23 = .ok (.ireturn, 1) := by decide +kernel
theorem dX9_comes_24 : decode cX9_comes 24 = .ok (.aload_n 0, 1) := by decide +kernel
theorem dX9_comes_25 : decode cX9_comes 25 = .ok (.getfield 12, 3) := by decide +kernel
theorem dX9_comes_28 : decode cX9_comes 28 = .ok (.getfield 35, 3) := by decide +kernel
theorem dX9_comes_31 : decode cX9_comes 31 = .ok (.iload_n 1, 1) := by decide +kernel
theorem dX9_comes_32 : decode cX9_comes 32 = .ok (.iload_n 2, 1) := by decide +kernel
theorem dX9_comes_33 : decode cX9_comes 33 = .ok (.iload_n 3, 1) := by decide +kernel
theorem dX9_comes_34 : decode cX9_comes 34 = .ok (.invokevirtual 137, 3) := by decide +kernel
theorem dX9_comes_37 : decode cX9_comes 37 = .ok (.ireturn, 1) := by decide +kernel
def f_X9_comes (a : Nat) (x1 : Int32) (x2 : Int32) (x3 : Int32) (g : zG) : Option (Int32 × zG) :=
  zb (f_X9_isColumn a x1 g) (fun v1 g2 => if v1 = 0 then (some (((-1), g2))) else (zb (f_X9_isLetter x2 g2) (fun v4 g5 => if v4 = 0 then (some (((-1), g5))) else (zb (f_X9_isTick x3 g5) (fun v7 g8 => if v7 = 0 then (some (((-1), g8))) else (zb (f_X0_nextTick (g8.2.1 (g8.2.1 a 0) 0) x1 x2 x3 g8) (fun v12 g13 => some ((v12, g13)))))))))
abbrev rm_X9_comes : Room := { frames := 1, cells := 0, slots := 0, locals := 28 }
set_option maxRecDepth 100000 in
set_option maxHeartbeats 4000000 in
theorem c_X9_comes (l : Launch) (D : zD) (sz : Nat) (τ : zT) (g : zG) (a : Nat) (x1 : Int32) (x2 : Int32) (x3 : Int32) (hta : τ a = some (.inr 9)) : zCon l D yX9_comes cX9_comes 4 (some .int) rm_X9_comes 0 0 zrI [.ref a, .int x1, .int x2, .int x3] sz τ g τ (f_X9_comes a x1 x2 x3 g) := by
  refine zCon.of (by decide) (Nat.le_of_ble_eq_true rfl) (fun E r g' hl hR hsz hnm F => ?_)
  have F : zF E D (zA τ sz) cX9_comes "TypeChain" 4 (some .int) := F
  show zSim (fun q : Int32 × zG => q = (r, g')) (f_X9_comes a x1 x2 x3 g) (zAt E D (zA τ sz) (zQ E D zrI 0 0 sz τ τ r g') 4 (sz, τ, 0, 0) g 0 [(0, .ref a), (1, .int x1), (2, .int x2), (3, .int x3)] [])
  unfold f_X9_comes
  refine z_aload_n F 0 rfl rfl dX9_comes_0 ?_
  refine z_iload_n F 1 rfl rfl dX9_comes_1 ?_
  refine k_X9_isColumn F (by rw [hR]; exact ⟨by decide, by decide⟩) q_593 hta ⟨Nat.zero_le _, Nat.zero_le _⟩ (Nat.le_of_ble_eq_true rfl) dX9_comes_2 (fun v1 g2 => ?_)
  refine z_if_eq (tgt := 22) F dX9_comes_5 (by decide) (fun c3 => ?_) (fun c3 => ?_)
  · refine z_iconst (v := (-1)) F (by decide) dX9_comes_22 ?_
    exact z_ireturn F rfl rfl rfl rfl (fun h => h) dX9_comes_23
  · refine z_iload_n F 2 rfl rfl dX9_comes_8 ?_
    refine k_X9_isLetter F (by rw [hR]; exact ⟨by decide, by decide⟩) q_613  ⟨Nat.zero_le _, Nat.zero_le _⟩ (Nat.le_of_ble_eq_true rfl) dX9_comes_9 (fun v4 g5 => ?_)
    refine z_if_eq (tgt := 22) F dX9_comes_12 (by decide) (fun c6 => ?_) (fun c6 => ?_)
    · refine z_iconst (v := (-1)) F (by decide) dX9_comes_22 ?_
      exact z_ireturn F rfl rfl rfl rfl (fun h => h) dX9_comes_23
    · refine z_iload_n F 3 rfl rfl dX9_comes_15 ?_
      refine k_X9_isTick F (by rw [hR]; exact ⟨by decide, by decide⟩) q_597  ⟨Nat.zero_le _, Nat.zero_le _⟩ (Nat.le_of_ble_eq_true rfl) dX9_comes_16 (fun v7 g8 => ?_)
      refine z_if_ne (tgt := 24) F dX9_comes_19 (by decide) (fun c9 => ?_) (fun c9 => ?_)
      · refine z_iconst (v := (-1)) F (by decide) dX9_comes_22 ?_
        exact z_ireturn F rfl rfl rfl rfl (fun h => h) dX9_comes_23
      · refine z_aload_n F 0 rfl rfl dX9_comes_24 ?_
        refine gf_X9_12 F hta dX9_comes_25 (fun ht10 => ?_)
        refine gf_X9_35 F ht10 dX9_comes_28 (fun ht11 => ?_)
        refine z_iload_n F 1 rfl rfl dX9_comes_31 ?_
        refine z_iload_n F 2 rfl rfl dX9_comes_32 ?_
        refine z_iload_n F 3 rfl rfl dX9_comes_33 ?_
        refine k_X0_nextTick F (by rw [hR]; exact ⟨by decide, by decide⟩) q_616 ht11 ⟨Nat.zero_le _, Nat.zero_le _⟩ (Nat.le_of_ble_eq_true rfl) dX9_comes_34 (fun v12 g13 => ?_)
        exact z_ireturn F rfl rfl rfl rfl (fun h => h) dX9_comes_37
theorem k_X9_comes {ρ : Type} {K : ρ → Prop} {E : zE} {D : zD} {A : Nat → Prop} {Q : State → Prop} {nL : Nat} {κ : zC} {g : zG} {pc : Nat} {lv : List (Nat × Value)} {st : List Value} {cc : ByteArray} {own : String} {ret : Option FieldType} (F : zF E D A cc own nL ret) {index : Nat} {h : Int32 → zG → Option ρ} {a : Nat} {x1 : Int32} {x2 : Int32} {x3 : Int32}  (hR : 1 + 1 ≤ E.2.2.2.1.frames ∧ 8 + (4 + 11) + 28 ≤ E.2.2.2.1.locals) (hl : zTbl (.methodLink own index yX9_comes)) (hta : κ.2.1 a = some (.inr 9)) (hc : κ.2.2.1 ≤ E.2.2.2.1.cells ∧ κ.2.2.2 ≤ E.2.2.2.1.slots) (hW : (st.map fun v => v.category).sum ≤ 8) (hd : decode cc pc = .ok (.invokevirtual index, 3)) (kk : ∀ r g', zSim K (h r g') (zAt E D A Q nL κ g' (pc + 3) lv (.int r :: st))) : zSim K (zb (f_X9_comes a x1 x2 x3 g) h) (zAt E D A Q nL κ g pc lv (.int x3 :: .int x2 :: .int x1 :: .ref a :: st)) :=
  z_callV F (n := 3) (As := [.int x1, .int x2, .int x3]) (C := (RX9, TX9, 11)) ⟨q_612, q_1, by decide +kernel, rfl, rfl, hR.1, hR.2⟩ (c_X9_comes E.2.1 D κ.1 κ.2.1 g a x1 x2 x3 hta) hl q_610 q_611 hta rfl rfl rfl hc hW hd kk _ rfl
theorem dX9_late_0 : decode cX9_late 0 = .ok (.aload_n 0, 1) := by decide +kernel
theorem dX9_late_1 : decode cX9_late 1 = .ok (.iload_n 1, 1) := by decide +kernel
theorem dX9_late_2 : decode cX9_late 2 = .ok (.invokevirtual 125, 3) := by decide +kernel
theorem dX9_late_5 : decode cX9_late 5 = .ok (.ifCond .eq 22, 3) := by decide +kernel
theorem dX9_late_8 : decode cX9_late 8 = .ok (.iload_n 2, 1) := by decide +kernel
theorem dX9_late_9 : decode cX9_late 9 = .ok (.invokestatic 134, 3) := by decide +kernel
theorem dX9_late_12 : decode cX9_late 12 = .ok (.ifCond .eq 15, 3) := by decide +kernel
theorem dX9_late_15 : decode cX9_late 15 = .ok (.iload_n 3, 1) := by decide +kernel
theorem dX9_late_16 : decode cX9_late 16 = .ok (.bipush (-20), 2) := by decide +kernel
theorem dX9_late_18 : decode cX9_late 18 = .ok (.if_icmp .lt 9, 3) := by decide +kernel
theorem dX9_late_21 : decode cX9_late 21 = .ok (.iload_n 3, 1) := by decide +kernel
theorem dX9_late_22 : decode cX9_late 22 = .ok (.bipush 20, 2) := by decide +kernel
theorem dX9_late_24 : decode cX9_late 24 = .ok (.if_icmp .le 5, 3) := by decide +kernel
theorem dX9_late_27 : decode cX9_late 27 = .ok (.iconst (-1), 1) := by decide +kernel
theorem dX9_late_28 : decode cX9_late 28 = .ok (.ireturn, 1) := by decide +kernel
theorem dX9_late_29 : decode cX9_late 29 = .ok (.aload_n 0, 1) := by decide +kernel
theorem dX9_late_30 : decode cX9_late 30 = .ok (.getfield 12, 3) := by decide +kernel
theorem dX9_late_33 : decode cX9_late 33 = .ok (.getfield 35, 3) := by decide +kernel
theorem dX9_late_36 : decode cX9_late 36 = .ok (.iload_n 1, 1) := by decide +kernel
theorem dX9_late_37 : decode cX9_late 37 = .ok (.iload_n 2, 1) := by decide +kernel
theorem dX9_late_38 : decode cX9_late 38 = .ok (.aload_n 0, 1) := by decide +kernel
theorem dX9_late_39 : decode cX9_late 39 = .ok (.getfield 42, 3) := by decide +kernel
theorem dX9_late_42 : decode cX9_late 42 = .ok (.getfield 141, 3) := by decide +kernel
theorem dX9_late_45 : decode cX9_late 45 = .ok (.invokevirtual 137, 3) := by decide +kernel
theorem dX9_late_48 : decode cX9_late 48 = .ok (.istore 4, 2) := by decide +kernel
theorem dX9_late_50 : decode cX9_late 50 = .ok (.iload 4, 2) := by decide +kernel
theorem dX9_late_52 : decode cX9_late 52 = .ok (.bipush (-4), 2) := by decide +kernel
theorem dX9_late_54 : decode cX9_late 54 = .ok (.if_icmp .ne 6, 3) := by decide +kernel
theorem dX9_late_57 : decode cX9_late 57 = .ok (.bipush (-4), 2) := by decide +kernel
theorem dX9_late_59 : decode cX9_late 59 = .ok (.ireturn, 1) := by decide +kernel
theorem dX9_late_60 : decode cX9_late 60 = .ok (.iload 4, 2) := by decide +kernel
theorem dX9_late_62 : decode cX9_late 62 = .ok (.iload_n 3, 1) := by decide +kernel
theorem dX9_late_63 : decode cX9_late 63 = .ok (.iadd, 1) := by decide +kernel
theorem dX9_late_64 : decode cX9_late 64 = .ok (.ifCond .ge 6, 3) := by decide +kernel
theorem dX9_late_67 : decode cX9_late 67 = .ok (.bipush (-2), 2) := by decide +kernel
theorem dX9_late_69 : decode cX9_late 69 = .ok (.ireturn, 1) := by decide +kernel
theorem dX9_late_70 : decode cX9_late 70 = .ok (.aload_n 0, 1) := by decide +kernel
theorem dX9_late_71 : decode cX9_late 71 = .ok (.getfield 12, 3) := by decide +kernel
theorem dX9_late_74 : decode cX9_late 74 = .ok (.getfield 35, 3) := by decide +kernel
theorem dX9_late_77 : decode cX9_late 77 = .ok (.iload_n 1, 1) := by decide +kernel
theorem dX9_late_78 : decode cX9_late 78 = .ok (.iload 4, 2) := by decide +kernel
theorem dX9_late_80 : decode cX9_late 80 = .ok (.iload_n 3, 1) := by decide +kernel
theorem dX9_late_81 : decode cX9_late 81 = .ok (.iadd, 1) := by decide +kernel
theorem dX9_late_82 : decode cX9_late 82 = .ok (.invokevirtual 131, 3) := by decide +kernel
theorem dX9_late_85 : decode cX9_late 85 = .ok (.istore 5, 2) := by decide +kernel
theorem dX9_late_87 : decode cX9_late 87 = .ok (.iload 5, 2) := by decide +kernel
theorem dX9_late_89 : decode cX9_late 89 = .ok (.bipush (-4), 2) := by decide +kernel
theorem dX9_late_91 : decode cX9_late 91 = .ok (.if_icmp .ne 7, 3) := by decide +kernel
theorem dX9_late_94 : decode cX9_late 94 = .ok (.iconst 0, 1) := by decide +kernel
theorem dX9_late_95 : decode cX9_late 95 = .ok (.goto 5, 3) := by decide +kernel
theorem dX9_late_98 : decode cX9_late 98 = .ok (.iload 5, 2) := by decide +kernel
theorem dX9_late_100 : decode cX9_late 100 = .ok (.ireturn, 1) := by decide +kernel
def f_X9_late (a : Nat) (x1 : Int32) (x2 : Int32) (x3 : Int32) (g : zG) : Option (Int32 × zG) :=
  zb (f_X9_isColumn a x1 g) (fun v1 g2 => if v1 = 0 then (some (((-1), g2))) else (zb (f_X9_isLetter x2 g2) (fun v4 g5 => if v4 = 0 then (some (((-1), g5))) else (if x3 < (-20) then (some (((-1), g5))) else (if x3 ≤ 20 then (zb (f_X0_nextTick (g5.2.1 (g5.2.1 a 0) 0) x1 x2 (g5.1 (g5.2.1 a 4) 2) g5) (fun v12 g13 => if v12 = (-4) then (some (((-4), g13))) else (if 0 ≤ (v12 + x3) then (zb (f_X0_letterFacing (g13.2.1 (g13.2.1 a 0) 0) x1 (v12 + x3) g13) (fun v18 g19 => if v18 = (-4) then (some ((0, g19))) else (some ((v18, g19))))) else (some (((-2), g13)))))) else (some (((-1), g5))))))))
abbrev rm_X9_late : Room := { frames := 2, cells := 0, slots := 0, locals := 46 }
set_option maxRecDepth 100000 in
set_option maxHeartbeats 4000000 in
theorem c_X9_late (l : Launch) (D : zD) (sz : Nat) (τ : zT) (g : zG) (a : Nat) (x1 : Int32) (x2 : Int32) (x3 : Int32) (hta : τ a = some (.inr 9)) : zCon l D yX9_late cX9_late 6 (some .int) rm_X9_late 0 0 zrI [.ref a, .int x1, .int x2, .int x3] sz τ g τ (f_X9_late a x1 x2 x3 g) := by
  refine zCon.of (by decide) (Nat.le_of_ble_eq_true rfl) (fun E r g' hl hR hsz hnm F => ?_)
  have F : zF E D (zA τ sz) cX9_late "TypeChain" 6 (some .int) := F
  show zSim (fun q : Int32 × zG => q = (r, g')) (f_X9_late a x1 x2 x3 g) (zAt E D (zA τ sz) (zQ E D zrI 0 0 sz τ τ r g') 6 (sz, τ, 0, 0) g 0 [(0, .ref a), (1, .int x1), (2, .int x2), (3, .int x3)] [])
  unfold f_X9_late
  refine z_aload_n F 0 rfl rfl dX9_late_0 ?_
  refine z_iload_n F 1 rfl rfl dX9_late_1 ?_
  refine k_X9_isColumn F (by rw [hR]; exact ⟨by decide, by decide⟩) q_593 hta ⟨Nat.zero_le _, Nat.zero_le _⟩ (Nat.le_of_ble_eq_true rfl) dX9_late_2 (fun v1 g2 => ?_)
  refine z_if_eq (tgt := 27) F dX9_late_5 (by decide) (fun c3 => ?_) (fun c3 => ?_)
  · refine z_iconst (v := (-1)) F (by decide) dX9_late_27 ?_
    exact z_ireturn F rfl rfl rfl rfl (fun h => h) dX9_late_28
  · refine z_iload_n F 2 rfl rfl dX9_late_8 ?_
    refine k_X9_isLetter F (by rw [hR]; exact ⟨by decide, by decide⟩) q_613  ⟨Nat.zero_le _, Nat.zero_le _⟩ (Nat.le_of_ble_eq_true rfl) dX9_late_9 (fun v4 g5 => ?_)
    refine z_if_eq (tgt := 27) F dX9_late_12 (by decide) (fun c6 => ?_) (fun c6 => ?_)
    · refine z_iconst (v := (-1)) F (by decide) dX9_late_27 ?_
      exact z_ireturn F rfl rfl rfl rfl (fun h => h) dX9_late_28
    · refine z_iload_n F 3 rfl rfl dX9_late_15 ?_
      refine z_bipush (v := (-20)) F (by decide) dX9_late_16 ?_
      refine z_icmp_lt (tgt := 27) F dX9_late_18 (by decide) (fun c7 => ?_) (fun c7 => ?_)
      · refine z_iconst (v := (-1)) F (by decide) dX9_late_27 ?_
        exact z_ireturn F rfl rfl rfl rfl (fun h => h) dX9_late_28
      · refine z_iload_n F 3 rfl rfl dX9_late_21 ?_
        refine z_bipush (v := 20) F (by decide) dX9_late_22 ?_
        refine z_icmp_le (tgt := 29) F dX9_late_24 (by decide) (fun c8 => ?_) (fun c8 => ?_)
        · refine z_aload_n F 0 rfl rfl dX9_late_29 ?_
          refine gf_X9_12 F hta dX9_late_30 (fun ht9 => ?_)
          refine gf_X9_35 F ht9 dX9_late_33 (fun ht10 => ?_)
          refine z_iload_n F 1 rfl rfl dX9_late_36 ?_
          refine z_iload_n F 2 rfl rfl dX9_late_37 ?_
          refine z_aload_n F 0 rfl rfl dX9_late_38 ?_
          refine gf_X9_42 F hta dX9_late_39 (fun ht11 => ?_)
          refine gf_X9_141 F ht11 dX9_late_42 ?_
          refine k_X0_nextTick F (by rw [hR]; exact ⟨by decide, by decide⟩) q_616 ht10 ⟨Nat.zero_le _, Nat.zero_le _⟩ (Nat.le_of_ble_eq_true rfl) dX9_late_45 (fun v12 g13 => ?_)
          refine z_istore (lv' := [(4, .int v12), (0, .ref a), (1, .int x1), (2, .int x2), (3, .int x3)]) F (by decide) dX9_late_48 rfl ?_
          refine z_iload F 0 rfl dX9_late_50 ?_
          refine z_bipush (v := (-4)) F (by decide) dX9_late_52 ?_
          refine z_icmp_ne (tgt := 60) F dX9_late_54 (by decide) (fun c14 => ?_) (fun c14 => ?_)
          · refine z_bipush (v := (-4)) F (by decide) dX9_late_57 ?_
            exact z_ireturn F rfl rfl rfl rfl (fun h => h) dX9_late_59
          · refine z_iload F 0 rfl dX9_late_60 ?_
            refine z_iload_n F 4 rfl rfl dX9_late_62 ?_
            refine z_iadd F dX9_late_63 ?_
            refine z_if_ge (tgt := 70) F dX9_late_64 (by decide) (fun c15 => ?_) (fun c15 => ?_)
            · refine z_aload_n F 1 rfl rfl dX9_late_70 ?_
              refine gf_X9_12 F hta dX9_late_71 (fun ht16 => ?_)
              refine gf_X9_35 F ht16 dX9_late_74 (fun ht17 => ?_)
              refine z_iload_n F 2 rfl rfl dX9_late_77 ?_
              refine z_iload F 0 rfl dX9_late_78 ?_
              refine z_iload_n F 4 rfl rfl dX9_late_80 ?_
              refine z_iadd F dX9_late_81 ?_
              refine k_X0_letterFacing F (by rw [hR]; exact ⟨by decide, by decide⟩) q_601 ht17 ⟨Nat.zero_le _, Nat.zero_le _⟩ (Nat.le_of_ble_eq_true rfl) dX9_late_82 (fun v18 g19 => ?_)
              refine z_istore (lv' := [(5, .int v18), (4, .int v12), (0, .ref a), (1, .int x1), (2, .int x2), (3, .int x3)]) F (by decide) dX9_late_85 rfl ?_
              refine z_iload F 0 rfl dX9_late_87 ?_
              refine z_bipush (v := (-4)) F (by decide) dX9_late_89 ?_
              refine z_icmp_ne (tgt := 98) F dX9_late_91 (by decide) (fun c20 => ?_) (fun c20 => ?_)
              · refine z_iconst (v := 0) F (by decide) dX9_late_94 ?_
                refine z_goto (tgt := 100) F dX9_late_95 (by decide) ?_
                exact z_ireturn F rfl rfl rfl rfl (fun h => h) dX9_late_100
              · refine z_iload F 0 rfl dX9_late_98 ?_
                exact z_ireturn F rfl rfl rfl rfl (fun h => h) dX9_late_100
            · refine z_bipush (v := (-2)) F (by decide) dX9_late_67 ?_
              exact z_ireturn F rfl rfl rfl rfl (fun h => h) dX9_late_69
        · refine z_iconst (v := (-1)) F (by decide) dX9_late_27 ?_
          exact z_ireturn F rfl rfl rfl rfl (fun h => h) dX9_late_28
theorem k_X9_late {ρ : Type} {K : ρ → Prop} {E : zE} {D : zD} {A : Nat → Prop} {Q : State → Prop} {nL : Nat} {κ : zC} {g : zG} {pc : Nat} {lv : List (Nat × Value)} {st : List Value} {cc : ByteArray} {own : String} {ret : Option FieldType} (F : zF E D A cc own nL ret) {index : Nat} {h : Int32 → zG → Option ρ} {a : Nat} {x1 : Int32} {x2 : Int32} {x3 : Int32}  (hR : 2 + 1 ≤ E.2.2.2.1.frames ∧ 8 + (6 + 11) + 46 ≤ E.2.2.2.1.locals) (hl : zTbl (.methodLink own index yX9_late)) (hta : κ.2.1 a = some (.inr 9)) (hc : κ.2.2.1 ≤ E.2.2.2.1.cells ∧ κ.2.2.2 ≤ E.2.2.2.1.slots) (hW : (st.map fun v => v.category).sum ≤ 8) (hd : decode cc pc = .ok (.invokevirtual index, 3)) (kk : ∀ r g', zSim K (h r g') (zAt E D A Q nL κ g' (pc + 3) lv (.int r :: st))) : zSim K (zb (f_X9_late a x1 x2 x3 g) h) (zAt E D A Q nL κ g pc lv (.int x3 :: .int x2 :: .int x1 :: .ref a :: st)) :=
  z_callV F (n := 3) (As := [.int x1, .int x2, .int x3]) (C := (RX9, TX9, 11)) ⟨q_623, q_1, by decide +kernel, rfl, rfl, hR.1, hR.2⟩ (c_X9_late E.2.1 D κ.1 κ.2.1 g a x1 x2 x3 hta) hl q_621 q_622 hta rfl rfl rfl hc hW hd kk _ rfl
theorem dX9_put_0 : decode cX9_put 0 = .ok (.aload_n 0, 1) := by decide +kernel
theorem dX9_put_1 : decode cX9_put 1 = .ok (.iload_n 1, 1) := by decide +kernel
theorem dX9_put_2 : decode cX9_put 2 = .ok (.invokevirtual 125, 3) := by decide +kernel
theorem dX9_put_5 : decode cX9_put 5 = .ok (.ifCond .eq 14, 3) := by decide +kernel
theorem dX9_put_8 : decode cX9_put 8 = .ok (.iload_n 2, 1) := by decide +kernel
theorem dX9_put_9 : decode cX9_put 9 = .ok (.ifCond .eq 12, 3) := by decide +kernel
theorem dX9_put_12 : decode cX9_put 12 = .ok (.iload_n 2, 1) := by decide +kernel
theorem dX9_put_13 : decode cX9_put 13 = .ok (.invokestatic 134, 3) := by decide +kernel
theorem dX9_put_16 : decode cX9_put 16 = .ok (.ifCond .ne 5, 3) := by decide +kernel
theorem dX9_put_19 : decode cX9_put 19 = .ok (.iconst (-1), 1) := by decide +kernel
theorem dX9_put_20 : decode cX9_put 20 = .ok (.ireturn, 1) := by decide +kernel
theorem dX9_put_21 : decode cX9_put 21 = .ok (.aload_n 0, 1) := by decide +kernel
theorem dX9_put_22 : decode cX9_put 22 = .ok (.getfield 42, 3) := by decide +kernel
theorem dX9_put_25 : decode cX9_put 25 = .ok (.getfield 144, 3) := by decide +kernel
theorem dX9_put_28 : decode cX9_put 28 = .ok (.iload_n 1, 1) := by decide +kernel
theorem dX9_put_29 : decode cX9_put 29 = .ok (.iaload, 1) := by decide +kernel
theorem dX9_put_30 : decode cX9_put 30 = .ok (.istore_n 3, 1) := by decide +kernel
theorem dX9_put_31 : decode cX9_put 31 = .ok (.aload_n 0, 1) := by decide +kernel
theorem dX9_put_32 : decode cX9_put 32 = .ok (.getfield 42, 3) := by decide +kernel
theorem dX9_put_35 : decode cX9_put 35 = .ok (.getfield 144, 3) := by decide +kernel
theorem dX9_put_38 : decode cX9_put 38 = .ok (.iload_n 1, 1) := by decide +kernel
theorem dX9_put_39 : decode cX9_put 39 = .ok (.iload_n 2, 1) := by decide +kernel
theorem dX9_put_40 : decode cX9_put 40 = .ok (.iastore, 1) := by decide +kernel
theorem dX9_put_41 : decode cX9_put 41 = .ok (.iload_n 3, 1) := by decide +kernel
theorem dX9_put_42 : decode cX9_put 42 = .ok (.ireturn, 1) := by decide +kernel
def j_X9_put_21 (a : Nat) (l1 : Int32) (l2 : Int32) (g : zG) : Option (Int32 × zG) :=
  zc (zin l1 40) (zl (g.1 (g.2.1 (g.2.1 a 4) 0) l1.toNatClampNeg) (fun v3 => zc (zin l1 40) (zl (zsi g (g.2.1 (g.2.1 a 4) 0) l1.toNatClampNeg l2) (fun g6 => some ((v3, g6))))))
def f_X9_put (a : Nat) (x1 : Int32) (x2 : Int32) (g : zG) : Option (Int32 × zG) :=
  zb (f_X9_isColumn a x1 g) (fun v7 g8 => if v7 = 0 then (some (((-1), g8))) else (if x2 = 0 then (j_X9_put_21 a x1 x2 g8) else (zb (f_X9_isLetter x2 g8) (fun v11 g12 => if v11 = 0 then (some (((-1), g12))) else (j_X9_put_21 a x1 x2 g12)))))
abbrev rm_X9_put : Room := { frames := 1, cells := 0, slots := 0, locals := 21 }
set_option maxRecDepth 100000 in
set_option maxHeartbeats 4000000 in
theorem c_X9_put (l : Launch) (D : zD) (sz : Nat) (τ : zT) (g : zG) (a : Nat) (x1 : Int32) (x2 : Int32) (hta : τ a = some (.inr 9)) : zCon l D yX9_put cX9_put 4 (some .int) rm_X9_put 0 0 zrI [.ref a, .int x1, .int x2] sz τ g τ (f_X9_put a x1 x2 g) := by
  refine zCon.of (by decide) (Nat.le_of_ble_eq_true rfl) (fun E r g' hl hR hsz hnm F => ?_)
  have F : zF E D (zA τ sz) cX9_put "TypeChain" 4 (some .int) := F
  show zSim (fun q : Int32 × zG => q = (r, g')) (f_X9_put a x1 x2 g) (zAt E D (zA τ sz) (zQ E D zrI 0 0 sz τ τ r g') 4 (sz, τ, 0, 0) g 0 [(0, .ref a), (1, .int x1), (2, .int x2)] [])
  have hj_X9_put_21 : ∀ (l1_21 : Int32) (l2_21 : Int32) (g_21 : zG), zSim (fun q : Int32 × zG => q = (r, g')) (j_X9_put_21 a l1_21 l2_21 g_21) (zAt E D (zA τ sz) (zQ E D zrI 0 0 sz τ τ r g') 4 (sz, τ, 0, 0) g_21 21 [(0, .ref a), (1, .int l1_21), (2, .int l2_21)] []) := by
    intro l1_21 l2_21 g_21
    unfold j_X9_put_21
    refine z_aload_n F 0 rfl rfl dX9_put_21 ?_
    refine gf_X9_42 F hta dX9_put_22 (fun ht1 => ?_)
    refine gf_X9_144 F ht1 dX9_put_25 (fun ht2 => ?_)
    refine z_iload_n F 1 rfl rfl dX9_put_28 ?_
    refine z_iald F ht2 dX9_put_29 ?_
    refine z_leti (fun v3 => ?_)
    refine z_istore_n (lv' := [(3, .int v3), (0, .ref a), (1, .int l1_21), (2, .int l2_21)]) F rfl (by decide) dX9_put_30 rfl ?_
    refine z_aload_n F 1 rfl rfl dX9_put_31 ?_
    refine gf_X9_42 F hta dX9_put_32 (fun ht4 => ?_)
    refine gf_X9_144 F ht4 dX9_put_35 (fun ht5 => ?_)
    refine z_iload_n F 2 rfl rfl dX9_put_38 ?_
    refine z_iload_n F 3 rfl rfl dX9_put_39 ?_
    refine z_iast F ht5 dX9_put_40 ?_
    refine z_letg (fun g6 => ?_)
    refine z_iload_n F 0 rfl rfl dX9_put_41 ?_
    exact z_ireturn F rfl rfl rfl rfl (fun h => h) dX9_put_42
  unfold f_X9_put
  refine z_aload_n F 0 rfl rfl dX9_put_0 ?_
  refine z_iload_n F 1 rfl rfl dX9_put_1 ?_
  refine k_X9_isColumn F (by rw [hR]; exact ⟨by decide, by decide⟩) q_593 hta ⟨Nat.zero_le _, Nat.zero_le _⟩ (Nat.le_of_ble_eq_true rfl) dX9_put_2 (fun v7 g8 => ?_)
  refine z_if_eq (tgt := 19) F dX9_put_5 (by decide) (fun c9 => ?_) (fun c9 => ?_)
  · refine z_iconst (v := (-1)) F (by decide) dX9_put_19 ?_
    exact z_ireturn F rfl rfl rfl rfl (fun h => h) dX9_put_20
  · refine z_iload_n F 2 rfl rfl dX9_put_8 ?_
    refine z_if_eq (tgt := 21) F dX9_put_9 (by decide) (fun c10 => ?_) (fun c10 => ?_)
    · exact hj_X9_put_21 x1 x2 g8
    · refine z_iload_n F 2 rfl rfl dX9_put_12 ?_
      refine k_X9_isLetter F (by rw [hR]; exact ⟨by decide, by decide⟩) q_613  ⟨Nat.zero_le _, Nat.zero_le _⟩ (Nat.le_of_ble_eq_true rfl) dX9_put_13 (fun v11 g12 => ?_)
      refine z_if_ne (tgt := 21) F dX9_put_16 (by decide) (fun c13 => ?_) (fun c13 => ?_)
      · refine z_iconst (v := (-1)) F (by decide) dX9_put_19 ?_
        exact z_ireturn F rfl rfl rfl rfl (fun h => h) dX9_put_20
      · exact hj_X9_put_21 x1 x2 g12
theorem k_X9_put {ρ : Type} {K : ρ → Prop} {E : zE} {D : zD} {A : Nat → Prop} {Q : State → Prop} {nL : Nat} {κ : zC} {g : zG} {pc : Nat} {lv : List (Nat × Value)} {st : List Value} {cc : ByteArray} {own : String} {ret : Option FieldType} (F : zF E D A cc own nL ret) {index : Nat} {h : Int32 → zG → Option ρ} {a : Nat} {x1 : Int32} {x2 : Int32}  (hR : 1 + 1 ≤ E.2.2.2.1.frames ∧ 8 + (4 + 11) + 21 ≤ E.2.2.2.1.locals) (hl : zTbl (.methodLink own index yX9_put)) (hta : κ.2.1 a = some (.inr 9)) (hc : κ.2.2.1 ≤ E.2.2.2.1.cells ∧ κ.2.2.2 ≤ E.2.2.2.1.slots) (hW : (st.map fun v => v.category).sum ≤ 8) (hd : decode cc pc = .ok (.invokevirtual index, 3)) (kk : ∀ r g', zSim K (h r g') (zAt E D A Q nL κ g' (pc + 3) lv (.int r :: st))) : zSim K (zb (f_X9_put a x1 x2 g) h) (zAt E D A Q nL κ g pc lv (.int x2 :: .int x1 :: .ref a :: st)) :=
  z_callV F (n := 2) (As := [.int x1, .int x2]) (C := (RX9, TX9, 11)) ⟨q_627, q_1, by decide +kernel, rfl, rfl, hR.1, hR.2⟩ (c_X9_put E.2.1 D κ.1 κ.2.1 g a x1 x2 hta) hl q_625 q_626 hta rfl rfl rfl hc hW hd kk _ rfl
theorem dX9_line_0 : decode cX9_line 0 = .ok (.aload_n 0, 1) := by decide +kernel
theorem dX9_line_1 : decode cX9_line 1 = .ok (.iload_n 1, 1) := by decide +kernel
theorem dX9_line_2 : decode cX9_line 2 = .ok (.invokevirtual 125, 3) := by decide +kernel
theorem dX9_line_5 : decode cX9_line 5 = .ok (.ifCond .eq 15, 3) := by decide +kernel
theorem dX9_line_8 : decode cX9_line 8 = .ok (.aload_n 0, 1) := by decide +kernel
theorem dX9_line_9 : decode cX9_line 9 = .ok (.getfield 42, 3) := by decide +kernel
theorem dX9_line_12 : decode cX9_line 12 = .ok (.getfield 144, 3) := by decide +kernel
theorem dX9_line_15 : decode cX9_line 15 = .ok (.iload_n 1, 1) := by decide +kernel
theorem dX9_line_16 : decode cX9_line 16 = .ok (.iaload, 1) := by decide +kernel
theorem dX9_line_17 : decode cX9_line 17 = .ok (.goto 4, 3) := by decide +kernel
theorem dX9_line_20 : decode cX9_line 20 = .ok (.iconst (-1), 1) := by decide +kernel
theorem dX9_line_21 : decode cX9_line 21 = .ok (.ireturn, 1) := by decide +kernel
def f_X9_line (a : Nat) (x1 : Int32) (g : zG) : Option (Int32 × zG) :=
  zb (f_X9_isColumn a x1 g) (fun v1 g2 => if v1 = 0 then (some (((-1), g2))) else (zc (zin x1 40) (some ((g2.1 (g2.2.1 (g2.2.1 a 4) 0) x1.toNatClampNeg, g2)))))
abbrev rm_X9_line : Room := { frames := 1, cells := 0, slots := 0, locals := 21 }
set_option maxRecDepth 100000 in
set_option maxHeartbeats 4000000 in
theorem c_X9_line (l : Launch) (D : zD) (sz : Nat) (τ : zT) (g : zG) (a : Nat) (x1 : Int32) (hta : τ a = some (.inr 9)) : zCon l D yX9_line cX9_line 2 (some .int) rm_X9_line 0 0 zrI [.ref a, .int x1] sz τ g τ (f_X9_line a x1 g) := by
  refine zCon.of (by decide) (Nat.le_of_ble_eq_true rfl) (fun E r g' hl hR hsz hnm F => ?_)
  have F : zF E D (zA τ sz) cX9_line "TypeChain" 2 (some .int) := F
  show zSim (fun q : Int32 × zG => q = (r, g')) (f_X9_line a x1 g) (zAt E D (zA τ sz) (zQ E D zrI 0 0 sz τ τ r g') 2 (sz, τ, 0, 0) g 0 [(0, .ref a), (1, .int x1)] [])
  unfold f_X9_line
  refine z_aload_n F 0 rfl rfl dX9_line_0 ?_
  refine z_iload_n F 1 rfl rfl dX9_line_1 ?_
  refine k_X9_isColumn F (by rw [hR]; exact ⟨by decide, by decide⟩) q_593 hta ⟨Nat.zero_le _, Nat.zero_le _⟩ (Nat.le_of_ble_eq_true rfl) dX9_line_2 (fun v1 g2 => ?_)
  refine z_if_eq (tgt := 20) F dX9_line_5 (by decide) (fun c3 => ?_) (fun c3 => ?_)
  · refine z_iconst (v := (-1)) F (by decide) dX9_line_20 ?_
    exact z_ireturn F rfl rfl rfl rfl (fun h => h) dX9_line_21
  · refine z_aload_n F 0 rfl rfl dX9_line_8 ?_
    refine gf_X9_42 F hta dX9_line_9 (fun ht4 => ?_)
    refine gf_X9_144 F ht4 dX9_line_12 (fun ht5 => ?_)
    refine z_iload_n F 1 rfl rfl dX9_line_15 ?_
    refine z_iald F ht5 dX9_line_16 ?_
    refine z_goto (tgt := 21) F dX9_line_17 (by decide) ?_
    exact z_ireturn F rfl rfl rfl rfl (fun h => h) dX9_line_21
theorem k_X9_line {ρ : Type} {K : ρ → Prop} {E : zE} {D : zD} {A : Nat → Prop} {Q : State → Prop} {nL : Nat} {κ : zC} {g : zG} {pc : Nat} {lv : List (Nat × Value)} {st : List Value} {cc : ByteArray} {own : String} {ret : Option FieldType} (F : zF E D A cc own nL ret) {index : Nat} {h : Int32 → zG → Option ρ} {a : Nat} {x1 : Int32}  (hR : 1 + 1 ≤ E.2.2.2.1.frames ∧ 8 + (2 + 11) + 21 ≤ E.2.2.2.1.locals) (hl : zTbl (.methodLink own index yX9_line)) (hta : κ.2.1 a = some (.inr 9)) (hc : κ.2.2.1 ≤ E.2.2.2.1.cells ∧ κ.2.2.2 ≤ E.2.2.2.1.slots) (hW : (st.map fun v => v.category).sum ≤ 8) (hd : decode cc pc = .ok (.invokevirtual index, 3)) (kk : ∀ r g', zSim K (h r g') (zAt E D A Q nL κ g' (pc + 3) lv (.int r :: st))) : zSim K (zb (f_X9_line a x1 g) h) (zAt E D A Q nL κ g pc lv (.int x1 :: .ref a :: st)) :=
  z_callV F (n := 1) (As := [.int x1]) (C := (RX9, TX9, 11)) ⟨q_631, q_1, by decide +kernel, rfl, rfl, hR.1, hR.2⟩ (c_X9_line E.2.1 D κ.1 κ.2.1 g a x1 hta) hl q_629 q_630 hta rfl rfl rfl hc hW hd kk _ rfl
theorem dX9_struck_0 : decode cX9_struck 0 = .ok (.iload_n 1, 1) := by decide +kernel
theorem dX9_struck_1 : decode cX9_struck 1 = .ok (.bipush 10, 2) := by decide +kernel
theorem dX9_struck_3 : decode cX9_struck 3 = .ok (.if_icmp .lt 18, 3) := by decide +kernel
theorem dX9_struck_6 : decode cX9_struck 6 = .ok (.aload_n 0, 1) := by decide +kernel
theorem dX9_struck_7 : decode cX9_struck 7 = .ok (.iload_n 1, 1) := by decide +kernel
theorem dX9_struck_8 : decode cX9_struck 8 = .ok (.bipush 10, 2) := by decide +kernel
theorem dX9_struck_10 : decode cX9_struck 10 = .ok (.isub, 1) := by decide +kernel
theorem dX9_struck_11 : decode cX9_struck 11 = .ok (.invokevirtual 125, 3) := by decide +kernel
theorem dX9_struck_14 : decode cX9_struck 14 = .ok (.ifCond .eq 7, 3) := by decide +kernel
theorem dX9_struck_17 : decode cX9_struck 17 = .ok (.iconst 1, 1) := by decide +kernel
theorem dX9_struck_18 : decode cX9_struck 18 = .ok (.goto 4, 3) := by decide +kernel
theorem dX9_struck_21 : decode cX9_struck 21 = .ok (.iconst 0, 1) := by decide +kernel
theorem dX9_struck_22 : decode cX9_struck 22 = .ok (.istore_n 2, 1) := by decide +kernel
theorem dX9_struck_23 : decode cX9_struck 23 = .ok (.iload_n 2, 1) := by decide +kernel
theorem dX9_struck_24 : decode cX9_struck 24 = .ok (.ifCond .ne 14, 3) := by decide +kernel
theorem dX9_struck_27 : decode cX9_struck 27 = .ok (.iload_n 1, 1) := by decide +kernel
theorem dX9_struck_28 : decode cX9_struck 28 = .ok (.ifCond .lt 8, 3) := by decide +kernel
theorem dX9_struck_31 : decode cX9_struck 31 = .ok (.iload_n 1, 1) := by decide +kernel
theorem dX9_struck_32 : decode cX9_struck 32 = .ok (.iconst 2, 1) := by decide +kernel
theorem dX9_struck_33 : decode cX9_struck 33 = .ok (.if_icmp .le 5, 3) := by decide +kernel
theorem dX9_struck_36 : decode cX9_struck 36 = .ok (.iconst (-1), 1) := by decide +kernel
theorem dX9_struck_37 : decode cX9_struck 37 = .ok (.ireturn, 1) := by decide +kernel
theorem dX9_struck_38 : decode cX9_struck 38 = .ok (.aload_n 0, 1) := by decide +kernel
theorem dX9_struck_39 : decode cX9_struck 39 = .ok (.getfield 42, 3) := by decide +kernel
theorem dX9_struck_42 : decode cX9_struck 42 = .ok (.getfield 150, 3) := by decide +kernel
theorem dX9_struck_45 : decode cX9_struck 45 = .ok (.astore_n 3, 1) := by decide +kernel
theorem dX9_struck_46 : decode cX9_struck 46 = .ok (.aload_n 3, 1) := by decide +kernel
theorem dX9_struck_47 : decode cX9_struck 47 = .ok (.getfield 164, 3) := by decide +kernel
theorem dX9_struck_50 : decode cX9_struck 50 = .ok (.ifCond .ne 6, 3) := by decide +kernel
theorem dX9_struck_53 : decode cX9_struck 53 = .ok (.bipush (-2), 2) := by decide +kernel
theorem dX9_struck_55 : decode cX9_struck 55 = .ok (.ireturn, 1) := by decide +kernel
theorem dX9_struck_56 : decode cX9_struck 56 = .ok (.iload_n 1, 1) := by decide +kernel
theorem dX9_struck_57 : decode cX9_struck 57 = .ok (.tableswitch 45 0 2 #[27, 32, 37], 27) := by decide +kernel
theorem dX9_struck_84 : decode cX9_struck 84 = .ok (.aload_n 3, 1) := by decide +kernel
theorem dX9_struck_85 : decode cX9_struck 85 = .ok (.getfield 168, 3) := by decide +kernel
theorem dX9_struck_88 : decode cX9_struck 88 = .ok (.ireturn, 1) := by decide +kernel
theorem dX9_struck_89 : decode cX9_struck 89 = .ok (.aload_n 3, 1) := by decide +kernel
theorem dX9_struck_90 : decode cX9_struck 90 = .ok (.getfield 171, 3) := by decide +kernel
theorem dX9_struck_93 : decode cX9_struck 93 = .ok (.ireturn, 1) := by decide +kernel
theorem dX9_struck_94 : decode cX9_struck 94 = .ok (.aload_n 3, 1) := by decide +kernel
theorem dX9_struck_95 : decode cX9_struck 95 = .ok (.getfield 174, 3) := by decide +kernel
theorem dX9_struck_98 : decode cX9_struck 98 = .ok (.invokestatic 178, 3) := by decide +kernel
theorem dX9_struck_101 : decode cX9_struck 101 = .ok (.ireturn, 1) := by decide +kernel
theorem dX9_struck_102 : decode cX9_struck 102 = .ok (.aload_n 3, 1) := by decide +kernel
theorem dX9_struck_103 : decode cX9_struck 103 = .ok (.getfield 184, 3) := by decide +kernel
theorem dX9_struck_106 : decode cX9_struck 106 = .ok (.iload_n 1, 1) := by decide +kernel
theorem dX9_struck_107 : decode cX9_struck 107 = .ok (.bipush 10, 2) := by decide +kernel
theorem dX9_struck_109 : decode cX9_struck 109 = .ok (.isub, 1) := by decide +kernel
theorem dX9_struck_110 : decode cX9_struck 110 = .ok (.iaload, 1) := by decide +kernel
theorem dX9_struck_111 : decode cX9_struck 111 = .ok (.ireturn, 1) := by decide +kernel
def j_X9_struck_38 (a : Nat) (l1 : Int32) (g : zG) : Option (Int32 × zG) :=
  zl (g.2.1 (g.2.1 a 4) 1) (fun r3 => if (g.1 r3 2) = 0 then (some (((-2), g))) else (if l1 = 0 then (some ((g.1 r3 3, g))) else (if l1 = 1 then (some ((g.1 r3 4, g))) else (if l1 = 2 then (zb (f_J13_bitCount_95d88 (g.2.2 r3 5) g) (fun v9 g10 => some ((v9, g10)))) else (zc (zin (l1 - 10) 40) (some ((g.1 (g.2.1 r3 0) (l1 - 10).toNatClampNeg, g))))))))
def j_X9_struck_22 (a : Nat) (l1 : Int32) (s0 : Int32) (g : zG) : Option (Int32 × zG) :=
  if s0 = 0 then (if l1 < 0 then (some (((-1), g))) else (if l1 ≤ 2 then (j_X9_struck_38 a l1 g) else (some (((-1), g))))) else (j_X9_struck_38 a l1 g)
def j_X9_struck_21 (a : Nat) (l1 : Int32) (g : zG) : Option (Int32 × zG) :=
  j_X9_struck_22 a l1 0 g
def f_X9_struck (a : Nat) (x1 : Int32) (g : zG) : Option (Int32 × zG) :=
  if x1 < 10 then (j_X9_struck_21 a x1 g) else (zb (f_X9_isColumn a (x1 - 10) g) (fun v16 g17 => if v16 = 0 then (j_X9_struck_21 a x1 g17) else (j_X9_struck_22 a x1 1 g17)))
abbrev rm_X9_struck : Room := { frames := 1, cells := 0, slots := 0, locals := 21 }
set_option maxRecDepth 100000 in
set_option maxHeartbeats 4000000 in
theorem c_X9_struck (l : Launch) (D : zD) (sz : Nat) (τ : zT) (g : zG) (a : Nat) (x1 : Int32) (hta : τ a = some (.inr 9)) : zCon l D yX9_struck cX9_struck 4 (some .int) rm_X9_struck 0 0 zrI [.ref a, .int x1] sz τ g τ (f_X9_struck a x1 g) := by
  refine zCon.of (by decide) (Nat.le_of_ble_eq_true rfl) (fun E r g' hl hR hsz hnm F => ?_)
  have F : zF E D (zA τ sz) cX9_struck "TypeChain" 4 (some .int) := F
  show zSim (fun q : Int32 × zG => q = (r, g')) (f_X9_struck a x1 g) (zAt E D (zA τ sz) (zQ E D zrI 0 0 sz τ τ r g') 4 (sz, τ, 0, 0) g 0 [(0, .ref a), (1, .int x1)] [])
  have hj_X9_struck_38 : ∀ (l1_38 : Int32) (g_38 : zG), zSim (fun q : Int32 × zG => q = (r, g')) (j_X9_struck_38 a l1_38 g_38) (zAt E D (zA τ sz) (zQ E D zrI 0 0 sz τ τ r g') 4 (sz, τ, 0, 0) g_38 38 [(0, .ref a), (1, .int l1_38)] []) := by
    intro l1_38 g_38
    unfold j_X9_struck_38
    refine z_aload_n F 0 rfl rfl dX9_struck_38 ?_
    refine gf_X9_42 F hta dX9_struck_39 (fun ht1 => ?_)
    refine gf_X9_150 F ht1 dX9_struck_42 (fun ht2 => ?_)
    refine z_letr ht2 (fun r3 ht4 => ?_)
    refine z_astore_n (lv' := [(3, .ref r3), (0, .ref a), (1, .int l1_38)]) F rfl (by decide) dX9_struck_45 rfl ?_
    refine z_aload_n F 0 rfl rfl dX9_struck_46 ?_
    refine gf_X9_164 F ht4 dX9_struck_47 ?_
    refine z_if_ne (tgt := 56) F dX9_struck_50 (by decide) (fun c5 => ?_) (fun c5 => ?_)
    · refine z_bipush (v := (-2)) F (by decide) dX9_struck_53 ?_
      exact z_ireturn F rfl rfl rfl rfl (fun h => h) dX9_struck_55
    · refine z_iload_n F 2 rfl rfl dX9_struck_56 ?_
      refine z_ite (fun c6 => ?_) (fun c6 => ?_)
      · refine z_tableIn (tgt := 84) F 0 c6 dX9_struck_57 (by decide) (by decide) rfl (by decide) ?_
        refine z_aload_n F 0 rfl rfl dX9_struck_84 ?_
        refine gf_X9_168 F ht4 dX9_struck_85 ?_
        exact z_ireturn F rfl rfl rfl rfl (fun h => h) dX9_struck_88
      ·
        refine z_ite (fun c7 => ?_) (fun c7 => ?_)
        · refine z_tableIn (tgt := 89) F 1 c7 dX9_struck_57 (by decide) (by decide) rfl (by decide) ?_
          refine z_aload_n F 0 rfl rfl dX9_struck_89 ?_
          refine gf_X9_171 F ht4 dX9_struck_90 ?_
          exact z_ireturn F rfl rfl rfl rfl (fun h => h) dX9_struck_93
        ·
          refine z_ite (fun c8 => ?_) (fun c8 => ?_)
          · refine z_tableIn (tgt := 94) F 2 c8 dX9_struck_57 (by decide) (by decide) rfl (by decide) ?_
            refine z_aload_n F 0 rfl rfl dX9_struck_94 ?_
            refine gf_X9_174 F ht4 dX9_struck_95 ?_
            refine k_J13_bitCount_95d88 F (by rw [hR]; exact ⟨by decide, by decide⟩) q_689  ⟨Nat.zero_le _, Nat.zero_le _⟩ (Nat.le_of_ble_eq_true rfl) dX9_struck_98 (fun v9 g10 => ?_)
            exact z_ireturn F rfl rfl rfl rfl (fun h => h) dX9_struck_101
          ·
            refine z_tableOut (tgt := 102) F dX9_struck_57 (by have e0 := lv_neT (a := 0) c6 (by decide); have e1 := lv_neT (a := 1) c7 (by decide); have e2 := lv_neT (a := 2) c8 (by decide); omega) (by decide) ?_
            refine z_aload_n F 0 rfl rfl dX9_struck_102 ?_
            refine gf_X9_184 F ht4 dX9_struck_103 (fun ht11 => ?_)
            refine z_iload_n F 2 rfl rfl dX9_struck_106 ?_
            refine z_bipush (v := 10) F (by decide) dX9_struck_107 ?_
            refine z_isub F dX9_struck_109 ?_
            refine z_iald F ht11 dX9_struck_110 ?_
            exact z_ireturn F rfl rfl rfl rfl (fun h => h) dX9_struck_111
  have hj_X9_struck_22 : ∀ (l1_22 : Int32) (s0_22 : Int32) (g_22 : zG), zSim (fun q : Int32 × zG => q = (r, g')) (j_X9_struck_22 a l1_22 s0_22 g_22) (zAt E D (zA τ sz) (zQ E D zrI 0 0 sz τ τ r g') 4 (sz, τ, 0, 0) g_22 22 [(0, .ref a), (1, .int l1_22)] [.int s0_22]) := by
    intro l1_22 s0_22 g_22
    unfold j_X9_struck_22
    refine z_istore_n (lv' := [(2, .int s0_22), (0, .ref a), (1, .int l1_22)]) F rfl (by decide) dX9_struck_22 rfl ?_
    refine z_iload_n F 0 rfl rfl dX9_struck_23 ?_
    refine z_if_ne (tgt := 38) F dX9_struck_24 (by decide) (fun c12 => ?_) (fun c12 => ?_)
    · refine z_iload_n F 2 rfl rfl dX9_struck_27 ?_
      refine z_if_lt (tgt := 36) F dX9_struck_28 (by decide) (fun c13 => ?_) (fun c13 => ?_)
      · refine z_iconst (v := (-1)) F (by decide) dX9_struck_36 ?_
        exact z_ireturn F rfl rfl rfl rfl (fun h => h) dX9_struck_37
      · refine z_iload_n F 2 rfl rfl dX9_struck_31 ?_
        refine z_iconst (v := 2) F (by decide) dX9_struck_32 ?_
        refine z_icmp_le (tgt := 38) F dX9_struck_33 (by decide) (fun c14 => ?_) (fun c14 => ?_)
        · refine z_sub (lv' := [(0, .ref a), (1, .int l1_22)]) [1, 2] rfl ?_
          exact hj_X9_struck_38 l1_22 g_22
        · refine z_iconst (v := (-1)) F (by decide) dX9_struck_36 ?_
          exact z_ireturn F rfl rfl rfl rfl (fun h => h) dX9_struck_37
    · refine z_sub (lv' := [(0, .ref a), (1, .int l1_22)]) [1, 2] rfl ?_
      exact hj_X9_struck_38 l1_22 g_22
  have hj_X9_struck_21 : ∀ (l1_21 : Int32) (g_21 : zG), zSim (fun q : Int32 × zG => q = (r, g')) (j_X9_struck_21 a l1_21 g_21) (zAt E D (zA τ sz) (zQ E D zrI 0 0 sz τ τ r g') 4 (sz, τ, 0, 0) g_21 21 [(0, .ref a), (1, .int l1_21)] []) := by
    intro l1_21 g_21
    unfold j_X9_struck_21
    refine z_iconst (v := 0) F (by decide) dX9_struck_21 ?_
    exact hj_X9_struck_22 l1_21 0 g_21
  unfold f_X9_struck
  refine z_iload_n F 1 rfl rfl dX9_struck_0 ?_
  refine z_bipush (v := 10) F (by decide) dX9_struck_1 ?_
  refine z_icmp_lt (tgt := 21) F dX9_struck_3 (by decide) (fun c15 => ?_) (fun c15 => ?_)
  · exact hj_X9_struck_21 x1 g
  · refine z_aload_n F 0 rfl rfl dX9_struck_6 ?_
    refine z_iload_n F 1 rfl rfl dX9_struck_7 ?_
    refine z_bipush (v := 10) F (by decide) dX9_struck_8 ?_
    refine z_isub F dX9_struck_10 ?_
    refine k_X9_isColumn F (by rw [hR]; exact ⟨by decide, by decide⟩) q_593 hta ⟨Nat.zero_le _, Nat.zero_le _⟩ (Nat.le_of_ble_eq_true rfl) dX9_struck_11 (fun v16 g17 => ?_)
    refine z_if_eq (tgt := 21) F dX9_struck_14 (by decide) (fun c18 => ?_) (fun c18 => ?_)
    · exact hj_X9_struck_21 x1 g17
    · refine z_iconst (v := 1) F (by decide) dX9_struck_17 ?_
      refine z_goto (tgt := 22) F dX9_struck_18 (by decide) ?_
      exact hj_X9_struck_22 x1 1 g17
theorem k_X9_struck {ρ : Type} {K : ρ → Prop} {E : zE} {D : zD} {A : Nat → Prop} {Q : State → Prop} {nL : Nat} {κ : zC} {g : zG} {pc : Nat} {lv : List (Nat × Value)} {st : List Value} {cc : ByteArray} {own : String} {ret : Option FieldType} (F : zF E D A cc own nL ret) {index : Nat} {h : Int32 → zG → Option ρ} {a : Nat} {x1 : Int32}  (hR : 1 + 1 ≤ E.2.2.2.1.frames ∧ 8 + (4 + 11) + 21 ≤ E.2.2.2.1.locals) (hl : zTbl (.methodLink own index yX9_struck)) (hta : κ.2.1 a = some (.inr 9)) (hc : κ.2.2.1 ≤ E.2.2.2.1.cells ∧ κ.2.2.2 ≤ E.2.2.2.1.slots) (hW : (st.map fun v => v.category).sum ≤ 8) (hd : decode cc pc = .ok (.invokevirtual index, 3)) (kk : ∀ r g', zSim K (h r g') (zAt E D A Q nL κ g' (pc + 3) lv (.int r :: st))) : zSim K (zb (f_X9_struck a x1 g) h) (zAt E D A Q nL κ g pc lv (.int x1 :: .ref a :: st)) :=
  z_callV F (n := 1) (As := [.int x1]) (C := (RX9, TX9, 11)) ⟨q_688, q_1, by decide +kernel, rfl, rfl, hR.1, hR.2⟩ (c_X9_struck E.2.1 D κ.1 κ.2.1 g a x1 hta) hl q_686 q_687 hta rfl rfl rfl hc hW hd kk _ rfl
theorem dX9_slipped_0 : decode cX9_slipped 0 = .ok (.iload_n 1, 1) := by decide +kernel
theorem dX9_slipped_1 : decode cX9_slipped 1 = .ok (.ifCond .lt 25, 3) := by decide +kernel
theorem dX9_slipped_4 : decode cX9_slipped 4 = .ok (.iload_n 1, 1) := by decide +kernel
theorem dX9_slipped_5 : decode cX9_slipped 5 = .ok (.aload_n 0, 1) := by decide +kernel
theorem dX9_slipped_6 : decode cX9_slipped 6 = .ok (.getfield 12, 3) := by decide +kernel
theorem dX9_slipped_9 : decode cX9_slipped 9 = .ok (.getfield 35, 3) := by decide +kernel
theorem dX9_slipped_12 : decode cX9_slipped 12 = .ok (.getfield 95, 3) := by decide +kernel
theorem dX9_slipped_15 : decode cX9_slipped 15 = .ok (.if_icmp .ge 11, 3) := by decide +kernel
theorem dX9_slipped_18 : decode cX9_slipped 18 = .ok (.aload_n 0, 1) := by decide +kernel
theorem dX9_slipped_19 : decode cX9_slipped 19 = .ok (.iload_n 2, 1) := by decide +kernel
theorem dX9_slipped_20 : decode cX9_slipped 20 = .ok (.invokevirtual 125, 3) := by decide +kernel
theorem dX9_slipped_23 : decode cX9_slipped 23 = .ok (.ifCond .ne 5, 3) := by decide +kernel
theorem dX9_slipped_26 : decode cX9_slipped 26 = .ok (.iconst (-1), 1) := by decide +kernel
theorem dX9_slipped_27 : decode cX9_slipped 27 = .ok (.ireturn, 1) := by decide +kernel
theorem dX9_slipped_28 : decode cX9_slipped 28 = .ok (.aload_n 0, 1) := by decide +kernel
theorem dX9_slipped_29 : decode cX9_slipped 29 = .ok (.getfield 42, 3) := by decide +kernel
theorem dX9_slipped_32 : decode cX9_slipped 32 = .ok (.getfield 150, 3) := by decide +kernel
theorem dX9_slipped_35 : decode cX9_slipped 35 = .ok (.astore_n 3, 1) := by decide +kernel
theorem dX9_slipped_36 : decode cX9_slipped 36 = .ok (.aload_n 3, 1) := by decide +kernel
theorem dX9_slipped_37 : decode cX9_slipped 37 = .ok (.getfield 164, 3) := by decide +kernel
theorem dX9_slipped_40 : decode cX9_slipped 40 = .ok (.ifCond .ne 6, 3) := by decide +kernel
theorem dX9_slipped_43 : decode cX9_slipped 43 = .ok (.bipush (-2), 2) := by decide +kernel
theorem dX9_slipped_45 : decode cX9_slipped 45 = .ok (.ireturn, 1) := by decide +kernel
theorem dX9_slipped_46 : decode cX9_slipped 46 = .ok (.aload_n 3, 1) := by decide +kernel
theorem dX9_slipped_47 : decode cX9_slipped 47 = .ok (.getfield 184, 3) := by decide +kernel
theorem dX9_slipped_50 : decode cX9_slipped 50 = .ok (.iload_n 2, 1) := by decide +kernel
theorem dX9_slipped_51 : decode cX9_slipped 51 = .ok (.iaload, 1) := by decide +kernel
theorem dX9_slipped_52 : decode cX9_slipped 52 = .ok (.bipush (-4), 2) := by decide +kernel
theorem dX9_slipped_54 : decode cX9_slipped 54 = .ok (.if_icmp .ne 8, 3) := by decide +kernel
theorem dX9_slipped_57 : decode cX9_slipped 57 = .ok (.bipush (-4), 2) := by decide +kernel
theorem dX9_slipped_59 : decode cX9_slipped 59 = .ok (.goto 16, 3) := by decide +kernel
theorem dX9_slipped_62 : decode cX9_slipped 62 = .ok (.aload_n 3, 1) := by decide +kernel
theorem dX9_slipped_63 : decode cX9_slipped 63 = .ok (.aload_n 0, 1) := by decide +kernel
theorem dX9_slipped_64 : decode cX9_slipped 64 = .ok (.getfield 12, 3) := by decide +kernel
theorem dX9_slipped_67 : decode cX9_slipped 67 = .ok (.getfield 35, 3) := by decide +kernel
theorem dX9_slipped_70 : decode cX9_slipped 70 = .ok (.iload_n 1, 1) := by decide +kernel
theorem dX9_slipped_71 : decode cX9_slipped 71 = .ok (.iload_n 2, 1) := by decide +kernel
theorem dX9_slipped_72 : decode cX9_slipped 72 = .ok (.invokevirtual 187, 3) := by decide +kernel
theorem dX9_slipped_75 : decode cX9_slipped 75 = .ok (.ireturn, 1) := by decide +kernel
def f_X9_slipped (a : Nat) (x1 : Int32) (x2 : Int32) (g : zG) : Option (Int32 × zG) :=
  if x1 < 0 then (some (((-1), g))) else (if (g.1 (g.2.1 (g.2.1 a 0) 0) 1) ≤ x1 then (some (((-1), g))) else (zb (f_X9_isColumn a x2 g) (fun v5 g6 => if v5 = 0 then (some (((-1), g6))) else (zl (g6.2.1 (g6.2.1 a 4) 1) (fun r10 => if (g6.1 r10 2) = 0 then (some (((-2), g6))) else (zc (zin x2 40) (if (g6.1 (g6.2.1 r10 0) x2.toNatClampNeg) = (-4) then (some (((-4), g6))) else (zb (f_X7_shownAfterSlip r10 (g6.2.1 (g6.2.1 a 0) 0) x1 x2 g6) (fun v17 g18 => some ((v17, g18)))))))))))
abbrev rm_X9_slipped : Room := { frames := 2, cells := 0, slots := 0, locals := 47 }
set_option maxRecDepth 100000 in
set_option maxHeartbeats 4000000 in
theorem c_X9_slipped (l : Launch) (D : zD) (sz : Nat) (τ : zT) (g : zG) (a : Nat) (x1 : Int32) (x2 : Int32) (hta : τ a = some (.inr 9)) : zCon l D yX9_slipped cX9_slipped 4 (some .int) rm_X9_slipped 0 0 zrI [.ref a, .int x1, .int x2] sz τ g τ (f_X9_slipped a x1 x2 g) := by
  refine zCon.of (by decide) (Nat.le_of_ble_eq_true rfl) (fun E r g' hl hR hsz hnm F => ?_)
  have F : zF E D (zA τ sz) cX9_slipped "TypeChain" 4 (some .int) := F
  show zSim (fun q : Int32 × zG => q = (r, g')) (f_X9_slipped a x1 x2 g) (zAt E D (zA τ sz) (zQ E D zrI 0 0 sz τ τ r g') 4 (sz, τ, 0, 0) g 0 [(0, .ref a), (1, .int x1), (2, .int x2)] [])
  unfold f_X9_slipped
  refine z_iload_n F 1 rfl rfl dX9_slipped_0 ?_
  refine z_if_lt (tgt := 26) F dX9_slipped_1 (by decide) (fun c1 => ?_) (fun c1 => ?_)
  · refine z_iconst (v := (-1)) F (by decide) dX9_slipped_26 ?_
    exact z_ireturn F rfl rfl rfl rfl (fun h => h) dX9_slipped_27
  · refine z_iload_n F 1 rfl rfl dX9_slipped_4 ?_
    refine z_aload_n F 0 rfl rfl dX9_slipped_5 ?_
    refine gf_X9_12 F hta dX9_slipped_6 (fun ht2 => ?_)
    refine gf_X9_35 F ht2 dX9_slipped_9 (fun ht3 => ?_)
    refine gf_X9_95 F ht3 dX9_slipped_12 ?_
    refine z_icmp_ge (tgt := 26) F dX9_slipped_15 (by decide) (fun c4 => ?_) (fun c4 => ?_)
    · refine z_iconst (v := (-1)) F (by decide) dX9_slipped_26 ?_
      exact z_ireturn F rfl rfl rfl rfl (fun h => h) dX9_slipped_27
    · refine z_aload_n F 0 rfl rfl dX9_slipped_18 ?_
      refine z_iload_n F 2 rfl rfl dX9_slipped_19 ?_
      refine k_X9_isColumn F (by rw [hR]; exact ⟨by decide, by decide⟩) q_593 hta ⟨Nat.zero_le _, Nat.zero_le _⟩ (Nat.le_of_ble_eq_true rfl) dX9_slipped_20 (fun v5 g6 => ?_)
      refine z_if_ne (tgt := 28) F dX9_slipped_23 (by decide) (fun c7 => ?_) (fun c7 => ?_)
      · refine z_iconst (v := (-1)) F (by decide) dX9_slipped_26 ?_
        exact z_ireturn F rfl rfl rfl rfl (fun h => h) dX9_slipped_27
      · refine z_aload_n F 0 rfl rfl dX9_slipped_28 ?_
        refine gf_X9_42 F hta dX9_slipped_29 (fun ht8 => ?_)
        refine gf_X9_150 F ht8 dX9_slipped_32 (fun ht9 => ?_)
        refine z_letr ht9 (fun r10 ht11 => ?_)
        refine z_astore_n (lv' := [(3, .ref r10), (0, .ref a), (1, .int x1), (2, .int x2)]) F rfl (by decide) dX9_slipped_35 rfl ?_
        refine z_aload_n F 0 rfl rfl dX9_slipped_36 ?_
        refine gf_X9_164 F ht11 dX9_slipped_37 ?_
        refine z_if_ne (tgt := 46) F dX9_slipped_40 (by decide) (fun c12 => ?_) (fun c12 => ?_)
        · refine z_bipush (v := (-2)) F (by decide) dX9_slipped_43 ?_
          exact z_ireturn F rfl rfl rfl rfl (fun h => h) dX9_slipped_45
        · refine z_aload_n F 0 rfl rfl dX9_slipped_46 ?_
          refine gf_X9_184 F ht11 dX9_slipped_47 (fun ht13 => ?_)
          refine z_iload_n F 3 rfl rfl dX9_slipped_50 ?_
          refine z_iald F ht13 dX9_slipped_51 ?_
          refine z_bipush (v := (-4)) F (by decide) dX9_slipped_52 ?_
          refine z_icmp_ne (tgt := 62) F dX9_slipped_54 (by decide) (fun c14 => ?_) (fun c14 => ?_)
          · refine z_bipush (v := (-4)) F (by decide) dX9_slipped_57 ?_
            refine z_goto (tgt := 75) F dX9_slipped_59 (by decide) ?_
            exact z_ireturn F rfl rfl rfl rfl (fun h => h) dX9_slipped_75
          · refine z_aload_n F 0 rfl rfl dX9_slipped_62 ?_
            refine z_aload_n F 1 rfl rfl dX9_slipped_63 ?_
            refine gf_X9_12 F hta dX9_slipped_64 (fun ht15 => ?_)
            refine gf_X9_35 F ht15 dX9_slipped_67 (fun ht16 => ?_)
            refine z_iload_n F 2 rfl rfl dX9_slipped_70 ?_
            refine z_iload_n F 3 rfl rfl dX9_slipped_71 ?_
            refine k_X7_shownAfterSlip F (by rw [hR]; exact ⟨by decide, by decide⟩) q_699 ht11 ht16 ⟨Nat.zero_le _, Nat.zero_le _⟩ (Nat.le_of_ble_eq_true rfl) dX9_slipped_72 (fun v17 g18 => ?_)
            exact z_ireturn F rfl rfl rfl rfl (fun h => h) dX9_slipped_75
theorem k_X9_slipped {ρ : Type} {K : ρ → Prop} {E : zE} {D : zD} {A : Nat → Prop} {Q : State → Prop} {nL : Nat} {κ : zC} {g : zG} {pc : Nat} {lv : List (Nat × Value)} {st : List Value} {cc : ByteArray} {own : String} {ret : Option FieldType} (F : zF E D A cc own nL ret) {index : Nat} {h : Int32 → zG → Option ρ} {a : Nat} {x1 : Int32} {x2 : Int32}  (hR : 2 + 1 ≤ E.2.2.2.1.frames ∧ 8 + (4 + 11) + 47 ≤ E.2.2.2.1.locals) (hl : zTbl (.methodLink own index yX9_slipped)) (hta : κ.2.1 a = some (.inr 9)) (hc : κ.2.2.1 ≤ E.2.2.2.1.cells ∧ κ.2.2.2 ≤ E.2.2.2.1.slots) (hW : (st.map fun v => v.category).sum ≤ 8) (hd : decode cc pc = .ok (.invokevirtual index, 3)) (kk : ∀ r g', zSim K (h r g') (zAt E D A Q nL κ g' (pc + 3) lv (.int r :: st))) : zSim K (zb (f_X9_slipped a x1 x2 g) h) (zAt E D A Q nL κ g pc lv (.int x2 :: .int x1 :: .ref a :: st)) :=
  z_callV F (n := 2) (As := [.int x1, .int x2]) (C := (RX9, TX9, 11)) ⟨q_698, q_1, by decide +kernel, rfl, rfl, hR.1, hR.2⟩ (c_X9_slipped E.2.1 D κ.1 κ.2.1 g a x1 x2 hta) hl q_696 q_697 hta rfl rfl rfl hc hW hd kk _ rfl
theorem dX9_seen_0 : decode cX9_seen 0 = .ok (.aload_n 0, 1) := by decide +kernel
theorem dX9_seen_1 : decode cX9_seen 1 = .ok (.iload_n 1, 1) := by decide +kernel
theorem dX9_seen_2 : decode cX9_seen 2 = .ok (.invokevirtual 125, 3) := by decide +kernel
theorem dX9_seen_5 : decode cX9_seen 5 = .ok (.ifCond .eq 16, 3) := by decide +kernel
theorem dX9_seen_8 : decode cX9_seen 8 = .ok (.iload_n 2, 1) := by decide +kernel
theorem dX9_seen_9 : decode cX9_seen 9 = .ok (.bipush (-4), 2) := by decide +kernel
theorem dX9_seen_11 : decode cX9_seen 11 = .ok (.if_icmp .eq 13, 3) := by decide +kernel
theorem dX9_seen_14 : decode cX9_seen 14 = .ok (.iload_n 2, 1) := by decide +kernel
theorem dX9_seen_15 : decode cX9_seen 15 = .ok (.invokestatic 134, 3) := by decide +kernel
theorem dX9_seen_18 : decode cX9_seen 18 = .ok (.ifCond .ne 6, 3) := by decide +kernel
theorem dX9_seen_21 : decode cX9_seen 21 = .ok (.bipush (-10), 2) := by decide +kernel
theorem dX9_seen_23 : decode cX9_seen 23 = .ok (.ireturn, 1) := by decide +kernel
theorem dX9_seen_24 : decode cX9_seen 24 = .ok (.aload_n 0, 1) := by decide +kernel
theorem dX9_seen_25 : decode cX9_seen 25 = .ok (.getfield 42, 3) := by decide +kernel
theorem dX9_seen_28 : decode cX9_seen 28 = .ok (.getfield 150, 3) := by decide +kernel
theorem dX9_seen_31 : decode cX9_seen 31 = .ok (.astore_n 3, 1) := by decide +kernel
theorem dX9_seen_32 : decode cX9_seen 32 = .ok (.aload_n 3, 1) := by decide +kernel
theorem dX9_seen_33 : decode cX9_seen 33 = .ok (.getfield 164, 3) := by decide +kernel
theorem dX9_seen_36 : decode cX9_seen 36 = .ok (.ifCond .eq 14, 3) := by decide +kernel
theorem dX9_seen_39 : decode cX9_seen 39 = .ok (.aload_n 3, 1) := by decide +kernel
theorem dX9_seen_40 : decode cX9_seen 40 = .ok (.getfield 184, 3) := by decide +kernel
theorem dX9_seen_43 : decode cX9_seen 43 = .ok (.iload_n 1, 1) := by decide +kernel
theorem dX9_seen_44 : decode cX9_seen 44 = .ok (.iaload, 1) := by decide +kernel
theorem dX9_seen_45 : decode cX9_seen 45 = .ok (.bipush (-4), 2) := by decide +kernel
theorem dX9_seen_47 : decode cX9_seen 47 = .ok (.if_icmp .ne 6, 3) := by decide +kernel
theorem dX9_seen_50 : decode cX9_seen 50 = .ok (.bipush (-12), 2) := by decide +kernel
theorem dX9_seen_52 : decode cX9_seen 52 = .ok (.ireturn, 1) := by decide +kernel
theorem dX9_seen_53 : decode cX9_seen 53 = .ok (.aload_n 3, 1) := by decide +kernel
theorem dX9_seen_54 : decode cX9_seen 54 = .ok (.getfield 191, 3) := by decide +kernel
theorem dX9_seen_57 : decode cX9_seen 57 = .ok (.iload_n 1, 1) := by decide +kernel
theorem dX9_seen_58 : decode cX9_seen 58 = .ok (.iaload, 1) := by decide +kernel
theorem dX9_seen_59 : decode cX9_seen 59 = .ok (.istore 4, 2) := by decide +kernel
theorem dX9_seen_61 : decode cX9_seen 61 = .ok (.aload_n 3, 1) := by decide +kernel
theorem dX9_seen_62 : decode cX9_seen 62 = .ok (.getfield 191, 3) := by decide +kernel
theorem dX9_seen_65 : decode cX9_seen 65 = .ok (.iload_n 1, 1) := by decide +kernel
theorem dX9_seen_66 : decode cX9_seen 66 = .ok (.iload_n 2, 1) := by decide +kernel
theorem dX9_seen_67 : decode cX9_seen 67 = .ok (.iastore, 1) := by decide +kernel
theorem dX9_seen_68 : decode cX9_seen 68 = .ok (.iload 4, 2) := by decide +kernel
theorem dX9_seen_70 : decode cX9_seen 70 = .ok (.ireturn, 1) := by decide +kernel
def j_X9_seen_24 (a : Nat) (l1 : Int32) (l2 : Int32) (g : zG) : Option (Int32 × zG) :=
  zl (g.2.1 (g.2.1 a 4) 1) (fun r3 => if (g.1 r3 2) = 0 then (some (((-12), g))) else (zc (zin l1 40) (if (g.1 (g.2.1 r3 0) l1.toNatClampNeg) = (-4) then (some (((-12), g))) else (zc (zin l1 40) (zl (g.1 (g.2.1 r3 1) l1.toNatClampNeg) (fun v9 => zc (zin l1 40) (zl (zsi g (g.2.1 r3 1) l1.toNatClampNeg l2) (fun g11 => some ((v9, g11))))))))))
def f_X9_seen (a : Nat) (x1 : Int32) (x2 : Int32) (g : zG) : Option (Int32 × zG) :=
  zb (f_X9_isColumn a x1 g) (fun v12 g13 => if v12 = 0 then (some (((-10), g13))) else (if x2 = (-4) then (j_X9_seen_24 a x1 x2 g13) else (zb (f_X9_isLetter x2 g13) (fun v16 g17 => if v16 = 0 then (some (((-10), g17))) else (j_X9_seen_24 a x1 x2 g17)))))
abbrev rm_X9_seen : Room := { frames := 1, cells := 0, slots := 0, locals := 21 }
set_option maxRecDepth 100000 in
set_option maxHeartbeats 4000000 in
theorem c_X9_seen (l : Launch) (D : zD) (sz : Nat) (τ : zT) (g : zG) (a : Nat) (x1 : Int32) (x2 : Int32) (hta : τ a = some (.inr 9)) : zCon l D yX9_seen cX9_seen 5 (some .int) rm_X9_seen 0 0 zrI [.ref a, .int x1, .int x2] sz τ g τ (f_X9_seen a x1 x2 g) := by
  refine zCon.of (by decide) (Nat.le_of_ble_eq_true rfl) (fun E r g' hl hR hsz hnm F => ?_)
  have F : zF E D (zA τ sz) cX9_seen "TypeChain" 5 (some .int) := F
  show zSim (fun q : Int32 × zG => q = (r, g')) (f_X9_seen a x1 x2 g) (zAt E D (zA τ sz) (zQ E D zrI 0 0 sz τ τ r g') 5 (sz, τ, 0, 0) g 0 [(0, .ref a), (1, .int x1), (2, .int x2)] [])
  have hj_X9_seen_24 : ∀ (l1_24 : Int32) (l2_24 : Int32) (g_24 : zG), zSim (fun q : Int32 × zG => q = (r, g')) (j_X9_seen_24 a l1_24 l2_24 g_24) (zAt E D (zA τ sz) (zQ E D zrI 0 0 sz τ τ r g') 5 (sz, τ, 0, 0) g_24 24 [(0, .ref a), (1, .int l1_24), (2, .int l2_24)] []) := by
    intro l1_24 l2_24 g_24
    unfold j_X9_seen_24
    refine z_aload_n F 0 rfl rfl dX9_seen_24 ?_
    refine gf_X9_42 F hta dX9_seen_25 (fun ht1 => ?_)
    refine gf_X9_150 F ht1 dX9_seen_28 (fun ht2 => ?_)
    refine z_letr ht2 (fun r3 ht4 => ?_)
    refine z_astore_n (lv' := [(3, .ref r3), (0, .ref a), (1, .int l1_24), (2, .int l2_24)]) F rfl (by decide) dX9_seen_31 rfl ?_
    refine z_aload_n F 0 rfl rfl dX9_seen_32 ?_
    refine gf_X9_164 F ht4 dX9_seen_33 ?_
    refine z_if_eq (tgt := 50) F dX9_seen_36 (by decide) (fun c5 => ?_) (fun c5 => ?_)
    · refine z_bipush (v := (-12)) F (by decide) dX9_seen_50 ?_
      exact z_ireturn F rfl rfl rfl rfl (fun h => h) dX9_seen_52
    · refine z_aload_n F 0 rfl rfl dX9_seen_39 ?_
      refine gf_X9_184 F ht4 dX9_seen_40 (fun ht6 => ?_)
      refine z_iload_n F 2 rfl rfl dX9_seen_43 ?_
      refine z_iald F ht6 dX9_seen_44 ?_
      refine z_bipush (v := (-4)) F (by decide) dX9_seen_45 ?_
      refine z_icmp_ne (tgt := 53) F dX9_seen_47 (by decide) (fun c7 => ?_) (fun c7 => ?_)
      · refine z_bipush (v := (-12)) F (by decide) dX9_seen_50 ?_
        exact z_ireturn F rfl rfl rfl rfl (fun h => h) dX9_seen_52
      · refine z_aload_n F 0 rfl rfl dX9_seen_53 ?_
        refine gf_X9_191 F ht4 dX9_seen_54 (fun ht8 => ?_)
        refine z_iload_n F 2 rfl rfl dX9_seen_57 ?_
        refine z_iald F ht8 dX9_seen_58 ?_
        refine z_leti (fun v9 => ?_)
        refine z_istore (lv' := [(4, .int v9), (3, .ref r3), (0, .ref a), (1, .int l1_24), (2, .int l2_24)]) F (by decide) dX9_seen_59 rfl ?_
        refine z_aload_n F 1 rfl rfl dX9_seen_61 ?_
        refine gf_X9_191 F ht4 dX9_seen_62 (fun ht10 => ?_)
        refine z_iload_n F 3 rfl rfl dX9_seen_65 ?_
        refine z_iload_n F 4 rfl rfl dX9_seen_66 ?_
        refine z_iast F ht10 dX9_seen_67 ?_
        refine z_letg (fun g11 => ?_)
        refine z_iload F 0 rfl dX9_seen_68 ?_
        exact z_ireturn F rfl rfl rfl rfl (fun h => h) dX9_seen_70
  unfold f_X9_seen
  refine z_aload_n F 0 rfl rfl dX9_seen_0 ?_
  refine z_iload_n F 1 rfl rfl dX9_seen_1 ?_
  refine k_X9_isColumn F (by rw [hR]; exact ⟨by decide, by decide⟩) q_593 hta ⟨Nat.zero_le _, Nat.zero_le _⟩ (Nat.le_of_ble_eq_true rfl) dX9_seen_2 (fun v12 g13 => ?_)
  refine z_if_eq (tgt := 21) F dX9_seen_5 (by decide) (fun c14 => ?_) (fun c14 => ?_)
  · refine z_bipush (v := (-10)) F (by decide) dX9_seen_21 ?_
    exact z_ireturn F rfl rfl rfl rfl (fun h => h) dX9_seen_23
  · refine z_iload_n F 2 rfl rfl dX9_seen_8 ?_
    refine z_bipush (v := (-4)) F (by decide) dX9_seen_9 ?_
    refine z_icmp_eq (tgt := 24) F dX9_seen_11 (by decide) (fun c15 => ?_) (fun c15 => ?_)
    · exact hj_X9_seen_24 x1 x2 g13
    · refine z_iload_n F 2 rfl rfl dX9_seen_14 ?_
      refine k_X9_isLetter F (by rw [hR]; exact ⟨by decide, by decide⟩) q_613  ⟨Nat.zero_le _, Nat.zero_le _⟩ (Nat.le_of_ble_eq_true rfl) dX9_seen_15 (fun v16 g17 => ?_)
      refine z_if_ne (tgt := 24) F dX9_seen_18 (by decide) (fun c18 => ?_) (fun c18 => ?_)
      · refine z_bipush (v := (-10)) F (by decide) dX9_seen_21 ?_
        exact z_ireturn F rfl rfl rfl rfl (fun h => h) dX9_seen_23
      · exact hj_X9_seen_24 x1 x2 g17
theorem k_X9_seen {ρ : Type} {K : ρ → Prop} {E : zE} {D : zD} {A : Nat → Prop} {Q : State → Prop} {nL : Nat} {κ : zC} {g : zG} {pc : Nat} {lv : List (Nat × Value)} {st : List Value} {cc : ByteArray} {own : String} {ret : Option FieldType} (F : zF E D A cc own nL ret) {index : Nat} {h : Int32 → zG → Option ρ} {a : Nat} {x1 : Int32} {x2 : Int32}  (hR : 1 + 1 ≤ E.2.2.2.1.frames ∧ 8 + (5 + 11) + 21 ≤ E.2.2.2.1.locals) (hl : zTbl (.methodLink own index yX9_seen)) (hta : κ.2.1 a = some (.inr 9)) (hc : κ.2.2.1 ≤ E.2.2.2.1.cells ∧ κ.2.2.2 ≤ E.2.2.2.1.slots) (hW : (st.map fun v => v.category).sum ≤ 8) (hd : decode cc pc = .ok (.invokevirtual index, 3)) (kk : ∀ r g', zSim K (h r g') (zAt E D A Q nL κ g' (pc + 3) lv (.int r :: st))) : zSim K (zb (f_X9_seen a x1 x2 g) h) (zAt E D A Q nL κ g pc lv (.int x2 :: .int x1 :: .ref a :: st)) :=
  z_callV F (n := 2) (As := [.int x1, .int x2]) (C := (RX9, TX9, 11)) ⟨q_707, q_1, by decide +kernel, rfl, rfl, hR.1, hR.2⟩ (c_X9_seen E.2.1 D κ.1 κ.2.1 g a x1 x2 hta) hl q_705 q_706 hta rfl rfl rfl hc hW hd kk _ rfl
theorem dX9_page_0 : decode cX9_page 0 = .ok (.aload_n 0, 1) := by decide +kernel
theorem dX9_page_1 : decode cX9_page 1 = .ok (.iload_n 1, 1) := by decide +kernel
theorem dX9_page_2 : decode cX9_page 2 = .ok (.invokevirtual 105, 3) := by decide +kernel
theorem dX9_page_5 : decode cX9_page 5 = .ok (.ifCond .eq 20, 3) := by decide +kernel
theorem dX9_page_8 : decode cX9_page 8 = .ok (.aload_n 0, 1) := by decide +kernel
theorem dX9_page_9 : decode cX9_page 9 = .ok (.iload_n 2, 1) := by decide +kernel
theorem dX9_page_10 : decode cX9_page 10 = .ok (.invokevirtual 125, 3) := by decide +kernel
theorem dX9_page_13 : decode cX9_page 13 = .ok (.ifCond .eq 12, 3) := by decide +kernel
theorem dX9_page_16 : decode cX9_page 16 = .ok (.iload_n 3, 1) := by decide +kernel
theorem dX9_page_17 : decode cX9_page 17 = .ok (.ifCond .eq 10, 3) := by decide +kernel
theorem dX9_page_20 : decode cX9_page 20 = .ok (.iload_n 3, 1) := by decide +kernel
theorem dX9_page_21 : decode cX9_page 21 = .ok (.iconst 1, 1) := by decide +kernel
theorem dX9_page_22 : decode cX9_page 22 = .ok (.if_icmp .eq 5, 3) := by decide +kernel
theorem dX9_page_25 : decode cX9_page 25 = .ok (.iconst (-1), 1) := by decide +kernel
theorem dX9_page_26 : decode cX9_page 26 = .ok (.ireturn, 1) := by decide +kernel
theorem dX9_page_27 : decode cX9_page 27 = .ok (.iload_n 1, 1) := by decide +kernel
theorem dX9_page_28 : decode cX9_page 28 = .ok (.bipush 40, 2) := by decide +kernel
theorem dX9_page_30 : decode cX9_page 30 = .ok (.imul, 1) := by decide +kernel
theorem dX9_page_31 : decode cX9_page 31 = .ok (.iload_n 2, 1) := by decide +kernel
theorem dX9_page_32 : decode cX9_page 32 = .ok (.iadd, 1) := by decide +kernel
theorem dX9_page_33 : decode cX9_page 33 = .ok (.istore 4, 2) := by decide +kernel
theorem dX9_page_35 : decode cX9_page 35 = .ok (.iload_n 3, 1) := by decide +kernel
theorem dX9_page_36 : decode cX9_page 36 = .ok (.ifCond .ne 16, 3) := by decide +kernel
theorem dX9_page_39 : decode cX9_page 39 = .ok (.aload_n 0, 1) := by decide +kernel
theorem dX9_page_40 : decode cX9_page 40 = .ok (.getfield 29, 3) := by decide +kernel
theorem dX9_page_43 : decode cX9_page 43 = .ok (.getfield 214, 3) := by decide +kernel
theorem dX9_page_46 : decode cX9_page 46 = .ok (.iload 4, 2) := by decide +kernel
theorem dX9_page_48 : decode cX9_page 48 = .ok (.iaload, 1) := by decide +kernel
theorem dX9_page_49 : decode cX9_page 49 = .ok (.goto 13, 3) := by decide +kernel
theorem dX9_page_52 : decode cX9_page 52 = .ok (.aload_n 0, 1) := by decide +kernel
theorem dX9_page_53 : decode cX9_page 53 = .ok (.getfield 29, 3) := by decide +kernel
theorem dX9_page_56 : decode cX9_page 56 = .ok (.getfield 215, 3) := by decide +kernel
theorem dX9_page_59 : decode cX9_page 59 = .ok (.iload 4, 2) := by decide +kernel
theorem dX9_page_61 : decode cX9_page 61 = .ok (.iaload, 1) := by decide +kernel
theorem dX9_page_62 : decode cX9_page 62 = .ok (.ireturn, 1) := by decide +kernel
def j_X9_page_27 (a : Nat) (l1 : Int32) (l2 : Int32) (l3 : Int32) (g : zG) : Option (Int32 × zG) :=
  zl ((l1 * 40) + l2) (fun v1 => if l3 = 0 then (zc (zin v1 2400) (some ((g.1 (g.2.1 (g.2.1 a 3) 0) v1.toNatClampNeg, g)))) else (zc (zin v1 2400) (some ((g.1 (g.2.1 (g.2.1 a 3) 1) v1.toNatClampNeg, g)))))
def f_X9_page (a : Nat) (x1 : Int32) (x2 : Int32) (x3 : Int32) (g : zG) : Option (Int32 × zG) :=
  zb (f_X9_isRow a x1 g) (fun v7 g8 => if v7 = 0 then (some (((-1), g8))) else (zb (f_X9_isColumn a x2 g8) (fun v10 g11 => if v10 = 0 then (some (((-1), g11))) else (if x3 = 0 then (j_X9_page_27 a x1 x2 x3 g11) else (if x3 = 1 then (j_X9_page_27 a x1 x2 x3 g11) else (some (((-1), g11))))))))
abbrev rm_X9_page : Room := { frames := 1, cells := 0, slots := 0, locals := 21 }
set_option maxRecDepth 100000 in
set_option maxHeartbeats 4000000 in
theorem c_X9_page (l : Launch) (D : zD) (sz : Nat) (τ : zT) (g : zG) (a : Nat) (x1 : Int32) (x2 : Int32) (x3 : Int32) (hta : τ a = some (.inr 9)) : zCon l D yX9_page cX9_page 5 (some .int) rm_X9_page 0 0 zrI [.ref a, .int x1, .int x2, .int x3] sz τ g τ (f_X9_page a x1 x2 x3 g) := by
  refine zCon.of (by decide) (Nat.le_of_ble_eq_true rfl) (fun E r g' hl hR hsz hnm F => ?_)
  have F : zF E D (zA τ sz) cX9_page "TypeChain" 5 (some .int) := F
  show zSim (fun q : Int32 × zG => q = (r, g')) (f_X9_page a x1 x2 x3 g) (zAt E D (zA τ sz) (zQ E D zrI 0 0 sz τ τ r g') 5 (sz, τ, 0, 0) g 0 [(0, .ref a), (1, .int x1), (2, .int x2), (3, .int x3)] [])
  have hj_X9_page_27 : ∀ (l1_27 : Int32) (l2_27 : Int32) (l3_27 : Int32) (g_27 : zG), zSim (fun q : Int32 × zG => q = (r, g')) (j_X9_page_27 a l1_27 l2_27 l3_27 g_27) (zAt E D (zA τ sz) (zQ E D zrI 0 0 sz τ τ r g') 5 (sz, τ, 0, 0) g_27 27 [(0, .ref a), (1, .int l1_27), (2, .int l2_27), (3, .int l3_27)] []) := by
    intro l1_27 l2_27 l3_27 g_27
    unfold j_X9_page_27
    refine z_iload_n F 1 rfl rfl dX9_page_27 ?_
    refine z_bipush (v := 40) F (by decide) dX9_page_28 ?_
    refine z_imul F dX9_page_30 ?_
    refine z_iload_n F 2 rfl rfl dX9_page_31 ?_
    refine z_iadd F dX9_page_32 ?_
    refine z_leti (fun v1 => ?_)
    refine z_istore (lv' := [(4, .int v1), (0, .ref a), (1, .int l1_27), (2, .int l2_27), (3, .int l3_27)]) F (by decide) dX9_page_33 rfl ?_
    refine z_iload_n F 4 rfl rfl dX9_page_35 ?_
    refine z_if_ne (tgt := 52) F dX9_page_36 (by decide) (fun c2 => ?_) (fun c2 => ?_)
    · refine z_aload_n F 1 rfl rfl dX9_page_39 ?_
      refine gf_X9_29 F hta dX9_page_40 (fun ht3 => ?_)
      refine gf_X9_214 F ht3 dX9_page_43 (fun ht4 => ?_)
      refine z_iload F 0 rfl dX9_page_46 ?_
      refine z_iald F ht4 dX9_page_48 ?_
      refine z_goto (tgt := 62) F dX9_page_49 (by decide) ?_
      exact z_ireturn F rfl rfl rfl rfl (fun h => h) dX9_page_62
    · refine z_aload_n F 1 rfl rfl dX9_page_52 ?_
      refine gf_X9_29 F hta dX9_page_53 (fun ht5 => ?_)
      refine gf_X9_215 F ht5 dX9_page_56 (fun ht6 => ?_)
      refine z_iload F 0 rfl dX9_page_59 ?_
      refine z_iald F ht6 dX9_page_61 ?_
      exact z_ireturn F rfl rfl rfl rfl (fun h => h) dX9_page_62
  unfold f_X9_page
  refine z_aload_n F 0 rfl rfl dX9_page_0 ?_
  refine z_iload_n F 1 rfl rfl dX9_page_1 ?_
  refine k_X9_isRow F (by rw [hR]; exact ⟨by decide, by decide⟩) q_577 hta ⟨Nat.zero_le _, Nat.zero_le _⟩ (Nat.le_of_ble_eq_true rfl) dX9_page_2 (fun v7 g8 => ?_)
  refine z_if_eq (tgt := 25) F dX9_page_5 (by decide) (fun c9 => ?_) (fun c9 => ?_)
  · refine z_iconst (v := (-1)) F (by decide) dX9_page_25 ?_
    exact z_ireturn F rfl rfl rfl rfl (fun h => h) dX9_page_26
  · refine z_aload_n F 0 rfl rfl dX9_page_8 ?_
    refine z_iload_n F 2 rfl rfl dX9_page_9 ?_
    refine k_X9_isColumn F (by rw [hR]; exact ⟨by decide, by decide⟩) q_593 hta ⟨Nat.zero_le _, Nat.zero_le _⟩ (Nat.le_of_ble_eq_true rfl) dX9_page_10 (fun v10 g11 => ?_)
    refine z_if_eq (tgt := 25) F dX9_page_13 (by decide) (fun c12 => ?_) (fun c12 => ?_)
    · refine z_iconst (v := (-1)) F (by decide) dX9_page_25 ?_
      exact z_ireturn F rfl rfl rfl rfl (fun h => h) dX9_page_26
    · refine z_iload_n F 3 rfl rfl dX9_page_16 ?_
      refine z_if_eq (tgt := 27) F dX9_page_17 (by decide) (fun c13 => ?_) (fun c13 => ?_)
      · exact hj_X9_page_27 x1 x2 x3 g11
      · refine z_iload_n F 3 rfl rfl dX9_page_20 ?_
        refine z_iconst (v := 1) F (by decide) dX9_page_21 ?_
        refine z_icmp_eq (tgt := 27) F dX9_page_22 (by decide) (fun c14 => ?_) (fun c14 => ?_)
        · exact hj_X9_page_27 x1 x2 x3 g11
        · refine z_iconst (v := (-1)) F (by decide) dX9_page_25 ?_
          exact z_ireturn F rfl rfl rfl rfl (fun h => h) dX9_page_26
theorem k_X9_page {ρ : Type} {K : ρ → Prop} {E : zE} {D : zD} {A : Nat → Prop} {Q : State → Prop} {nL : Nat} {κ : zC} {g : zG} {pc : Nat} {lv : List (Nat × Value)} {st : List Value} {cc : ByteArray} {own : String} {ret : Option FieldType} (F : zF E D A cc own nL ret) {index : Nat} {h : Int32 → zG → Option ρ} {a : Nat} {x1 : Int32} {x2 : Int32} {x3 : Int32}  (hR : 1 + 1 ≤ E.2.2.2.1.frames ∧ 8 + (5 + 11) + 21 ≤ E.2.2.2.1.locals) (hl : zTbl (.methodLink own index yX9_page)) (hta : κ.2.1 a = some (.inr 9)) (hc : κ.2.2.1 ≤ E.2.2.2.1.cells ∧ κ.2.2.2 ≤ E.2.2.2.1.slots) (hW : (st.map fun v => v.category).sum ≤ 8) (hd : decode cc pc = .ok (.invokevirtual index, 3)) (kk : ∀ r g', zSim K (h r g') (zAt E D A Q nL κ g' (pc + 3) lv (.int r :: st))) : zSim K (zb (f_X9_page a x1 x2 x3 g) h) (zAt E D A Q nL κ g pc lv (.int x3 :: .int x2 :: .int x1 :: .ref a :: st)) :=
  z_callV F (n := 3) (As := [.int x1, .int x2, .int x3]) (C := (RX9, TX9, 11)) ⟨q_749, q_1, by decide +kernel, rfl, rfl, hR.1, hR.2⟩ (c_X9_page E.2.1 D κ.1 κ.2.1 g a x1 x2 x3 hta) hl q_747 q_748 hta rfl rfl rfl hc hW hd kk _ rfl
theorem dX9_sheet_0 : decode cX9_sheet 0 = .ok (.iload_n 1, 1) := by decide +kernel
theorem dX9_sheet_1 : decode cX9_sheet 1 = .ok (.invokestatic 260, 3) := by decide +kernel
theorem dX9_sheet_4 : decode cX9_sheet 4 = .ok (.ifCond .eq 16, 3) := by decide +kernel
theorem dX9_sheet_7 : decode cX9_sheet 7 = .ok (.iload_n 2, 1) := by decide +kernel
theorem dX9_sheet_8 : decode cX9_sheet 8 = .ok (.invokestatic 263, 3) := by decide +kernel
theorem dX9_sheet_11 : decode cX9_sheet 11 = .ok (.ifCond .eq 9, 3) := by decide +kernel
theorem dX9_sheet_14 : decode cX9_sheet 14 = .ok (.iload_n 3, 1) := by decide +kernel
theorem dX9_sheet_15 : decode cX9_sheet 15 = .ok (.bipush 40, 2) := by decide +kernel
theorem dX9_sheet_17 : decode cX9_sheet 17 = .ok (.if_icmp .le 5, 3) := by decide +kernel
theorem dX9_sheet_20 : decode cX9_sheet 20 = .ok (.iconst (-1), 1) := by decide +kernel
theorem dX9_sheet_21 : decode cX9_sheet 21 = .ok (.ireturn, 1) := by decide +kernel
theorem dX9_sheet_22 : decode cX9_sheet 22 = .ok (.iload_n 3, 1) := by decide +kernel
theorem dX9_sheet_23 : decode cX9_sheet 23 = .ok (.ifCond .ge 6, 3) := by decide +kernel
theorem dX9_sheet_26 : decode cX9_sheet 26 = .ok (.bipush (-14), 2) := by decide +kernel
theorem dX9_sheet_28 : decode cX9_sheet 28 = .ok (.ireturn, 1) := by decide +kernel
theorem dX9_sheet_29 : decode cX9_sheet 29 = .ok (.aload_n 0, 1) := by decide +kernel
theorem dX9_sheet_30 : decode cX9_sheet 30 = .ok (.getfield 58, 3) := by decide +kernel
theorem dX9_sheet_33 : decode cX9_sheet 33 = .ok (.iload_n 1, 1) := by decide +kernel
theorem dX9_sheet_34 : decode cX9_sheet 34 = .ok (.iload_n 2, 1) := by decide +kernel
theorem dX9_sheet_35 : decode cX9_sheet 35 = .ok (.iload_n 3, 1) := by decide +kernel
theorem dX9_sheet_36 : decode cX9_sheet 36 = .ok (.invokevirtual 266, 3) := by decide +kernel
theorem dX9_sheet_39 : decode cX9_sheet 39 = .ok (.iconst 1, 1) := by decide +kernel
theorem dX9_sheet_40 : decode cX9_sheet 40 = .ok (.ireturn, 1) := by decide +kernel
def f_X9_sheet (a : Nat) (x1 : Int32) (x2 : Int32) (x3 : Int32) (g : zG) : Option (Int32 × zG) :=
  zb (f_X9_isSheet x1 g) (fun v1 g2 => if v1 = 0 then (some (((-1), g2))) else (zb (f_X9_isLane x2 g2) (fun v4 g5 => if v4 = 0 then (some (((-1), g5))) else (if x3 ≤ 40 then (if 0 ≤ x3 then (zb (f_X6_renew (g5.2.1 a 6) x1 x2 x3 g5) (fun v10 g11 => some ((1, g11)))) else (some (((-14), g5)))) else (some (((-1), g5)))))))
abbrev rm_X9_sheet : Room := { frames := 1, cells := 0, slots := 0, locals := 24 }
set_option maxRecDepth 100000 in
set_option maxHeartbeats 4000000 in
theorem c_X9_sheet (l : Launch) (D : zD) (sz : Nat) (τ : zT) (g : zG) (a : Nat) (x1 : Int32) (x2 : Int32) (x3 : Int32) (hta : τ a = some (.inr 9)) : zCon l D yX9_sheet cX9_sheet 4 (some .int) rm_X9_sheet 0 0 zrI [.ref a, .int x1, .int x2, .int x3] sz τ g τ (f_X9_sheet a x1 x2 x3 g) := by
  refine zCon.of (by decide) (Nat.le_of_ble_eq_true rfl) (fun E r g' hl hR hsz hnm F => ?_)
  have F : zF E D (zA τ sz) cX9_sheet "TypeChain" 4 (some .int) := F
  show zSim (fun q : Int32 × zG => q = (r, g')) (f_X9_sheet a x1 x2 x3 g) (zAt E D (zA τ sz) (zQ E D zrI 0 0 sz τ τ r g') 4 (sz, τ, 0, 0) g 0 [(0, .ref a), (1, .int x1), (2, .int x2), (3, .int x3)] [])
  unfold f_X9_sheet
  refine z_iload_n F 1 rfl rfl dX9_sheet_0 ?_
  refine k_X9_isSheet F (by rw [hR]; exact ⟨by decide, by decide⟩) q_821  ⟨Nat.zero_le _, Nat.zero_le _⟩ (Nat.le_of_ble_eq_true rfl) dX9_sheet_1 (fun v1 g2 => ?_)
  refine z_if_eq (tgt := 20) F dX9_sheet_4 (by decide) (fun c3 => ?_) (fun c3 => ?_)
  · refine z_iconst (v := (-1)) F (by decide) dX9_sheet_20 ?_
    exact z_ireturn F rfl rfl rfl rfl (fun h => h) dX9_sheet_21
  · refine z_iload_n F 2 rfl rfl dX9_sheet_7 ?_
    refine k_X9_isLane F (by rw [hR]; exact ⟨by decide, by decide⟩) q_824  ⟨Nat.zero_le _, Nat.zero_le _⟩ (Nat.le_of_ble_eq_true rfl) dX9_sheet_8 (fun v4 g5 => ?_)
    refine z_if_eq (tgt := 20) F dX9_sheet_11 (by decide) (fun c6 => ?_) (fun c6 => ?_)
    · refine z_iconst (v := (-1)) F (by decide) dX9_sheet_20 ?_
      exact z_ireturn F rfl rfl rfl rfl (fun h => h) dX9_sheet_21
    · refine z_iload_n F 3 rfl rfl dX9_sheet_14 ?_
      refine z_bipush (v := 40) F (by decide) dX9_sheet_15 ?_
      refine z_icmp_le (tgt := 22) F dX9_sheet_17 (by decide) (fun c7 => ?_) (fun c7 => ?_)
      · refine z_iload_n F 3 rfl rfl dX9_sheet_22 ?_
        refine z_if_ge (tgt := 29) F dX9_sheet_23 (by decide) (fun c8 => ?_) (fun c8 => ?_)
        · refine z_aload_n F 0 rfl rfl dX9_sheet_29 ?_
          refine gf_X9_58 F hta dX9_sheet_30 (fun ht9 => ?_)
          refine z_iload_n F 1 rfl rfl dX9_sheet_33 ?_
          refine z_iload_n F 2 rfl rfl dX9_sheet_34 ?_
          refine z_iload_n F 3 rfl rfl dX9_sheet_35 ?_
          refine k_X6_renew F (by rw [hR]; exact ⟨by decide, by decide⟩) q_827 ht9 ⟨Nat.zero_le _, Nat.zero_le _⟩ (Nat.le_of_ble_eq_true rfl) dX9_sheet_36 (fun v10 g11 => ?_)
          refine z_iconst (v := 1) F (by decide) dX9_sheet_39 ?_
          exact z_ireturn F rfl rfl rfl rfl (fun h => h) dX9_sheet_40
        · refine z_bipush (v := (-14)) F (by decide) dX9_sheet_26 ?_
          exact z_ireturn F rfl rfl rfl rfl (fun h => h) dX9_sheet_28
      · refine z_iconst (v := (-1)) F (by decide) dX9_sheet_20 ?_
        exact z_ireturn F rfl rfl rfl rfl (fun h => h) dX9_sheet_21
theorem k_X9_sheet {ρ : Type} {K : ρ → Prop} {E : zE} {D : zD} {A : Nat → Prop} {Q : State → Prop} {nL : Nat} {κ : zC} {g : zG} {pc : Nat} {lv : List (Nat × Value)} {st : List Value} {cc : ByteArray} {own : String} {ret : Option FieldType} (F : zF E D A cc own nL ret) {index : Nat} {h : Int32 → zG → Option ρ} {a : Nat} {x1 : Int32} {x2 : Int32} {x3 : Int32}  (hR : 1 + 1 ≤ E.2.2.2.1.frames ∧ 8 + (4 + 11) + 24 ≤ E.2.2.2.1.locals) (hl : zTbl (.methodLink own index yX9_sheet)) (hta : κ.2.1 a = some (.inr 9)) (hc : κ.2.2.1 ≤ E.2.2.2.1.cells ∧ κ.2.2.2 ≤ E.2.2.2.1.slots) (hW : (st.map fun v => v.category).sum ≤ 8) (hd : decode cc pc = .ok (.invokevirtual index, 3)) (kk : ∀ r g', zSim K (h r g') (zAt E D A Q nL κ g' (pc + 3) lv (.int r :: st))) : zSim K (zb (f_X9_sheet a x1 x2 x3 g) h) (zAt E D A Q nL κ g pc lv (.int x3 :: .int x2 :: .int x1 :: .ref a :: st)) :=
  z_callV F (n := 3) (As := [.int x1, .int x2, .int x3]) (C := (RX9, TX9, 11)) ⟨q_820, q_1, by decide +kernel, rfl, rfl, hR.1, hR.2⟩ (c_X9_sheet E.2.1 D κ.1 κ.2.1 g a x1 x2 x3 hta) hl q_818 q_819 hta rfl rfl rfl hc hW hd kk _ rfl
theorem dX9_lay_0 : decode cX9_lay 0 = .ok (.iload_n 1, 1) := by decide +kernel
theorem dX9_lay_1 : decode cX9_lay 1 = .ok (.invokestatic 260, 3) := by decide +kernel
theorem dX9_lay_4 : decode cX9_lay 4 = .ok (.ifCond .ne 5, 3) := by decide +kernel
theorem dX9_lay_7 : decode cX9_lay 7 = .ok (.iconst (-1), 1) := by decide +kernel
theorem dX9_lay_8 : decode cX9_lay 8 = .ok (.ireturn, 1) := by decide +kernel
theorem dX9_lay_9 : decode cX9_lay 9 = .ok (.aload_n 0, 1) := by decide +kernel
theorem dX9_lay_10 : decode cX9_lay 10 = .ok (.getfield 58, 3) := by decide +kernel
theorem dX9_lay_13 : decode cX9_lay 13 = .ok (.iload_n 1, 1) := by decide +kernel
theorem dX9_lay_14 : decode cX9_lay 14 = .ok (.invokevirtual 270, 3) := by decide +kernel
theorem dX9_lay_17 : decode cX9_lay 17 = .ok (.ifCond .eq 6, 3) := by decide +kernel
theorem dX9_lay_20 : decode cX9_lay 20 = .ok (.bipush (-11), 2) := by decide +kernel
theorem dX9_lay_22 : decode cX9_lay 22 = .ok (.ireturn, 1) := by decide +kernel
theorem dX9_lay_23 : decode cX9_lay 23 = .ok (.aload_n 0, 1) := by decide +kernel
theorem dX9_lay_24 : decode cX9_lay 24 = .ok (.getfield 58, 3) := by decide +kernel
theorem dX9_lay_27 : decode cX9_lay 27 = .ok (.iload_n 1, 1) := by decide +kernel
theorem dX9_lay_28 : decode cX9_lay 28 = .ok (.iload_n 2, 1) := by decide +kernel
theorem dX9_lay_29 : decode cX9_lay 29 = .ok (.invokevirtual 273, 3) := by decide +kernel
theorem dX9_lay_32 : decode cX9_lay 32 = .ok (.ifCond .ne 6, 3) := by decide +kernel
theorem dX9_lay_35 : decode cX9_lay 35 = .ok (.bipush (-12), 2) := by decide +kernel
theorem dX9_lay_37 : decode cX9_lay 37 = .ok (.ireturn, 1) := by decide +kernel
theorem dX9_lay_38 : decode cX9_lay 38 = .ok (.aload_n 0, 1) := by decide +kernel
theorem dX9_lay_39 : decode cX9_lay 39 = .ok (.getfield 58, 3) := by decide +kernel
theorem dX9_lay_42 : decode cX9_lay 42 = .ok (.iload_n 1, 1) := by decide +kernel
theorem dX9_lay_43 : decode cX9_lay 43 = .ok (.iload_n 2, 1) := by decide +kernel
theorem dX9_lay_44 : decode cX9_lay 44 = .ok (.iload_n 3, 1) := by decide +kernel
theorem dX9_lay_45 : decode cX9_lay 45 = .ok (.invokevirtual 277, 3) := by decide +kernel
theorem dX9_lay_48 : decode cX9_lay 48 = .ok (.iconst 1, 1) := by decide +kernel
theorem dX9_lay_49 : decode cX9_lay 49 = .ok (.ireturn, 1) := by decide +kernel
def f_X9_lay (a : Nat) (x1 : Int32) (x2 : Int32) (x3 : Int32) (g : zG) : Option (Int32 × zG) :=
  zb (f_X9_isSheet x1 g) (fun v1 g2 => if v1 = 0 then (some (((-1), g2))) else (zb (f_X6_isNothing (g2.2.1 a 6) x1 g2) (fun v5 g6 => if v5 = 0 then (zb (f_X6_hasCell (g6.2.1 a 6) x1 x2 g6) (fun v9 g10 => if v9 = 0 then (some (((-12), g10))) else (zb (f_X6_write (g10.2.1 a 6) x1 x2 x3 g10) (fun v13 g14 => some ((1, g14)))))) else (some (((-11), g6))))))
abbrev rm_X9_lay : Room := { frames := 1, cells := 0, slots := 0, locals := 24 }
set_option maxRecDepth 100000 in
set_option maxHeartbeats 4000000 in
theorem c_X9_lay (l : Launch) (D : zD) (sz : Nat) (τ : zT) (g : zG) (a : Nat) (x1 : Int32) (x2 : Int32) (x3 : Int32) (hta : τ a = some (.inr 9)) : zCon l D yX9_lay cX9_lay 4 (some .int) rm_X9_lay 0 0 zrI [.ref a, .int x1, .int x2, .int x3] sz τ g τ (f_X9_lay a x1 x2 x3 g) := by
  refine zCon.of (by decide) (Nat.le_of_ble_eq_true rfl) (fun E r g' hl hR hsz hnm F => ?_)
  have F : zF E D (zA τ sz) cX9_lay "TypeChain" 4 (some .int) := F
  show zSim (fun q : Int32 × zG => q = (r, g')) (f_X9_lay a x1 x2 x3 g) (zAt E D (zA τ sz) (zQ E D zrI 0 0 sz τ τ r g') 4 (sz, τ, 0, 0) g 0 [(0, .ref a), (1, .int x1), (2, .int x2), (3, .int x3)] [])
  unfold f_X9_lay
  refine z_iload_n F 1 rfl rfl dX9_lay_0 ?_
  refine k_X9_isSheet F (by rw [hR]; exact ⟨by decide, by decide⟩) q_821  ⟨Nat.zero_le _, Nat.zero_le _⟩ (Nat.le_of_ble_eq_true rfl) dX9_lay_1 (fun v1 g2 => ?_)
  refine z_if_ne (tgt := 9) F dX9_lay_4 (by decide) (fun c3 => ?_) (fun c3 => ?_)
  · refine z_iconst (v := (-1)) F (by decide) dX9_lay_7 ?_
    exact z_ireturn F rfl rfl rfl rfl (fun h => h) dX9_lay_8
  · refine z_aload_n F 0 rfl rfl dX9_lay_9 ?_
    refine gf_X9_58 F hta dX9_lay_10 (fun ht4 => ?_)
    refine z_iload_n F 1 rfl rfl dX9_lay_13 ?_
    refine k_X6_isNothing F (by rw [hR]; exact ⟨by decide, by decide⟩) q_835 ht4 ⟨Nat.zero_le _, Nat.zero_le _⟩ (Nat.le_of_ble_eq_true rfl) dX9_lay_14 (fun v5 g6 => ?_)
    refine z_if_eq (tgt := 23) F dX9_lay_17 (by decide) (fun c7 => ?_) (fun c7 => ?_)
    · refine z_aload_n F 0 rfl rfl dX9_lay_23 ?_
      refine gf_X9_58 F hta dX9_lay_24 (fun ht8 => ?_)
      refine z_iload_n F 1 rfl rfl dX9_lay_27 ?_
      refine z_iload_n F 2 rfl rfl dX9_lay_28 ?_
      refine k_X6_hasCell F (by rw [hR]; exact ⟨by decide, by decide⟩) q_839 ht8 ⟨Nat.zero_le _, Nat.zero_le _⟩ (Nat.le_of_ble_eq_true rfl) dX9_lay_29 (fun v9 g10 => ?_)
      refine z_if_ne (tgt := 38) F dX9_lay_32 (by decide) (fun c11 => ?_) (fun c11 => ?_)
      · refine z_bipush (v := (-12)) F (by decide) dX9_lay_35 ?_
        exact z_ireturn F rfl rfl rfl rfl (fun h => h) dX9_lay_37
      · refine z_aload_n F 0 rfl rfl dX9_lay_38 ?_
        refine gf_X9_58 F hta dX9_lay_39 (fun ht12 => ?_)
        refine z_iload_n F 1 rfl rfl dX9_lay_42 ?_
        refine z_iload_n F 2 rfl rfl dX9_lay_43 ?_
        refine z_iload_n F 3 rfl rfl dX9_lay_44 ?_
        refine k_X6_write F (by rw [hR]; exact ⟨by decide, by decide⟩) q_843 ht12 ⟨Nat.zero_le _, Nat.zero_le _⟩ (Nat.le_of_ble_eq_true rfl) dX9_lay_45 (fun v13 g14 => ?_)
        refine z_iconst (v := 1) F (by decide) dX9_lay_48 ?_
        exact z_ireturn F rfl rfl rfl rfl (fun h => h) dX9_lay_49
    · refine z_bipush (v := (-11)) F (by decide) dX9_lay_20 ?_
      exact z_ireturn F rfl rfl rfl rfl (fun h => h) dX9_lay_22
theorem k_X9_lay {ρ : Type} {K : ρ → Prop} {E : zE} {D : zD} {A : Nat → Prop} {Q : State → Prop} {nL : Nat} {κ : zC} {g : zG} {pc : Nat} {lv : List (Nat × Value)} {st : List Value} {cc : ByteArray} {own : String} {ret : Option FieldType} (F : zF E D A cc own nL ret) {index : Nat} {h : Int32 → zG → Option ρ} {a : Nat} {x1 : Int32} {x2 : Int32} {x3 : Int32}  (hR : 1 + 1 ≤ E.2.2.2.1.frames ∧ 8 + (4 + 11) + 24 ≤ E.2.2.2.1.locals) (hl : zTbl (.methodLink own index yX9_lay)) (hta : κ.2.1 a = some (.inr 9)) (hc : κ.2.2.1 ≤ E.2.2.2.1.cells ∧ κ.2.2.2 ≤ E.2.2.2.1.slots) (hW : (st.map fun v => v.category).sum ≤ 8) (hd : decode cc pc = .ok (.invokevirtual index, 3)) (kk : ∀ r g', zSim K (h r g') (zAt E D A Q nL κ g' (pc + 3) lv (.int r :: st))) : zSim K (zb (f_X9_lay a x1 x2 x3 g) h) (zAt E D A Q nL κ g pc lv (.int x3 :: .int x2 :: .int x1 :: .ref a :: st)) :=
  z_callV F (n := 3) (As := [.int x1, .int x2, .int x3]) (C := (RX9, TX9, 11)) ⟨q_834, q_1, by decide +kernel, rfl, rfl, hR.1, hR.2⟩ (c_X9_lay E.2.1 D κ.1 κ.2.1 g a x1 x2 x3 hta) hl q_832 q_833 hta rfl rfl rfl hc hW hd kk _ rfl
theorem dX9_read_0 : decode cX9_read 0 = .ok (.iload_n 1, 1) := by decide +kernel
theorem dX9_read_1 : decode cX9_read 1 = .ok (.invokestatic 260, 3) := by decide +kernel
theorem dX9_read_4 : decode cX9_read 4 = .ok (.ifCond .eq 10, 3) := by decide +kernel
theorem dX9_read_7 : decode cX9_read 7 = .ok (.iload_n 2, 1) := by decide +kernel
theorem dX9_read_8 : decode cX9_read 8 = .ok (.invokestatic 263, 3) := by decide +kernel
theorem dX9_read_11 : decode cX9_read 11 = .ok (.ifCond .ne 5, 3) := by decide +kernel
theorem dX9_read_14 : decode cX9_read 14 = .ok (.iconst (-1), 1) := by decide +kernel
theorem dX9_read_15 : decode cX9_read 15 = .ok (.ireturn, 1) := by decide +kernel
theorem dX9_read_16 : decode cX9_read 16 = .ok (.aload_n 0, 1) := by decide +kernel
theorem dX9_read_17 : decode cX9_read 17 = .ok (.getfield 58, 3) := by decide +kernel
theorem dX9_read_20 : decode cX9_read 20 = .ok (.iload_n 1, 1) := by decide +kernel
theorem dX9_read_21 : decode cX9_read 21 = .ok (.invokevirtual 270, 3) := by decide +kernel
theorem dX9_read_24 : decode cX9_read 24 = .ok (.ifCond .eq 6, 3) := by decide +kernel
theorem dX9_read_27 : decode cX9_read 27 = .ok (.bipush (-11), 2) := by decide +kernel
theorem dX9_read_29 : decode cX9_read 29 = .ok (.ireturn, 1) := by decide +kernel
theorem dX9_read_30 : decode cX9_read 30 = .ok (.aload_n 0, 1) := by decide +kernel
theorem dX9_read_31 : decode cX9_read 31 = .ok (.getfield 58, 3) := by decide +kernel
theorem dX9_read_34 : decode cX9_read 34 = .ok (.getfield 280, 3) := by decide +kernel
theorem dX9_read_37 : decode cX9_read 37 = .ok (.iload_n 1, 1) := by decide +kernel
theorem dX9_read_38 : decode cX9_read 38 = .ok (.iaload, 1) := by decide +kernel
theorem dX9_read_39 : decode cX9_read 39 = .ok (.iload_n 2, 1) := by decide +kernel
theorem dX9_read_40 : decode cX9_read 40 = .ok (.if_icmp .eq 6, 3) := by decide +kernel
theorem dX9_read_43 : decode cX9_read 43 = .ok (.bipush (-13), 2) := by decide +kernel
theorem dX9_read_45 : decode cX9_read 45 = .ok (.ireturn, 1) := by decide +kernel
theorem dX9_read_46 : decode cX9_read 46 = .ok (.aload_n 0, 1) := by decide +kernel
theorem dX9_read_47 : decode cX9_read 47 = .ok (.getfield 12, 3) := by decide +kernel
theorem dX9_read_50 : decode cX9_read 50 = .ok (.getfield 98, 3) := by decide +kernel
theorem dX9_read_53 : decode cX9_read 53 = .ok (.iconst 3, 1) := by decide +kernel
theorem dX9_read_54 : decode cX9_read 54 = .ok (.iaload, 1) := by decide +kernel
theorem dX9_read_55 : decode cX9_read 55 = .ok (.istore 4, 2) := by decide +kernel
theorem dX9_read_57 : decode cX9_read 57 = .ok (.iconst 0, 1) := by decide +kernel
theorem dX9_read_58 : decode cX9_read 58 = .ok (.istore 5, 2) := by decide +kernel
theorem dX9_read_60 : decode cX9_read 60 = .ok (.iload 5, 2) := by decide +kernel
theorem dX9_read_62 : decode cX9_read 62 = .ok (.iload 4, 2) := by decide +kernel
theorem dX9_read_64 : decode cX9_read 64 = .ok (.if_icmp .ge 60, 3) := by decide +kernel
theorem dX9_read_67 : decode cX9_read 67 = .ok (.aload_n 0, 1) := by decide +kernel
theorem dX9_read_68 : decode cX9_read 68 = .ok (.getfield 58, 3) := by decide +kernel
theorem dX9_read_71 : decode cX9_read 71 = .ok (.iload_n 1, 1) := by decide +kernel
theorem dX9_read_72 : decode cX9_read 72 = .ok (.iload_n 3, 1) := by decide +kernel
theorem dX9_read_73 : decode cX9_read 73 = .ok (.iload 5, 2) := by decide +kernel
theorem dX9_read_75 : decode cX9_read 75 = .ok (.iadd, 1) := by decide +kernel
theorem dX9_read_76 : decode cX9_read 76 = .ok (.invokevirtual 273, 3) := by decide +kernel
theorem dX9_read_79 : decode cX9_read 79 = .ok (.ifCond .ne 6, 3) := by decide +kernel
theorem dX9_read_82 : decode cX9_read 82 = .ok (.bipush (-12), 2) := by decide +kernel
theorem dX9_read_84 : decode cX9_read 84 = .ok (.ireturn, 1) := by decide +kernel
theorem dX9_read_85 : decode cX9_read 85 = .ok (.aload_n 0, 1) := by decide +kernel
theorem dX9_read_86 : decode cX9_read 86 = .ok (.getfield 58, 3) := by decide +kernel
theorem dX9_read_89 : decode cX9_read 89 = .ok (.iload_n 1, 1) := by decide +kernel
theorem dX9_read_90 : decode cX9_read 90 = .ok (.iload_n 3, 1) := by decide +kernel
theorem dX9_read_91 : decode cX9_read 91 = .ok (.iload 5, 2) := by decide +kernel
theorem dX9_read_93 : decode cX9_read 93 = .ok (.iadd, 1) := by decide +kernel
theorem dX9_read_94 : decode cX9_read 94 = .ok (.invokevirtual 283, 3) := by decide +kernel
theorem dX9_read_97 : decode cX9_read 97 = .ok (.istore 6, 2) := by decide +kernel
theorem dX9_read_99 : decode cX9_read 99 = .ok (.iload 6, 2) := by decide +kernel
theorem dX9_read_101 : decode cX9_read 101 = .ok (.ifCond .eq 17, 3) := by decide +kernel
theorem dX9_read_104 : decode cX9_read 104 = .ok (.iload 6, 2) := by decide +kernel
theorem dX9_read_106 : decode cX9_read 106 = .ok (.invokestatic 134, 3) := by decide +kernel
theorem dX9_read_109 : decode cX9_read 109 = .ok (.ifCond .ne 9, 3) := by decide +kernel
theorem dX9_read_112 : decode cX9_read 112 = .ok (.bipush (-20), 2) := by decide +kernel
theorem dX9_read_114 : decode cX9_read 114 = .ok (.iload 5, 2) := by decide +kernel
theorem dX9_read_116 : decode cX9_read 116 = .ok (.isub, 1) := by decide +kernel
theorem dX9_read_117 : decode cX9_read 117 = .ok (.ireturn, 1) := by decide +kernel
theorem dX9_read_118 : decode cX9_read 118 = .ok (.iinc 5 1, 3) := by decide +kernel
theorem dX9_read_121 : decode cX9_read 121 = .ok (.goto (-61), 3) := by decide +kernel
theorem dX9_read_124 : decode cX9_read 124 = .ok (.iconst 0, 1) := by decide +kernel
theorem dX9_read_125 : decode cX9_read 125 = .ok (.istore 5, 2) := by decide +kernel
theorem dX9_read_127 : decode cX9_read 127 = .ok (.iload 5, 2) := by decide +kernel
theorem dX9_read_129 : decode cX9_read 129 = .ok (.iload 4, 2) := by decide +kernel
theorem dX9_read_131 : decode cX9_read 131 = .ok (.if_icmp .ge 31, 3) := by decide +kernel
theorem dX9_read_134 : decode cX9_read 134 = .ok (.aload_n 0, 1) := by decide +kernel
theorem dX9_read_135 : decode cX9_read 135 = .ok (.getfield 42, 3) := by decide +kernel
theorem dX9_read_138 : decode cX9_read 138 = .ok (.getfield 144, 3) := by decide +kernel
theorem dX9_read_141 : decode cX9_read 141 = .ok (.iload 5, 2) := by decide +kernel
theorem dX9_read_143 : decode cX9_read 143 = .ok (.aload_n 0, 1) := by decide +kernel
theorem dX9_read_144 : decode cX9_read 144 = .ok (.getfield 58, 3) := by decide +kernel
theorem dX9_read_147 : decode cX9_read 147 = .ok (.iload_n 1, 1) := by decide +kernel
theorem dX9_read_148 : decode cX9_read 148 = .ok (.iload_n 3, 1) := by decide +kernel
theorem dX9_read_149 : decode cX9_read 149 = .ok (.iload 5, 2) := by decide +kernel
theorem dX9_read_151 : decode cX9_read 151 = .ok (.iadd, 1) := by decide +kernel
theorem dX9_read_152 : decode cX9_read 152 = .ok (.invokevirtual 283, 3) := by decide +kernel
theorem dX9_read_155 : decode cX9_read 155 = .ok (.iastore, 1) := by decide +kernel
theorem dX9_read_156 : decode cX9_read 156 = .ok (.iinc 5 1, 3) := by decide +kernel
theorem dX9_read_159 : decode cX9_read 159 = .ok (.goto (-32), 3) := by decide +kernel
theorem dX9_read_162 : decode cX9_read 162 = .ok (.aload_n 0, 1) := by decide +kernel
theorem dX9_read_163 : decode cX9_read 163 = .ok (.getfield 42, 3) := by decide +kernel
theorem dX9_read_166 : decode cX9_read 166 = .ok (.invokevirtual 286, 3) := by decide +kernel
theorem dX9_read_169 : decode cX9_read 169 = .ok (.ireturn, 1) := by decide +kernel
def j_X9_read_162 (a : Nat)  (g : zG) : Option (Int32 × zG) :=
  zb (f_X2_lettersInLine (g.2.1 a 4) g) (fun v2 g3 => some ((v2, g3)))
def l_X9_read_127 (a : Nat) (l1 : Int32) (l3 : Int32) (l4 : Int32) (l5 : Int32) (g : zG) : Option ((Int32 × zG) ⊕ (zG)) :=
  if l4 ≤ l5 then (some (.inr g)) else (zb (f_X6_valueOf (g.2.1 a 6) l1 (l3 + l5) g) (fun v8 g9 => zc (zin l5 40) (zl (zsi g9 (g.2.1 (g.2.1 a 4) 0) l5.toNatClampNeg v8) (fun g10 => zl (l5 + 1) (fun v11 => some (.inl (v11, g10)))))))
def j_X9_read_124 (a : Nat) (l1 : Int32) (l3 : Int32) (l4 : Int32) (g : zG) : Option (Int32 × zG) :=
  zk (zw zN (fun s => l_X9_read_127 a l1 l3 l4 s.1 s.2) (0, g)) (fun x => j_X9_read_162 a x)
def l_X9_read_60 (a : Nat) (l1 : Int32) (l3 : Int32) (l4 : Int32) (l5 : Int32) (g : zG) : Option ((Int32 × zG) ⊕ ((zG) ⊕ (Int32 × zG))) :=
  if l4 ≤ l5 then (some (.inr (.inl g))) else (zb (f_X6_hasCell (g.2.1 a 6) l1 (l3 + l5) g) (fun v30 g31 => if v30 = 0 then (some (.inr (.inr ((-12), g31)))) else (zb (f_X6_valueOf (g31.2.1 a 6) l1 (l3 + l5) g31) (fun v34 g35 => if v34 = 0 then (zl (l5 + 1) (fun v37 => some (.inl (v37, g35)))) else (zb (f_X9_isLetter v34 g35) (fun v38 g39 => if v38 = 0 then (some (.inr (.inr ((-20) - l5, g39)))) else (zl (l5 + 1) (fun v41 => some (.inl (v41, g39))))))))))
def f_X9_read (a : Nat) (x1 : Int32) (x2 : Int32) (x3 : Int32) (g : zG) : Option (Int32 × zG) :=
  zb (f_X9_isSheet x1 g) (fun v12 g13 => if v12 = 0 then (some (((-1), g13))) else (zb (f_X9_isLane x2 g13) (fun v15 g16 => if v15 = 0 then (some (((-1), g16))) else (zb (f_X6_isNothing (g16.2.1 a 6) x1 g16) (fun v19 g20 => if v19 = 0 then (zc (zin x1 4) (if (g20.1 (g20.2.1 (g20.2.1 a 6) 0) x1.toNatClampNeg) = x2 then (zc (zin 3 8) (zl (g20.1 (g20.2.1 (g20.2.1 a 0) 2) (3 : Int32).toNatClampNeg) (fun v27 => zk2 (zw zN (fun s => l_X9_read_60 a x1 x3 v27 s.1 s.2) (0, g20)) (fun x => j_X9_read_124 a x1 x3 v27 x)))) else (some (((-13), g20))))) else (some (((-11), g20))))))))
abbrev rm_X9_read : Room := { frames := 1, cells := 0, slots := 0, locals := 22 }
set_option maxRecDepth 100000 in
set_option maxHeartbeats 4000000 in
theorem c_X9_read (l : Launch) (D : zD) (sz : Nat) (τ : zT) (g : zG) (a : Nat) (x1 : Int32) (x2 : Int32) (x3 : Int32) (hta : τ a = some (.inr 9)) : zCon l D yX9_read cX9_read 7 (some .int) rm_X9_read 0 0 zrI [.ref a, .int x1, .int x2, .int x3] sz τ g τ (f_X9_read a x1 x2 x3 g) := by
  refine zCon.of (by decide) (Nat.le_of_ble_eq_true rfl) (fun E r g' hl hR hsz hnm F => ?_)
  have F : zF E D (zA τ sz) cX9_read "TypeChain" 7 (some .int) := F
  show zSim (fun q : Int32 × zG => q = (r, g')) (f_X9_read a x1 x2 x3 g) (zAt E D (zA τ sz) (zQ E D zrI 0 0 sz τ τ r g') 7 (sz, τ, 0, 0) g 0 [(0, .ref a), (1, .int x1), (2, .int x2), (3, .int x3)] [])
  have hj_X9_read_162 : ∀  (g_162 : zG), zSim (fun q : Int32 × zG => q = (r, g')) (j_X9_read_162 a g_162) (zAt E D (zA τ sz) (zQ E D zrI 0 0 sz τ τ r g') 7 (sz, τ, 0, 0) g_162 162 [(0, .ref a)] []) := by
    intro g_162
    unfold j_X9_read_162
    refine z_aload_n F 0 rfl rfl dX9_read_162 ?_
    refine gf_X9_42 F hta dX9_read_163 (fun ht1 => ?_)
    refine k_X2_lettersInLine F (by rw [hR]; exact ⟨by decide, by decide⟩) q_855 ht1 ⟨Nat.zero_le _, Nat.zero_le _⟩ (Nat.le_of_ble_eq_true rfl) dX9_read_166 (fun v2 g3 => ?_)
    exact z_ireturn F rfl rfl rfl rfl (fun h => h) dX9_read_169
  have hj_X9_read_124 : ∀ (l1_124 : Int32) (l3_124 : Int32) (l4_124 : Int32) (g_124 : zG), zSim (fun q : Int32 × zG => q = (r, g')) (j_X9_read_124 a l1_124 l3_124 l4_124 g_124) (zAt E D (zA τ sz) (zQ E D zrI 0 0 sz τ τ r g') 7 (sz, τ, 0, 0) g_124 124 [(0, .ref a), (1, .int l1_124), (3, .int l3_124), (4, .int l4_124)] []) := by
    intro l1_124 l3_124 l4_124 g_124
    unfold j_X9_read_124
    refine z_iconst (v := 0) F (by decide) dX9_read_124 ?_
    refine z_istore (lv' := [(5, .int 0), (0, .ref a), (1, .int l1_124), (3, .int l3_124), (4, .int l4_124)]) F (by decide) dX9_read_125 rfl ?_
    refine z_sub (lv' := [(0, .ref a), (1, .int l1_124), (3, .int l3_124), (4, .int l4_124), (5, .int 0)]) [1, 2, 3, 4, 0] rfl ?_
    refine z_loop (P := fun s : Int32 × zG => zAt E D (zA τ sz) (zQ E D zrI 0 0 sz τ τ r g') 7 (sz, τ, 0, 0) s.2 127 [(0, .ref a), (1, .int l1_124), (3, .int l3_124), (4, .int l4_124), (5, .int s.1)] []) (Px := fun x : zG => zAt E D (zA τ sz) (zQ E D zrI 0 0 sz τ τ r g') 7 (sz, τ, 0, 0) x 162 [(0, .ref a)] []) (0, g_124) (fun s => ?_) (fun x => ?_)
    · obtain ⟨l5_127, g_127⟩ := s
      show zSim (zKl (fun s : Int32 × zG => zAt E D (zA τ sz) (zQ E D zrI 0 0 sz τ τ r g') 7 (sz, τ, 0, 0) s.2 127 [(0, .ref a), (1, .int l1_124), (3, .int l3_124), (4, .int l4_124), (5, .int s.1)] []) (fun x : zG => zAt E D (zA τ sz) (zQ E D zrI 0 0 sz τ τ r g') 7 (sz, τ, 0, 0) x 162 [(0, .ref a)] [])) (l_X9_read_127 a l1_124 l3_124 l4_124 l5_127 g_127) (zAt E D (zA τ sz) (zQ E D zrI 0 0 sz τ τ r g') 7 (sz, τ, 0, 0) g_127 127 [(0, .ref a), (1, .int l1_124), (3, .int l3_124), (4, .int l4_124), (5, .int l5_127)] [])
      unfold l_X9_read_127
      refine z_iload F 4 rfl dX9_read_127 ?_
      refine z_iload F 3 rfl dX9_read_129 ?_
      refine z_icmp_ge (tgt := 162) F dX9_read_131 (by decide) (fun c4 => ?_) (fun c4 => ?_)
      · refine z_sub (lv' := [(0, .ref a)]) [0] rfl ?_
        exact z_back (fun h => h)
      · refine z_aload_n F 0 rfl rfl dX9_read_134 ?_
        refine gf_X9_42 F hta dX9_read_135 (fun ht5 => ?_)
        refine gf_X9_144 F ht5 dX9_read_138 (fun ht6 => ?_)
        refine z_iload F 4 rfl dX9_read_141 ?_
        refine z_aload_n F 0 rfl rfl dX9_read_143 ?_
        refine gf_X9_58 F hta dX9_read_144 (fun ht7 => ?_)
        refine z_iload_n F 1 rfl rfl dX9_read_147 ?_
        refine z_iload_n F 2 rfl rfl dX9_read_148 ?_
        refine z_iload F 4 rfl dX9_read_149 ?_
        refine z_iadd F dX9_read_151 ?_
        refine k_X6_valueOf F (by rw [hR]; exact ⟨by decide, by decide⟩) q_851 ht7 ⟨Nat.zero_le _, Nat.zero_le _⟩ (Nat.le_of_ble_eq_true rfl) dX9_read_152 (fun v8 g9 => ?_)
        refine z_iast F ht6 dX9_read_155 ?_
        refine z_letg (fun g10 => ?_)
        refine z_iincl (lv' := fun v11 => [(5, .int v11), (0, .ref a), (1, .int l1_124), (3, .int l3_124), (4, .int l4_124)]) F 4 rfl (by decide) (by decide) dX9_read_156 (fun _ => rfl) (fun v11 => ?_)
        refine z_goto (tgt := 127) F dX9_read_159 (by decide) ?_
        refine z_sub (lv' := [(0, .ref a), (1, .int l1_124), (3, .int l3_124), (4, .int l4_124), (5, .int v11)]) [1, 2, 3, 4, 0] rfl ?_
        exact z_back (fun h => h)
    · show zSim (fun q : Int32 × zG => q = (r, g')) (j_X9_read_162 a x) (zAt E D (zA τ sz) (zQ E D zrI 0 0 sz τ τ r g') 7 (sz, τ, 0, 0) x 162 [(0, .ref a)] [])
      exact hj_X9_read_162 x
  unfold f_X9_read
  refine z_iload_n F 1 rfl rfl dX9_read_0 ?_
  refine k_X9_isSheet F (by rw [hR]; exact ⟨by decide, by decide⟩) q_821  ⟨Nat.zero_le _, Nat.zero_le _⟩ (Nat.le_of_ble_eq_true rfl) dX9_read_1 (fun v12 g13 => ?_)
  refine z_if_eq (tgt := 14) F dX9_read_4 (by decide) (fun c14 => ?_) (fun c14 => ?_)
  · refine z_iconst (v := (-1)) F (by decide) dX9_read_14 ?_
    exact z_ireturn F rfl rfl rfl rfl (fun h => h) dX9_read_15
  · refine z_iload_n F 2 rfl rfl dX9_read_7 ?_
    refine k_X9_isLane F (by rw [hR]; exact ⟨by decide, by decide⟩) q_824  ⟨Nat.zero_le _, Nat.zero_le _⟩ (Nat.le_of_ble_eq_true rfl) dX9_read_8 (fun v15 g16 => ?_)
    refine z_if_ne (tgt := 16) F dX9_read_11 (by decide) (fun c17 => ?_) (fun c17 => ?_)
    · refine z_iconst (v := (-1)) F (by decide) dX9_read_14 ?_
      exact z_ireturn F rfl rfl rfl rfl (fun h => h) dX9_read_15
    · refine z_aload_n F 0 rfl rfl dX9_read_16 ?_
      refine gf_X9_58 F hta dX9_read_17 (fun ht18 => ?_)
      refine z_iload_n F 1 rfl rfl dX9_read_20 ?_
      refine k_X6_isNothing F (by rw [hR]; exact ⟨by decide, by decide⟩) q_835 ht18 ⟨Nat.zero_le _, Nat.zero_le _⟩ (Nat.le_of_ble_eq_true rfl) dX9_read_21 (fun v19 g20 => ?_)
      refine z_if_eq (tgt := 30) F dX9_read_24 (by decide) (fun c21 => ?_) (fun c21 => ?_)
      · refine z_aload_n F 0 rfl rfl dX9_read_30 ?_
        refine gf_X9_58 F hta dX9_read_31 (fun ht22 => ?_)
        refine gf_X9_280 F ht22 dX9_read_34 (fun ht23 => ?_)
        refine z_iload_n F 1 rfl rfl dX9_read_37 ?_
        refine z_iald F ht23 dX9_read_38 ?_
        refine z_iload_n F 2 rfl rfl dX9_read_39 ?_
        refine z_icmp_eq (tgt := 46) F dX9_read_40 (by decide) (fun c24 => ?_) (fun c24 => ?_)
        · refine z_aload_n F 0 rfl rfl dX9_read_46 ?_
          refine gf_X9_12 F hta dX9_read_47 (fun ht25 => ?_)
          refine gf_X9_98 F ht25 dX9_read_50 (fun ht26 => ?_)
          refine z_iconst (v := 3) F (by decide) dX9_read_53 ?_
          refine z_iald F ht26 dX9_read_54 ?_
          refine z_leti (fun v27 => ?_)
          refine z_istore (lv' := [(4, .int v27), (0, .ref a), (1, .int x1), (2, .int x2), (3, .int x3)]) F (by decide) dX9_read_55 rfl ?_
          refine z_iconst (v := 0) F (by decide) dX9_read_57 ?_
          refine z_istore (lv' := [(5, .int 0), (4, .int v27), (0, .ref a), (1, .int x1), (2, .int x2), (3, .int x3)]) F (by decide) dX9_read_58 rfl ?_
          refine z_sub (lv' := [(0, .ref a), (1, .int x1), (3, .int x3), (4, .int v27), (5, .int 0)]) [2, 3, 5, 1, 0] rfl ?_
          refine z_loop2 (P := fun s : Int32 × zG => zAt E D (zA τ sz) (zQ E D zrI 0 0 sz τ τ r g') 7 (sz, τ, 0, 0) s.2 60 [(0, .ref a), (1, .int x1), (3, .int x3), (4, .int v27), (5, .int s.1)] []) (Px := fun x : zG => zAt E D (zA τ sz) (zQ E D zrI 0 0 sz τ τ r g') 7 (sz, τ, 0, 0) x 124 [(0, .ref a), (1, .int x1), (3, .int x3), (4, .int v27)] []) (0, g20) (fun s => ?_) (fun x => ?_)
          · obtain ⟨l5_60, g_60⟩ := s
            show zSim (zKl (fun s : Int32 × zG => zAt E D (zA τ sz) (zQ E D zrI 0 0 sz τ τ r g') 7 (sz, τ, 0, 0) s.2 60 [(0, .ref a), (1, .int x1), (3, .int x3), (4, .int v27), (5, .int s.1)] []) (zKl (fun x : zG => zAt E D (zA τ sz) (zQ E D zrI 0 0 sz τ τ r g') 7 (sz, τ, 0, 0) x 124 [(0, .ref a), (1, .int x1), (3, .int x3), (4, .int v27)] []) (fun q : Int32 × zG => q = (r, g')))) (l_X9_read_60 a x1 x3 v27 l5_60 g_60) (zAt E D (zA τ sz) (zQ E D zrI 0 0 sz τ τ r g') 7 (sz, τ, 0, 0) g_60 60 [(0, .ref a), (1, .int x1), (3, .int x3), (4, .int v27), (5, .int l5_60)] [])
            unfold l_X9_read_60
            refine z_iload F 4 rfl dX9_read_60 ?_
            refine z_iload F 3 rfl dX9_read_62 ?_
            refine z_icmp_ge (tgt := 124) F dX9_read_64 (by decide) (fun c28 => ?_) (fun c28 => ?_)
            · refine z_sub (lv' := [(0, .ref a), (1, .int x1), (3, .int x3), (4, .int v27)]) [0, 1, 2, 3] rfl ?_
              exact z_back (fun h => h)
            · refine z_aload_n F 0 rfl rfl dX9_read_67 ?_
              refine gf_X9_58 F hta dX9_read_68 (fun ht29 => ?_)
              refine z_iload_n F 1 rfl rfl dX9_read_71 ?_
              refine z_iload_n F 2 rfl rfl dX9_read_72 ?_
              refine z_iload F 4 rfl dX9_read_73 ?_
              refine z_iadd F dX9_read_75 ?_
              refine k_X6_hasCell F (by rw [hR]; exact ⟨by decide, by decide⟩) q_839 ht29 ⟨Nat.zero_le _, Nat.zero_le _⟩ (Nat.le_of_ble_eq_true rfl) dX9_read_76 (fun v30 g31 => ?_)
              refine z_if_ne (tgt := 85) F dX9_read_79 (by decide) (fun c32 => ?_) (fun c32 => ?_)
              · refine z_bipush (v := (-12)) F (by decide) dX9_read_82 ?_
                exact z_ireturn F rfl rfl rfl rfl (fun h => h) dX9_read_84
              · refine z_aload_n F 0 rfl rfl dX9_read_85 ?_
                refine gf_X9_58 F hta dX9_read_86 (fun ht33 => ?_)
                refine z_iload_n F 1 rfl rfl dX9_read_89 ?_
                refine z_iload_n F 2 rfl rfl dX9_read_90 ?_
                refine z_iload F 4 rfl dX9_read_91 ?_
                refine z_iadd F dX9_read_93 ?_
                refine k_X6_valueOf F (by rw [hR]; exact ⟨by decide, by decide⟩) q_851 ht33 ⟨Nat.zero_le _, Nat.zero_le _⟩ (Nat.le_of_ble_eq_true rfl) dX9_read_94 (fun v34 g35 => ?_)
                refine z_istore (lv' := [(6, .int v34), (0, .ref a), (1, .int x1), (3, .int x3), (4, .int v27), (5, .int l5_60)]) F (by decide) dX9_read_97 rfl ?_
                refine z_iload F 0 rfl dX9_read_99 ?_
                refine z_if_eq (tgt := 118) F dX9_read_101 (by decide) (fun c36 => ?_) (fun c36 => ?_)
                · refine z_iincl (lv' := fun v37 => [(5, .int v37), (6, .int v34), (0, .ref a), (1, .int x1), (3, .int x3), (4, .int v27)]) F 5 rfl (by decide) (by decide) dX9_read_118 (fun _ => rfl) (fun v37 => ?_)
                  refine z_goto (tgt := 60) F dX9_read_121 (by decide) ?_
                  refine z_sub (lv' := [(0, .ref a), (1, .int x1), (3, .int x3), (4, .int v27), (5, .int v37)]) [2, 3, 4, 5, 0] rfl ?_
                  exact z_back (fun h => h)
                · refine z_iload F 0 rfl dX9_read_104 ?_
                  refine k_X9_isLetter F (by rw [hR]; exact ⟨by decide, by decide⟩) q_613  ⟨Nat.zero_le _, Nat.zero_le _⟩ (Nat.le_of_ble_eq_true rfl) dX9_read_106 (fun v38 g39 => ?_)
                  refine z_if_ne (tgt := 118) F dX9_read_109 (by decide) (fun c40 => ?_) (fun c40 => ?_)
                  · refine z_bipush (v := (-20)) F (by decide) dX9_read_112 ?_
                    refine z_iload F 5 rfl dX9_read_114 ?_
                    refine z_isub F dX9_read_116 ?_
                    exact z_ireturn F rfl rfl rfl rfl (fun h => h) dX9_read_117
                  · refine z_iincl (lv' := fun v41 => [(5, .int v41), (6, .int v34), (0, .ref a), (1, .int x1), (3, .int x3), (4, .int v27)]) F 5 rfl (by decide) (by decide) dX9_read_118 (fun _ => rfl) (fun v41 => ?_)
                    refine z_goto (tgt := 60) F dX9_read_121 (by decide) ?_
                    refine z_sub (lv' := [(0, .ref a), (1, .int x1), (3, .int x3), (4, .int v27), (5, .int v41)]) [2, 3, 4, 5, 0] rfl ?_
                    exact z_back (fun h => h)
          · show zSim (fun q : Int32 × zG => q = (r, g')) (j_X9_read_124 a x1 x3 v27 x) (zAt E D (zA τ sz) (zQ E D zrI 0 0 sz τ τ r g') 7 (sz, τ, 0, 0) x 124 [(0, .ref a), (1, .int x1), (3, .int x3), (4, .int v27)] [])
            exact hj_X9_read_124 x1 x3 v27 x
        · refine z_bipush (v := (-13)) F (by decide) dX9_read_43 ?_
          exact z_ireturn F rfl rfl rfl rfl (fun h => h) dX9_read_45
      · refine z_bipush (v := (-11)) F (by decide) dX9_read_27 ?_
        exact z_ireturn F rfl rfl rfl rfl (fun h => h) dX9_read_29
theorem k_X9_read {ρ : Type} {K : ρ → Prop} {E : zE} {D : zD} {A : Nat → Prop} {Q : State → Prop} {nL : Nat} {κ : zC} {g : zG} {pc : Nat} {lv : List (Nat × Value)} {st : List Value} {cc : ByteArray} {own : String} {ret : Option FieldType} (F : zF E D A cc own nL ret) {index : Nat} {h : Int32 → zG → Option ρ} {a : Nat} {x1 : Int32} {x2 : Int32} {x3 : Int32}  (hR : 1 + 1 ≤ E.2.2.2.1.frames ∧ 8 + (7 + 11) + 22 ≤ E.2.2.2.1.locals) (hl : zTbl (.methodLink own index yX9_read)) (hta : κ.2.1 a = some (.inr 9)) (hc : κ.2.2.1 ≤ E.2.2.2.1.cells ∧ κ.2.2.2 ≤ E.2.2.2.1.slots) (hW : (st.map fun v => v.category).sum ≤ 8) (hd : decode cc pc = .ok (.invokevirtual index, 3)) (kk : ∀ r g', zSim K (h r g') (zAt E D A Q nL κ g' (pc + 3) lv (.int r :: st))) : zSim K (zb (f_X9_read a x1 x2 x3 g) h) (zAt E D A Q nL κ g pc lv (.int x3 :: .int x2 :: .int x1 :: .ref a :: st)) :=
  z_callV F (n := 3) (As := [.int x1, .int x2, .int x3]) (C := (RX9, TX9, 11)) ⟨q_850, q_1, by decide +kernel, rfl, rfl, hR.1, hR.2⟩ (c_X9_read E.2.1 D κ.1 κ.2.1 g a x1 x2 x3 hta) hl q_848 q_849 hta rfl rfl rfl hc hW hd kk _ rfl
