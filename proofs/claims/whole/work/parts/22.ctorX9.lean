theorem dX8_init_0 : decode cX8_init 0 = .ok (.aload_n 0, 1) := by decide +kernel
theorem dX8_init_1 : decode cX8_init 1 = .ok (.invokespecial 3, 3) := by decide +kernel
theorem dX8_init_4 : decode cX8_init 4 = .ok (.aload_n 0, 1) := by decide +kernel
theorem dX8_init_5 : decode cX8_init 5 = .ok (.bipush 6, 2) := by decide +kernel
theorem dX8_init_7 : decode cX8_init 7 = .ok (.newarray .int, 2) := by decide +kernel
theorem dX8_init_9 : decode cX8_init 9 = .ok (.putfield 9, 3) := by decide +kernel
theorem dX8_init_12 : decode cX8_init 12 = .ok (.aload_n 0, 1) := by decide +kernel
theorem dX8_init_13 : decode cX8_init 13 = .ok (.new 15, 3) := by decide +kernel
theorem dX8_init_16 : decode cX8_init 16 = .ok (.dup, 1) := by decide +kernel
theorem dX8_init_17 : decode cX8_init 17 = .ok (.invokespecial 17, 3) := by decide +kernel
theorem dX8_init_20 : decode cX8_init 20 = .ok (.putfield 18, 3) := by decide +kernel
theorem dX8_init_23 : decode cX8_init 23 = .ok (.aload_n 0, 1) := by decide +kernel
theorem dX8_init_24 : decode cX8_init 24 = .ok (.new 22, 3) := by decide +kernel
theorem dX8_init_27 : decode cX8_init 27 = .ok (.dup, 1) := by decide +kernel
theorem dX8_init_28 : decode cX8_init 28 = .ok (.aconst_null, 1) := by decide +kernel
theorem dX8_init_29 : decode cX8_init 29 = .ok (.aload_n 1, 1) := by decide +kernel
theorem dX8_init_30 : decode cX8_init 30 = .ok (.aload_n 0, 1) := by decide +kernel
theorem dX8_init_31 : decode cX8_init 31 = .ok (.getfield 18, 3) := by decide +kernel
theorem dX8_init_34 : decode cX8_init 34 = .ok (.invokespecial 24, 3) := by decide +kernel
theorem dX8_init_37 : decode cX8_init 37 = .ok (.putfield 27, 3) := by decide +kernel
theorem dX8_init_40 : decode cX8_init 40 = .ok (.return_, 1) := by decide +kernel
def t_X8_init (τ : zT) (sz a : Nat) : zT := (zts (t_X2_init (zts (t_X0_init (zts (zts τ sz (.inl (.int, 6))) (sz + 1) (.inr 11)) (sz + 2) (sz + 1)) (sz + 3) (.inr 13)) (sz + 4) (sz + 3)) a (.inr 8))
theorem t_X8_init_new (τ : zT) (sz a : Nat) (h : a < sz) : t_X8_init τ sz a a = some (.inr 8) := by
  unfold t_X8_init
  first | exact zts_same _ _ _ | (repeat (first | exact zts_same _ _ _ | refine zts_ne ?_ (by omega)))
theorem t_X8_init_old {τ : zT} {sz a e : Nat} {x : Option zS} (h : τ e = x) (he : e < sz) (ha : e ≠ a) : t_X8_init τ sz a e = x := by
  unfold t_X8_init
  repeat (first | exact h | refine zts_ne ?_ (by omega) | refine t_X0_init_old ?_ (by omega) (by omega) | refine t_X1_init_old ?_ (by omega) (by omega) | refine t_X3_init_old ?_ (by omega) (by omega) | refine t_X4_init_old ?_ (by omega) (by omega) | refine t_X5_init_old ?_ (by omega) (by omega) | refine t_X6_init_old ?_ (by omega) (by omega) | refine t_X7_init_old ?_ (by omega) (by omega) | refine t_X2_init_old ?_ (by omega) (by omega))
def f_X8_init (sz : Nat) (a : Nat) (b1 : Nat) (g : zG) : Option (Int32 × zG) :=
  zl (zz g sz) (fun g1 => zl (zsr g1 a 1 sz) (fun g5 => zl (zz g5 (sz + 1)) (fun g6 => zb (f_X0_init (sz + 2) (sz + 1) g6) (fun v11 g10 => zl (zsr g10 a 6 (sz + 1)) (fun g15 => zl (zz g15 (sz + 3)) (fun g16 => zc (g16.2.1 a 6 = (sz + 1)) (zb (f_X2_init (sz + 4) (sz + 3) 0 b1 (sz + 1) g16) (fun v22 g21 => zl (zsr g21 a 0 (sz + 3)) (fun g26 => zc (g26.2.1 a 0 = (sz + 3) ∧ g26.2.1 a 1 = sz ∧ g26.2.1 a 6 = (sz + 1)) (some (0, g26)))))))))))
abbrev rm_X8_init : Room := { frames := 4, cells := 10, slots := 276, locals := 88 }
set_option maxRecDepth 100000 in
set_option maxHeartbeats 4000000 in
theorem c_X8_init (l : Launch) (D : zD) (sz : Nat) (τ : zT) (g : zG) (a : Nat) (b1 : Nat) (h0 : 0 < sz) (hta : τ a = some (.inr 19)) (htb1 : τ b1 = some (.inr 5)) : zCon l D yX8_init cX8_init 2 none rm_X8_init 10 276 zrV [.ref a, .ref b1] sz τ g (t_X8_init τ sz a) (f_X8_init sz a b1 g) := by
  refine zCon.of (by decide) (Nat.le_of_ble_eq_true rfl) (fun E r g' hl hR hsz hnm F => ?_)
  have F : zF E D (zA τ sz) cX8_init "TypeChain$Trials" 2 none := F
  have hnm : E.2.2.2.2.2.2.2.2.1.name = "<init>" := hnm
  show zSim (fun q : Int32 × zG => q = (r, g')) (f_X8_init sz a b1 g) (zAt E D (zA τ sz) (zQ E D zrV 10 276 sz τ (t_X8_init τ sz a) r g') 2 (sz, τ, 0, 0) g 0 [(0, .ref a), (1, .ref b1)] [])
  unfold f_X8_init
  refine z_lt (fun hlt => ?_)
  have hlt_a : a < sz := hlt a _ hta
  have hlt_b1 : b1 < sz := hlt b1 _ htb1
  refine z_aload_n F 0 rfl rfl dX8_init_0 ?_
  refine z_objInit F q_326 q_27 q_28 (by rw [hR]; exact ⟨by decide, by decide⟩) (Nat.le_of_ble_eq_true rfl) dX8_init_1 ?_
  refine z_aload_n F 0 rfl rfl dX8_init_4 ?_
  refine z_bipush (v := 6) F (by decide) dX8_init_5 ?_
  refine z_newa (ty := .int) (N := 6) F rfl (by decide) q_66 rfl (by decide) (by decide) (by decide) (by show 0 < _; omega) (by rw [hR]; exact Nat.le_of_ble_eq_true rfl) (by rw [hR]; exact Nat.le_of_ble_eq_true rfl) dX8_init_7 ?_
  have ht2 : (zts τ sz (.inl (.int, 6))) sz = some (.inl (.int, 6)) := zts_same _ _ _
  have ht3 : (zts τ sz (.inl (.int, 6))) a = some (.inr 19) := zts_ne hta (by omega)
  have ht4 : (zts τ sz (.inl (.int, 6))) b1 = some (.inr 5) := zts_ne htb1 (by omega)
  show zSim _ _ (zAt E D (zA τ sz) (zQ E D zrV 10 276 sz τ (t_X8_init τ sz a) r g') 2 (sz + 1, (zts τ sz (.inl (.int, 6))), 1, 6) (zz g sz) 9 [(0, .ref a), (1, .ref b1)] [.ref sz, .ref a])
  refine z_letg (fun g1 => ?_)
  refine z_putRs (c := 8) (r := (RX8, TX8, 9)) (k := 1) F ht3 (by decide) rfl inZ8 tyX8_ok nmX8 (by decide) q_333 hnm rfl (Or.inr ⟨_, rfl⟩) (by omega) dX8_init_9 ?_
  refine z_letg (fun g5 => ?_)
  refine z_aload_n F 0 rfl rfl dX8_init_12 ?_
  refine z_new (C := (RX0, TX0, 4)) (c := 0) F rfl (by decide) inZ0 tyX0_ok (zdv_X0 _) q_327 q_36 q_3 (by show 0 < _; omega) (by rw [hR]; exact Nat.le_of_ble_eq_true rfl) (by rw [hR]; exact Nat.le_of_ble_eq_true rfl) dX8_init_13 ?_
  have ht7 : (zts (zts τ sz (.inl (.int, 6))) (sz + 1) (.inr 11)) (sz + 1) = some (.inr 11) := zts_same _ _ _
  have ht8 : (zts (zts τ sz (.inl (.int, 6))) (sz + 1) (.inr 11)) a = some (.inr 19) := zts_ne ht3 (by omega)
  have ht9 : (zts (zts τ sz (.inl (.int, 6))) (sz + 1) (.inr 11)) b1 = some (.inr 5) := zts_ne ht4 (by omega)
  show zSim _ _ (zAt E D (zA τ sz) (zQ E D zrV 10 276 sz τ (t_X8_init τ sz a) r g') 2 (sz + 2, (zts (zts τ sz (.inl (.int, 6))) (sz + 1) (.inr 11)), 2, 10) (zz g5 (sz + 1)) 16 [(0, .ref a), (1, .ref b1)] [.ref (sz + 1), .ref a])
  refine z_letg (fun g6 => ?_)
  refine z_dup F rfl dX8_init_16 ?_
  refine z_callI (κ := (sz + 2, (zts (zts τ sz (.inl (.int, 6))) (sz + 1) (.inr 11)), 2, 10)) F (n := 0) (mc := 1) (ms := 48) (rm := rm_X0_init) (rv := zrV) (As := []) (st := [.ref (sz + 1), .ref a]) ⟨q_39, q_3, by decide +kernel, rfl, rfl, by rw [hR]; decide, by rw [hR]; decide⟩ (c_X0_init E.2.1 D (sz + 2) (zts (zts τ sz (.inl (.int, 6))) (sz + 1) (.inr 11)) g6 (sz + 1) (by omega) ht7) (Or.inr ⟨_, q_328⟩) q_38 rfl rfl ⟨by rw [hR]; exact Nat.le_of_ble_eq_true rfl, by rw [hR]; exact Nat.le_of_ble_eq_true rfl⟩ (Nat.le_of_ble_eq_true rfl) dX8_init_17 (fun v11 g10 => ?_) _ rfl
  have ht12 : (t_X0_init (zts (zts τ sz (.inl (.int, 6))) (sz + 1) (.inr 11)) (sz + 2) (sz + 1)) (sz + 1) = some (.inr 0) := t_X0_init_new _ _ _ (by omega)
  have ht13 : (t_X0_init (zts (zts τ sz (.inl (.int, 6))) (sz + 1) (.inr 11)) (sz + 2) (sz + 1)) a = some (.inr 19) := t_X0_init_old ht8 (by omega) (by omega)
  have ht14 : (t_X0_init (zts (zts τ sz (.inl (.int, 6))) (sz + 1) (.inr 11)) (sz + 2) (sz + 1)) b1 = some (.inr 5) := t_X0_init_old ht9 (by omega) (by omega)
  show zSim _ _ (zAt E D (zA τ sz) (zQ E D zrV 10 276 sz τ (t_X8_init τ sz a) r g') 2 (sz + 3, (t_X0_init (zts (zts τ sz (.inl (.int, 6))) (sz + 1) (.inr 11)) (sz + 2) (sz + 1)), 3, 58) g10 20 [(0, .ref a), (1, .ref b1)] [.ref (sz + 1), .ref a])
  refine z_putRs (c := 8) (r := (RX8, TX8, 9)) (k := 6) F ht13 (by decide) rfl inZ8 tyX8_ok nmX8 (by decide) q_343 hnm rfl (Or.inl ⟨_, rfl⟩) (by omega) dX8_init_20 ?_
  refine z_letg (fun g15 => ?_)
  refine z_aload_n F 0 rfl rfl dX8_init_23 ?_
  refine z_new (C := (RX2, TX2, 9)) (c := 2) F rfl (by decide) inZ2 tyX2_ok (zdv_X2 _) q_329 q_230 q_10 (by show 0 < _; omega) (by rw [hR]; exact Nat.le_of_ble_eq_true rfl) (by rw [hR]; exact Nat.le_of_ble_eq_true rfl) dX8_init_24 ?_
  have ht17 : (zts (t_X0_init (zts (zts τ sz (.inl (.int, 6))) (sz + 1) (.inr 11)) (sz + 2) (sz + 1)) (sz + 3) (.inr 13)) (sz + 3) = some (.inr 13) := zts_same _ _ _
  have ht18 : (zts (t_X0_init (zts (zts τ sz (.inl (.int, 6))) (sz + 1) (.inr 11)) (sz + 2) (sz + 1)) (sz + 3) (.inr 13)) a = some (.inr 19) := zts_ne ht13 (by omega)
  have ht19 : (zts (t_X0_init (zts (zts τ sz (.inl (.int, 6))) (sz + 1) (.inr 11)) (sz + 2) (sz + 1)) (sz + 3) (.inr 13)) b1 = some (.inr 5) := zts_ne ht14 (by omega)
  show zSim _ _ (zAt E D (zA τ sz) (zQ E D zrV 10 276 sz τ (t_X8_init τ sz a) r g') 2 (sz + 4, (zts (t_X0_init (zts (zts τ sz (.inl (.int, 6))) (sz + 1) (.inr 11)) (sz + 2) (sz + 1)) (sz + 3) (.inr 13)), 4, 67) (zz g15 (sz + 3)) 27 [(0, .ref a), (1, .ref b1)] [.ref (sz + 3), .ref a])
  refine z_letg (fun g16 => ?_)
  refine z_dup F rfl dX8_init_27 ?_
  refine z_null F dX8_init_28 ?_
  have hnull : (0 : Nat) = 0 ∨ (zts (t_X0_init (zts (zts τ sz (.inl (.int, 6))) (sz + 1) (.inr 11)) (sz + 2) (sz + 1)) (sz + 3) (.inr 13)) 0 = some (.inr 1) := Or.inl rfl
  refine z_aload_n F 1 rfl rfl dX8_init_29 ?_
  refine z_aload_n F 0 rfl rfl dX8_init_30 ?_
  refine z_getR (c := 8) (r := (RX8, TX8, 9)) (k := 6) (x := (sz + 1)) F ht18 (by decide) rfl inZ8 (by decide) q_343 (Or.inl ⟨_, rfl⟩) (by omega) dX8_init_31 ?_
  have ht20 : (zts (t_X0_init (zts (zts τ sz (.inl (.int, 6))) (sz + 1) (.inr 11)) (sz + 2) (sz + 1)) (sz + 3) (.inr 13)) (sz + 1) = some (.inr 0) := by repeat (first | exact ht12 | refine zts_ne ?_ (by omega) | refine t_X0_init_old ?_ (by omega) (by omega) | refine t_X1_init_old ?_ (by omega) (by omega) | refine t_X3_init_old ?_ (by omega) (by omega) | refine t_X4_init_old ?_ (by omega) (by omega) | refine t_X5_init_old ?_ (by omega) (by omega) | refine t_X6_init_old ?_ (by omega) (by omega) | refine t_X7_init_old ?_ (by omega) (by omega) | refine t_X2_init_old ?_ (by omega) (by omega))
  refine z_callI (κ := (sz + 4, (zts (t_X0_init (zts (zts τ sz (.inl (.int, 6))) (sz + 1) (.inr 11)) (sz + 2) (sz + 1)) (sz + 3) (.inr 13)), 4, 67)) F (n := 3) (mc := 6) (ms := 209) (rm := rm_X2_init) (rv := zrV) (As := [zref 0, .ref b1, .ref (sz + 1)]) (st := [.ref (sz + 3), .ref a]) ⟨q_233, q_10, by decide +kernel, rfl, rfl, by rw [hR]; decide, by rw [hR]; decide⟩ (c_X2_init E.2.1 D (sz + 4) (zts (t_X0_init (zts (zts τ sz (.inl (.int, 6))) (sz + 1) (.inr 11)) (sz + 2) (sz + 1)) (sz + 3) (.inr 13)) g16 (sz + 3) 0 b1 (sz + 1) (by omega) ht17 hnull ht19 ht20) (Or.inl q_330) q_232 rfl rfl ⟨by rw [hR]; exact Nat.le_of_ble_eq_true rfl, by rw [hR]; exact Nat.le_of_ble_eq_true rfl⟩ (Nat.le_of_ble_eq_true rfl) dX8_init_34 (fun v22 g21 => ?_) _ rfl
  have ht23 : (t_X2_init (zts (t_X0_init (zts (zts τ sz (.inl (.int, 6))) (sz + 1) (.inr 11)) (sz + 2) (sz + 1)) (sz + 3) (.inr 13)) (sz + 4) (sz + 3)) (sz + 3) = some (.inr 2) := t_X2_init_new _ _ _ (by omega)
  have ht24 : (t_X2_init (zts (t_X0_init (zts (zts τ sz (.inl (.int, 6))) (sz + 1) (.inr 11)) (sz + 2) (sz + 1)) (sz + 3) (.inr 13)) (sz + 4) (sz + 3)) a = some (.inr 19) := t_X2_init_old ht18 (by omega) (by omega)
  have ht25 : (t_X2_init (zts (t_X0_init (zts (zts τ sz (.inl (.int, 6))) (sz + 1) (.inr 11)) (sz + 2) (sz + 1)) (sz + 3) (.inr 13)) (sz + 4) (sz + 3)) b1 = some (.inr 5) := t_X2_init_old ht19 (by omega) (by omega)
  show zSim _ _ (zAt E D (zA τ sz) (zQ E D zrV 10 276 sz τ (t_X8_init τ sz a) r g') 2 (sz + 10, (t_X2_init (zts (t_X0_init (zts (zts τ sz (.inl (.int, 6))) (sz + 1) (.inr 11)) (sz + 2) (sz + 1)) (sz + 3) (.inr 13)) (sz + 4) (sz + 3)), 10, 276) g21 37 [(0, .ref a), (1, .ref b1)] [.ref (sz + 3), .ref a])
  refine z_putRs (c := 8) (r := (RX8, TX8, 9)) (k := 0) F ht24 (by decide) rfl inZ8 tyX8_ok nmX8 (by decide) q_331 hnm rfl (Or.inl ⟨_, rfl⟩) (by omega) dX8_init_37 ?_
  refine z_letg (fun g26 => ?_)
  have ht28 : (t_X2_init (zts (t_X0_init (zts (zts τ sz (.inl (.int, 6))) (sz + 1) (.inr 11)) (sz + 2) (sz + 1)) (sz + 3) (.inr 13)) (sz + 4) (sz + 3)) sz = some (.inl (.int, 6)) := by repeat (first | exact ht2 | refine zts_ne ?_ (by omega) | refine t_X0_init_old ?_ (by omega) (by omega) | refine t_X1_init_old ?_ (by omega) (by omega) | refine t_X3_init_old ?_ (by omega) (by omega) | refine t_X4_init_old ?_ (by omega) (by omega) | refine t_X5_init_old ?_ (by omega) (by omega) | refine t_X6_init_old ?_ (by omega) (by omega) | refine t_X7_init_old ?_ (by omega) (by omega) | refine t_X2_init_old ?_ (by omega) (by omega))
  have ht29 : (t_X2_init (zts (t_X0_init (zts (zts τ sz (.inl (.int, 6))) (sz + 1) (.inr 11)) (sz + 2) (sz + 1)) (sz + 3) (.inr 13)) (sz + 4) (sz + 3)) (sz + 1) = some (.inr 0) := by repeat (first | exact ht12 | refine zts_ne ?_ (by omega) | refine t_X0_init_old ?_ (by omega) (by omega) | refine t_X1_init_old ?_ (by omega) (by omega) | refine t_X3_init_old ?_ (by omega) (by omega) | refine t_X4_init_old ?_ (by omega) (by omega) | refine t_X5_init_old ?_ (by omega) (by omega) | refine t_X6_init_old ?_ (by omega) (by omega) | refine t_X7_init_old ?_ (by omega) (by omega) | refine t_X2_init_old ?_ (by omega) (by omega))
  refine z_zc (fun hck27 => ?_)
  refine z_prom (c := 19) (c2 := 8) ht24 rfl (fun hw => zprom_X8 hw ht24 (by rw [hck27.1]; exact ht23) (by rw [hck27.2.1]; exact ht28) (by rw [hck27.2.2]; exact ht29)) ?_
  have ht30 : (zts (t_X2_init (zts (t_X0_init (zts (zts τ sz (.inl (.int, 6))) (sz + 1) (.inr 11)) (sz + 2) (sz + 1)) (sz + 3) (.inr 13)) (sz + 4) (sz + 3)) a (.inr 8)) a = some (.inr 8) := zts_same _ _ _
  have ht31 : (zts (t_X2_init (zts (t_X0_init (zts (zts τ sz (.inl (.int, 6))) (sz + 1) (.inr 11)) (sz + 2) (sz + 1)) (sz + 3) (.inr 13)) (sz + 4) (sz + 3)) a (.inr 8)) b1 = some (.inr 5) := zts_of ht25 ht24 (by intro e; cases e)
  show zSim _ _ (zAt E D (zA τ sz) (zQ E D zrV 10 276 sz τ (t_X8_init τ sz a) r g') 2 (sz + 10, (zts (t_X2_init (zts (t_X0_init (zts (zts τ sz (.inl (.int, 6))) (sz + 1) (.inr 11)) (sz + 2) (sz + 1)) (sz + 3) (.inr 13)) (sz + 4) (sz + 3)) a (.inr 8)), 10, 276) g26 40 [(0, .ref a), (1, .ref b1)] [])
  exact z_vreturn F rfl rfl rfl rfl (fun h => h) dX8_init_40
theorem dX9_init_0 : decode cX9_init 0 = .ok (.aload_n 0, 1) := by decide +kernel
theorem dX9_init_1 : decode cX9_init 1 = .ok (.invokespecial 3, 3) := by decide +kernel
theorem dX9_init_4 : decode cX9_init 4 = .ok (.aload_n 0, 1) := by decide +kernel
theorem dX9_init_5 : decode cX9_init 5 = .ok (.new 9, 3) := by decide +kernel
theorem dX9_init_8 : decode cX9_init 8 = .ok (.dup, 1) := by decide +kernel
theorem dX9_init_9 : decode cX9_init 9 = .ok (.invokespecial 11, 3) := by decide +kernel
theorem dX9_init_12 : decode cX9_init 12 = .ok (.putfield 12, 3) := by decide +kernel
theorem dX9_init_15 : decode cX9_init 15 = .ok (.aload_n 0, 1) := by decide +kernel
theorem dX9_init_16 : decode cX9_init 16 = .ok (.new 9, 3) := by decide +kernel
theorem dX9_init_19 : decode cX9_init 19 = .ok (.dup, 1) := by decide +kernel
theorem dX9_init_20 : decode cX9_init 20 = .ok (.invokespecial 11, 3) := by decide +kernel
theorem dX9_init_23 : decode cX9_init 23 = .ok (.putfield 16, 3) := by decide +kernel
theorem dX9_init_26 : decode cX9_init 26 = .ok (.aload_n 0, 1) := by decide +kernel
theorem dX9_init_27 : decode cX9_init 27 = .ok (.new 19, 3) := by decide +kernel
theorem dX9_init_30 : decode cX9_init 30 = .ok (.dup, 1) := by decide +kernel
theorem dX9_init_31 : decode cX9_init 31 = .ok (.invokespecial 21, 3) := by decide +kernel
theorem dX9_init_34 : decode cX9_init 34 = .ok (.putfield 22, 3) := by decide +kernel
theorem dX9_init_37 : decode cX9_init 37 = .ok (.aload_n 0, 1) := by decide +kernel
theorem dX9_init_38 : decode cX9_init 38 = .ok (.new 26, 3) := by decide +kernel
theorem dX9_init_41 : decode cX9_init 41 = .ok (.dup, 1) := by decide +kernel
theorem dX9_init_42 : decode cX9_init 42 = .ok (.invokespecial 28, 3) := by decide +kernel
theorem dX9_init_45 : decode cX9_init 45 = .ok (.putfield 29, 3) := by decide +kernel
theorem dX9_init_48 : decode cX9_init 48 = .ok (.aload_n 0, 1) := by decide +kernel
theorem dX9_init_49 : decode cX9_init 49 = .ok (.new 33, 3) := by decide +kernel
theorem dX9_init_52 : decode cX9_init 52 = .ok (.dup, 1) := by decide +kernel
theorem dX9_init_53 : decode cX9_init 53 = .ok (.aload_n 0, 1) := by decide +kernel
theorem dX9_init_54 : decode cX9_init 54 = .ok (.getfield 29, 3) := by decide +kernel
theorem dX9_init_57 : decode cX9_init 57 = .ok (.aload_n 0, 1) := by decide +kernel
theorem dX9_init_58 : decode cX9_init 58 = .ok (.getfield 12, 3) := by decide +kernel
theorem dX9_init_61 : decode cX9_init 61 = .ok (.aload_n 0, 1) := by decide +kernel
theorem dX9_init_62 : decode cX9_init 62 = .ok (.getfield 12, 3) := by decide +kernel
theorem dX9_init_65 : decode cX9_init 65 = .ok (.getfield 35, 3) := by decide +kernel
theorem dX9_init_68 : decode cX9_init 68 = .ok (.invokespecial 39, 3) := by decide +kernel
theorem dX9_init_71 : decode cX9_init 71 = .ok (.putfield 42, 3) := by decide +kernel
theorem dX9_init_74 : decode cX9_init 74 = .ok (.aload_n 0, 1) := by decide +kernel
theorem dX9_init_75 : decode cX9_init 75 = .ok (.new 46, 3) := by decide +kernel
theorem dX9_init_78 : decode cX9_init 78 = .ok (.dup, 1) := by decide +kernel
theorem dX9_init_79 : decode cX9_init 79 = .ok (.aload_n 0, 1) := by decide +kernel
theorem dX9_init_80 : decode cX9_init 80 = .ok (.getfield 12, 3) := by decide +kernel
theorem dX9_init_83 : decode cX9_init 83 = .ok (.invokespecial 48, 3) := by decide +kernel
theorem dX9_init_86 : decode cX9_init 86 = .ok (.putfield 51, 3) := by decide +kernel
theorem dX9_init_89 : decode cX9_init 89 = .ok (.aload_n 0, 1) := by decide +kernel
theorem dX9_init_90 : decode cX9_init 90 = .ok (.new 55, 3) := by decide +kernel
theorem dX9_init_93 : decode cX9_init 93 = .ok (.dup, 1) := by decide +kernel
theorem dX9_init_94 : decode cX9_init 94 = .ok (.invokespecial 57, 3) := by decide +kernel
theorem dX9_init_97 : decode cX9_init 97 = .ok (.putfield 58, 3) := by decide +kernel
theorem dX9_init_100 : decode cX9_init 100 = .ok (.return_, 1) := by decide +kernel
def t_X9_init (τ : zT) (sz a : Nat) : zT := (zts (t_X6_init (zts (t_X8_init (zts (t_X2_init (zts (t_X1_init (zts (t_X4_init (zts (t_X5_init (zts (t_X5_init (zts τ sz (.inr 16)) (sz + 1) sz) (sz + 11) (.inr 16)) (sz + 12) (sz + 11)) (sz + 22) (.inr 15)) (sz + 23) (sz + 22)) (sz + 27) (.inr 12)) (sz + 28) (sz + 27)) (sz + 30) (.inr 13)) (sz + 31) (sz + 30)) (sz + 37) (.inr 19)) (sz + 38) (sz + 37)) (sz + 48) (.inr 17)) (sz + 49) (sz + 48)) a (.inr 9))
theorem t_X9_init_new (τ : zT) (sz a : Nat) (h : a < sz) : t_X9_init τ sz a a = some (.inr 9) := by
  unfold t_X9_init
  first | exact zts_same _ _ _ | (repeat (first | exact zts_same _ _ _ | refine zts_ne ?_ (by omega)))
theorem t_X9_init_old {τ : zT} {sz a e : Nat} {x : Option zS} (h : τ e = x) (he : e < sz) (ha : e ≠ a) : t_X9_init τ sz a e = x := by
  unfold t_X9_init
  repeat (first | exact h | refine zts_ne ?_ (by omega) | refine t_X0_init_old ?_ (by omega) (by omega) | refine t_X1_init_old ?_ (by omega) (by omega) | refine t_X3_init_old ?_ (by omega) (by omega) | refine t_X4_init_old ?_ (by omega) (by omega) | refine t_X5_init_old ?_ (by omega) (by omega) | refine t_X6_init_old ?_ (by omega) (by omega) | refine t_X7_init_old ?_ (by omega) (by omega) | refine t_X2_init_old ?_ (by omega) (by omega) | refine t_X8_init_old ?_ (by omega) (by omega))
def f_X9_init (sz : Nat) (a : Nat) (g : zG) : Option (Int32 × zG) :=
  zl (zz g sz) (fun g1 => zb (f_X5_init (sz + 1) sz g1) (fun v5 g4 => zl (zsr g4 a 0 sz) (fun g8 => zl (zz g8 (sz + 11)) (fun g9 => zb (f_X5_init (sz + 12) (sz + 11) g9) (fun v13 g12 => zl (zsr g12 a 1 (sz + 11)) (fun g16 => zl (zz g16 (sz + 22)) (fun g17 => zb (f_X4_init (sz + 23) (sz + 22) g17) (fun v21 g20 => zl (zsr g20 a 2 (sz + 22)) (fun g24 => zl (zz g24 (sz + 27)) (fun g25 => zb (f_X1_init (sz + 28) (sz + 27) g25) (fun v29 g28 => zl (zsr g28 a 3 (sz + 27)) (fun g32 => zl (zz g32 (sz + 30)) (fun g33 => zc (g33.2.1 a 3 = (sz + 27)) (zc (g33.2.1 a 0 = sz) (zc (g33.2.1 a 0 = sz) (zl (g33.2.1 sz 0) (fun r40 => zb (f_X2_init (sz + 31) (sz + 30) (sz + 27) sz r40 g33) (fun v43 g42 => zl (zsr g42 a 4 (sz + 30)) (fun g46 => zl (zz g46 (sz + 37)) (fun g47 => zc (g47.2.1 a 0 = sz) (zb (f_X8_init (sz + 38) (sz + 37) sz g47) (fun v52 g51 => zl (zsr g51 a 5 (sz + 37)) (fun g55 => zl (zz g55 (sz + 48)) (fun g56 => zb (f_X6_init (sz + 49) (sz + 48) g56) (fun v60 g59 => zl (zsr g59 a 6 (sz + 48)) (fun g63 => zc (g63.2.1 a 0 = sz ∧ g63.2.1 a 1 = (sz + 11) ∧ g63.2.1 a 2 = (sz + 22) ∧ g63.2.1 a 3 = (sz + 27) ∧ g63.2.1 a 4 = (sz + 30) ∧ g63.2.1 a 5 = (sz + 37) ∧ g63.2.1 a 6 = (sz + 48)) (some (0, g63))))))))))))))))))))))))))))
abbrev rm_X9_init : Room := { frames := 5, cells := 52, slots := 6766, locals := 109 }
set_option maxRecDepth 100000 in
set_option maxHeartbeats 4000000 in
theorem c_X9_init (l : Launch) (D : zD) (sz : Nat) (τ : zT) (g : zG) (a : Nat) (h0 : 0 < sz) (hta : τ a = some (.inr 20)) : zCon l D yX9_init cX9_init 1 none rm_X9_init 52 6766 zrV [.ref a] sz τ g (t_X9_init τ sz a) (f_X9_init sz a g) := by
  refine zCon.of (by decide) (Nat.le_of_ble_eq_true rfl) (fun E r g' hl hR hsz hnm F => ?_)
  have F : zF E D (zA τ sz) cX9_init "TypeChain" 1 none := F
  have hnm : E.2.2.2.2.2.2.2.2.1.name = "<init>" := hnm
  show zSim (fun q : Int32 × zG => q = (r, g')) (f_X9_init sz a g) (zAt E D (zA τ sz) (zQ E D zrV 52 6766 sz τ (t_X9_init τ sz a) r g') 1 (sz, τ, 0, 0) g 0 [(0, .ref a)] [])
  unfold f_X9_init
  refine z_lt (fun hlt => ?_)
  have hlt_a : a < sz := hlt a _ hta
  refine z_aload_n F 0 rfl rfl dX9_init_0 ?_
  refine z_objInit F q_26 q_27 q_28 (by rw [hR]; exact ⟨by decide, by decide⟩) (Nat.le_of_ble_eq_true rfl) dX9_init_1 ?_
  refine z_aload_n F 0 rfl rfl dX9_init_4 ?_
  refine z_new (C := (RX5, TX5, 4)) (c := 5) F rfl (by decide) inZ5 tyX5_ok (zdv_X5 _) q_29 q_30 q_2 (by show 0 < _; omega) (by rw [hR]; exact Nat.le_of_ble_eq_true rfl) (by rw [hR]; exact Nat.le_of_ble_eq_true rfl) dX9_init_5 ?_
  have ht2 : (zts τ sz (.inr 16)) sz = some (.inr 16) := zts_same _ _ _
  have ht3 : (zts τ sz (.inr 16)) a = some (.inr 20) := zts_ne hta (by omega)
  show zSim _ _ (zAt E D (zA τ sz) (zQ E D zrV 52 6766 sz τ (t_X9_init τ sz a) r g') 1 (sz + 1, (zts τ sz (.inr 16)), 1, 4) (zz g sz) 8 [(0, .ref a)] [.ref sz, .ref a])
  refine z_letg (fun g1 => ?_)
  refine z_dup F rfl dX9_init_8 ?_
  refine z_callI (κ := (sz + 1, (zts τ sz (.inr 16)), 1, 4)) F (n := 0) (mc := 10) (ms := 463) (rm := rm_X5_init) (rv := zrV) (As := []) (st := [.ref sz, .ref a]) ⟨q_33, q_2, by decide +kernel, rfl, rfl, by rw [hR]; decide, by rw [hR]; decide⟩ (c_X5_init E.2.1 D (sz + 1) (zts τ sz (.inr 16)) g1 sz (by omega) ht2) (Or.inl q_31) q_32 rfl rfl ⟨by rw [hR]; exact Nat.le_of_ble_eq_true rfl, by rw [hR]; exact Nat.le_of_ble_eq_true rfl⟩ (Nat.le_of_ble_eq_true rfl) dX9_init_9 (fun v5 g4 => ?_) _ rfl
  have ht6 : (t_X5_init (zts τ sz (.inr 16)) (sz + 1) sz) sz = some (.inr 5) := t_X5_init_new _ _ _ (by omega)
  have ht7 : (t_X5_init (zts τ sz (.inr 16)) (sz + 1) sz) a = some (.inr 20) := t_X5_init_old ht3 (by omega) (by omega)
  show zSim _ _ (zAt E D (zA τ sz) (zQ E D zrV 52 6766 sz τ (t_X9_init τ sz a) r g') 1 (sz + 11, (t_X5_init (zts τ sz (.inr 16)) (sz + 1) sz), 11, 467) g4 12 [(0, .ref a)] [.ref sz, .ref a])
  refine z_putRs (c := 9) (r := (RX9, TX9, 11)) (k := 0) F ht7 (by decide) rfl inZ9 tyX9_ok nmX9 (by decide) q_384 hnm rfl (Or.inl ⟨_, rfl⟩) (by omega) dX9_init_12 ?_
  refine z_letg (fun g8 => ?_)
  refine z_aload_n F 0 rfl rfl dX9_init_15 ?_
  refine z_new (C := (RX5, TX5, 4)) (c := 5) F rfl (by decide) inZ5 tyX5_ok (zdv_X5 _) q_29 q_30 q_2 (by show 0 < _; omega) (by rw [hR]; exact Nat.le_of_ble_eq_true rfl) (by rw [hR]; exact Nat.le_of_ble_eq_true rfl) dX9_init_16 ?_
  have ht10 : (zts (t_X5_init (zts τ sz (.inr 16)) (sz + 1) sz) (sz + 11) (.inr 16)) (sz + 11) = some (.inr 16) := zts_same _ _ _
  have ht11 : (zts (t_X5_init (zts τ sz (.inr 16)) (sz + 1) sz) (sz + 11) (.inr 16)) a = some (.inr 20) := zts_ne ht7 (by omega)
  show zSim _ _ (zAt E D (zA τ sz) (zQ E D zrV 52 6766 sz τ (t_X9_init τ sz a) r g') 1 (sz + 12, (zts (t_X5_init (zts τ sz (.inr 16)) (sz + 1) sz) (sz + 11) (.inr 16)), 12, 471) (zz g8 (sz + 11)) 19 [(0, .ref a)] [.ref (sz + 11), .ref a])
  refine z_letg (fun g9 => ?_)
  refine z_dup F rfl dX9_init_19 ?_
  refine z_callI (κ := (sz + 12, (zts (t_X5_init (zts τ sz (.inr 16)) (sz + 1) sz) (sz + 11) (.inr 16)), 12, 471)) F (n := 0) (mc := 10) (ms := 463) (rm := rm_X5_init) (rv := zrV) (As := []) (st := [.ref (sz + 11), .ref a]) ⟨q_33, q_2, by decide +kernel, rfl, rfl, by rw [hR]; decide, by rw [hR]; decide⟩ (c_X5_init E.2.1 D (sz + 12) (zts (t_X5_init (zts τ sz (.inr 16)) (sz + 1) sz) (sz + 11) (.inr 16)) g9 (sz + 11) (by omega) ht10) (Or.inl q_31) q_32 rfl rfl ⟨by rw [hR]; exact Nat.le_of_ble_eq_true rfl, by rw [hR]; exact Nat.le_of_ble_eq_true rfl⟩ (Nat.le_of_ble_eq_true rfl) dX9_init_20 (fun v13 g12 => ?_) _ rfl
  have ht14 : (t_X5_init (zts (t_X5_init (zts τ sz (.inr 16)) (sz + 1) sz) (sz + 11) (.inr 16)) (sz + 12) (sz + 11)) (sz + 11) = some (.inr 5) := t_X5_init_new _ _ _ (by omega)
  have ht15 : (t_X5_init (zts (t_X5_init (zts τ sz (.inr 16)) (sz + 1) sz) (sz + 11) (.inr 16)) (sz + 12) (sz + 11)) a = some (.inr 20) := t_X5_init_old ht11 (by omega) (by omega)
  show zSim _ _ (zAt E D (zA τ sz) (zQ E D zrV 52 6766 sz τ (t_X9_init τ sz a) r g') 1 (sz + 22, (t_X5_init (zts (t_X5_init (zts τ sz (.inr 16)) (sz + 1) sz) (sz + 11) (.inr 16)) (sz + 12) (sz + 11)), 22, 934) g12 23 [(0, .ref a)] [.ref (sz + 11), .ref a])
  refine z_putRs (c := 9) (r := (RX9, TX9, 11)) (k := 1) F ht15 (by decide) rfl inZ9 tyX9_ok nmX9 (by decide) q_385 hnm rfl (Or.inl ⟨_, rfl⟩) (by omega) dX9_init_23 ?_
  refine z_letg (fun g16 => ?_)
  refine z_aload_n F 0 rfl rfl dX9_init_26 ?_
  refine z_new (C := (RX4, TX4, 14)) (c := 4) F rfl (by decide) inZ4 tyX4_ok (zdv_X4 _) q_160 q_161 q_8 (by show 0 < _; omega) (by rw [hR]; exact Nat.le_of_ble_eq_true rfl) (by rw [hR]; exact Nat.le_of_ble_eq_true rfl) dX9_init_27 ?_
  have ht18 : (zts (t_X5_init (zts (t_X5_init (zts τ sz (.inr 16)) (sz + 1) sz) (sz + 11) (.inr 16)) (sz + 12) (sz + 11)) (sz + 22) (.inr 15)) (sz + 22) = some (.inr 15) := zts_same _ _ _
  have ht19 : (zts (t_X5_init (zts (t_X5_init (zts τ sz (.inr 16)) (sz + 1) sz) (sz + 11) (.inr 16)) (sz + 12) (sz + 11)) (sz + 22) (.inr 15)) a = some (.inr 20) := zts_ne ht15 (by omega)
  show zSim _ _ (zAt E D (zA τ sz) (zQ E D zrV 52 6766 sz τ (t_X9_init τ sz a) r g') 1 (sz + 23, (zts (t_X5_init (zts (t_X5_init (zts τ sz (.inr 16)) (sz + 1) sz) (sz + 11) (.inr 16)) (sz + 12) (sz + 11)) (sz + 22) (.inr 15)), 23, 948) (zz g16 (sz + 22)) 30 [(0, .ref a)] [.ref (sz + 22), .ref a])
  refine z_letg (fun g17 => ?_)
  refine z_dup F rfl dX9_init_30 ?_
  refine z_callI (κ := (sz + 23, (zts (t_X5_init (zts (t_X5_init (zts τ sz (.inr 16)) (sz + 1) sz) (sz + 11) (.inr 16)) (sz + 12) (sz + 11)) (sz + 22) (.inr 15)), 23, 948)) F (n := 0) (mc := 4) (ms := 342) (rm := rm_X4_init) (rv := zrV) (As := []) (st := [.ref (sz + 22), .ref a]) ⟨q_164, q_8, by decide +kernel, rfl, rfl, by rw [hR]; decide, by rw [hR]; decide⟩ (c_X4_init E.2.1 D (sz + 23) (zts (t_X5_init (zts (t_X5_init (zts τ sz (.inr 16)) (sz + 1) sz) (sz + 11) (.inr 16)) (sz + 12) (sz + 11)) (sz + 22) (.inr 15)) g17 (sz + 22) (by omega) ht18) (Or.inr ⟨_, q_162⟩) q_163 rfl rfl ⟨by rw [hR]; exact Nat.le_of_ble_eq_true rfl, by rw [hR]; exact Nat.le_of_ble_eq_true rfl⟩ (Nat.le_of_ble_eq_true rfl) dX9_init_31 (fun v21 g20 => ?_) _ rfl
  have ht22 : (t_X4_init (zts (t_X5_init (zts (t_X5_init (zts τ sz (.inr 16)) (sz + 1) sz) (sz + 11) (.inr 16)) (sz + 12) (sz + 11)) (sz + 22) (.inr 15)) (sz + 23) (sz + 22)) (sz + 22) = some (.inr 4) := t_X4_init_new _ _ _ (by omega)
  have ht23 : (t_X4_init (zts (t_X5_init (zts (t_X5_init (zts τ sz (.inr 16)) (sz + 1) sz) (sz + 11) (.inr 16)) (sz + 12) (sz + 11)) (sz + 22) (.inr 15)) (sz + 23) (sz + 22)) a = some (.inr 20) := t_X4_init_old ht19 (by omega) (by omega)
  show zSim _ _ (zAt E D (zA τ sz) (zQ E D zrV 52 6766 sz τ (t_X9_init τ sz a) r g') 1 (sz + 27, (t_X4_init (zts (t_X5_init (zts (t_X5_init (zts τ sz (.inr 16)) (sz + 1) sz) (sz + 11) (.inr 16)) (sz + 12) (sz + 11)) (sz + 22) (.inr 15)) (sz + 23) (sz + 22)), 27, 1290) g20 34 [(0, .ref a)] [.ref (sz + 22), .ref a])
  refine z_putRs (c := 9) (r := (RX9, TX9, 11)) (k := 2) F ht23 (by decide) rfl inZ9 tyX9_ok nmX9 (by decide) q_386 hnm rfl (Or.inl ⟨_, rfl⟩) (by omega) dX9_init_34 ?_
  refine z_letg (fun g24 => ?_)
  refine z_aload_n F 0 rfl rfl dX9_init_37 ?_
  refine z_new (C := (RX1, TX1, 2)) (c := 1) F rfl (by decide) inZ1 tyX1_ok (zdv_X1 _) q_214 q_215 q_9 (by show 0 < _; omega) (by rw [hR]; exact Nat.le_of_ble_eq_true rfl) (by rw [hR]; exact Nat.le_of_ble_eq_true rfl) dX9_init_38 ?_
  have ht26 : (zts (t_X4_init (zts (t_X5_init (zts (t_X5_init (zts τ sz (.inr 16)) (sz + 1) sz) (sz + 11) (.inr 16)) (sz + 12) (sz + 11)) (sz + 22) (.inr 15)) (sz + 23) (sz + 22)) (sz + 27) (.inr 12)) (sz + 27) = some (.inr 12) := zts_same _ _ _
  have ht27 : (zts (t_X4_init (zts (t_X5_init (zts (t_X5_init (zts τ sz (.inr 16)) (sz + 1) sz) (sz + 11) (.inr 16)) (sz + 12) (sz + 11)) (sz + 22) (.inr 15)) (sz + 23) (sz + 22)) (sz + 27) (.inr 12)) a = some (.inr 20) := zts_ne ht23 (by omega)
  show zSim _ _ (zAt E D (zA τ sz) (zQ E D zrV 52 6766 sz τ (t_X9_init τ sz a) r g') 1 (sz + 28, (zts (t_X4_init (zts (t_X5_init (zts (t_X5_init (zts τ sz (.inr 16)) (sz + 1) sz) (sz + 11) (.inr 16)) (sz + 12) (sz + 11)) (sz + 22) (.inr 15)) (sz + 23) (sz + 22)) (sz + 27) (.inr 12)), 28, 1292) (zz g24 (sz + 27)) 41 [(0, .ref a)] [.ref (sz + 27), .ref a])
  refine z_letg (fun g25 => ?_)
  refine z_dup F rfl dX9_init_41 ?_
  refine z_callI (κ := (sz + 28, (zts (t_X4_init (zts (t_X5_init (zts (t_X5_init (zts τ sz (.inr 16)) (sz + 1) sz) (sz + 11) (.inr 16)) (sz + 12) (sz + 11)) (sz + 22) (.inr 15)) (sz + 23) (sz + 22)) (sz + 27) (.inr 12)), 28, 1292)) F (n := 0) (mc := 2) (ms := 4800) (rm := rm_X1_init) (rv := zrV) (As := []) (st := [.ref (sz + 27), .ref a]) ⟨q_218, q_9, by decide +kernel, rfl, rfl, by rw [hR]; decide, by rw [hR]; decide⟩ (c_X1_init E.2.1 D (sz + 28) (zts (t_X4_init (zts (t_X5_init (zts (t_X5_init (zts τ sz (.inr 16)) (sz + 1) sz) (sz + 11) (.inr 16)) (sz + 12) (sz + 11)) (sz + 22) (.inr 15)) (sz + 23) (sz + 22)) (sz + 27) (.inr 12)) g25 (sz + 27) (by omega) ht26) (Or.inr ⟨_, q_216⟩) q_217 rfl rfl ⟨by rw [hR]; exact Nat.le_of_ble_eq_true rfl, by rw [hR]; exact Nat.le_of_ble_eq_true rfl⟩ (Nat.le_of_ble_eq_true rfl) dX9_init_42 (fun v29 g28 => ?_) _ rfl
  have ht30 : (t_X1_init (zts (t_X4_init (zts (t_X5_init (zts (t_X5_init (zts τ sz (.inr 16)) (sz + 1) sz) (sz + 11) (.inr 16)) (sz + 12) (sz + 11)) (sz + 22) (.inr 15)) (sz + 23) (sz + 22)) (sz + 27) (.inr 12)) (sz + 28) (sz + 27)) (sz + 27) = some (.inr 1) := t_X1_init_new _ _ _ (by omega)
  have ht31 : (t_X1_init (zts (t_X4_init (zts (t_X5_init (zts (t_X5_init (zts τ sz (.inr 16)) (sz + 1) sz) (sz + 11) (.inr 16)) (sz + 12) (sz + 11)) (sz + 22) (.inr 15)) (sz + 23) (sz + 22)) (sz + 27) (.inr 12)) (sz + 28) (sz + 27)) a = some (.inr 20) := t_X1_init_old ht27 (by omega) (by omega)
  show zSim _ _ (zAt E D (zA τ sz) (zQ E D zrV 52 6766 sz τ (t_X9_init τ sz a) r g') 1 (sz + 30, (t_X1_init (zts (t_X4_init (zts (t_X5_init (zts (t_X5_init (zts τ sz (.inr 16)) (sz + 1) sz) (sz + 11) (.inr 16)) (sz + 12) (sz + 11)) (sz + 22) (.inr 15)) (sz + 23) (sz + 22)) (sz + 27) (.inr 12)) (sz + 28) (sz + 27)), 30, 6092) g28 45 [(0, .ref a)] [.ref (sz + 27), .ref a])
  refine z_putRs (c := 9) (r := (RX9, TX9, 11)) (k := 3) F ht31 (by decide) rfl inZ9 tyX9_ok nmX9 (by decide) q_387 hnm rfl (Or.inl ⟨_, rfl⟩) (by omega) dX9_init_45 ?_
  refine z_letg (fun g32 => ?_)
  refine z_aload_n F 0 rfl rfl dX9_init_48 ?_
  refine z_new (C := (RX2, TX2, 9)) (c := 2) F rfl (by decide) inZ2 tyX2_ok (zdv_X2 _) q_229 q_230 q_10 (by show 0 < _; omega) (by rw [hR]; exact Nat.le_of_ble_eq_true rfl) (by rw [hR]; exact Nat.le_of_ble_eq_true rfl) dX9_init_49 ?_
  have ht34 : (zts (t_X1_init (zts (t_X4_init (zts (t_X5_init (zts (t_X5_init (zts τ sz (.inr 16)) (sz + 1) sz) (sz + 11) (.inr 16)) (sz + 12) (sz + 11)) (sz + 22) (.inr 15)) (sz + 23) (sz + 22)) (sz + 27) (.inr 12)) (sz + 28) (sz + 27)) (sz + 30) (.inr 13)) (sz + 30) = some (.inr 13) := zts_same _ _ _
  have ht35 : (zts (t_X1_init (zts (t_X4_init (zts (t_X5_init (zts (t_X5_init (zts τ sz (.inr 16)) (sz + 1) sz) (sz + 11) (.inr 16)) (sz + 12) (sz + 11)) (sz + 22) (.inr 15)) (sz + 23) (sz + 22)) (sz + 27) (.inr 12)) (sz + 28) (sz + 27)) (sz + 30) (.inr 13)) a = some (.inr 20) := zts_ne ht31 (by omega)
  show zSim _ _ (zAt E D (zA τ sz) (zQ E D zrV 52 6766 sz τ (t_X9_init τ sz a) r g') 1 (sz + 31, (zts (t_X1_init (zts (t_X4_init (zts (t_X5_init (zts (t_X5_init (zts τ sz (.inr 16)) (sz + 1) sz) (sz + 11) (.inr 16)) (sz + 12) (sz + 11)) (sz + 22) (.inr 15)) (sz + 23) (sz + 22)) (sz + 27) (.inr 12)) (sz + 28) (sz + 27)) (sz + 30) (.inr 13)), 31, 6101) (zz g32 (sz + 30)) 52 [(0, .ref a)] [.ref (sz + 30), .ref a])
  refine z_letg (fun g33 => ?_)
  refine z_dup F rfl dX9_init_52 ?_
  refine z_aload_n F 0 rfl rfl dX9_init_53 ?_
  refine z_getR (c := 9) (r := (RX9, TX9, 11)) (k := 3) (x := (sz + 27)) F ht35 (by decide) rfl inZ9 (by decide) q_387 (Or.inl ⟨_, rfl⟩) (by omega) dX9_init_54 ?_
  have ht36 : (zts (t_X1_init (zts (t_X4_init (zts (t_X5_init (zts (t_X5_init (zts τ sz (.inr 16)) (sz + 1) sz) (sz + 11) (.inr 16)) (sz + 12) (sz + 11)) (sz + 22) (.inr 15)) (sz + 23) (sz + 22)) (sz + 27) (.inr 12)) (sz + 28) (sz + 27)) (sz + 30) (.inr 13)) (sz + 27) = some (.inr 1) := by repeat (first | exact ht30 | refine zts_ne ?_ (by omega) | refine t_X0_init_old ?_ (by omega) (by omega) | refine t_X1_init_old ?_ (by omega) (by omega) | refine t_X3_init_old ?_ (by omega) (by omega) | refine t_X4_init_old ?_ (by omega) (by omega) | refine t_X5_init_old ?_ (by omega) (by omega) | refine t_X6_init_old ?_ (by omega) (by omega) | refine t_X7_init_old ?_ (by omega) (by omega) | refine t_X2_init_old ?_ (by omega) (by omega) | refine t_X8_init_old ?_ (by omega) (by omega))
  refine z_toq (by omega) ?_
  refine z_aload_n F 0 rfl rfl dX9_init_57 ?_
  refine z_getR (c := 9) (r := (RX9, TX9, 11)) (k := 0) (x := sz) F ht35 (by decide) rfl inZ9 (by decide) q_384 (Or.inl ⟨_, rfl⟩) (by omega) dX9_init_58 ?_
  have ht37 : (zts (t_X1_init (zts (t_X4_init (zts (t_X5_init (zts (t_X5_init (zts τ sz (.inr 16)) (sz + 1) sz) (sz + 11) (.inr 16)) (sz + 12) (sz + 11)) (sz + 22) (.inr 15)) (sz + 23) (sz + 22)) (sz + 27) (.inr 12)) (sz + 28) (sz + 27)) (sz + 30) (.inr 13)) sz = some (.inr 5) := by repeat (first | exact ht6 | refine zts_ne ?_ (by omega) | refine t_X0_init_old ?_ (by omega) (by omega) | refine t_X1_init_old ?_ (by omega) (by omega) | refine t_X3_init_old ?_ (by omega) (by omega) | refine t_X4_init_old ?_ (by omega) (by omega) | refine t_X5_init_old ?_ (by omega) (by omega) | refine t_X6_init_old ?_ (by omega) (by omega) | refine t_X7_init_old ?_ (by omega) (by omega) | refine t_X2_init_old ?_ (by omega) (by omega) | refine t_X8_init_old ?_ (by omega) (by omega))
  refine z_aload_n F 0 rfl rfl dX9_init_61 ?_
  refine z_getR (c := 9) (r := (RX9, TX9, 11)) (k := 0) (x := sz) F ht35 (by decide) rfl inZ9 (by decide) q_384 (Or.inl ⟨_, rfl⟩) (by omega) dX9_init_62 ?_
  have ht38 : (zts (t_X1_init (zts (t_X4_init (zts (t_X5_init (zts (t_X5_init (zts τ sz (.inr 16)) (sz + 1) sz) (sz + 11) (.inr 16)) (sz + 12) (sz + 11)) (sz + 22) (.inr 15)) (sz + 23) (sz + 22)) (sz + 27) (.inr 12)) (sz + 28) (sz + 27)) (sz + 30) (.inr 13)) sz = some (.inr 5) := by repeat (first | exact ht6 | refine zts_ne ?_ (by omega) | refine t_X0_init_old ?_ (by omega) (by omega) | refine t_X1_init_old ?_ (by omega) (by omega) | refine t_X3_init_old ?_ (by omega) (by omega) | refine t_X4_init_old ?_ (by omega) (by omega) | refine t_X5_init_old ?_ (by omega) (by omega) | refine t_X6_init_old ?_ (by omega) (by omega) | refine t_X7_init_old ?_ (by omega) (by omega) | refine t_X2_init_old ?_ (by omega) (by omega) | refine t_X8_init_old ?_ (by omega) (by omega))
  refine gf_X9_35 F ht38 dX9_init_65 (fun ht39 => ?_)
  refine z_letr ht39 (fun r40 ht41 => ?_)
  refine z_lt (fun hlt => ?_)
  have hlt_r40 : r40 < sz + 31 := hlt _ _ ht41
  refine z_callI (κ := (sz + 31, (zts (t_X1_init (zts (t_X4_init (zts (t_X5_init (zts (t_X5_init (zts τ sz (.inr 16)) (sz + 1) sz) (sz + 11) (.inr 16)) (sz + 12) (sz + 11)) (sz + 22) (.inr 15)) (sz + 23) (sz + 22)) (sz + 27) (.inr 12)) (sz + 28) (sz + 27)) (sz + 30) (.inr 13)), 31, 6101)) F (n := 3) (mc := 6) (ms := 209) (rm := rm_X2_init) (rv := zrV) (As := [zref (sz + 27), .ref sz, .ref r40]) (st := [.ref (sz + 30), .ref a]) ⟨q_233, q_10, by decide +kernel, rfl, rfl, by rw [hR]; decide, by rw [hR]; decide⟩ (c_X2_init E.2.1 D (sz + 31) (zts (t_X1_init (zts (t_X4_init (zts (t_X5_init (zts (t_X5_init (zts τ sz (.inr 16)) (sz + 1) sz) (sz + 11) (.inr 16)) (sz + 12) (sz + 11)) (sz + 22) (.inr 15)) (sz + 23) (sz + 22)) (sz + 27) (.inr 12)) (sz + 28) (sz + 27)) (sz + 30) (.inr 13)) g33 (sz + 30) (sz + 27) sz r40 (by omega) ht34 (Or.inr ht36) ht37 ht41) (Or.inl q_231) q_232 rfl rfl ⟨by rw [hR]; exact Nat.le_of_ble_eq_true rfl, by rw [hR]; exact Nat.le_of_ble_eq_true rfl⟩ (Nat.le_of_ble_eq_true rfl) dX9_init_68 (fun v43 g42 => ?_) _ rfl
  have ht44 : (t_X2_init (zts (t_X1_init (zts (t_X4_init (zts (t_X5_init (zts (t_X5_init (zts τ sz (.inr 16)) (sz + 1) sz) (sz + 11) (.inr 16)) (sz + 12) (sz + 11)) (sz + 22) (.inr 15)) (sz + 23) (sz + 22)) (sz + 27) (.inr 12)) (sz + 28) (sz + 27)) (sz + 30) (.inr 13)) (sz + 31) (sz + 30)) (sz + 30) = some (.inr 2) := t_X2_init_new _ _ _ (by omega)
  have ht45 : (t_X2_init (zts (t_X1_init (zts (t_X4_init (zts (t_X5_init (zts (t_X5_init (zts τ sz (.inr 16)) (sz + 1) sz) (sz + 11) (.inr 16)) (sz + 12) (sz + 11)) (sz + 22) (.inr 15)) (sz + 23) (sz + 22)) (sz + 27) (.inr 12)) (sz + 28) (sz + 27)) (sz + 30) (.inr 13)) (sz + 31) (sz + 30)) a = some (.inr 20) := t_X2_init_old ht35 (by omega) (by omega)
  show zSim _ _ (zAt E D (zA τ sz) (zQ E D zrV 52 6766 sz τ (t_X9_init τ sz a) r g') 1 (sz + 37, (t_X2_init (zts (t_X1_init (zts (t_X4_init (zts (t_X5_init (zts (t_X5_init (zts τ sz (.inr 16)) (sz + 1) sz) (sz + 11) (.inr 16)) (sz + 12) (sz + 11)) (sz + 22) (.inr 15)) (sz + 23) (sz + 22)) (sz + 27) (.inr 12)) (sz + 28) (sz + 27)) (sz + 30) (.inr 13)) (sz + 31) (sz + 30)), 37, 6310) g42 71 [(0, .ref a)] [.ref (sz + 30), .ref a])
  refine z_putRs (c := 9) (r := (RX9, TX9, 11)) (k := 4) F ht45 (by decide) rfl inZ9 tyX9_ok nmX9 (by decide) q_388 hnm rfl (Or.inl ⟨_, rfl⟩) (by omega) dX9_init_71 ?_
  refine z_letg (fun g46 => ?_)
  refine z_aload_n F 0 rfl rfl dX9_init_74 ?_
  refine z_new (C := (RX8, TX8, 9)) (c := 8) F rfl (by decide) inZ8 tyX8_ok (zdv_X8 _) q_321 q_322 q_12 (by show 0 < _; omega) (by rw [hR]; exact Nat.le_of_ble_eq_true rfl) (by rw [hR]; exact Nat.le_of_ble_eq_true rfl) dX9_init_75 ?_
  have ht48 : (zts (t_X2_init (zts (t_X1_init (zts (t_X4_init (zts (t_X5_init (zts (t_X5_init (zts τ sz (.inr 16)) (sz + 1) sz) (sz + 11) (.inr 16)) (sz + 12) (sz + 11)) (sz + 22) (.inr 15)) (sz + 23) (sz + 22)) (sz + 27) (.inr 12)) (sz + 28) (sz + 27)) (sz + 30) (.inr 13)) (sz + 31) (sz + 30)) (sz + 37) (.inr 19)) (sz + 37) = some (.inr 19) := zts_same _ _ _
  have ht49 : (zts (t_X2_init (zts (t_X1_init (zts (t_X4_init (zts (t_X5_init (zts (t_X5_init (zts τ sz (.inr 16)) (sz + 1) sz) (sz + 11) (.inr 16)) (sz + 12) (sz + 11)) (sz + 22) (.inr 15)) (sz + 23) (sz + 22)) (sz + 27) (.inr 12)) (sz + 28) (sz + 27)) (sz + 30) (.inr 13)) (sz + 31) (sz + 30)) (sz + 37) (.inr 19)) a = some (.inr 20) := zts_ne ht45 (by omega)
  show zSim _ _ (zAt E D (zA τ sz) (zQ E D zrV 52 6766 sz τ (t_X9_init τ sz a) r g') 1 (sz + 38, (zts (t_X2_init (zts (t_X1_init (zts (t_X4_init (zts (t_X5_init (zts (t_X5_init (zts τ sz (.inr 16)) (sz + 1) sz) (sz + 11) (.inr 16)) (sz + 12) (sz + 11)) (sz + 22) (.inr 15)) (sz + 23) (sz + 22)) (sz + 27) (.inr 12)) (sz + 28) (sz + 27)) (sz + 30) (.inr 13)) (sz + 31) (sz + 30)) (sz + 37) (.inr 19)), 38, 6319) (zz g46 (sz + 37)) 78 [(0, .ref a)] [.ref (sz + 37), .ref a])
  refine z_letg (fun g47 => ?_)
  refine z_dup F rfl dX9_init_78 ?_
  refine z_aload_n F 0 rfl rfl dX9_init_79 ?_
  refine z_getR (c := 9) (r := (RX9, TX9, 11)) (k := 0) (x := sz) F ht49 (by decide) rfl inZ9 (by decide) q_384 (Or.inl ⟨_, rfl⟩) (by omega) dX9_init_80 ?_
  have ht50 : (zts (t_X2_init (zts (t_X1_init (zts (t_X4_init (zts (t_X5_init (zts (t_X5_init (zts τ sz (.inr 16)) (sz + 1) sz) (sz + 11) (.inr 16)) (sz + 12) (sz + 11)) (sz + 22) (.inr 15)) (sz + 23) (sz + 22)) (sz + 27) (.inr 12)) (sz + 28) (sz + 27)) (sz + 30) (.inr 13)) (sz + 31) (sz + 30)) (sz + 37) (.inr 19)) sz = some (.inr 5) := by repeat (first | exact ht6 | refine zts_ne ?_ (by omega) | refine t_X0_init_old ?_ (by omega) (by omega) | refine t_X1_init_old ?_ (by omega) (by omega) | refine t_X3_init_old ?_ (by omega) (by omega) | refine t_X4_init_old ?_ (by omega) (by omega) | refine t_X5_init_old ?_ (by omega) (by omega) | refine t_X6_init_old ?_ (by omega) (by omega) | refine t_X7_init_old ?_ (by omega) (by omega) | refine t_X2_init_old ?_ (by omega) (by omega) | refine t_X8_init_old ?_ (by omega) (by omega))
  refine z_callI (κ := (sz + 38, (zts (t_X2_init (zts (t_X1_init (zts (t_X4_init (zts (t_X5_init (zts (t_X5_init (zts τ sz (.inr 16)) (sz + 1) sz) (sz + 11) (.inr 16)) (sz + 12) (sz + 11)) (sz + 22) (.inr 15)) (sz + 23) (sz + 22)) (sz + 27) (.inr 12)) (sz + 28) (sz + 27)) (sz + 30) (.inr 13)) (sz + 31) (sz + 30)) (sz + 37) (.inr 19)), 38, 6319)) F (n := 1) (mc := 10) (ms := 276) (rm := rm_X8_init) (rv := zrV) (As := [.ref sz]) (st := [.ref (sz + 37), .ref a]) ⟨q_325, q_12, by decide +kernel, rfl, rfl, by rw [hR]; decide, by rw [hR]; decide⟩ (c_X8_init E.2.1 D (sz + 38) (zts (t_X2_init (zts (t_X1_init (zts (t_X4_init (zts (t_X5_init (zts (t_X5_init (zts τ sz (.inr 16)) (sz + 1) sz) (sz + 11) (.inr 16)) (sz + 12) (sz + 11)) (sz + 22) (.inr 15)) (sz + 23) (sz + 22)) (sz + 27) (.inr 12)) (sz + 28) (sz + 27)) (sz + 30) (.inr 13)) (sz + 31) (sz + 30)) (sz + 37) (.inr 19)) g47 (sz + 37) sz (by omega) ht48 ht50) (Or.inl q_323) q_324 rfl rfl ⟨by rw [hR]; exact Nat.le_of_ble_eq_true rfl, by rw [hR]; exact Nat.le_of_ble_eq_true rfl⟩ (Nat.le_of_ble_eq_true rfl) dX9_init_83 (fun v52 g51 => ?_) _ rfl
  have ht53 : (t_X8_init (zts (t_X2_init (zts (t_X1_init (zts (t_X4_init (zts (t_X5_init (zts (t_X5_init (zts τ sz (.inr 16)) (sz + 1) sz) (sz + 11) (.inr 16)) (sz + 12) (sz + 11)) (sz + 22) (.inr 15)) (sz + 23) (sz + 22)) (sz + 27) (.inr 12)) (sz + 28) (sz + 27)) (sz + 30) (.inr 13)) (sz + 31) (sz + 30)) (sz + 37) (.inr 19)) (sz + 38) (sz + 37)) (sz + 37) = some (.inr 8) := t_X8_init_new _ _ _ (by omega)
  have ht54 : (t_X8_init (zts (t_X2_init (zts (t_X1_init (zts (t_X4_init (zts (t_X5_init (zts (t_X5_init (zts τ sz (.inr 16)) (sz + 1) sz) (sz + 11) (.inr 16)) (sz + 12) (sz + 11)) (sz + 22) (.inr 15)) (sz + 23) (sz + 22)) (sz + 27) (.inr 12)) (sz + 28) (sz + 27)) (sz + 30) (.inr 13)) (sz + 31) (sz + 30)) (sz + 37) (.inr 19)) (sz + 38) (sz + 37)) a = some (.inr 20) := t_X8_init_old ht49 (by omega) (by omega)
  show zSim _ _ (zAt E D (zA τ sz) (zQ E D zrV 52 6766 sz τ (t_X9_init τ sz a) r g') 1 (sz + 48, (t_X8_init (zts (t_X2_init (zts (t_X1_init (zts (t_X4_init (zts (t_X5_init (zts (t_X5_init (zts τ sz (.inr 16)) (sz + 1) sz) (sz + 11) (.inr 16)) (sz + 12) (sz + 11)) (sz + 22) (.inr 15)) (sz + 23) (sz + 22)) (sz + 27) (.inr 12)) (sz + 28) (sz + 27)) (sz + 30) (.inr 13)) (sz + 31) (sz + 30)) (sz + 37) (.inr 19)) (sz + 38) (sz + 37)), 48, 6595) g51 86 [(0, .ref a)] [.ref (sz + 37), .ref a])
  refine z_putRs (c := 9) (r := (RX9, TX9, 11)) (k := 5) F ht54 (by decide) rfl inZ9 tyX9_ok nmX9 (by decide) q_389 hnm rfl (Or.inl ⟨_, rfl⟩) (by omega) dX9_init_86 ?_
  refine z_letg (fun g55 => ?_)
  refine z_aload_n F 0 rfl rfl dX9_init_89 ?_
  refine z_new (C := (RX6, TX6, 3)) (c := 6) F rfl (by decide) inZ6 tyX6_ok (zdv_X6 _) q_365 q_366 q_13 (by show 0 < _; omega) (by rw [hR]; exact Nat.le_of_ble_eq_true rfl) (by rw [hR]; exact Nat.le_of_ble_eq_true rfl) dX9_init_90 ?_
  have ht57 : (zts (t_X8_init (zts (t_X2_init (zts (t_X1_init (zts (t_X4_init (zts (t_X5_init (zts (t_X5_init (zts τ sz (.inr 16)) (sz + 1) sz) (sz + 11) (.inr 16)) (sz + 12) (sz + 11)) (sz + 22) (.inr 15)) (sz + 23) (sz + 22)) (sz + 27) (.inr 12)) (sz + 28) (sz + 27)) (sz + 30) (.inr 13)) (sz + 31) (sz + 30)) (sz + 37) (.inr 19)) (sz + 38) (sz + 37)) (sz + 48) (.inr 17)) (sz + 48) = some (.inr 17) := zts_same _ _ _
  have ht58 : (zts (t_X8_init (zts (t_X2_init (zts (t_X1_init (zts (t_X4_init (zts (t_X5_init (zts (t_X5_init (zts τ sz (.inr 16)) (sz + 1) sz) (sz + 11) (.inr 16)) (sz + 12) (sz + 11)) (sz + 22) (.inr 15)) (sz + 23) (sz + 22)) (sz + 27) (.inr 12)) (sz + 28) (sz + 27)) (sz + 30) (.inr 13)) (sz + 31) (sz + 30)) (sz + 37) (.inr 19)) (sz + 38) (sz + 37)) (sz + 48) (.inr 17)) a = some (.inr 20) := zts_ne ht54 (by omega)
  show zSim _ _ (zAt E D (zA τ sz) (zQ E D zrV 52 6766 sz τ (t_X9_init τ sz a) r g') 1 (sz + 49, (zts (t_X8_init (zts (t_X2_init (zts (t_X1_init (zts (t_X4_init (zts (t_X5_init (zts (t_X5_init (zts τ sz (.inr 16)) (sz + 1) sz) (sz + 11) (.inr 16)) (sz + 12) (sz + 11)) (sz + 22) (.inr 15)) (sz + 23) (sz + 22)) (sz + 27) (.inr 12)) (sz + 28) (sz + 27)) (sz + 30) (.inr 13)) (sz + 31) (sz + 30)) (sz + 37) (.inr 19)) (sz + 38) (sz + 37)) (sz + 48) (.inr 17)), 49, 6598) (zz g55 (sz + 48)) 93 [(0, .ref a)] [.ref (sz + 48), .ref a])
  refine z_letg (fun g56 => ?_)
  refine z_dup F rfl dX9_init_93 ?_
  refine z_callI (κ := (sz + 49, (zts (t_X8_init (zts (t_X2_init (zts (t_X1_init (zts (t_X4_init (zts (t_X5_init (zts (t_X5_init (zts τ sz (.inr 16)) (sz + 1) sz) (sz + 11) (.inr 16)) (sz + 12) (sz + 11)) (sz + 22) (.inr 15)) (sz + 23) (sz + 22)) (sz + 27) (.inr 12)) (sz + 28) (sz + 27)) (sz + 30) (.inr 13)) (sz + 31) (sz + 30)) (sz + 37) (.inr 19)) (sz + 38) (sz + 37)) (sz + 48) (.inr 17)), 49, 6598)) F (n := 0) (mc := 3) (ms := 168) (rm := rm_X6_init) (rv := zrV) (As := []) (st := [.ref (sz + 48), .ref a]) ⟨q_369, q_13, by decide +kernel, rfl, rfl, by rw [hR]; decide, by rw [hR]; decide⟩ (c_X6_init E.2.1 D (sz + 49) (zts (t_X8_init (zts (t_X2_init (zts (t_X1_init (zts (t_X4_init (zts (t_X5_init (zts (t_X5_init (zts τ sz (.inr 16)) (sz + 1) sz) (sz + 11) (.inr 16)) (sz + 12) (sz + 11)) (sz + 22) (.inr 15)) (sz + 23) (sz + 22)) (sz + 27) (.inr 12)) (sz + 28) (sz + 27)) (sz + 30) (.inr 13)) (sz + 31) (sz + 30)) (sz + 37) (.inr 19)) (sz + 38) (sz + 37)) (sz + 48) (.inr 17)) g56 (sz + 48) (by omega) ht57) (Or.inl q_367) q_368 rfl rfl ⟨by rw [hR]; exact Nat.le_of_ble_eq_true rfl, by rw [hR]; exact Nat.le_of_ble_eq_true rfl⟩ (Nat.le_of_ble_eq_true rfl) dX9_init_94 (fun v60 g59 => ?_) _ rfl
  have ht61 : (t_X6_init (zts (t_X8_init (zts (t_X2_init (zts (t_X1_init (zts (t_X4_init (zts (t_X5_init (zts (t_X5_init (zts τ sz (.inr 16)) (sz + 1) sz) (sz + 11) (.inr 16)) (sz + 12) (sz + 11)) (sz + 22) (.inr 15)) (sz + 23) (sz + 22)) (sz + 27) (.inr 12)) (sz + 28) (sz + 27)) (sz + 30) (.inr 13)) (sz + 31) (sz + 30)) (sz + 37) (.inr 19)) (sz + 38) (sz + 37)) (sz + 48) (.inr 17)) (sz + 49) (sz + 48)) (sz + 48) = some (.inr 6) := t_X6_init_new _ _ _ (by omega)
  have ht62 : (t_X6_init (zts (t_X8_init (zts (t_X2_init (zts (t_X1_init (zts (t_X4_init (zts (t_X5_init (zts (t_X5_init (zts τ sz (.inr 16)) (sz + 1) sz) (sz + 11) (.inr 16)) (sz + 12) (sz + 11)) (sz + 22) (.inr 15)) (sz + 23) (sz + 22)) (sz + 27) (.inr 12)) (sz + 28) (sz + 27)) (sz + 30) (.inr 13)) (sz + 31) (sz + 30)) (sz + 37) (.inr 19)) (sz + 38) (sz + 37)) (sz + 48) (.inr 17)) (sz + 49) (sz + 48)) a = some (.inr 20) := t_X6_init_old ht58 (by omega) (by omega)
  show zSim _ _ (zAt E D (zA τ sz) (zQ E D zrV 52 6766 sz τ (t_X9_init τ sz a) r g') 1 (sz + 52, (t_X6_init (zts (t_X8_init (zts (t_X2_init (zts (t_X1_init (zts (t_X4_init (zts (t_X5_init (zts (t_X5_init (zts τ sz (.inr 16)) (sz + 1) sz) (sz + 11) (.inr 16)) (sz + 12) (sz + 11)) (sz + 22) (.inr 15)) (sz + 23) (sz + 22)) (sz + 27) (.inr 12)) (sz + 28) (sz + 27)) (sz + 30) (.inr 13)) (sz + 31) (sz + 30)) (sz + 37) (.inr 19)) (sz + 38) (sz + 37)) (sz + 48) (.inr 17)) (sz + 49) (sz + 48)), 52, 6766) g59 97 [(0, .ref a)] [.ref (sz + 48), .ref a])
  refine z_putRs (c := 9) (r := (RX9, TX9, 11)) (k := 6) F ht62 (by decide) rfl inZ9 tyX9_ok nmX9 (by decide) q_390 hnm rfl (Or.inl ⟨_, rfl⟩) (by omega) dX9_init_97 ?_
  refine z_letg (fun g63 => ?_)
  have ht65 : (t_X6_init (zts (t_X8_init (zts (t_X2_init (zts (t_X1_init (zts (t_X4_init (zts (t_X5_init (zts (t_X5_init (zts τ sz (.inr 16)) (sz + 1) sz) (sz + 11) (.inr 16)) (sz + 12) (sz + 11)) (sz + 22) (.inr 15)) (sz + 23) (sz + 22)) (sz + 27) (.inr 12)) (sz + 28) (sz + 27)) (sz + 30) (.inr 13)) (sz + 31) (sz + 30)) (sz + 37) (.inr 19)) (sz + 38) (sz + 37)) (sz + 48) (.inr 17)) (sz + 49) (sz + 48)) sz = some (.inr 5) := by repeat (first | exact ht6 | refine zts_ne ?_ (by omega) | refine t_X0_init_old ?_ (by omega) (by omega) | refine t_X1_init_old ?_ (by omega) (by omega) | refine t_X3_init_old ?_ (by omega) (by omega) | refine t_X4_init_old ?_ (by omega) (by omega) | refine t_X5_init_old ?_ (by omega) (by omega) | refine t_X6_init_old ?_ (by omega) (by omega) | refine t_X7_init_old ?_ (by omega) (by omega) | refine t_X2_init_old ?_ (by omega) (by omega) | refine t_X8_init_old ?_ (by omega) (by omega))
  have ht66 : (t_X6_init (zts (t_X8_init (zts (t_X2_init (zts (t_X1_init (zts (t_X4_init (zts (t_X5_init (zts (t_X5_init (zts τ sz (.inr 16)) (sz + 1) sz) (sz + 11) (.inr 16)) (sz + 12) (sz + 11)) (sz + 22) (.inr 15)) (sz + 23) (sz + 22)) (sz + 27) (.inr 12)) (sz + 28) (sz + 27)) (sz + 30) (.inr 13)) (sz + 31) (sz + 30)) (sz + 37) (.inr 19)) (sz + 38) (sz + 37)) (sz + 48) (.inr 17)) (sz + 49) (sz + 48)) (sz + 11) = some (.inr 5) := by repeat (first | exact ht14 | refine zts_ne ?_ (by omega) | refine t_X0_init_old ?_ (by omega) (by omega) | refine t_X1_init_old ?_ (by omega) (by omega) | refine t_X3_init_old ?_ (by omega) (by omega) | refine t_X4_init_old ?_ (by omega) (by omega) | refine t_X5_init_old ?_ (by omega) (by omega) | refine t_X6_init_old ?_ (by omega) (by omega) | refine t_X7_init_old ?_ (by omega) (by omega) | refine t_X2_init_old ?_ (by omega) (by omega) | refine t_X8_init_old ?_ (by omega) (by omega))
  have ht67 : (t_X6_init (zts (t_X8_init (zts (t_X2_init (zts (t_X1_init (zts (t_X4_init (zts (t_X5_init (zts (t_X5_init (zts τ sz (.inr 16)) (sz + 1) sz) (sz + 11) (.inr 16)) (sz + 12) (sz + 11)) (sz + 22) (.inr 15)) (sz + 23) (sz + 22)) (sz + 27) (.inr 12)) (sz + 28) (sz + 27)) (sz + 30) (.inr 13)) (sz + 31) (sz + 30)) (sz + 37) (.inr 19)) (sz + 38) (sz + 37)) (sz + 48) (.inr 17)) (sz + 49) (sz + 48)) (sz + 22) = some (.inr 4) := by repeat (first | exact ht22 | refine zts_ne ?_ (by omega) | refine t_X0_init_old ?_ (by omega) (by omega) | refine t_X1_init_old ?_ (by omega) (by omega) | refine t_X3_init_old ?_ (by omega) (by omega) | refine t_X4_init_old ?_ (by omega) (by omega) | refine t_X5_init_old ?_ (by omega) (by omega) | refine t_X6_init_old ?_ (by omega) (by omega) | refine t_X7_init_old ?_ (by omega) (by omega) | refine t_X2_init_old ?_ (by omega) (by omega) | refine t_X8_init_old ?_ (by omega) (by omega))
  have ht68 : (t_X6_init (zts (t_X8_init (zts (t_X2_init (zts (t_X1_init (zts (t_X4_init (zts (t_X5_init (zts (t_X5_init (zts τ sz (.inr 16)) (sz + 1) sz) (sz + 11) (.inr 16)) (sz + 12) (sz + 11)) (sz + 22) (.inr 15)) (sz + 23) (sz + 22)) (sz + 27) (.inr 12)) (sz + 28) (sz + 27)) (sz + 30) (.inr 13)) (sz + 31) (sz + 30)) (sz + 37) (.inr 19)) (sz + 38) (sz + 37)) (sz + 48) (.inr 17)) (sz + 49) (sz + 48)) (sz + 27) = some (.inr 1) := by repeat (first | exact ht30 | refine zts_ne ?_ (by omega) | refine t_X0_init_old ?_ (by omega) (by omega) | refine t_X1_init_old ?_ (by omega) (by omega) | refine t_X3_init_old ?_ (by omega) (by omega) | refine t_X4_init_old ?_ (by omega) (by omega) | refine t_X5_init_old ?_ (by omega) (by omega) | refine t_X6_init_old ?_ (by omega) (by omega) | refine t_X7_init_old ?_ (by omega) (by omega) | refine t_X2_init_old ?_ (by omega) (by omega) | refine t_X8_init_old ?_ (by omega) (by omega))
  have ht69 : (t_X6_init (zts (t_X8_init (zts (t_X2_init (zts (t_X1_init (zts (t_X4_init (zts (t_X5_init (zts (t_X5_init (zts τ sz (.inr 16)) (sz + 1) sz) (sz + 11) (.inr 16)) (sz + 12) (sz + 11)) (sz + 22) (.inr 15)) (sz + 23) (sz + 22)) (sz + 27) (.inr 12)) (sz + 28) (sz + 27)) (sz + 30) (.inr 13)) (sz + 31) (sz + 30)) (sz + 37) (.inr 19)) (sz + 38) (sz + 37)) (sz + 48) (.inr 17)) (sz + 49) (sz + 48)) (sz + 30) = some (.inr 2) := by repeat (first | exact ht44 | refine zts_ne ?_ (by omega) | refine t_X0_init_old ?_ (by omega) (by omega) | refine t_X1_init_old ?_ (by omega) (by omega) | refine t_X3_init_old ?_ (by omega) (by omega) | refine t_X4_init_old ?_ (by omega) (by omega) | refine t_X5_init_old ?_ (by omega) (by omega) | refine t_X6_init_old ?_ (by omega) (by omega) | refine t_X7_init_old ?_ (by omega) (by omega) | refine t_X2_init_old ?_ (by omega) (by omega) | refine t_X8_init_old ?_ (by omega) (by omega))
  have ht70 : (t_X6_init (zts (t_X8_init (zts (t_X2_init (zts (t_X1_init (zts (t_X4_init (zts (t_X5_init (zts (t_X5_init (zts τ sz (.inr 16)) (sz + 1) sz) (sz + 11) (.inr 16)) (sz + 12) (sz + 11)) (sz + 22) (.inr 15)) (sz + 23) (sz + 22)) (sz + 27) (.inr 12)) (sz + 28) (sz + 27)) (sz + 30) (.inr 13)) (sz + 31) (sz + 30)) (sz + 37) (.inr 19)) (sz + 38) (sz + 37)) (sz + 48) (.inr 17)) (sz + 49) (sz + 48)) (sz + 37) = some (.inr 8) := by repeat (first | exact ht53 | refine zts_ne ?_ (by omega) | refine t_X0_init_old ?_ (by omega) (by omega) | refine t_X1_init_old ?_ (by omega) (by omega) | refine t_X3_init_old ?_ (by omega) (by omega) | refine t_X4_init_old ?_ (by omega) (by omega) | refine t_X5_init_old ?_ (by omega) (by omega) | refine t_X6_init_old ?_ (by omega) (by omega) | refine t_X7_init_old ?_ (by omega) (by omega) | refine t_X2_init_old ?_ (by omega) (by omega) | refine t_X8_init_old ?_ (by omega) (by omega))
  refine z_zc (fun hck64 => ?_)
  refine z_prom (c := 20) (c2 := 9) ht62 rfl (fun hw => zprom_X9 hw ht62 (by rw [hck64.1]; exact ht65) (by rw [hck64.2.1]; exact ht66) (by rw [hck64.2.2.1]; exact ht67) (by rw [hck64.2.2.2.1]; exact ht68) (by rw [hck64.2.2.2.2.1]; exact ht69) (by rw [hck64.2.2.2.2.2.1]; exact ht70) (by rw [hck64.2.2.2.2.2.2]; exact ht61)) ?_
  have ht71 : (zts (t_X6_init (zts (t_X8_init (zts (t_X2_init (zts (t_X1_init (zts (t_X4_init (zts (t_X5_init (zts (t_X5_init (zts τ sz (.inr 16)) (sz + 1) sz) (sz + 11) (.inr 16)) (sz + 12) (sz + 11)) (sz + 22) (.inr 15)) (sz + 23) (sz + 22)) (sz + 27) (.inr 12)) (sz + 28) (sz + 27)) (sz + 30) (.inr 13)) (sz + 31) (sz + 30)) (sz + 37) (.inr 19)) (sz + 38) (sz + 37)) (sz + 48) (.inr 17)) (sz + 49) (sz + 48)) a (.inr 9)) a = some (.inr 9) := zts_same _ _ _
  show zSim _ _ (zAt E D (zA τ sz) (zQ E D zrV 52 6766 sz τ (t_X9_init τ sz a) r g') 1 (sz + 52, (zts (t_X6_init (zts (t_X8_init (zts (t_X2_init (zts (t_X1_init (zts (t_X4_init (zts (t_X5_init (zts (t_X5_init (zts τ sz (.inr 16)) (sz + 1) sz) (sz + 11) (.inr 16)) (sz + 12) (sz + 11)) (sz + 22) (.inr 15)) (sz + 23) (sz + 22)) (sz + 27) (.inr 12)) (sz + 28) (sz + 27)) (sz + 30) (.inr 13)) (sz + 31) (sz + 30)) (sz + 37) (.inr 19)) (sz + 38) (sz + 37)) (sz + 48) (.inr 17)) (sz + 49) (sz + 48)) a (.inr 9)), 52, 6766) g63 100 [(0, .ref a)] [])
  exact z_vreturn F rfl rfl rfl rfl (fun h => h) dX9_init_100
