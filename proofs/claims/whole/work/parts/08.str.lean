-- ===== copying, and the text of the words =====
abbrev zcpok (sp dp n : Int32) (n0 n1 : Nat) : Prop := ¬ sp < 0 ∧ ¬ dp < 0 ∧ ¬ n < 0 ∧ sp.toNatClampNeg + n.toNatClampNeg ≤ n0 ∧ dp.toNatClampNeg + n.toNatClampNeg ≤ n1
def zcp (g : zG) (a : Nat) (f : Nat → Int32) (sp dp n : Int32) : zG := (fun b j => if b = a then va_cpy f (g.1 a) sp.toNatClampNeg dp.toNatClampNeg n.toNatClampNeg j else g.1 b j, g.2)
theorem znn (z : Int32) (hz : ¬ z < 0) : z.toInt = (z.toNatClampNeg : Int) := by
  have hz0 : (0 : Int) ≤ z.toInt := by
    have := Int32.not_lt.mp hz
    simpa using Int32.le_iff_toInt_le.mp this
  show z.toInt = ((z.toInt.toNat : Nat) : Int)
  omega
section ZP
variable {ρ : Type} {K : ρ → Prop} {f f1 f2 : Option ρ} {E : zE} {D : zD} {A : Nat → Prop} {Q : State → Prop} {nL : Nat} {κ : zC} {g : zG} {pc : Nat} {lv lv' : List (Nat × Value)} {st : List Value} {cc : ByteArray} {own : String} {ret : Option FieldType}
theorem z_copy0 (F : zF E D A cc own nL ret) {b0 a n0 n1 index : Nat} {fs : Nat → Int32} {sp dp n : Int32} [dz : Decidable (zcpok sp dp n n0 n1)] (hl : zTbl (.methodLink own index arraycopyName)) (hnat : zTbl (.native arraycopyName)) (hstat : zTbl (.static arraycopyName)) (hini : zTbl (.initialized "java/lang/System"))
    (hX : ∀ (H : Heap) (locs : List Loc), zHeap D κ.2.1 g H → va_S A E.2.2.2.2.1.heap H locs → ∃ scr : Cell, H[b0]? = some scr ∧ E.2.2.2.2.1.isArrayOf scr .int ∧ scr.vm ≠ .unknown ∧ n0 ≤ scr.slots.size ∧ ∀ j : Nat, j < n0 → scr.slots[j]? = some (.int (fs j)))
    (ht : κ.2.1 a = some (.inl (.int, n1))) (hR : 1 ≤ E.2.2.2.1.frames ∧ 26 ≤ E.2.2.2.1.locals) (hW : (st.map fun v => v.category).sum ≤ 8) (hd : decode cc pc = .ok (.invokestatic index, 3)) (kk : zSim K f (zAt E D A Q nL κ (zcp g a fs sp dp n) (pc + 3) lv st)) : zSim K (zc (zcpok sp dp n n0 n1) f) (zAt E D A Q nL κ g pc lv (.int n :: .int dp :: .ref a :: .int sp :: .ref b0 :: st)) := by
  refine z_zc (fun hok => ?_)
  obtain ⟨c1, c2, c3, c4, c5⟩ := hok
  intro x hx hK H locs ls h1 h2 h3 h4 h5 h6
  obtain ⟨scr, hc0, hs2, hs3, hs4, hs5⟩ := hX H locs h2 h5
  have hc1 := h2.1 a _ _ ht
  intro T hT X
  obtain ⟨hs6, k0, hk0, cm0, hkk0⟩ := hs2
  obtain ⟨-, k1, hk1, cm1, hkk1⟩ := (F.u.2.1.2 .int (by decide)).1 n1 (fun j => .int (g.1 a j))
  have e7 : nativeFrameWords "java/lang/System" "arraycopy" 5 = 7 := by decide
  obtain ⟨vm', X', step⟩ := X.arraycopy F.ex F.own (F.w hl) (F.w hnat) (F.w hstat) (F.w hini) (src := b0) (dst := a) (cs := scr) (cd := vp_cell (D.2.2.1 .int) (n1, .inl (g.1 a))) (srcPos := sp) (destPos := dp) (n := n) (by rw [hT]; exact hc0) (by rw [hT]; exact hc1)
    hs6 (fun _ h => by cases h) hs3 (fun h => by cases h) hk0 hk1 hkk0 hkk1 (by simp [refKind]) c1 c2 c3
    (by rw [znn sp c1, znn n c3]; omega)
    (by rw [znn dp c2, znn n c3]; show ¬ _ > ((arrV (D.2.2.1 .int) n1 (fun j => .int (g.1 a j))).slots.size : Int); rw [arrV_size]; omega)
    (fun vm₁ _ i hi => by
      have e : scr.slots.getD (sp.toNatClampNeg + i) .null = .int (fs (sp.toNatClampNeg + i)) := by
        rw [Array.getD_eq_getD_getElem?, hs5 _ (by omega)]
        rfl
      refine ⟨?_, ?_⟩
      · rw [e]; rfl
      · rw [e]
        exact trivial)
    (g := F0 E.2.2.2.2.2.1 pc ls (.int n :: .int dp :: .ref a :: .int sp :: .ref b0 :: st)) rfl (by rw [F.ml, h6.1]) (rest := st) rfl (by rw [F.cd]; exact hd) hR.1 (by show 2 * 0 + _ + _ ≤ _; rw [e7]; omega)
  have e1 : copied scr (vp_cell (D.2.2.1 .int) (n1, .inl (g.1 a))) sp dp n = vp_cell (D.2.2.1 .int) (n1, .inl (va_cpy fs (g.1 a) sp.toNatClampNeg dp.toNatClampNeg n.toNatClampNeg)) := va_copiedX (fun z => .int z) scr (D.2.2.1 .int) fs (g.1 a) hs5 c4
  rw [e1] at X' step
  have hlt : a < H.size := (Array.getElem?_eq_some_iff.mp hc1).1
  have hheap : ((T.setVm vm').setCell a (vp_cell (D.2.2.1 .int) (n1, .inl (va_cpy fs (g.1 a) sp.toNatClampNeg dp.toNatClampNeg n.toNatClampNeg)))).heap = H.setIfInBounds a (vp_cell (D.2.2.1 .int) (n1, .inl (va_cpy fs (g.1 a) sp.toNatClampNeg dp.toNatClampNeg n.toNatClampNeg))) := by rw [← hT]; rfl
  have oq : ∀ q : Nat, q ≠ a → (H.setIfInBounds a (vp_cell (D.2.2.1 .int) (n1, .inl (va_cpy fs (g.1 a) sp.toNatClampNeg dp.toNatClampNeg n.toNatClampNeg))))[q]? = H[q]? := fun q hq => by simp [Array.getElem?_setIfInBounds, Ne.symm hq]
  have hA : A a := h4 a _ ht
  obtain ⟨t, a1, b1⟩ := kk x hx hK _ _ ls (by simp; exact h1) (h2.arr (g' := zcp g a fs sp dp n) (k := 0) ht (fun b j hb => by simp [zcp, hb]) rfl (by
      have e2 : (zcp g a fs sp dp n).1 a = va_cpy fs (g.1 a) sp.toNatClampNeg dp.toNatClampNeg n.toNatClampNeg := by funext j; simp [zcp]
      rw [e2]
      show (H.setIfInBounds a _)[a]? = some _
      simp [Array.getElem?_setIfInBounds, hlt]) oq) h3 h4 ⟨by simp; exact h5.1, fun q g1 g2 => by
      rw [oq q (fun e => g2 (by rw [e]; exact hA))]
      exact h5.2.1 q g1 g2, fun q hq => by
      rcases List.mem_append.mp hq with h | h
      · exact h5.2.2 q h
      · obtain ⟨z, -, hz⟩ := List.mem_map.mp h
        rw [← hz]
        exact hA⟩ h6 _ hheap X'
  exact ⟨t, step t a1, b1⟩
theorem z_copy (F : zF E D A cc own nL ret) {b0 a n0 n1 index : Nat} {sp dp n : Int32} [dz : Decidable (zcpok sp dp n n0 n1)] (hl : zTbl (.methodLink own index arraycopyName)) (hnat : zTbl (.native arraycopyName)) (hstat : zTbl (.static arraycopyName)) (hini : zTbl (.initialized "java/lang/System")) (ht0 : κ.2.1 b0 = some (.inl (.int, n0))) (ht : κ.2.1 a = some (.inl (.int, n1))) (hR : 1 ≤ E.2.2.2.1.frames ∧ 26 ≤ E.2.2.2.1.locals) (hW : (st.map fun v => v.category).sum ≤ 8) (hd : decode cc pc = .ok (.invokestatic index, 3)) (kk : zSim K f (zAt E D A Q nL κ (zcp g a (g.1 b0) sp dp n) (pc + 3) lv st)) : zSim K (zc (zcpok sp dp n n0 n1) f) (zAt E D A Q nL κ g pc lv (.int n :: .int dp :: .ref a :: .int sp :: .ref b0 :: st)) :=
  z_copy0 F hl hnat hstat hini (fun H locs h2 h5 => ⟨_, h2.1 b0 _ _ ht0, (F.u.2.1.2 .int (by decide)).1 n0 (fun j => .int (g.1 b0 j)), (fun q => by cases q), by show _ ≤ (arrV _ _ _).slots.size; rw [arrV_size]; exact Nat.le_refl _, fun j hj => by show (arrV _ _ _).slots[_]? = _; rw [arrV_read _ _ hj]⟩) ht hR hW hd kk
theorem z_copyt (F : zF E D A cc own nL ret) {a n1 index : Nat} {sp dp n : Int32} (k : Nat) (hk : k < 3) [dz : Decidable (zcpok sp dp n (zTabN k) n1)] (hl : zTbl (.methodLink own index arraycopyName)) (hnat : zTbl (.native arraycopyName)) (hstat : zTbl (.static arraycopyName)) (hini : zTbl (.initialized "java/lang/System")) (ht : κ.2.1 a = some (.inl (.int, n1))) (hR : 1 ≤ E.2.2.2.1.frames ∧ 26 ≤ E.2.2.2.1.locals) (hW : (st.map fun v => v.category).sum ≤ 8) (hd : decode cc pc = .ok (.invokestatic index, 3)) (kk : zSim K f (zAt E D A Q nL κ (zcp g a (zTabF k) sp dp n) (pc + 3) lv st)) : zSim K (zc (zcpok sp dp n (zTabN k) n1) f) (zAt E D A Q nL κ g pc lv (.int n :: .int dp :: .ref a :: .int sp :: .ref (D.2.2.2 k) :: st)) :=
  z_copy0 F hl hnat hstat hini (fun H locs h2 h5 => by
    obtain ⟨cell, e1, e2, e3, e4, e5, e6, e7⟩ := ((F.u.2.2.1 k hk).2).kept h5.2.1
    exact ⟨cell, e1, e2, e3, e4, e6⟩) ht hR hW hd kk
theorem z_none {X : Prop} : zSim K none X := fun r hr => by cases hr
theorem z_ldcS (F : zF E D A cc "TypeChain$Reader" nL ret) (hd : decode cc pc = .ok (.ldc 156, 2)) (kk : zSim K f (zAt E D A Q nL κ g (pc + 2) lv (.ref (D.2.2.2 3) :: st))) : zSim K f (zAt E D A Q nL κ g pc lv st) :=
  fun r hr hK H locs ls h1 h2 h3 h4 h5 h6 => va_ldcS F.ex F.cd F.own F.u.2.2.2.2.2.2 hd (kk r hr hK H locs ls h1 h2 h3 h4 h5 h6)
theorem z_creturn {rv : Int32 → Option Value} {mc ms sz : Nat} {τ τ' : zT} {r x : Int32} {g' : zG} {v : ρ} {E : zE} {n cl sl : Nat} (F : zF E D (zA τ sz) cc own nL (some .char)) (hz : narrow .char (.int x) = .int x) (hrv : rv = zrI) (hn : n = sz + mc) (hc : cl = mc) (hs : sl = ms) (hK : K v → (x, g) = (r, g')) (hd : decode cc pc = .ok (.ireturn, 1)) : zSim K (some v) (zAt E D (zA τ sz) (zQ E D rv mc ms sz τ τ' r g') nL (n, τ', cl, sl) g pc lv [.int x]) := by
  intro w hw hk H locs ls h1 h2 h3 h4 h5 h6
  cases hw
  cases hK hk
  subst hrv; subst hn; subst hc; subst hs
  exact W.zret F.ex F.cd F.rt hz (fun t ht _ => ⟨rfl, by rw [ht]; exact h1, by rw [ht]; exact h2, h3, h4, h5.F ht⟩) h5.2.2 hd F.lk
/-- a call on the text of the words -/
theorem z_callT (F : zF E D A cc own nL ret) {y : MethodName} {cb : ByteArray} {maxL : Nat} {rt : Option FieldType} {rm : Room} {n index : Nat} {rv : Int32 → Option Value} {As : List Value} {o : Option (Int32 × zG)} {h : Int32 → zG → Option ρ} (hC : zCall E.2.2.2.1 y cb maxL rt rm 0 0 n) (hM : zCon E.2.1 D y cb maxL rt rm 0 0 rv (.ref (D.2.2.2 3) :: As) κ.1 κ.2.1 g κ.2.1 o) (hl : zTbl (.methodLink own index y)) (hin : zTbl (.instanceMethod y)) (hse : zTbl (.selects "java/lang/String" y y)) (hn : As.length = n) (hc : κ.2.2.1 ≤ E.2.2.2.1.cells ∧ κ.2.2.2 ≤ E.2.2.2.1.slots) (hW : (st.map fun v => v.category).sum ≤ 8) (hd : decode cc pc = .ok (.invokevirtual index, 3))
    (kk : ∀ r g', zSim K (h r g') (zAt E D A Q nL κ g' (pc + 3) lv ((rv r).toList ++ st))) (st0 : List Value) (hst : st0 = As.reverse ++ .ref (D.2.2.2 3) :: st) : zSim K (zb o h) (zAt E D A Q nL κ g pc lv st0) := by
  intro w hw hK H locs ls h1 h2 h3 h4 h5 h6
  subst hst
  cases ho : o with
  | none => rw [ho] at hw; cases hw
  | some q =>
    obtain ⟨x, g1⟩ := q
    rw [ho] at hw
    have hM2 := hM x g1 ho
    rw [← h1] at hM2
    refine z_after (o := o) (h := h) (w := w) F h1 h4 h5 h6 (va_runV (Ts := []) (As := As) (rest := st) ⟨F.ex, F.cd, F.ml, F.own, fun w hw => by cases hw⟩ hM2 ⟨hC.B F hl, F.w hin, F.w hse⟩ ⟨zP_blind, vk_recv F.u.2.2.2.2.2.1 (i := 0) (by decide) h5, zP_at F h2 h3 h4 h5⟩ rfl hn h6.1 rfl (lv_room hW) hd hc) (kk x g1 w hw hK)
end ZP
-- Preconditions.checkIndex
theorem dJ3_checkIndex_8e157_0 : decode cJ3_checkIndex_8e157 0 = .ok (.iload_n 0, 1) := by decide +kernel
theorem dJ3_checkIndex_8e157_1 : decode cJ3_checkIndex_8e157 1 = .ok (.ifCond .lt 8, 3) := by decide +kernel
theorem dJ3_checkIndex_8e157_4 : decode cJ3_checkIndex_8e157 4 = .ok (.iload_n 0, 1) := by decide +kernel
theorem dJ3_checkIndex_8e157_5 : decode cJ3_checkIndex_8e157 5 = .ok (.iload_n 1, 1) := by decide +kernel
theorem dJ3_checkIndex_8e157_6 : decode cJ3_checkIndex_8e157 6 = .ok (.if_icmp .lt 10, 3) := by decide +kernel
theorem dJ3_checkIndex_8e157_9 : decode cJ3_checkIndex_8e157 9 = .ok (.aload_n 2, 1) := by decide +kernel
theorem dJ3_checkIndex_8e157_10 : decode cJ3_checkIndex_8e157 10 = .ok (.iload_n 0, 1) := by decide +kernel
theorem dJ3_checkIndex_8e157_11 : decode cJ3_checkIndex_8e157 11 = .ok (.iload_n 1, 1) := by decide +kernel
theorem dJ3_checkIndex_8e157_12 : decode cJ3_checkIndex_8e157 12 = .ok (.invokestatic 95, 3) := by decide +kernel
theorem dJ3_checkIndex_8e157_15 : decode cJ3_checkIndex_8e157 15 = .ok (.athrow, 1) := by decide +kernel
theorem dJ3_checkIndex_8e157_16 : decode cJ3_checkIndex_8e157 16 = .ok (.iload_n 0, 1) := by decide +kernel
theorem dJ3_checkIndex_8e157_17 : decode cJ3_checkIndex_8e157 17 = .ok (.ireturn, 1) := by decide +kernel
theorem dJ0_checkIndex_df160_0 : decode cJ0_checkIndex_df160 0 = .ok (.iload_n 0, 1) := by decide +kernel
theorem dJ0_checkIndex_df160_1 : decode cJ0_checkIndex_df160 1 = .ok (.iload_n 1, 1) := by decide +kernel
theorem dJ0_checkIndex_df160_2 : decode cJ0_checkIndex_df160 2 = .ok (.getstatic 1053, 3) := by decide +kernel
theorem dJ0_checkIndex_df160_5 : decode cJ0_checkIndex_df160 5 = .ok (.invokestatic 1059, 3) := by decide +kernel
theorem dJ0_checkIndex_df160_8 : decode cJ0_checkIndex_df160 8 = .ok (.pop, 1) := by decide +kernel
theorem dJ0_checkIndex_df160_9 : decode cJ0_checkIndex_df160 9 = .ok (.return_, 1) := by decide +kernel
theorem dJ1_charAt_3b067_0 : decode cJ1_charAt_3b067 0 = .ok (.iload_n 1, 1) := by decide +kernel
theorem dJ1_charAt_3b067_1 : decode cJ1_charAt_3b067 1 = .ok (.aload_n 0, 1) := by decide +kernel
theorem dJ1_charAt_3b067_2 : decode cJ1_charAt_3b067 2 = .ok (.arraylength, 1) := by decide +kernel
theorem dJ1_charAt_3b067_3 : decode cJ1_charAt_3b067 3 = .ok (.invokestatic 9, 3) := by decide +kernel
theorem dJ1_charAt_3b067_6 : decode cJ1_charAt_3b067 6 = .ok (.aload_n 0, 1) := by decide +kernel
theorem dJ1_charAt_3b067_7 : decode cJ1_charAt_3b067 7 = .ok (.iload_n 1, 1) := by decide +kernel
theorem dJ1_charAt_3b067_8 : decode cJ1_charAt_3b067 8 = .ok (.baload, 1) := by decide +kernel
theorem dJ1_charAt_3b067_9 : decode cJ1_charAt_3b067 9 = .ok (.sipush 255, 3) := by decide +kernel
theorem dJ1_charAt_3b067_12 : decode cJ1_charAt_3b067 12 = .ok (.iand, 1) := by decide +kernel
theorem dJ1_charAt_3b067_13 : decode cJ1_charAt_3b067 13 = .ok (.i2c, 1) := by decide +kernel
theorem dJ1_charAt_3b067_14 : decode cJ1_charAt_3b067 14 = .ok (.ireturn, 1) := by decide +kernel
theorem dJ0_isLatin1_aae02_0 : decode cJ0_isLatin1_aae02 0 = .ok (.getstatic 38, 3) := by decide +kernel
theorem dJ0_isLatin1_aae02_3 : decode cJ0_isLatin1_aae02 3 = .ok (.ifCond .eq 14, 3) := by decide +kernel
theorem dJ0_isLatin1_aae02_6 : decode cJ0_isLatin1_aae02 6 = .ok (.aload_n 0, 1) := by decide +kernel
theorem dJ0_isLatin1_aae02_7 : decode cJ0_isLatin1_aae02 7 = .ok (.getfield 15, 3) := by decide +kernel
theorem dJ0_isLatin1_aae02_10 : decode cJ0_isLatin1_aae02 10 = .ok (.ifCond .ne 7, 3) := by decide +kernel
theorem dJ0_isLatin1_aae02_13 : decode cJ0_isLatin1_aae02 13 = .ok (.iconst 1, 1) := by decide +kernel
theorem dJ0_isLatin1_aae02_14 : decode cJ0_isLatin1_aae02 14 = .ok (.goto 4, 3) := by decide +kernel
theorem dJ0_isLatin1_aae02_17 : decode cJ0_isLatin1_aae02 17 = .ok (.iconst 0, 1) := by decide +kernel
theorem dJ0_isLatin1_aae02_18 : decode cJ0_isLatin1_aae02 18 = .ok (.ireturn, 1) := by decide +kernel
theorem dJ0_charAt_5068e_0 : decode cJ0_charAt_5068e 0 = .ok (.aload_n 0, 1) := by decide +kernel
theorem dJ0_charAt_5068e_1 : decode cJ0_charAt_5068e 1 = .ok (.invokevirtual 492, 3) := by decide +kernel
theorem dJ0_charAt_5068e_4 : decode cJ0_charAt_5068e 4 = .ok (.ifCond .eq 12, 3) := by decide +kernel
theorem dJ0_charAt_5068e_7 : decode cJ0_charAt_5068e 7 = .ok (.aload_n 0, 1) := by decide +kernel
theorem dJ0_charAt_5068e_8 : decode cJ0_charAt_5068e 8 = .ok (.getfield 9, 3) := by decide +kernel
theorem dJ0_charAt_5068e_11 : decode cJ0_charAt_5068e 11 = .ok (.iload_n 1, 1) := by decide +kernel
theorem dJ0_charAt_5068e_12 : decode cJ0_charAt_5068e 12 = .ok (.invokestatic 495, 3) := by decide +kernel
theorem dJ0_charAt_5068e_15 : decode cJ0_charAt_5068e 15 = .ok (.ireturn, 1) := by decide +kernel
theorem dJ0_charAt_5068e_16 : decode cJ0_charAt_5068e 16 = .ok (.aload_n 0, 1) := by decide +kernel
theorem dJ0_charAt_5068e_17 : decode cJ0_charAt_5068e 17 = .ok (.getfield 9, 3) := by decide +kernel
theorem dJ0_charAt_5068e_20 : decode cJ0_charAt_5068e 20 = .ok (.iload_n 1, 1) := by decide +kernel
theorem dJ0_charAt_5068e_21 : decode cJ0_charAt_5068e 21 = .ok (.invokestatic 498, 3) := by decide +kernel
theorem dJ0_charAt_5068e_24 : decode cJ0_charAt_5068e 24 = .ok (.ireturn, 1) := by decide +kernel
def f_J3 (x1 x2 : Int32) (g : zG) : Option (Int32 × zG) := if x1 < 0 then none else if x1 < x2 then some (x1, g) else none
set_option maxRecDepth 100000 in
theorem c_J3 (l : Launch) (D : zD) (sz : Nat) (τ : zT) (g : zG) (x1 x2 : Int32) (v : Value) (hv : v.category = 1) : zCon l D yJ3_checkIndex_8e157 cJ3_checkIndex_8e157 3 (some .int) { frames := 0, cells := 0, slots := 0, locals := 0 } 0 0 zrI [.int x1, .int x2, v] sz τ g τ (f_J3 x1 x2 g) := by
  refine zCon.of (by decide) (by
    have e : lg_sl [Value.int x1, Value.int x2, v] = [.val (.int x1), .val (.int x2)] ++ (if v.category = 2 then [.val v, .second] else [.val v]) := by simp [lg_sl, List.flatMap]; rfl
    rw [e, if_neg (by rw [hv]; decide)]; exact Nat.le_refl 3) (fun E r g' hl hR hsz hnm F => ?_)
  have F : zF E D (zA τ sz) cJ3_checkIndex_8e157 "jdk/internal/util/Preconditions" 3 (some .int) := F
  show zSim (fun q : Int32 × zG => q = (r, g')) (f_J3 x1 x2 g) (zAt E D (zA τ sz) (zQ E D zrI 0 0 sz τ τ r g') 3 (sz, τ, 0, 0) g 0 [(0, .int x1), (1, .int x2), (2, v)] [])
  unfold f_J3
  refine z_iload_n F 0 rfl rfl dJ3_checkIndex_8e157_0 ?_
  refine z_if_lt (tgt := 9) F dJ3_checkIndex_8e157_1 (by decide) (fun c1 => z_none) (fun c1 => ?_)
  refine z_iload_n F 0 rfl rfl dJ3_checkIndex_8e157_4 ?_
  refine z_iload_n F 1 rfl rfl dJ3_checkIndex_8e157_5 ?_
  refine z_icmp_lt (tgt := 16) F dJ3_checkIndex_8e157_6 (by decide) (fun c1 => ?_) (fun c1 => z_none)
  refine z_iload_n F 0 rfl rfl dJ3_checkIndex_8e157_16 ?_
  exact z_ireturn F rfl rfl rfl rfl (fun h => h) dJ3_checkIndex_8e157_17
def f_J0c (x1 x2 : Int32) (g : zG) : Option (Int32 × zG) := zb (f_J3 x1 x2 g) (fun _ g1 => some (0, g1))
set_option maxRecDepth 100000 in
theorem c_J0c (l : Launch) (D : zD) (sz : Nat) (τ : zT) (g : zG) (x1 x2 : Int32) : zCon l D yJ0_checkIndex_df160 cJ0_checkIndex_df160 2 none { frames := 1, cells := 0, slots := 0, locals := 22 } 0 0 zrV [.int x1, .int x2] sz τ g τ (f_J0c x1 x2 g) := by
  refine zCon.of (by decide) (Nat.le_of_ble_eq_true rfl) (fun E r g' hl hR hsz hnm F => ?_)
  have F : zF E D (zA τ sz) cJ0_checkIndex_df160 "java/lang/String" 2 none := F
  show zSim (fun q : Int32 × zG => q = (r, g')) (f_J0c x1 x2 g) (zAt E D (zA τ sz) (zQ E D zrV 0 0 sz τ τ r g') 2 (sz, τ, 0, 0) g 0 [(0, .int x1), (1, .int x2)] [])
  unfold f_J0c
  refine z_iload_n F 0 rfl rfl dJ0_checkIndex_df160_0 ?_
  refine z_iload_n F 1 rfl rfl dJ0_checkIndex_df160_1 ?_
  have key : ∀ v : Value, v.category = 1 → zSim (fun q : Int32 × zG => q = (r, g')) (zb (f_J3 x1 x2 g) (fun _ g1 => some (0, g1))) (zAt E D (zA τ sz) (zQ E D zrV 0 0 sz τ τ r g') 2 (sz, τ, 0, 0) g 5 [(0, .int x1), (1, .int x2)] [v, .int x2, .int x1]) := by
    intro v hv
    refine z_callS F (κ := (sz, τ, 0, 0)) (rm := { frames := 0, cells := 0, slots := 0, locals := 0 }) (n := 3) (mc := 0) (ms := 0) (As := [.int x1, .int x2, v]) (st := []) (rv := zrI) ⟨q_488, q_17, by decide +kernel, rfl, rfl, by rw [hR]; decide, by rw [hR]; decide⟩ (c_J3 E.2.1 D sz τ g x1 x2 v hv) q_486 q_487 rfl ⟨Nat.zero_le _, Nat.zero_le _⟩ (by decide) dJ0_checkIndex_df160_5 (fun v1 g1 => ?_) _ rfl
    refine z_pop F rfl dJ0_checkIndex_df160_8 ?_
    exact z_vreturn F rfl rfl rfl rfl (fun h => h) dJ0_checkIndex_df160_9
  intro x hx hK H locs ls h1 h2 h3 h4 h5 h6
  rcases F.u.2.2.2.2.1 with hz | ⟨t, hz⟩
  · exact va_gets F.ex F.cd hz h5 F.own (F.w q_484) (fun _ h => h) dJ0_checkIndex_df160_2 (key .null rfl x hx hK H locs ls h1 h2 h3 h4 h5 h6)
  · exact va_gets F.ex F.cd hz h5 F.own (F.w q_484) (fun _ h => h) dJ0_checkIndex_df160_2 (key (.ref t) rfl x hx hK H locs ls h1 h2 h3 h4 h5 h6)
def f_J1 (x : Int32) (g : zG) : Option (Int32 × zG) := zb (f_J0c x 91 g) (fun _ g1 => zc (zin x 91) (some (((zWORDS.getD x.toNatClampNeg 0 &&& 255).toUInt32 % 65536).toInt32, g1)))
set_option maxRecDepth 100000 in
theorem c_J1 (l : Launch) (D : zD) (sz : Nat) (τ : zT) (g : zG) (x : Int32) : zCon l D yJ1_charAt_3b067 cJ1_charAt_3b067 2 (some .char) { frames := 2, cells := 0, slots := 0, locals := 43 } 0 0 zrI [.ref (D.2.2.2 4), .int x] sz τ g τ (f_J1 x g) := by
  refine zCon.of (by decide) (Nat.le_of_ble_eq_true rfl) (fun E r g' hl hR hsz hnm F => ?_)
  have F : zF E D (zA τ sz) cJ1_charAt_3b067 "java/lang/StringLatin1" 2 (some .char) := F
  show zSim (fun q : Int32 × zG => q = (r, g')) (f_J1 x g) (zAt E D (zA τ sz) (zQ E D zrI 0 0 sz τ τ r g') 2 (sz, τ, 0, 0) g 0 [(0, .ref (D.2.2.2 4)), (1, .int x)] [])
  unfold f_J1
  have hT := (F.u.2.2.2.2.2.1.1 0 (by decide)).2.2.2
  refine z_iload_n F 1 rfl rfl dJ1_charAt_3b067_0 ?_
  refine z_aload_n F 0 rfl rfl dJ1_charAt_3b067_1 ?_
  have step : zSim (fun q : Int32 × zG => q = (r, g')) (zb (f_J0c x 91 g) (fun _ g1 => zc (zin x 91) (some (((zWORDS.getD x.toNatClampNeg 0 &&& 255).toUInt32 % 65536).toInt32, g1)))) (zAt E D (zA τ sz) (zQ E D zrI 0 0 sz τ τ r g') 2 (sz, τ, 0, 0) g 3 [(0, .ref (D.2.2.2 4)), (1, .int x)] [.int 91, .int x]) := by
    refine z_callS F (κ := (sz, τ, 0, 0)) (rm := { frames := 1, cells := 0, slots := 0, locals := 22 }) (n := 2) (mc := 0) (ms := 0) (As := [.int x, .int 91]) (st := []) (rv := zrV) ⟨q_483, q_15, by decide +kernel, rfl, rfl, by rw [hR]; decide, by rw [hR]; decide⟩ (c_J0c E.2.1 D sz τ g x 91) q_481 q_482 rfl ⟨Nat.zero_le _, Nat.zero_le _⟩ (by decide) dJ1_charAt_3b067_3 (fun v1 g1 => ?_) _ rfl
    show zSim (fun q : Int32 × zG => q = (r, g')) (zc (zin x 91) (some (((zWORDS.getD x.toNatClampNeg 0 &&& 255).toUInt32 % 65536).toInt32, g1))) (zAt E D (zA τ sz) (zQ E D zrI 0 0 sz τ τ r g') 2 (sz, τ, 0, 0) g1 6 [(0, .ref (D.2.2.2 4)), (1, .int x)] [])
    refine z_zc (fun hin => ?_)
    refine z_aload_n F 0 rfl rfl dJ1_charAt_3b067_6 ?_
    refine z_iload_n F 1 rfl rfl dJ1_charAt_3b067_7 ?_
    have s2 : zSim (fun q : Int32 × zG => q = (r, g')) (some (((zWORDS.getD x.toNatClampNeg 0 &&& 255).toUInt32 % 65536).toInt32, g1)) (zAt E D (zA τ sz) (zQ E D zrI 0 0 sz τ τ r g') 2 (sz, τ, 0, 0) g1 9 [(0, .ref (D.2.2.2 4)), (1, .int x)] [.int (zWORDS.getD x.toNatClampNeg 0)]) := by
      refine z_sipush (v := 255) F (by decide) dJ1_charAt_3b067_9 ?_
      refine z_iand F dJ1_charAt_3b067_12 ?_
      refine z_i2c F dJ1_charAt_3b067_13 ?_
      exact z_creturn F (pk_nc _) rfl rfl rfl rfl (fun h => h) dJ1_charAt_3b067_14
    intro w hw hK H locs ls h1 h2 h3 h4 h5 h6
    exact va_tb F.ex F.cd hT h5 hin rfl dJ1_charAt_3b067_8 (s2 w hw hK H locs ls h1 h2 h3 h4 h5 h6)
  intro w hw hK H locs ls h1 h2 h3 h4 h5 h6
  exact va_tlen F.ex F.cd hT h5 (v := 91) rfl dJ1_charAt_3b067_2 (step w hw hK H locs ls h1 h2 h3 h4 h5 h6)
def f_J0l (g : zG) : Option (Int32 × zG) := some (1, g)
set_option maxRecDepth 100000 in
theorem c_J0l (l : Launch) (D : zD) (sz : Nat) (τ : zT) (g : zG) : zCon l D yJ0_isLatin1_aae02 cJ0_isLatin1_aae02 1 (some .boolean) { frames := 0, cells := 0, slots := 0, locals := 0 } 0 0 zrI [.ref (D.2.2.2 3)] sz τ g τ (f_J0l g) := by
  refine zCon.of (by decide) (Nat.le_of_ble_eq_true rfl) (fun E r g' hl hR hsz hnm F => ?_)
  have F : zF E D (zA τ sz) cJ0_isLatin1_aae02 "java/lang/String" 1 (some .boolean) := F
  show zSim (fun q : Int32 × zG => q = (r, g')) (some ((1 : Int32), g)) (zAt E D (zA τ sz) (zQ E D zrI 0 0 sz τ τ r g') 1 (sz, τ, 0, 0) g 0 [(0, .ref (D.2.2.2 3))] [])
  have hO := (F.u.2.2.2.2.2.1.1 0 (by decide)).2.1
  have s3 : zSim (fun q : Int32 × zG => q = (r, g')) (some ((1 : Int32), g)) (zAt E D (zA τ sz) (zQ E D zrI 0 0 sz τ τ r g') 1 (sz, τ, 0, 0) g 13 [(0, .ref (D.2.2.2 3))] []) := by
    refine z_iconst (v := 1) F (by decide) dJ0_isLatin1_aae02_13 ?_
    refine z_goto (tgt := 18) F dJ0_isLatin1_aae02_14 (by decide) ?_
    exact z_zreturn F rfl rfl rfl rfl rfl (fun h => h) dJ0_isLatin1_aae02_18
  have s2 : zSim (fun q : Int32 × zG => q = (r, g')) (some ((1 : Int32), g)) (zAt E D (zA τ sz) (zQ E D zrI 0 0 sz τ τ r g') 1 (sz, τ, 0, 0) g 3 [(0, .ref (D.2.2.2 3))] [.int 1]) := by
    intro w hw hK H locs ls h1 h2 h3 h4 h5 h6
    refine lv_if_eq F.ex F.cd dJ0_isLatin1_aae02_3 (tgt := 17) (by decide) (fun hz => absurd hz (by decide)) (fun hz => ?_)
    refine lv_aload_n F.ex F.cd dJ0_isLatin1_aae02_6 rfl (lv_at h6 0 rfl) ?_
    refine vk_getf F.ex F.cd hO h5 F.own (F.w q_1362) (fun _ h => h) dJ0_isLatin1_aae02_7 ?_
    refine lv_if_ne F.ex F.cd dJ0_isLatin1_aae02_10 (tgt := 17) (by decide) (fun hz => absurd rfl hz) (fun hz => ?_)
    exact s3 w hw hK H locs ls h1 h2 h3 h4 h5 h6
  intro w hw hK H locs ls h1 h2 h3 h4 h5 h6
  exact va_gets F.ex F.cd F.u.2.2.2.1 h5 F.own (F.w q_476) (fun _ h => h) dJ0_isLatin1_aae02_0 (s2 w hw hK H locs ls h1 h2 h3 h4 h5 h6)
def f_charAt (x : Int32) (g : zG) : Option (Int32 × zG) := zb (f_J0l g) (fun r g1 => if r = 0 then none else zb (f_J1 x g1) (fun v g2 => zc ((v.toUInt32 % 65536).toInt32 = v) (some (v, g2))))
theorem znarc {x : Int32} (h : (x.toUInt32 % 65536).toInt32 = x) : narrow .char (.int x) = .int x := by
  have e := pk_nc x
  rw [h] at e
  exact e
set_option maxRecDepth 100000 in
theorem c_charAt (l : Launch) (D : zD) (sz : Nat) (τ : zT) (g : zG) (x : Int32) : zCon l D yJ0_charAt_5068e cJ0_charAt_5068e 2 (some .char) { frames := 3, cells := 0, slots := 0, locals := 64 } 0 0 zrI [.ref (D.2.2.2 3), .int x] sz τ g τ (f_charAt x g) := by
  refine zCon.of (by decide) (Nat.le_of_ble_eq_true rfl) (fun E r g' hl hR hsz hnm F => ?_)
  have F : zF E D (zA τ sz) cJ0_charAt_5068e "java/lang/String" 2 (some .char) := F
  show zSim (fun q : Int32 × zG => q = (r, g')) (f_charAt x g) (zAt E D (zA τ sz) (zQ E D zrI 0 0 sz τ τ r g') 2 (sz, τ, 0, 0) g 0 [(0, .ref (D.2.2.2 3)), (1, .int x)] [])
  unfold f_charAt
  have hO := (F.u.2.2.2.2.2.1.1 0 (by decide)).2.2.1
  refine z_aload_n F 0 rfl rfl dJ0_charAt_5068e_0 ?_
  refine z_callT F (κ := (sz, τ, 0, 0)) (rm := { frames := 0, cells := 0, slots := 0, locals := 0 }) (n := 0) (As := []) (st := []) (rv := zrI) ⟨q_475, q_15, by decide +kernel, rfl, rfl, by rw [hR]; decide, by rw [hR]; decide⟩ (c_J0l E.2.1 D sz τ g) q_472 q_473 q_474 rfl ⟨Nat.zero_le _, Nat.zero_le _⟩ (by decide) dJ0_charAt_5068e_1 (fun v1 g1 => ?_) _ rfl
  show zSim (fun q : Int32 × zG => q = (r, g')) (if v1 = 0 then none else zb (f_J1 x g1) (fun v g2 => zc ((v.toUInt32 % 65536).toInt32 = v) (some (v, g2)))) (zAt E D (zA τ sz) (zQ E D zrI 0 0 sz τ τ r g') 2 (sz, τ, 0, 0) g1 4 [(0, .ref (D.2.2.2 3)), (1, .int x)] [.int v1])
  refine z_if_eq (tgt := 16) F dJ0_charAt_5068e_4 (by decide) (fun c1 => z_none) (fun c1 => ?_)
  refine z_aload_n F 0 rfl rfl dJ0_charAt_5068e_7 ?_
  have s2 : zSim (fun q : Int32 × zG => q = (r, g')) (zb (f_J1 x g1) (fun v g2 => zc ((v.toUInt32 % 65536).toInt32 = v) (some (v, g2)))) (zAt E D (zA τ sz) (zQ E D zrI 0 0 sz τ τ r g') 2 (sz, τ, 0, 0) g1 11 [(0, .ref (D.2.2.2 3)), (1, .int x)] [.ref (D.2.2.2 4)]) := by
    refine z_iload_n F 1 rfl rfl dJ0_charAt_5068e_11 ?_
    refine z_callS F (κ := (sz, τ, 0, 0)) (rm := { frames := 2, cells := 0, slots := 0, locals := 43 }) (n := 2) (mc := 0) (ms := 0) (As := [.ref (D.2.2.2 4), .int x]) (st := []) (rv := zrI) ⟨q_480, q_16, by decide +kernel, rfl, rfl, by rw [hR]; decide, by rw [hR]; decide⟩ (c_J1 E.2.1 D sz τ g1 x) q_478 q_479 rfl ⟨Nat.zero_le _, Nat.zero_le _⟩ (by decide) dJ0_charAt_5068e_12 (fun v2 g2 => ?_) _ rfl
    show zSim (fun q : Int32 × zG => q = (r, g')) (zc ((v2.toUInt32 % 65536).toInt32 = v2) (some (v2, g2))) (zAt E D (zA τ sz) (zQ E D zrI 0 0 sz τ τ r g') 2 (sz, τ, 0, 0) g2 15 [(0, .ref (D.2.2.2 3)), (1, .int x)] [.int v2])
    exact z_zc (fun c2 => z_creturn F (znarc c2) rfl rfl rfl rfl (fun h => h) dJ0_charAt_5068e_15)
  intro w hw hK H locs ls h1 h2 h3 h4 h5 h6
  exact vk_getf F.ex F.cd hO h5 F.own (F.w q_1363) (fun _ h => h) dJ0_charAt_5068e_8 (s2 w hw hK H locs ls h1 h2 h3 h4 h5 h6)
theorem k_charAt {ρ : Type} {K : ρ → Prop} {E : zE} {D : zD} {A : Nat → Prop} {Q : State → Prop} {nL : Nat} {κ : zC} {g : zG} {pc : Nat} {lv : List (Nat × Value)} {st : List Value} {cc : ByteArray} {own : String} {ret : Option FieldType} (F : zF E D A cc own nL ret) {index : Nat} {h : Int32 → zG → Option ρ} {x : Int32} (hR : 3 + 1 ≤ E.2.2.2.1.frames ∧ 8 + (2 + 11) + 64 ≤ E.2.2.2.1.locals) (hl : zTbl (.methodLink own index yJ0_charAt_5068e)) (hc : κ.2.2.1 ≤ E.2.2.2.1.cells ∧ κ.2.2.2 ≤ E.2.2.2.1.slots) (hW : (st.map fun v => v.category).sum ≤ 8) (hd : decode cc pc = .ok (.invokevirtual index, 3)) (kk : ∀ r g', zSim K (h r g') (zAt E D A Q nL κ g' (pc + 3) lv (.int r :: st))) : zSim K (zb (f_charAt x g) h) (zAt E D A Q nL κ g pc lv (.int x :: .ref (D.2.2.2 3) :: st)) :=
  z_callT F (n := 1) (As := [.int x]) (rv := zrI) ⟨q_471, q_15, by decide +kernel, rfl, rfl, hR.1, hR.2⟩ (c_charAt E.2.1 D κ.1 κ.2.1 g x) hl q_469 q_470 rfl hc hW hd kk _ rfl
