/-! THE CLAIM OUT OF ONE WALK OF THE LAW'S BODY. Your part is whole_start (and what it stands on); all else here is the same for every law, but numbers. -/
def R_law : String := "TypeChainLaw"
def lw_P (b : Addr) (xs : List Int32) (args : Array Value) (s : State) : Prop := args = #[.ref b] ∧ s.IntsAt b xs ∧ xs.length ≤ 2048 ∧ (Jvm.Cond.and given_1 narrow_1).before args s = true
def lw_Q (_ : Array Value) (s : State) (o : Outcome) (t : State) : Prop := o = .returned (some (.int 1)) ∧ Framed s o t [] 89 13468
def lw_Z (below : List Frame) (a : Array Value) (s : State) : State → Prop := fun t => ∃ o, t.status = .running ∧ Ended t below o ∧ lw_Q a s o t
/-- the law's own end, with 1 on the stack, nothing written that was there before, its room as the claim has it -/
theorem lw_ret {p : Program} {l : Launch} {e : Env} {s : State} {m : MethodId} {below : List Frame} {meth : Method} {c : Code} {b : Nat} (hx : p.tables.exec = Jvm.exec) (hb : c.code = code) (hr : meth.sig.returnType = ret) (hlocks : meth.locks = false) {pc : Nat} {H : Heap} {ls : Array Slot} (hdg : decode code pc = .ok (.ireturn, 1)) : W p l e room_1 s m #[Value.ref b] below meth c H [] 89 13468 (lw_Z below #[Value.ref b] s) (F0 m pc ls [.int 1]) := by
  intro T hT X
  obtain ⟨fs, hret, hrun, hended, hW, hframe⟩ := X.leave (v := some (.int 1)) (hlocks := hlocks) (fun h => by rw [hr] at h; cases h)
  have hmeth' : T.vm.method? m = some meth := X.method'
  refine ⟨T.setFrames fs, ?_, .returned (some (.int 1)), hrun, hended, rfl, ⟨_, rfl⟩, hW, hframe⟩
  jvm_step X.here [X.here.top, hx, hb, hdg, hmeth', hr, ret, narrow_b1]
  (try refine ⟨rfl, ?_⟩); (try refine ⟨rfl, ?_⟩)
  first | (intro acts; rw [hret _ acts rfl rfl rfl]) | rw [hret _ _ rfl rfl rfl]
  exact Steps.refl _
/-- what holds at the law's entry: the machine, the code, the tables' words (any of lw_tbl by 'hts w (by decide +kernel)'), the script of L ints xs at the cell b, what the Statement gives of the start (any of its parts by flat_of_before) -/
def lw_At (p : Program) (s : State) (m : MethodId) (meth : Method) (c : Code) (b L : Nat) (xs : Nat → Int32) : Prop :=
  p.tables.exec = Jvm.exec ∧ c.code = code ∧ meth.sig.returnType = ret ∧ c.maxLocals = 4 ∧ s.vm.findClass R_law = some m.cls ∧ (∀ w ∈ lw_tbl, w.before #[Value.ref b] s = true) ∧ va_X b L xs s s.heap ∧ b < s.heap.size ∧ meth.locks = false ∧ (Jvm.Cond.and given_1 narrow_1).before #[Value.ref b] s = true
theorem zelem_at {args : Array Value} {s : State} {N : Nat} {tm : Term} {f : Nat → Int32} {l : List Cond} (hs : ∀ c ∈ l, c.before args s = true) (h : (List.range N).all (fun j => decide (Cond.eq (.elem tm (.int (Int32.ofNat j))) (.int (f j)) ∈ l)) = true) : ∀ j : Nat, j < N → (Cond.eq (.elem tm (.int (Int32.ofNat j))) (.int (f j))).before args s = true := by
  intro j hj
  have h1 := List.all_eq_true.mp h j (List.mem_range.mpr hj)
  exact hs _ (of_decide_eq_true h1)
theorem zarr_at {args : Array Value} {s : State} {ty : FieldType} (h : (Cond.arrayClass ty).before args s = true) (hp : ∀ C, ty ≠ .object C) : ∃ cA : ClassId, ArrOfT s cA ty ∧ va_RA s cA ty := by
  obtain ⟨c, k, comp, h1, h2, h3⟩ := Cond.arrayClass_spec (args := args) (first := s) (o := none) (s := s) (idx := []) h
  refine ⟨c, fun n z => ⟨fun k h => (by cases h), k, h2, comp, h3⟩, ?_⟩
  cases ty with
  | object C => exact absurd rfl (hp C)
  | _ => exact h1
set_option maxRecDepth 100000 in
set_option maxHeartbeats 4000000 in
theorem ztable {b : Nat} {s : State} (hts : ∀ w ∈ lw_tbl, w.before #[Value.ref b] s = true) (hgv : (Jvm.Cond.and given_1 narrow_1).before #[Value.ref b] s = true) {A : Nat → Prop} (hA : ∀ a : Nat, a < s.heap.size → ¬ A a) (k : Nat) (hk : k < 3) : ∃ t : Nat, va_Z "TypeChain" (zTab k) "[I" (.ref t) A s s.heap ∧ va_T .int t (zTabN k) (fun j => .int (zTabF k j)) A s s.heap := by
  have hs := flat_of_before _ hgv
  match k, hk with
  | 0, _ =>
    obtain ⟨t, ht, hT⟩ := va_Tof (args := #[Value.ref b]) (s := s) (tm := .static "TypeChain" "LOW" "[I") (ty := .int) (N := 13) (f := fun j => .int (zTabF 0 j)) (A := A) (by decide) (hs _ (by decide +kernel)) (va_eqt (hs (Cond.eq (.length (.static "TypeChain" "LOW" "[I")) (.int 13)) (by decide +kernel))) (fun j hj => va_eqt (zelem_at (N := 13) (f := zTabF 0) hs (by decide +kernel) j hj)) hA
    exact ⟨t, va_Zref (hts _ q_525) (hts _ q_1.1) ht hA, hT⟩
  | 1, _ =>
    obtain ⟨t, ht, hT⟩ := va_Tof (args := #[Value.ref b]) (s := s) (tm := .static "TypeChain" "HIGH" "[I") (ty := .int) (N := 13) (f := fun j => .int (zTabF 1 j)) (A := A) (by decide) (hs _ (by decide +kernel)) (va_eqt (hs (Cond.eq (.length (.static "TypeChain" "HIGH" "[I")) (.int 13)) (by decide +kernel))) (fun j hj => va_eqt (zelem_at (N := 13) (f := zTabF 1) hs (by decide +kernel) j hj)) hA
    exact ⟨t, va_Zref (hts _ q_527) (hts _ q_1.1) ht hA, hT⟩
  | 2, _ =>
    obtain ⟨t, ht, hT⟩ := va_Tof (args := #[Value.ref b]) (s := s) (tm := .static "TypeChain" "AT_FIRST" "[I") (ty := .int) (N := 8) (f := fun j => .int (zTabF 2 j)) (A := A) (by decide) (hs _ (by decide +kernel)) (va_eqt (hs (Cond.eq (.length (.static "TypeChain" "AT_FIRST" "[I")) (.int 8)) (by decide +kernel))) (fun j hj => va_eqt (zelem_at (N := 8) (f := zTabF 2) hs (by decide +kernel) j hj)) hA
    exact ⟨t, va_Zref (hts _ q_110) (hts _ q_1.1) ht hA, hT⟩
  | k + 3, h => exact absurd h (by omega)
set_option maxRecDepth 100000 in
set_option maxHeartbeats 4000000 in
theorem zworld {b : Nat} {s : State} (hts : ∀ w ∈ lw_tbl, w.before #[Value.ref b] s = true) (hgv : (Jvm.Cond.and given_1 narrow_1).before #[Value.ref b] s = true) : ∃ D : zD, zU D (fun q => s.heap.size ≤ q) s := by
  have hs := flat_of_before _ hgv
  have hA : ∀ a : Nat, a < s.heap.size → ¬ (fun q => s.heap.size ≤ q) a := fun a h => Nat.not_le.mpr h
  have hw : ∀ w, zTbl w → ∀ a, w.before a s = true := fun w h a => zsame_at rfl h.2 (hts w h.1)
  obtain ⟨c0, i0, hK0⟩ := u_known (C := RX0) (T := TX0) (N := 4) (n := 4) (ws := wsX00) (args := #[Value.ref b]) (fun w h => hts w (inZ0 w h).1) (fun _ h => h) (hts _ q_36.1)
  obtain ⟨c1, i1, hK1⟩ := u_known (C := RX1) (T := TX1) (N := 2) (n := 2) (ws := wsX10) (args := #[Value.ref b]) (fun w h => hts w (inZ1 w h).1) (fun _ h => h) (hts _ q_215.1)
  obtain ⟨c2, i2, hK2⟩ := u_known (C := RX2) (T := TX2) (N := 9) (n := 9) (ws := wsX20) (args := #[Value.ref b]) (fun w h => hts w (inZ2 w h).1) (fun _ h => h) (hts _ q_230.1)
  obtain ⟨c3, i3, hK3⟩ := u_known (C := RX3) (T := TX3) (N := 7) (n := 7) (ws := wsX30) (args := #[Value.ref b]) (fun w h => hts w (inZ3 w h).1) (fun _ h => h) (hts _ q_68.1)
  obtain ⟨c4, i4, hK4⟩ := u_known (C := RX4) (T := TX4) (N := 14) (n := 14) (ws := wsX40) (args := #[Value.ref b]) (fun w h => hts w (inZ4 w h).1) (fun _ h => h) (hts _ q_161.1)
  obtain ⟨c5, i5, hK5⟩ := u_known (C := RX5) (T := TX5) (N := 4) (n := 4) (ws := wsX50) (args := #[Value.ref b]) (fun w h => hts w (inZ5 w h).1) (fun _ h => h) (hts _ q_30.1)
  obtain ⟨c6, i6, hK6⟩ := u_known (C := RX6) (T := TX6) (N := 3) (n := 3) (ws := wsX60) (args := #[Value.ref b]) (fun w h => hts w (inZ6 w h).1) (fun _ h => h) (hts _ q_366.1)
  obtain ⟨c7, i7, hK7⟩ := u_known (C := RX7) (T := TX7) (N := 9) (n := 9) (ws := wsX70) (args := #[Value.ref b]) (fun w h => hts w (inZ7 w h).1) (fun _ h => h) (hts _ q_236.1)
  obtain ⟨c8, i8, hK8⟩ := u_known (C := RX8) (T := TX8) (N := 9) (n := 9) (ws := wsX80) (args := #[Value.ref b]) (fun w h => hts w (inZ8 w h).1) (fun _ h => h) (hts _ q_322.1)
  obtain ⟨c9, i9, hK9⟩ := u_known (C := RX9) (T := TX9) (N := 11) (n := 11) (ws := wsX90) (args := #[Value.ref b]) (fun w h => hts w (inZ9 w h).1) (fun _ h => h) (hts _ q_22.1)
  obtain ⟨c10, i10, hK10⟩ := u_known (C := RX10) (T := TX10) (N := 61) (n := 61) (ws := wsX100) (args := #[Value.ref b]) (fun w h => hts w (inZ10 w h).1) (fun _ h => h) (hts _ q_867.1)
  obtain ⟨aint, hrint⟩ := zarr_at (hts (Cond.arrayClass .int) q_66.1) (fun C h => by cases h)
  obtain ⟨abyte, hrbyte⟩ := zarr_at (hts (Cond.arrayClass .byte) q_213.1) (fun C h => by cases h)
  obtain ⟨aboolean, hrboolean⟩ := zarr_at (hts (Cond.arrayClass .boolean) q_1072.1) (fun C h => by cases h)
  have ht := ztable hts hgv hA
  obtain ⟨t0, h00, h01⟩ := ht 0 (by decide)
  obtain ⟨t1, h10, h11⟩ := ht 1 (by decide)
  obtain ⟨t2, h20, h21⟩ := ht 2 (by decide)
  obtain ⟨adK, adV, hS, hE⟩ := vk_Sof (args := #[Value.ref b]) (s := s) (N := 1) (tm := fun _ => .string "TypeChain$Reader" 156) (len := [91]) (byt := [zWORDS]) (A := fun q => s.heap.size ≤ q)
    (fun i hi => by rw [show i = 0 by omega]; decide) (fun i hi => hs _ (by decide +kernel)) (fun i hi => hs _ (by decide +kernel)) (fun i hi => hs _ (by decide +kernel))
    (fun i hi => by rw [show i = 0 by omega]; exact hs (Cond.eq (.length (.field (.string "TypeChain$Reader" 156) "java/lang/String" "value" "[B")) (.int 91)) (by decide +kernel))
    (fun i hi j hj => by
      have e : i = 0 := by omega
      subst e
      exact zelem_at (N := 91) (f := fun j => zWORDS.getD j 0) hs (by decide +kernel) j hj) (fun i j hi hj hij => absurd (show i = j by omega) hij) hA
  refine ⟨(fun k => match k with
    | 0 => c0
    | 1 => c1
    | 2 => c2
    | 3 => c3
    | 4 => c4
    | 5 => c5
    | 6 => c6
    | 7 => c7
    | 8 => c8
    | 9 => c9
    | _ => c10, fun k => match k with
    | 0 => i0
    | 1 => i1
    | 2 => i2
    | 3 => i3
    | 4 => i4
    | 5 => i5
    | 6 => i6
    | 7 => i7
    | 8 => i8
    | 9 => i9
    | _ => i10, fun ty => match ty with
    | .byte => abyte
    | .boolean => aboolean
    | _ => aint, fun k => match k with
    | 0 => t0
    | 1 => t1
    | 2 => t2
    | 3 => adK 0
    | _ => adV 0), hw, ⟨fun k q hq => ?_, fun ty hty => ?_⟩, fun k hk => ?_, ?_, ?_, ?_, ?_⟩
  · match k, hq with
    | 0, hq => cases hq; exact hK0
    | 1, hq => cases hq; exact hK1
    | 2, hq => cases hq; exact hK2
    | 3, hq => cases hq; exact hK3
    | 4, hq => cases hq; exact hK4
    | 5, hq => cases hq; exact hK5
    | 6, hq => cases hq; exact hK6
    | 7, hq => cases hq; exact hK7
    | 8, hq => cases hq; exact hK8
    | 9, hq => cases hq; exact hK9
    | 10, hq => cases hq; exact hK10
    | k + 11, hq => simp [vwCl] at hq
  · simp only [List.mem_cons, List.not_mem_nil, or_false] at hty
    rcases hty with rfl | rfl | rfl
    · exact hrint
    · exact hrbyte
    · exact hrboolean
  · match k, hk with
    | 0, _ => exact ⟨h00, h01⟩
    | 1, _ => exact ⟨h10, h11⟩
    | 2, _ => exact ⟨h20, h21⟩
    | k + 3, h => exact absurd h (by omega)
  · exact va_Zof (args := #[Value.ref b]) (hts _ q_477) (hts _ q_15.1) (va_eqi (hs _ (by decide +kernel))) hA
  · exact va_Zqof (args := #[Value.ref b]) (hts _ q_485) (hts _ q_17.1) (hs _ (by decide +kernel)) hA
  · refine ⟨fun i hi => ?_, fun i j hi hj _ => by omega⟩
    have e : i = 0 := by omega
    subst e
    exact hS.1 0 (by decide)
  · have h1 := hts _ q_467
    have h2 := hE 0 (by decide)
    exact vk_R.of (A := #[Value.ref b]) h1 h2
/-- what is left: over the mirrors alone -/
def law_ok : Prop := ∀ (L : Nat) (xs : Nat → Int32) (sz : Nat) (g : zG), L ≤ 2048 → 0 < sz → ∃ g', f_law L xs sz g = some (1, g')
set_option maxHeartbeats 4000000 in
set_option maxRecDepth 100000 in
theorem whole_start_open (hok : law_ok) {p : Program} {e : Env} {s : State} {m : MethodId} {below : List Frame} {meth : Method} {c : Code} (l : Launch) {b L : Nat} {xs : Nat → Int32} (hL : L ≤ 2048) (C0 : lw_At p s m meth c b L xs) : W p l e room_1 s m #[Value.ref b] below meth c s.heap [] 0 0 (lw_Z below #[Value.ref b] s) (entryFrame m ([Value.ref b] : List Value).toArray 4) := by
  obtain ⟨hx, hb, hr, hml, hown, hts, hX, hbl, hlocks, hgv⟩ := id C0
  obtain ⟨D, hU⟩ := zworld hts hgv
  have hbA : ¬ (fun q : Nat => s.heap.size ≤ q) b := Nat.not_le.mpr hbl
  have h0 : 0 < s.heap.size := Nat.lt_of_le_of_lt (Nat.zero_le b) hbl
  have F : zF (p, l, e, room_1, s, m, #[Value.ref b], below, meth, c) D (fun q : Nat => s.heap.size ≤ q) cL_law "TypeChainLaw" 4 (some .boolean) := ⟨hx, hb, hml, hown, hr, hlocks, hU, fun _ h => h⟩
  obtain ⟨g', hg⟩ := hok L xs s.heap.size (fun _ _ => 0, fun _ _ => 0, fun _ _ => 0) hL h0
  have hret : ∀ g : zG, zAt (p, l, e, room_1, s, m, #[Value.ref b], below, meth, c) D (fun q : Nat => s.heap.size ≤ q) (lw_Z below #[Value.ref b] s) 4 (zkl s.heap.size) g 1052 [] [.int 1] := by
    intro g H locs ls h1 h2 h3 h4 h5 h6
    refine va_forget (fun q hq => h5.2.2 q hq) ?_
    exact lw_ret hx hb hr hlocks dL_law_1052
  have h := law_sim (L := L) (xs := xs) F rfl hX hbl hbA h0 hret (fun _ _ => 0, fun _ _ => 0, fun _ _ => 0) (1, g') hg rfl s.heap [] _ rfl ⟨fun a ty n h => (by cases h), fun a ci h => (by cases h)⟩ ⟨rfl, fun a ci h => (by cases h), fun a h => by rcases h with h | h <;> cases h⟩ (fun q x h => by cases h) va_S.rf (lv_entry [Value.ref b] (n := 4) (Nat.le_of_ble_eq_true rfl))
  rw [lg_entry_eq]
  exact h
