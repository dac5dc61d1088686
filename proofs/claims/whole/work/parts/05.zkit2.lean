-- ===== the heap: reading and writing =====
theorem zref_pos {τ : zT} {r : Nat} {x : zS} (h0 : τ 0 = none) (h : τ r = some x) : zref r = .ref r := by
  unfold zref
  rw [if_neg]
  intro e
  rw [e, h0] at h
  cases h
theorem zu_same {α : Type} (f : Nat → Nat → α) (a k : Nat) (x : α) : zu f a k x a k = x := by simp [zu]
theorem zu_ne {α : Type} (f : Nat → Nat → α) {a k b j : Nat} (x : α) (h : ¬ (b = a ∧ j = k)) : zu f a k x b j = f b j := by simp [zu, h]
/-- two heaps that differ at one place at most -/
def zOne (g g' : zG) (a k : Nat) : Prop := ∀ b j, ¬ (b = a ∧ j = k) → g'.1 b j = g.1 b j ∧ g'.2.1 b j = g.2.1 b j ∧ g'.2.2 b j = g.2.2 b j
theorem zOne_i (g : zG) (a k : Nat) (x : Int32) : zOne g (zsi g a k x) a k := fun b j h => ⟨zu_ne g.1 x h, rfl, rfl⟩
theorem zOne_r (g : zG) (a k : Nat) (x : Nat) : zOne g (zsr g a k x) a k := fun b j h => ⟨rfl, zu_ne g.2.1 x h, rfl⟩
theorem zOne_l (g : zG) (a k : Nat) (x : Int64) : zOne g (zsl g a k x) a k := fun b j h => ⟨rfl, rfl, zu_ne g.2.2 x h⟩
theorem zv_one {g g' : zG} {a k b j : Nat} (h : zOne g g' a k) (hn : ¬ (b = a ∧ j = k)) (ty : FieldType) : zv ty g' b j = zv ty g b j := by
  obtain ⟨h1, h2, h3⟩ := h b j hn
  unfold zv
  split <;> simp [h1, h2, h3]
theorem zHeap.put {D : zD} {τ : zT} {g g' : zG} {H H1 : Heap} {a ci k : Nat} {r : vw_C} (h : zHeap D τ g H) (ht : τ a = some (.inr ci)) (hr : vwCl[ci % 11]? = some r) (ho : zOne g g' a k) (hk : t_OB a (D.1 (ci % 11)) r.2.2 (D.2.1 (ci % 11)) H1 (fun j => zv (zty (ci % 11) j) g' a j)) (oq : ∀ q : Nat, q ≠ a → H1[q]? = H[q]?) : zHeap D τ g' H1 := by
  refine ⟨fun b ty n hb => ?_, fun b cj hb => ?_⟩
  · have hne : b ≠ a := fun e => by rw [e, ht] at hb; cases hb
    rw [oq b hne, h.1 b ty n hb]
    have e : g.1 b = g'.1 b := by funext j; exact ((ho b j (fun z => hne z.1)).1).symm
    rw [e]
  · by_cases hba : b = a
    · subst hba
      rw [ht] at hb
      cases hb
      exact ⟨r, hr, hk⟩
    · obtain ⟨r2, h1, h2⟩ := h.2 b cj hb
      refine ⟨r2, h1, (h2.kept (oq b hba)).to (fun j _ => ?_)⟩
      exact (zv_one ho (fun z => hba z.1) _).symm
theorem zHeap.arr {D : zD} {τ : zT} {g g' : zG} {H H1 : Heap} {a n k : Nat} {ty : FieldType} (h : zHeap D τ g H) (ht : τ a = some (.inl (ty, n))) (ho : ∀ b j, b ≠ a → g'.1 b j = g.1 b j) (ho2 : g'.2 = g.2) (hk : H1[a]? = some (vp_cell (D.2.2.1 ty) (n, .inl (g'.1 a)))) (oq : ∀ q : Nat, q ≠ a → H1[q]? = H[q]?) : zHeap D τ g' H1 := by
  refine ⟨fun b ty2 n2 hb => ?_, fun b cj hb => ?_⟩
  · by_cases hba : b = a
    · subst hba
      rw [ht] at hb
      cases hb
      exact hk
    · rw [oq b hba, h.1 b ty2 n2 hb]
      have e : g.1 b = g'.1 b := by funext j; exact (ho b j hba).symm
      rw [e]
  · have hba : b ≠ a := fun e => by rw [e, ht] at hb; cases hb
    obtain ⟨r2, h1, h2⟩ := h.2 b cj hb
    refine ⟨r2, h1, (h2.kept (oq b hba)).to (fun j _ => ?_)⟩
    unfold zv
    split <;> simp [ho b j hba, ho2]
theorem zWT.si {τ : zT} {g : zG} (h : zWT τ g) (a k : Nat) (x : Int32) : zWT τ (zsi g a k x) := h
theorem zWT.sl {τ : zT} {g : zG} (h : zWT τ g) (a k : Nat) (x : Int64) : zWT τ (zsl g a k x) := h
section ZH
variable {ρ : Type} {K : ρ → Prop} {f f1 f2 : Option ρ} {E : zE} {D : zD} {A : Nat → Prop} {Q : State → Prop} {nL : Nat} {κ : zC} {g : zG} {pc : Nat} {lv lv' : List (Nat × Value)} {st : List Value} {cc : ByteArray} {own : String} {ret : Option FieldType}
theorem z_get (F : zF E D A cc own nL ret) {a ci k index : Nat} {r : vw_C} {v : Value} (ht : κ.2.1 a = some (.inr ci)) (hr : vwCl[ci % 11]? = some r) (hin : ∀ w ∈ u_ws r.1 r.2.1 r.2.2, zTbl w) (hk : k < r.2.2) (hl : zTbl (.fieldLink own index (r.2.1 k).1 (r.2.1 k).2.1 (r.2.1 k).2.2.1)) (hv : zWT κ.2.1 g → zv (zty (ci % 11) k) g a k = v) (hd : decode cc pc = .ok (.getfield index, 3)) (kk : zSim K f (zAt E D A Q nL κ g (pc + 3) lv (v :: st))) : zSim K f (zAt E D A Q nL κ g pc lv (.ref a :: st)) := by
  intro x hx hK H locs ls h1 h2 h3 h4 h5 h6
  obtain ⟨r', e1, cell, q1, q2, q3, q4⟩ := h2.2 a ci ht
  cases hr.symm.trans e1
  obtain ⟨hS, hfc, kC, hkC, hkind⟩ := F.u.2.1.1 (ci % 11) r hr
  obtain ⟨cf, kf, fi, fd, hi, hsl⟩ := hS k hk
  refine W.getf F.ex F.cd F.own (F.w hl) hi (u_facts hfc hkC (u_lays (ws := u_ws r.1 r.2.1 r.2.2) (fun w hw => F.w (hin w hw)) (fun _ h => h) hk) hi).1 q1 (by rw [q3]; exact fun h => by cases h) (v := v) ?_ rfl rfl hd (kk x hx hK H locs ls h1 h2 h3 h4 h5 h6)
  rw [hsl, q4 k hk]
  exact congrArg some (hv h3)
theorem z_put0 (F : zF E D A cc own nL ret) {a ci k index : Nat} {r : vw_C} {v : Value} {g' : zG} (ht : κ.2.1 a = some (.inr ci)) (hr : vwCl[ci % 11]? = some r) (hin : ∀ w ∈ u_ws r.1 r.2.1 r.2.2, zTbl w) (hty : ∀ k, k < r.2.2 → parseFieldDescriptor (r.2.1 k).2.2.1 = some (zty (ci % 11) k)) (hnm : ∀ a, a < r.2.2 → ∀ b, b < r.2.2 → a ≠ b → (r.2.1 a).2.1 ≠ (r.2.1 b).2.1) (hk : k < r.2.2) (hl : zTbl (.fieldLink own index (r.2.1 k).1 (r.2.1 k).2.1 (r.2.1 k).2.2.1)) (hfin : (r.2.1 k).2.2.2 = false) (hn : narrow (zty (ci % 11) k) v = v) (hfit : fits (zty (ci % 11) k) v = true) (ho : zOne g g' a k) (hv : zv (zty (ci % 11) k) g' a k = v) (hW : zWT κ.2.1 g → zWT κ.2.1 g') (hd : decode cc pc = .ok (.putfield index, 3)) (kk : zSim K f (zAt E D A Q nL κ g' (pc + 3) lv st)) : zSim K f (zAt E D A Q nL κ g pc lv (v :: .ref a :: st)) := by
  intro x hx hK H locs ls h1 h2 h3 h4 h5 h6
  have hts : ∀ w ∈ u_ws r.1 r.2.1 r.2.2, w.before E.2.2.2.2.2.2.1 E.2.2.2.2.1 = true := fun w hw => F.w (hin w hw)
  obtain ⟨r', e1, cell, q1, q2, q3, q4⟩ := h2.2 a ci ht
  cases hr.symm.trans e1
  obtain ⟨hS, hfc, kC, hkC, hkind⟩ := F.u.2.1.1 (ci % 11) r hr
  have hap : ∀ x y, x < r.2.2 → y < r.2.2 → x ≠ y → (D.2.1 (ci % 11)) x ≠ (D.2.1 (ci % 11)) y := by
    intro x y hx hy hne
    obtain ⟨_, _, _, fa, hia, ea⟩ := hS x hx
    obtain ⟨_, _, _, fb, hib, eb⟩ := hS y hy
    rw [← ea, ← eb]
    refine u_apart (u_lays hts (fun _ h => h) hx) (u_lays hts (fun _ h => h) hy) hia hib ?_
    rw [(State.fieldFound?_type hia (hty x hx)).1, (State.fieldFound?_type hib (hty y hy)).1]
    exact hnm x hx y hy hne
  obtain ⟨cf, kf, fi, fd, hi, hsl⟩ := hS k hk
  have hlay := hts _ (u_in_lay hk)
  unfold u_lay at hlay
  rw [if_neg (by rw [hfin]; decide)] at hlay
  have hst := (u_facts hfc hkC (u_lays hts (fun _ h => h) hk) hi).1
  have h7 := u_store hfc hkC hkind hlay hi (hty k hk) hn hfit
  refine W.putK F.ex F.cd (f := fd) ⟨F.own, F.w hl, ⟨_, _, _, hi⟩, hst⟩ (by rw [q2]; exact h7) q1 q3 (by rw [hsl]; exact k2_hasslot (q4 k hk)) rfl rfl hd fun H' e1 e2 e3 => ?_
  rw [hsl] at e1 ⊢
  refine kk x hx hK H' _ ls (e2.trans h1) (h2.put ht hr ho ?_ e3) (hW h3) h4 (h5.put e2 e3 (h4 a _ ht)) h6
  refine t_OB.to (V := updV (fun j => zv (zty (ci % 11) j) g a j) k v) ⟨_, e1, q2, q3, t_set q4 hap hk v⟩ (fun j _ => ?_)
  unfold updV
  by_cases hj : j = k
  · subst hj
    rw [if_pos rfl, hv]
  · rw [if_neg hj]
    exact (zv_one ho (fun z => hj z.2) _).symm
theorem z_iald (F : zF E D A cc own nL ret) {a n : Nat} {i : Int32} [dz : Decidable (zin i n)] (ht : κ.2.1 a = some (.inl (.int, n))) (hd : decode cc pc = .ok (.iaload, 1)) (kk : zSim K f (zAt E D A Q nL κ g (pc + 1) lv (.int (g.1 a i.toNatClampNeg) :: st))) : zSim K (zc (zin i n) f) (zAt E D A Q nL κ g pc lv (.int i :: .ref a :: st)) := by
  refine z_zc (fun hin => ?_)
  intro x hx hK H locs ls h1 h2 h3 h4 h5 h6
  have hlt : i.toNatClampNeg < n := Nat.not_le.mp fun q => hin (Or.inr q)
  exact W.iald (v := .int (g.1 a i.toNatClampNeg)) F.ex F.cd (h2.1 a _ _ ht) ((F.u.2.1.2 .int (by decide)).1 n (fun j => .int (g.1 a j))) (fun q => by cases q) (by show ¬ (i < 0 ∨ (arrV _ _ _).slots.size ≤ _); rw [arrV_size]; exact hin) (by show (arrV _ _ _).slots[_]? = _; rw [arrV_read _ _ hlt]) rfl rfl hd (kk x hx hK H locs ls h1 h2 h3 h4 h5 h6)
theorem z_bald (F : zF E D A cc own nL ret) {a n : Nat} {i : Int32} [dz : Decidable (zin i n)] (ht : κ.2.1 a = some (.inl (.byte, n))) (hd : decode cc pc = .ok (.baload, 1)) (kk : zSim K f (zAt E D A Q nL κ g (pc + 1) lv (.int (g.1 a i.toNatClampNeg) :: st))) : zSim K (zc (zin i n) f) (zAt E D A Q nL κ g pc lv (.int i :: .ref a :: st)) := by
  refine z_zc (fun hin => ?_)
  intro x hx hK H locs ls h1 h2 h3 h4 h5 h6
  have hlt : i.toNatClampNeg < n := Nat.not_le.mp fun q => hin (Or.inr q)
  exact W.bald (v := .int (g.1 a i.toNatClampNeg)) F.ex F.cd (h2.1 a _ _ ht) ((F.u.2.1.2 .byte (by decide)).1 n (fun j => .int (g.1 a j))) (fun q => by cases q) (by show ¬ (i < 0 ∨ (arrV _ _ _).slots.size ≤ _); rw [arrV_size]; exact hin) (by show (arrV _ _ _).slots[_]? = _; rw [arrV_read _ _ hlt]) rfl rfl hd (kk x hx hK H locs ls h1 h2 h3 h4 h5 h6)
theorem z_zald (F : zF E D A cc own nL ret) {a n : Nat} {i : Int32} [dz : Decidable (zin i n)] (ht : κ.2.1 a = some (.inl (.boolean, n))) (hd : decode cc pc = .ok (.baload, 1)) (kk : zSim K f (zAt E D A Q nL κ g (pc + 1) lv (.int (g.1 a i.toNatClampNeg) :: st))) : zSim K (zc (zin i n) f) (zAt E D A Q nL κ g pc lv (.int i :: .ref a :: st)) := by
  refine z_zc (fun hin => ?_)
  intro x hx hK H locs ls h1 h2 h3 h4 h5 h6
  have hlt : i.toNatClampNeg < n := Nat.not_le.mp fun q => hin (Or.inr q)
  exact W.zald (v := .int (g.1 a i.toNatClampNeg)) F.ex F.cd (h2.1 a _ _ ht) ((F.u.2.1.2 .boolean (by decide)).1 n (fun j => .int (g.1 a j))) (fun q => by cases q) (by show ¬ (i < 0 ∨ (arrV _ _ _).slots.size ≤ _); rw [arrV_size]; exact hin) (by show (arrV _ _ _).slots[_]? = _; rw [arrV_read _ _ hlt]) rfl rfl hd (kk x hx hK H locs ls h1 h2 h3 h4 h5 h6)
theorem z_upd (g : zG) (a k : Nat) (x : Int32) : (zsi g a k x).1 a = upd (g.1 a) k x := by
  funext j
  simp [zsi, zu, upd]
theorem z_arr_end {a n : Nat} {i x : Int32} {ty : FieldType} {H H1 : Heap} (h2 : zHeap D κ.2.1 g H) (ht : κ.2.1 a = some (.inl (ty, n))) (e : H1[a]? = some ((vp_cell (D.2.2.1 ty) (n, .inl (g.1 a))).setSlot i.toNatClampNeg (.int x))) (oq : ∀ q : Nat, q ≠ a → H1[q]? = H[q]?) : zHeap D κ.2.1 (zsi g a i.toNatClampNeg x) H1 := by
  refine h2.arr (k := 0) ht (fun b j hb => zu_ne g.1 x (fun z => hb z.1)) rfl ?_ oq
  rw [e, z_upd, vp_cell_i, vp_cell_i, arrV_store]
  congr 2
  funext q
  by_cases hq : q = i.toNatClampNeg
  · subst hq; simp [updV, upd]
  · simp [updV, upd, hq]
theorem z_iast (F : zF E D A cc own nL ret) {a n : Nat} {i x : Int32} [dz : Decidable (zin i n)] (ht : κ.2.1 a = some (.inl (.int, n))) (hd : decode cc pc = .ok (.iastore, 1)) (kk : zSim K f (zAt E D A Q nL κ (zsi g a i.toNatClampNeg x) (pc + 1) lv st)) : zSim K (zc (zin i n) f) (zAt E D A Q nL κ g pc lv (.int x :: .int i :: .ref a :: st)) := by
  refine z_zc (fun hin => ?_)
  intro x hx hK H locs ls h1 h2 h3 h4 h5 h6
  refine W.iast F.ex F.cd (h2.1 a _ _ ht) ((F.u.2.1.2 .int (by decide)).1 n (fun j => .int (g.1 a j))) (fun q => by cases q) (by show ¬ (i < 0 ∨ (arrV _ _ _).slots.size ≤ _); rw [arrV_size]; exact hin) rfl rfl hd fun H1 e z oq => ?_
  exact kk x hx hK H1 _ ls (z.trans h1) (z_arr_end h2 ht e oq) (h3.si _ _ _) h4 (h5.put z oq (h4 a _ ht)) h6
theorem z_bast (F : zF E D A cc own nL ret) {a n : Nat} {i x : Int32} [dz : Decidable (zin i n)] (ht : κ.2.1 a = some (.inl (.byte, n))) (hd : decode cc pc = .ok (.bastore, 1)) (kk : zSim K f (zAt E D A Q nL κ (zsi g a i.toNatClampNeg x.toInt8.toInt32) (pc + 1) lv st)) : zSim K (zc (zin i n) f) (zAt E D A Q nL κ g pc lv (.int x :: .int i :: .ref a :: st)) := by
  refine z_zc (fun hin => ?_)
  intro x hx hK H locs ls h1 h2 h3 h4 h5 h6
  refine W.bast F.ex F.cd (h2.1 a _ _ ht) ((F.u.2.1.2 .byte (by decide)).1 n (fun j => .int (g.1 a j))) (fun q => by cases q) (by show ¬ (i < 0 ∨ (arrV _ _ _).slots.size ≤ _); rw [arrV_size]; exact hin) rfl rfl hd fun H1 e z oq => ?_
  exact kk x hx hK H1 _ ls (z.trans h1) (z_arr_end h2 ht e oq) (h3.si _ _ _) h4 (h5.put z oq (h4 a _ ht)) h6
theorem z_zast (F : zF E D A cc own nL ret) {a n : Nat} {i x : Int32} [dz : Decidable (zin i n)] (ht : κ.2.1 a = some (.inl (.boolean, n))) (hd : decode cc pc = .ok (.bastore, 1)) (kk : zSim K f (zAt E D A Q nL κ (zsi g a i.toNatClampNeg (vp_nar .boolean x)) (pc + 1) lv st)) : zSim K (zc (zin i n) f) (zAt E D A Q nL κ g pc lv (.int x :: .int i :: .ref a :: st)) := by
  refine z_zc (fun hin => ?_)
  intro x hx hK H locs ls h1 h2 h3 h4 h5 h6
  refine W.zast F.ex F.cd (h2.1 a _ _ ht) ((F.u.2.1.2 .boolean (by decide)).1 n (fun j => .int (g.1 a j))) (fun q => by cases q) (by show ¬ (i < 0 ∨ (arrV _ _ _).slots.size ≤ _); rw [arrV_size]; exact hin) rfl rfl hd fun H1 e z oq => ?_
  exact kk x hx hK H1 _ ls (z.trans h1) (z_arr_end h2 ht e oq) (h3.si _ _ _) h4 (h5.put z oq (h4 a _ ht)) h6
theorem z_alen (F : zF E D A cc own nL ret) {a n : Nat} {ty : FieldType} {v : Int32} (hty : ty ∈ [FieldType.int, FieldType.byte, FieldType.boolean]) (ht : κ.2.1 a = some (.inl (ty, n))) (hv : Int32.ofNat n = v) (hd : decode cc pc = .ok (.arraylength, 1)) (kk : zSim K f (zAt E D A Q nL κ g (pc + 1) lv (.int v :: st))) : zSim K f (zAt E D A Q nL κ g pc lv (.ref a :: st)) := by
  intro x hx hK H locs ls h1 h2 h3 h4 h5 h6
  exact W.alen F.ex F.cd (h2.1 a _ _ ht) ((F.u.2.1.2 ty hty).1 n (fun j => .int (g.1 a j))) (by rw [← hv]; show ((arrV _ _ _).slots.size).toInt32 = _; rw [arrV_size]) rfl rfl hd (kk x hx hK H locs ls h1 h2 h3 h4 h5 h6)
/-- the static tables -/
theorem z_gets (F : zF E D A cc own nL ret) {index : Nat} (k : Nat) (hk : k < 3) (hl : zTbl (.fieldLink own index "TypeChain" (zTab k) "[I")) (hd : decode cc pc = .ok (.getstatic index, 3)) (kk : zSim K f (zAt E D A Q nL κ g (pc + 3) lv (.ref (D.2.2.2 k) :: st))) : zSim K f (zAt E D A Q nL κ g pc lv st) := by
  intro x hx hK H locs ls h1 h2 h3 h4 h5 h6
  exact va_gets F.ex F.cd (F.u.2.2.1 k hk).1 h5 F.own (F.w hl) (fun _ h => h) hd (kk x hx hK H locs ls h1 h2 h3 h4 h5 h6)
theorem z_getsN (F : zF E D A cc own nL ret) {index : Nat} {host : String} (k : Nat) (hk : k < 3) (hl : zTbl (.fieldLinkNest own index "TypeChain" (zTab k) "[I" host)) (hd : decode cc pc = .ok (.getstatic index, 3)) (kk : zSim K f (zAt E D A Q nL κ g (pc + 3) lv (.ref (D.2.2.2 k) :: st))) : zSim K f (zAt E D A Q nL κ g pc lv st) := by
  intro x hx hK H locs ls h1 h2 h3 h4 h5 h6
  exact va_getsN F.ex F.cd (F.u.2.2.1 k hk).1 h5 F.own (F.w hl) (fun _ h => h) hd (kk x hx hK H locs ls h1 h2 h3 h4 h5 h6)
theorem z_tald (F : zF E D A cc own nL ret) {i : Int32} (k : Nat) (hk : k < 3) [dz : Decidable (zin i (zTabN k))] (hd : decode cc pc = .ok (.iaload, 1)) (kk : zSim K f (zAt E D A Q nL κ g (pc + 1) lv (.int (zTabF k i.toNatClampNeg) :: st))) : zSim K (zc (zin i (zTabN k)) f) (zAt E D A Q nL κ g pc lv (.int i :: .ref (D.2.2.2 k) :: st)) := by
  refine z_zc (fun hin => ?_)
  intro x hx hK H locs ls h1 h2 h3 h4 h5 h6
  exact va_ti F.ex F.cd (F.u.2.2.1 k hk).2 h5 hin rfl hd (kk x hx hK H locs ls h1 h2 h3 h4 h5 h6)
theorem z_tlen (F : zF E D A cc own nL ret) {v : Int32} (k : Nat) (hk : k < 3) (hv : Int32.ofNat (zTabN k) = v) (hd : decode cc pc = .ok (.arraylength, 1)) (kk : zSim K f (zAt E D A Q nL κ g (pc + 1) lv (.int v :: st))) : zSim K f (zAt E D A Q nL κ g pc lv (.ref (D.2.2.2 k) :: st)) := by
  intro x hx hK H locs ls h1 h2 h3 h4 h5 h6
  exact va_tlen F.ex F.cd (F.u.2.2.1 k hk).2 h5 hv hd (kk x hx hK H locs ls h1 h2 h3 h4 h5 h6)
end ZH
-- ===== contracts =====
def zPost (D : zD) (rv : Int32 → Option Value) (mc : Nat) (sz : Nat) (τ τ' : zT) (r : Int32) (g' : zG) : Array Value → State → Outcome → State → Prop := fun _ st oc t =>
  oc = .returned (rv r) ∧ t.heap.size = sz + mc ∧ zHeap D τ' g' t.heap ∧ zWT τ' g' ∧ (∀ q x, τ' q = some x → zA τ sz q) ∧ va_F (zA τ sz) st t
def zCon (l : Launch) (D : zD) (y : MethodName) (cc : ByteArray) (maxL : Nat) (ret : Option FieldType) (rm : Room) (mc ms : Nat) (rv : Int32 → Option Value) (As : List Value) (sz : Nat) (τ : zT) (g : zG) (τ' : zT) (o : Option (Int32 × zG)) : Prop :=
  ∀ r g', o = some (r, g') → Met l y [.code y cc maxL ret] rm (va_Pc As (fun U => U.heap.size = sz ∧ zU D (zA τ sz) U ∧ zHeap D τ g U.heap ∧ zWT τ g)) (zPost D rv mc sz τ τ' r g') mc ms (zA τ sz)
def zQ (E : zE) (D : zD) (rv : Int32 → Option Value) (mc ms sz : Nat) (τ τ' : zT) (r : Int32) (g' : zG) : State → Prop :=
  MQ E.2.2.2.2.2.2.2.1 (zPost D rv mc sz τ τ' r g') E.2.2.2.2.2.2.1 E.2.2.2.2.1 mc ms (zA τ sz)
def zrI (r : Int32) : Option Value := some (.int r)
def zrV (_ : Int32) : Option Value := none
theorem zCon.of {l : Launch} {D : zD} {y : MethodName} {cc : ByteArray} {maxL : Nat} {ret : Option FieldType} {rm : Room} {mc ms : Nat} {rv : Int32 → Option Value} {As : List Value} {sz : Nat} {τ : zT} {g : zG} {τ' : zT} {o : Option (Int32 × zG)} (hy : plainName y.cls = true) (hn : (lg_sl As).length ≤ maxL)
    (body : ∀ (E : zE) (r : Int32) (g' : zG), E.2.1 = l → E.2.2.2.1 = rm → E.2.2.2.2.1.heap.size = sz → (E.2.2.2.2.2.2.2.2.1.name = y.name) → zF E D (zA τ sz) cc y.cls maxL ret → zSim (fun q : Int32 × zG => q = (r, g')) o (zAt E D (zA τ sz) (zQ E D rv mc ms sz τ τ' r g') maxL (sz, τ, 0, 0) g 0 (lv_args 0 As) [])) : zCon l D y cc maxL ret rm mc ms rv As sz τ g τ' o := by
  intro r g' ho
  refine Met.ofW (cc := cc) (maxL := maxL) (ret := ret) hy rfl ?_
  intro p e s m args below meth c s₁ B hml hv
  obtain ⟨rfl, hsz, hU, hH, hWT⟩ := hv
  have F : zF (p, l, e, (headSpec [.code y cc maxL ret] rm).room, s, m, As.toArray, below, meth, c) D (zA τ sz) cc y.cls maxL ret :=
    ⟨B.exec, B.bytes, hml, findClass_of_methodNamed B.named, B.returns, B.notSynchronized, hU, fun q hq => Or.inr (by rw [← hsz]; exact hq)⟩
  have h := body (p, l, e, (headSpec [.code y cc maxL ret] rm).room, s, m, As.toArray, below, meth, c) r g' rfl rfl hsz (name_of_methodNamed B.named B.method).1 F (r, g') ho rfl s.heap [] _ hsz hH hWT (fun q x hx => Or.inl ⟨x, hx⟩) va_S.rf (lv_entry As hn)
  rw [lg_entry_eq]
  exact h
section ZC
variable {ρ : Type} {K : ρ → Prop} {f f1 f2 : Option ρ} {E : zE} {D : zD} {A : Nat → Prop} {Q : State → Prop} {nL : Nat} {κ : zC} {g : zG} {pc : Nat} {lv lv' : List (Nat × Value)} {st : List Value} {cc : ByteArray} {own : String} {ret : Option FieldType}
theorem z_ireturn {rv : Int32 → Option Value} {mc ms sz : Nat} {τ τ' : zT} {r x : Int32} {g' : zG} {v : ρ} {E : zE} {n cl sl : Nat} (F : zF E D (zA τ sz) cc own nL (some .int)) (hrv : rv = zrI) (hn : n = sz + mc) (hc : cl = mc) (hs : sl = ms) (hK : K v → (x, g) = (r, g')) (hd : decode cc pc = .ok (.ireturn, 1)) : zSim K (some v) (zAt E D (zA τ sz) (zQ E D rv mc ms sz τ τ' r g') nL (n, τ', cl, sl) g pc lv [.int x]) := by
  intro w hw hk H locs ls h1 h2 h3 h4 h5 h6
  cases hw
  cases hK hk
  subst hrv; subst hn; subst hc; subst hs
  exact W.iret F.ex F.cd F.rt (fun t ht _ => ⟨rfl, by rw [ht]; exact h1, by rw [ht]; exact h2, h3, h4, h5.F ht⟩) h5.2.2 hd F.lk
theorem z_zreturn {rv : Int32 → Option Value} {mc ms sz : Nat} {τ τ' : zT} {r x : Int32} {g' : zG} {v : ρ} {E : zE} {n cl sl : Nat} (F : zF E D (zA τ sz) cc own nL (some .boolean)) (hz : narrow .boolean (.int x) = .int x) (hrv : rv = zrI) (hn : n = sz + mc) (hc : cl = mc) (hs : sl = ms) (hK : K v → (x, g) = (r, g')) (hd : decode cc pc = .ok (.ireturn, 1)) : zSim K (some v) (zAt E D (zA τ sz) (zQ E D rv mc ms sz τ τ' r g') nL (n, τ', cl, sl) g pc lv [.int x]) := by
  intro w hw hk H locs ls h1 h2 h3 h4 h5 h6
  cases hw
  cases hK hk
  subst hrv; subst hn; subst hc; subst hs
  exact W.zret F.ex F.cd F.rt hz (fun t ht _ => ⟨rfl, by rw [ht]; exact h1, by rw [ht]; exact h2, h3, h4, h5.F ht⟩) h5.2.2 hd F.lk
theorem z_vreturn {rv : Int32 → Option Value} {mc ms sz : Nat} {τ τ' : zT} {r : Int32} {g' : zG} {v : ρ} {E : zE} {n cl sl : Nat} (F : zF E D (zA τ sz) cc own nL none) (hrv : rv = zrV) (hn : n = sz + mc) (hc : cl = mc) (hs : sl = ms) (hK : K v → (0, g) = (r, g')) (hd : decode cc pc = .ok (.return_, 1)) : zSim K (some v) (zAt E D (zA τ sz) (zQ E D rv mc ms sz τ τ' r g') nL (n, τ', cl, sl) g pc lv []) := by
  intro w hw hk H locs ls h1 h2 h3 h4 h5 h6
  cases hw
  cases hK hk
  subst hrv; subst hn; subst hc; subst hs
  exact W.vret F.ex F.cd F.rt (fun t ht _ => ⟨rfl, by rw [ht]; exact h1, by rw [ht]; exact h2, h3, h4, h5.F ht⟩) h5.2.2 hd F.lk
theorem zA_sub {τ : zT} {H0 H : Heap} {locs : List Loc} (hA : ∀ q, H0.size ≤ q → A q) (h4 : ∀ q x, τ q = some x → A q) (h5 : va_S A H0 H locs) : ∀ q, zA τ H.size q → A q := by
  intro q h
  rcases h with ⟨x, hx⟩ | h
  · exact h4 q x hx
  · exact hA q (Nat.le_trans h5.1 h)
theorem zP_blind {av : List Value} {sz : Nat} {τ : zT} : FrameBlind (va_Pc av (fun U => U.heap.size = sz ∧ zU D (zA τ sz) U ∧ zHeap D τ g U.heap ∧ zWT τ g)) := by
  intro a U fr mk h
  obtain ⟨h0, h1, h2, h3, h4⟩ := h
  exact ⟨h0, h1, h2.call, h3, h4⟩
theorem zP_at (F : zF E D A cc own nL ret) {τ : zT} {av : List Value} {H : Heap} {locs : List Loc} (h2 : zHeap D τ g H) (h3 : zWT τ g) (h4 : ∀ q x, τ q = some x → A q) (h5 : va_S A E.2.2.2.2.1.heap H locs) : ∀ U : State, U.heap = H → E.2.2.2.2.1.WarmedH U.vm → va_Pc av (fun U => U.heap.size = H.size ∧ zU D (zA τ H.size) U ∧ zHeap D τ g U.heap ∧ zWT τ g) av.toArray U := by
  intro U hU hW
  refine ⟨rfl, by rw [hU], F.u.later hW (fun a ha hn => by rw [hU]; exact h5.2.1 a ha hn) (zA_sub F.2.2.2.2.2.2.2 h4 h5), by rw [hU]; exact h2, h3⟩
/-- behind a call -/
theorem z_after {mc ms : Nat} {rv : Int32 → Option Value} {τ' : zT} {o : Option (Int32 × zG)} {h : Int32 → zG → Option ρ} {x : Int32} {g1 : zG} {H : Heap} {locs : List Loc} {ls : Array Slot} {st0 : List Value} {w : ρ} (F : zF E D A cc own nL ret) (h1 : H.size = κ.1) (h4 : ∀ q x, κ.2.1 q = some x → A q) (h5 : va_S A E.2.2.2.2.1.heap H locs) (h6 : lv_has ls nL lv)
    (run : va_Run E.1 E.2.1 E.2.2.1 E.2.2.2.1 E.2.2.2.2.1 E.2.2.2.2.2.1 E.2.2.2.2.2.2.1 E.2.2.2.2.2.2.2.1 E.2.2.2.2.2.2.2.2.1 E.2.2.2.2.2.2.2.2.2 H locs κ.2.2.1 κ.2.2.2 mc ms (F0 E.2.2.2.2.2.1 pc ls st0) st (fun st oc t => zPost D rv mc H.size κ.2.1 τ' x g1 #[] st oc t) (zA κ.2.1 H.size))
    (kk : zAt E D A Q nL (κ.1 + mc, τ', κ.2.2.1 + mc, κ.2.2.2 + ms) g1 (pc + 3) lv ((rv x).toList ++ st)) :
    W E.1 E.2.1 E.2.2.1 E.2.2.2.1 E.2.2.2.2.1 E.2.2.2.2.2.1 E.2.2.2.2.2.2.1 E.2.2.2.2.2.2.2.1 E.2.2.2.2.2.2.2.2.1 E.2.2.2.2.2.2.2.2.2 H locs κ.2.2.1 κ.2.2.2 Q (F0 E.2.2.2.2.2.1 pc ls st0) := by
  intro T hT X
  obtain ⟨v, st₀, t, T', L, h0, X', hL, e1, e2, ⟨hv, hz, hH, hWT, hA, hz2, hk⟩, stp⟩ := run T hT X
  cases hv
  rw [h0] at hz2 hk
  have hsub := zA_sub F.2.2.2.2.2.2.2 h4 h5
  obtain ⟨t2, a1, b1⟩ := kk T'.heap (locs ++ L) ls (by rw [e1, hz, h1]) (by rw [e1]; exact hH) hWT (fun q x hx => hsub q (hA q x hx))
    ⟨Nat.le_trans h5.1 (by rw [e1]; exact hz2), fun q i1 i2 => by rw [e1, hk q (Nat.lt_of_lt_of_le i1 h5.1) (fun z => i2 (hsub q z))]; exact h5.2.1 q i1 i2, fun q hq => by
      rcases List.mem_append.mp hq with i | i
      · exact h5.2.2 q i
      · exact hsub _ (hL q i)⟩ h6 T' rfl X'
  exact ⟨t2, stp t2 a1, b1⟩
def zCall (R : Room) (y : MethodName) (cb : ByteArray) (maxL : Nat) (rt : Option FieldType) (rm : Room) (mc ms n : Nat) : Prop :=
  zTbl (.code y cb maxL rt) ∧ zTbl (.initialized y.cls) ∧ (y.cls ≠ "java/lang/invoke/MethodHandle" ∧ y.cls ≠ "java/lang/invoke/VarHandle" ∧ (parseMethodDescriptor y.desc).map (fun d => d.parameters.length) = some n) ∧ rm.cells = mc ∧ rm.slots = ms ∧ rm.frames + 1 ≤ R.frames ∧ 8 + (maxL + 11) + rm.locals ≤ R.locals
theorem zCall.B (F : zF E D A cc own nL ret) {y : MethodName} {cb : ByteArray} {maxL : Nat} {rt : Option FieldType} {rm : Room} {mc ms n index : Nat} (h : zCall E.2.2.2.1 y cb maxL rt rm mc ms n) (hl : zTbl (.methodLink own index y)) : CallB E.2.2.2.1 E.2.2.2.2.1 E.2.2.2.2.2.2.1 own index y cb maxL rt [.code y cb maxL rt] rm mc ms n := by
  obtain ⟨c1, c2, c3, c4, c5, c6, c7⟩ := h
  refine ⟨c4, c5, c6, c7, fun w hw a' U hW => ?_, List.mem_cons_self, F.w c1, F.w c2, ⟨c3.1, c3.2.1⟩, fun sig h => ?_, F.w hl⟩
  · rw [List.mem_singleton.mp hw]
    exact zword_at hW c1.2 (F.w c1)
  · have h2 := c3.2.2
    rw [h] at h2
    exact (Option.some.inj h2).symm
theorem z_callV (F : zF E D A cc own nL ret) {y : MethodName} {cb : ByteArray} {maxL : Nat} {rt : Option FieldType} {rm : Room} {mc ms n index b ci : Nat} {rv : Int32 → Option Value} {As : List Value} {τ' : zT} {o : Option (Int32 × zG)} {h : Int32 → zG → Option ρ} {C : vw_C} (hC : zCall E.2.2.2.1 y cb maxL rt rm mc ms n) (hM : zCon E.2.1 D y cb maxL rt rm mc ms rv (.ref b :: As) κ.1 κ.2.1 g τ' o) (hl : zTbl (.methodLink own index y)) (hin : zTbl (.instanceMethod y)) (hse : zTbl (.selects y.cls y y)) (ht : κ.2.1 b = some (.inr ci)) (hr : vwCl[ci % 11]? = some C) (hCy : C.1 = y.cls) (hn : As.length = n) (hc : κ.2.2.1 + mc ≤ E.2.2.2.1.cells ∧ κ.2.2.2 + ms ≤ E.2.2.2.1.slots) (hW : (st.map fun v => v.category).sum ≤ 8) (hd : decode cc pc = .ok (.invokevirtual index, 3))
    (kk : ∀ r g', zSim K (h r g') (zAt E D A Q nL (κ.1 + mc, τ', κ.2.2.1 + mc, κ.2.2.2 + ms) g' (pc + 3) lv ((rv r).toList ++ st))) (st0 : List Value) (hst : st0 = As.reverse ++ .ref b :: st) : zSim K (zb o h) (zAt E D A Q nL κ g pc lv st0) := by
  intro w hw hK H locs ls h1 h2 h3 h4 h5 h6
  subst hst
  cases ho : o with
  | none => rw [ho] at hw; cases hw
  | some q =>
    obtain ⟨x, g1⟩ := q
    rw [ho] at hw
    have hM2 := hM x g1 ho
    rw [← h1] at hM2
    obtain ⟨r', e1, cell, q1, q2, q3, q4⟩ := h2.2 b ci ht
    cases hr.symm.trans e1
    obtain ⟨hS, hfc, kC, hkC, hkind⟩ := F.u.2.1.1 (ci % 11) C hr
    refine z_after (o := o) (h := h) (w := w) F h1 h4 h5 h6 (va_runV (Ts := []) (As := As) (rest := st) ⟨F.ex, F.cd, F.ml, F.own, fun w hw => by cases hw⟩ hM2 ⟨hC.B F hl, F.w hin, F.w hse⟩ ⟨zP_blind, ⟨cell, q1, by rw [q3]; rfl, by rw [← hCy, q2]; exact hfc⟩, zP_at F h2 h3 h4 h5⟩ rfl hn h6.1 rfl (lv_room hW) hd hc) (kk x g1 w hw hK)
theorem z_callS (F : zF E D A cc own nL ret) {y : MethodName} {cb : ByteArray} {maxL : Nat} {rt : Option FieldType} {rm : Room} {mc ms n index : Nat} {rv : Int32 → Option Value} {As : List Value} {τ' : zT} {o : Option (Int32 × zG)} {h : Int32 → zG → Option ρ} (hC : zCall E.2.2.2.1 y cb maxL rt rm mc ms n) (hM : zCon E.2.1 D y cb maxL rt rm mc ms rv As κ.1 κ.2.1 g τ' o) (hl : zTbl (.methodLink own index y)) (hin : zTbl (.static y)) (hn : As.length = n) (hc : κ.2.2.1 + mc ≤ E.2.2.2.1.cells ∧ κ.2.2.2 + ms ≤ E.2.2.2.1.slots) (hW : (st.map fun v => v.category).sum ≤ 8) (hd : decode cc pc = .ok (.invokestatic index, 3))
    (kk : ∀ r g', zSim K (h r g') (zAt E D A Q nL (κ.1 + mc, τ', κ.2.2.1 + mc, κ.2.2.2 + ms) g' (pc + 3) lv ((rv r).toList ++ st))) (st0 : List Value) (hst : st0 = As.reverse ++ st) : zSim K (zb o h) (zAt E D A Q nL κ g pc lv st0) := by
  intro w hw hK H locs ls h1 h2 h3 h4 h5 h6
  subst hst
  cases ho : o with
  | none => rw [ho] at hw; cases hw
  | some q =>
    obtain ⟨x, g1⟩ := q
    rw [ho] at hw
    have hM2 := hM x g1 ho
    rw [← h1] at hM2
    refine z_after (o := o) (h := h) (w := w) F h1 h4 h5 h6 (va_runS (Ts := []) (As := As) (rest := st) ⟨F.ex, F.cd, F.ml, F.own, fun w hw => by cases hw⟩ hM2 ⟨hC.B F hl, F.w hin⟩ ⟨zP_blind, zP_at F h2 h3 h4 h5⟩ rfl hn h6.1 rfl (lv_room hW) hd hc) (kk x g1 w hw hK)
/-- loops -/
def zKl {σ ρ : Type} (P : σ → Prop) (K : ρ → Prop) : σ ⊕ ρ → Prop
  | .inl s => P s
  | .inr r => K r
theorem z_while {σ : Type} (P : σ → Prop) {n : Nat} {step : σ → Option (σ ⊕ ρ)} (h : ∀ s, zSim (zKl P K) (step s) (P s)) (s : σ) : zSim K (zw n step s) (P s) := by
  induction n generalizing s with
  | zero => intro r hr; cases hr
  | succ n ih =>
    intro r hr hK
    unfold zw at hr
    cases hs : step s with
    | none => rw [hs] at hr; cases hr
    | some q =>
      rw [hs] at hr
      cases q with
      | inl s' => exact h s _ hs (ih s' r hr hK)
      | inr r' => cases hr; exact h s _ hs hK
end ZC
