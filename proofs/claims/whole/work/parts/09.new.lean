-- ===== making objects =====
def zts (τ : zT) (a : Nat) (sh : zS) : zT := fun q => if q = a then some sh else τ q
def zz (g : zG) (a : Nat) : zG := (fun b j => if b = a then 0 else g.1 b j, fun b j => if b = a then 0 else g.2.1 b j, fun b j => if b = a then 0 else g.2.2 b j)
theorem zts_same (τ : zT) (a : Nat) (sh : zS) : zts τ a sh a = some sh := by simp [zts]
theorem zts_ne {τ : zT} {n e : Nat} {sh : zS} {x : Option zS} (h : τ e = x) (hne : e ≠ n) : zts τ n sh e = x := by simp [zts, hne, h]
theorem zts_of {τ : zT} {n e : Nat} {sh s1 s2 : zS} (h : τ e = some s1) (h2 : τ n = some s2) (hne : s1 ≠ s2) : zts τ n sh e = some s1 :=
  zts_ne h (fun z => by rw [z, h2] at h; exact hne (Option.some.inj h).symm)
theorem zsh_small {ci k c : Nat} (h : zsh ci k = some (.inr c)) : c < 11 := by
  unfold zsh at h
  split at h <;> (first | (cases h; done) | (cases h; decide))
theorem zsh_raw : ∀ c, c < 11 → ∀ k, zsh (c + 11) k = none := by
  intro c hc k
  match c, hc with
  | 0, _ => unfold zsh; split <;> simp_all
  | 1, _ => unfold zsh; split <;> simp_all
  | 2, _ => unfold zsh; split <;> simp_all
  | 3, _ => unfold zsh; split <;> simp_all
  | 4, _ => unfold zsh; split <;> simp_all
  | 5, _ => unfold zsh; split <;> simp_all
  | 6, _ => unfold zsh; split <;> simp_all
  | 7, _ => unfold zsh; split <;> simp_all
  | 8, _ => unfold zsh; split <;> simp_all
  | 9, _ => unfold zsh; split <;> simp_all
  | 10, _ => unfold zsh; split <;> simp_all
  | c + 11, h => exact absurd h (by omega)
theorem zWT.raw {τ : zT} {g : zG} {a c : Nat} (h : zWT τ g) (ht : τ a = some (.inr (c + 11))) (hc : c < 11) (k r : Nat) : zWT τ (zsr g a k r) := by
  refine ⟨h.1, fun b cj hb j s2 hj => ?_, fun b hb => ?_⟩
  · show τ (zu g.2.1 a k r b j) = some s2
    by_cases hz : b = a
    · subst hz
      rw [ht] at hb
      cases hb
      rw [zsh_raw c hc] at hj
      cases hj
    · rw [zu_ne _ _ (fun z => hz z.1)]
      exact h.2.1 b cj hb j s2 hj
  · have hz : b ≠ a := by
      intro e
      subst e
      rw [ht] at hb
      rcases hb with hb | hb
      · have := Sum.inr.inj (Option.some.inj hb); omega
      · have := Sum.inr.inj (Option.some.inj hb); omega
    show zu g.2.1 a k r b 6 = 0 ∨ τ (zu g.2.1 a k r b 6) = some (.inr 1)
    rw [zu_ne _ _ (fun z => hz z.1)]
    exact h.2.2 b hb
theorem zHeap.lt {D : zD} {τ : zT} {g : zG} {H : Heap} (h : zHeap D τ g H) {q : Nat} {x : zS} (hq : τ q = some x) : q < H.size := by
  cases x with
  | inl p => exact (Array.getElem?_eq_some_iff.mp (h.1 q p.1 p.2 hq)).1
  | inr c =>
    obtain ⟨r, -, cell, h2, -⟩ := h.2 q c hq
    exact (Array.getElem?_eq_some_iff.mp h2).1
/-- a new cell at the end -/
theorem zHeap.push {D : zD} {τ : zT} {g : zG} {H H1 : Heap} {sh : zS} (h : zHeap D τ g H) (z1 : H1.size = H.size + 1) (o1 : ∀ q, q < H.size → H1[q]? = H[q]?)
    (hn : ∀ ty n, sh = .inl (ty, n) → H1[H.size]? = some (vp_cell (D.2.2.1 ty) (n, .inl (fun _ => 0)))) (hc : ∀ ci, sh = .inr ci → ∃ r : vw_C, vwCl[ci % 11]? = some r ∧ t_OB H.size (D.1 (ci % 11)) r.2.2 (D.2.1 (ci % 11)) H1 (fun k => zv (zty (ci % 11) k) (zz g H.size) H.size k)) :
    zHeap D (zts τ H.size sh) (zz g H.size) H1 := by
  refine ⟨fun b ty n hb => ?_, fun b ci hb => ?_⟩
  · by_cases hz : b = H.size
    · subst hz
      rw [zts_same] at hb
      have e : (zz g H.size).1 H.size = fun _ => 0 := by funext j; simp [zz]
      rw [e]
      exact hn ty n (Option.some.inj hb)
    · have hb' : τ b = some (.inl (ty, n)) := by simpa [zts, hz] using hb
      have e : (zz g H.size).1 b = g.1 b := by funext j; simp [zz, hz]
      rw [e, o1 b (h.lt hb')]
      exact h.1 b ty n hb'
  · by_cases hz : b = H.size
    · subst hz
      rw [zts_same] at hb
      exact hc ci (Option.some.inj hb)
    · have hb' : τ b = some (.inr ci) := by simpa [zts, hz] using hb
      obtain ⟨r, e1, e2⟩ := h.2 b ci hb'
      refine ⟨r, e1, (e2.kept (o1 b (h.lt hb'))).to (fun k _ => ?_)⟩
      unfold zv
      split <;> simp [zz, hz]
theorem zWT.push {D : zD} {τ : zT} {g : zG} {H : Heap} {sh : zS} (h : zWT τ g) (hH : zHeap D τ g H) (h0 : 0 < H.size) (hs : ∀ ci, sh = .inr ci → (∀ k, zsh ci k = none) ∧ ci ≠ 2 ∧ ci ≠ 24) : zWT (zts τ H.size sh) (zz g H.size) := by
  refine ⟨zts_ne h.1 (by omega), fun b cj hb j s2 hj => ?_, fun b hb => ?_⟩
  · by_cases hz : b = H.size
    · subst hz
      rw [zts_same] at hb
      rw [(hs cj (Option.some.inj hb)).1 j] at hj
      cases hj
    · have hb' : τ b = some (.inr cj) := by simpa [zts, hz] using hb
      have e : (zz g H.size).2.1 b j = g.2.1 b j := by simp [zz, hz]
      rw [e]
      have h2 := h.2.1 b cj hb' j s2 hj
      exact zts_ne h2 (by have := hH.lt h2; omega)
  · by_cases hz : b = H.size
    · subst hz
      rw [zts_same] at hb
      rcases hb with hb | hb
      · exact absurd rfl (hs 2 (Option.some.inj hb)).2.1
      · exact absurd rfl (hs 24 (Option.some.inj hb)).2.2
    · have hb' : τ b = some (.inr 2) ∨ τ b = some (.inr 24) := by simpa [zts, hz] using hb
      have e : (zz g H.size).2.1 b 6 = g.2.1 b 6 := by simp [zz, hz]
      rw [e]
      rcases h.2.2 b hb' with h3 | h3
      · exact Or.inl h3
      · exact Or.inr (zts_ne h3 (by have := hH.lt h3; omega))
/-- an object is whole: its kind changes -/
theorem zWT.prom {τ : zT} {g : zG} {a c c2 : Nat} (h : zWT τ g) (ht : τ a = some (.inr c)) (hc : 11 ≤ c) (ha : a ≠ 0) (hs : ∀ k sh, zsh c2 k = some sh → τ (g.2.1 a k) = some sh) (hp : (c2 = 2 ∨ c2 = 24) → g.2.1 a 6 = 0 ∨ τ (g.2.1 a 6) = some (.inr 1)) : zWT (zts τ a (.inr c2)) g := by
  have key : ∀ b sh, τ b = some sh → (∀ d, sh = .inr d → d < 11) → zts τ a (.inr c2) b = some sh := by
    intro b sh hb hd
    refine zts_ne hb (fun e => ?_)
    rw [e, ht] at hb
    have := hd c (Option.some.inj hb).symm
    omega
  refine ⟨zts_ne h.1 (Ne.symm ha), fun b cj hb j s2 hj => ?_, fun b hb => ?_⟩
  · have hsm : ∀ d, s2 = .inr d → d < 11 := fun d e => by rw [e] at hj; exact zsh_small hj
    by_cases hz : b = a
    · subst hz
      rw [zts_same] at hb
      cases hb
      exact key _ _ (hs j s2 hj) hsm
    · have hb' : τ b = some (.inr cj) := by simpa [zts, hz] using hb
      exact key _ _ (h.2.1 b cj hb' j s2 hj) hsm
  · have k1 : ∀ x, τ x = some (.inr 1) → zts τ a (.inr c2) x = some (.inr 1) := fun x hx => key x _ hx (fun d e => by cases e; decide)
    by_cases hz : b = a
    · subst hz
      rw [zts_same] at hb
      have hb' : c2 = 2 ∨ c2 = 24 := hb.imp (fun e => Sum.inr.inj (Option.some.inj e)) (fun e => Sum.inr.inj (Option.some.inj e))
      exact (hp hb').imp id (k1 _)
    · have hb' : τ b = some (.inr 2) ∨ τ b = some (.inr 24) := by simpa [zts, hz] using hb
      exact (h.2.2 b hb').imp id (k1 _)
theorem zfitr (r : Nat) (ty : FieldType) (h : (∃ n, ty = .object n) ∨ ∃ t, ty = .array t) : narrow ty (zref r) = zref r ∧ fits ty (zref r) = true := by
  unfold zref
  rcases h with ⟨n, rfl⟩ | ⟨t, rfl⟩ <;> split <;> exact ⟨rfl, rfl⟩
section ZN
variable {ρ : Type} {K : ρ → Prop} {f f1 f2 : Option ρ} {E : zE} {D : zD} {A : Nat → Prop} {Q : State → Prop} {nL : Nat} {κ : zC} {g : zG} {pc : Nat} {lv lv' : List (Nat × Value)} {st : List Value} {cc : ByteArray} {own : String} {ret : Option FieldType}
theorem z_lt (k : (∀ q x, κ.2.1 q = some x → q < κ.1) → zSim K f (zAt E D A Q nL κ g pc lv st)) : zSim K f (zAt E D A Q nL κ g pc lv st) :=
  fun r hr hK H locs ls h1 h2 h3 h4 h5 h6 => k (fun q x hq => by rw [← h1]; exact h2.lt hq) r hr hK H locs ls h1 h2 h3 h4 h5 h6
theorem z_new (F : zF E D A cc own nL ret) {c index : Nat} {C : vw_C} (hr : vwCl[c]? = some C) (hc : c < 11) (hin : ∀ w ∈ u_ws C.1 C.2.1 C.2.2, zTbl w) (hty : ∀ k, k < C.2.2 → parseFieldDescriptor (C.2.1 k).2.2.1 = some (zty c k)) (hdv : ∀ k, k < C.2.2 → ∀ a, defaultValue (zty c k) = zv (zty c k) (zz g a) a k) (hcl : zTbl (.classLink own index C.1)) (hins : zTbl (.instantiable C.1 C.2.2)) (hini : zTbl (.initialized C.1)) (h0 : 0 < κ.1) (hcells : κ.2.2.1 + 1 ≤ E.2.2.2.1.cells) (hslots : κ.2.2.2 + C.2.2 ≤ E.2.2.2.1.slots) (hd : decode cc pc = .ok (.new index, 3)) (kk : zSim K f (zAt E D A Q nL (κ.1 + 1, zts κ.2.1 κ.1 (.inr (c + 11)), κ.2.2.1 + 1, κ.2.2.2 + C.2.2) (zz g κ.1) (pc + 3) lv (.ref κ.1 :: st))) : zSim K f (zAt E D A Q nL κ g pc lv st) := by
  obtain ⟨n, τ, cl, sl⟩ := κ
  intro x hx hK H locs ls h1 h2 h3 h4 h5 h6
  have h1 : H.size = n := h1
  subst h1
  have h2 : zHeap D τ g H := h2
  have h3 : zWT τ g := h3
  have h0 : 0 < H.size := h0
  have hKn := F.u.2.1.1 c C hr
  refine W.newcK F.ex F.cd F.own (F.w hcl) (F.w hins) (F.w hini) rfl hd hcells hslots hKn.2.1 rfl fun H1 kC hkC e1 z1 o1 => ?_
  have hm : (c + 11) % 11 = c := by omega
  refine kk x hx hK H1 locs ls z1 (h2.push (sh := .inr (c + 11)) z1 o1 (fun ty n e => by cases e) (fun ci e => ?_)) (h3.push h2 h0 (fun ci e => ?_)) (fun q y hq => ?_) ⟨Nat.le_trans h5.1 (by omega), fun q i1 i2 => (o1 q (Nat.lt_of_lt_of_le i1 h5.1)).trans (h5.2.1 q i1 i2), h5.2.2⟩ h6
  · cases e
    refine ⟨C, by rw [hm]; exact hr, ?_⟩
    rw [hm]
    exact (u_born (ws := u_ws C.1 C.2.1 C.2.2) (zty c) (fun w hw => F.w (hin w hw)) (fun _ h => h) hKn hkC e1 hty).to (fun k hk => hdv k hk _)
  · cases e
    exact ⟨zsh_raw c hc, by omega, by omega⟩
  · by_cases hz : q = H.size
    · subst hz
      exact F.2.2.2.2.2.2.2 _ h5.1
    · exact h4 q y (by simpa [zts, hz] using hq)
theorem z_newa (F : zF E D A cc own nL ret) {atype : ArrayType} {ty : FieldType} {n : Int32} {N : Nat} (hty : newarray.typeOf atype = ty) (htm : ty ∈ [FieldType.int, FieldType.byte, FieldType.boolean]) (harr : zTbl (.arrayClass ty)) (hdv : defaultValue ty = .int 0) (hn : ¬ n < 0) (hN : n.toNatClampNeg = N) (hbytes : N * componentBytes ty ≤ 536870912) (h0 : 0 < κ.1) (hcells : κ.2.2.1 + 1 ≤ E.2.2.2.1.cells) (hslots : κ.2.2.2 + N ≤ E.2.2.2.1.slots) (hd : decode cc pc = .ok (.newarray atype, 2)) (kk : zSim K f (zAt E D A Q nL (κ.1 + 1, zts κ.2.1 κ.1 (.inl (ty, N)), κ.2.2.1 + 1, κ.2.2.2 + N) (zz g κ.1) (pc + 2) lv (.ref κ.1 :: st))) : zSim K f (zAt E D A Q nL κ g pc lv (.int n :: st)) := by
  obtain ⟨n1, τ, cl, sl⟩ := κ
  intro x hx hK H locs ls h1 h2 h3 h4 h5 h6
  have h1 : H.size = n1 := h1
  subst h1
  subst hty
  have h2 : zHeap D τ g H := h2
  have h3 : zWT τ g := h3
  have h0 : 0 < H.size := h0
  refine va_newaK F.ex F.cd (F.w harr) rfl hd rfl hn hN hbytes hcells hslots rfl fun H1 cA e1 z1 o1 hAr hNm => ?_
  have hcA : cA = D.2.2.1 (newarray.typeOf atype) := by
    have h7 := (F.u.2.1.2 _ htm).2
    have h8 : E.2.2.2.2.1.vm.findClass ("[" ++ (newarray.typeOf atype).toString) = some (D.2.2.1 (newarray.typeOf atype)) := by
      cases atype <;> first | exact h7 | (simp [newarray.typeOf] at htm)
    exact Option.some.inj (hNm.symm.trans h8)
  rw [hcA, hdv] at e1
  refine kk x hx hK H1 locs ls z1 (h2.push (sh := .inl (newarray.typeOf atype, N)) z1 o1 (fun ty n e => ?_) (fun ci e => by cases e)) (h3.push h2 h0 (fun ci e => by cases e)) (fun q y hq => ?_) ⟨Nat.le_trans h5.1 (by omega), fun q i1 i2 => (o1 q (Nat.lt_of_lt_of_le i1 h5.1)).trans (h5.2.1 q i1 i2), h5.2.2⟩ h6
  · cases e
    exact e1
  · by_cases hz : q = H.size
    · subst hz
      exact F.2.2.2.2.2.2.2 _ h5.1
    · exact h4 q y (by simpa [zts, hz] using hq)
/-- a field of an object under construction -/
theorem z_putR (F : zF E D A cc own nL ret) {a c k index : Nat} {r : vw_C} {v : Value} {g' : zG} (ht : κ.2.1 a = some (.inr (c + 11))) (hc : c < 11) (hr : vwCl[c]? = some r) (hin : ∀ w ∈ u_ws r.1 r.2.1 r.2.2, zTbl w) (hty : ∀ k, k < r.2.2 → parseFieldDescriptor (r.2.1 k).2.2.1 = some (zty c k)) (hnm : ∀ a, a < r.2.2 → ∀ b, b < r.2.2 → a ≠ b → (r.2.1 a).2.1 ≠ (r.2.1 b).2.1) (hk : k < r.2.2) (hl : zTbl (.fieldLink own index (r.2.1 k).1 (r.2.1 k).2.1 (r.2.1 k).2.2.1)) (hname : E.2.2.2.2.2.2.2.2.1.name = "<init>") (hdecl : (r.2.1 k).1 = own) (hn : narrow (zty c k) v = v) (hfit : fits (zty c k) v = true) (ho : zOne g g' a k) (hv : zv (zty c k) g' a k = v) (hW : zWT κ.2.1 g → zWT κ.2.1 g') (hd : decode cc pc = .ok (.putfield index, 3)) (kk : zSim K f (zAt E D A Q nL κ g' (pc + 3) lv st)) : zSim K f (zAt E D A Q nL κ g pc lv (v :: .ref a :: st)) := by
  have hm : (c + 11) % 11 = c := by omega
  by_cases hfin : (r.2.1 k).2.2.2 = true
  · intro x hx hK H locs ls h1 h2 h3 h4 h5 h6
    have hts : ∀ w ∈ u_ws r.1 r.2.1 r.2.2, w.before E.2.2.2.2.2.2.1 E.2.2.2.2.1 = true := fun w hw => F.w (hin w hw)
    obtain ⟨r', e1, cell, q1, q2, q3, q4⟩ := h2.2 a _ ht
    rw [hm] at e1 q2 q4
    cases hr.symm.trans e1
    obtain ⟨hS, hfc, kC, hkC, hkind⟩ := F.u.2.1.1 c r hr
    have hap : ∀ x y, x < r.2.2 → y < r.2.2 → x ≠ y → (D.2.1 c) x ≠ (D.2.1 c) y := by
      intro x y hx hy hne
      obtain ⟨_, _, _, fa, hia, ea⟩ := hS x hx
      obtain ⟨_, _, _, fb, hib, eb⟩ := hS y hy
      rw [← ea, ← eb]
      refine u_apart (u_lays hts (fun _ h => h) hx) (u_lays hts (fun _ h => h) hy) hia hib ?_
      rw [(State.fieldFound?_type hia (hty x hx)).1, (State.fieldFound?_type hib (hty y hy)).1]
      exact hnm x hx y hy hne
    obtain ⟨cf, kf, fi, fd, hi, hsl⟩ := hS k hk
    have hlay := hts _ (u_in_lay hk)
    unfold u_lay at hlay
    rw [if_pos hfin] at hlay
    have hst := (u_facts hfc hkC (u_lays hts (fun _ h => h) hk) hi).1
    have hcf : E.2.2.2.2.2.1.cls = cf := by
      obtain ⟨_, _, c', _, _, _, -, -, hf', -, -, -, hown2, -⟩ := Cond.laysFinal_spec hlay
      have e1 : c' = cf := by have := hi.symm.trans hf'; simp at this; exact this.1.symm
      rw [hdecl] at hown2
      rw [← e1]; exact Option.some.inj (F.own.symm.trans hown2)
    have h7 := u_fits hfc hkC hkind (Or.inr hlay) hi (hty k hk) hn hfit
    refine W.putFinK F.ex F.cd F.own (F.w hl) hi hst hcf hname (by rw [q2]; exact h7) q1 q3 (by rw [hsl]; exact k2_hasslot (q4 k hk)) rfl rfl hd fun H' e1 e2 e3 => ?_
    rw [hsl] at e1 ⊢
    refine kk x hx hK H' _ ls (e2.trans h1) (h2.put ht (by rw [hm]; exact hr) ho ?_ e3) (hW h3) h4 (h5.put e2 e3 (h4 a _ ht)) h6
    rw [hm]
    refine t_OB.to (V := updV (fun j => zv (zty c j) g a j) k v) ⟨_, e1, q2, q3, t_set q4 hap hk v⟩ (fun j _ => ?_)
    unfold updV
    by_cases hj : j = k
    · subst hj
      rw [if_pos rfl, hv]
    · rw [if_neg hj]
      exact (zv_one ho (fun z => hj z.2) _).symm
  · have hfin : (r.2.1 k).2.2.2 = false := by simpa using hfin
    exact z_put0 F (r := r) (k := k) (ci := c + 11) ht (by rw [hm]; exact hr) hin (by rw [hm]; exact hty) hnm hk hl hfin (by rw [hm]; exact hn) (by rw [hm]; exact hfit) ho (by rw [hm]; exact hv) hW hd kk
/-- a reference into a field of an object under construction -/
theorem z_putRr (F : zF E D A cc own nL ret) {a c k index x : Nat} {r : vw_C} (ht : κ.2.1 a = some (.inr (c + 11))) (hc : c < 11) (hr : vwCl[c]? = some r) (hin : ∀ w ∈ u_ws r.1 r.2.1 r.2.2, zTbl w) (hty : ∀ k, k < r.2.2 → parseFieldDescriptor (r.2.1 k).2.2.1 = some (zty c k)) (hnm : ∀ a, a < r.2.2 → ∀ b, b < r.2.2 → a ≠ b → (r.2.1 a).2.1 ≠ (r.2.1 b).2.1) (hk : k < r.2.2) (hl : zTbl (.fieldLink own index (r.2.1 k).1 (r.2.1 k).2.1 (r.2.1 k).2.2.1)) (hname : E.2.2.2.2.2.2.2.2.1.name = "<init>") (hdecl : (r.2.1 k).1 = own) (hot : (∃ n, zty c k = .object n) ∨ ∃ t, zty c k = .array t) (hd : decode cc pc = .ok (.putfield index, 3)) (kk : zSim K f (zAt E D A Q nL κ (zsr g a k x) (pc + 3) lv st)) : zSim K f (zAt E D A Q nL κ g pc lv (zref x :: .ref a :: st)) :=
  z_putR F ht hc hr hin hty hnm hk hl hname hdecl (zfitr x _ hot).1 (zfitr x _ hot).2 (zOne_r g a k x) (by
    have e : (zsr g a k x).2.1 a k = x := zu_same g.2.1 a k x
    rcases hot with ⟨n, hn⟩ | ⟨t, hn⟩ <;> rw [hn] <;> exact congrArg zref e) (fun h => h.raw ht hc k x) hd kk
/-- reading a reference of an object under construction: what was put there is still there -/
theorem z_getR (F : zF E D A cc own nL ret) {a c k index x : Nat} {r : vw_C} [dz : Decidable (g.2.1 a k = x)] (ht : κ.2.1 a = some (.inr (c + 11))) (hc : c < 11) (hr : vwCl[c]? = some r) (hin : ∀ w ∈ u_ws r.1 r.2.1 r.2.2, zTbl w) (hk : k < r.2.2) (hl : zTbl (.fieldLink own index (r.2.1 k).1 (r.2.1 k).2.1 (r.2.1 k).2.2.1)) (hot : (∃ n, zty c k = .object n) ∨ ∃ t, zty c k = .array t) (hx : x ≠ 0) (hd : decode cc pc = .ok (.getfield index, 3)) (kk : zSim K f (zAt E D A Q nL κ g (pc + 3) lv (.ref x :: st))) : zSim K (zc (g.2.1 a k = x) f) (zAt E D A Q nL κ g pc lv (.ref a :: st)) := by
  have hm : (c + 11) % 11 = c := by omega
  refine z_zc (fun he => ?_)
  refine z_get F (r := r) (k := k) (ci := c + 11) ht (by rw [hm]; exact hr) hin hk hl (fun _ => ?_) hd kk
  rw [hm]
  have e : zref (g.2.1 a k) = .ref x := by rw [he]; simp [zref, hx]
  rcases hot with ⟨n, hn⟩ | ⟨t, hn⟩ <;> rw [hn] <;> exact e
theorem z_prom {a c c2 : Nat} (ht : κ.2.1 a = some (.inr c)) (hc : c2 % 11 = c % 11) (hW : zWT κ.2.1 g → zWT (zts κ.2.1 a (.inr c2)) g) (kk : zSim K f (zAt E D A Q nL (κ.1, zts κ.2.1 a (.inr c2), κ.2.2) g pc lv st)) : zSim K f (zAt E D A Q nL κ g pc lv st) := by
  intro x hx hK H locs ls h1 h2 h3 h4 h5 h6
  refine kk x hx hK H locs ls h1 ⟨fun b ty n hb => ?_, fun b ci hb => ?_⟩ (hW h3) (fun q y hq => ?_) h5 h6
  · have hb : zts κ.2.1 a (.inr c2) b = some (.inl (ty, n)) := hb
    have hz : b ≠ a := fun e => by rw [e] at hb; rw [zts_same] at hb; cases hb
    exact h2.1 b ty n (by simpa [zts, hz] using hb)
  · have hb : zts κ.2.1 a (.inr c2) b = some (.inr ci) := hb
    by_cases hz : b = a
    · subst hz
      rw [zts_same] at hb
      cases hb
      rw [hc]
      exact h2.2 b c ht
    · exact h2.2 b ci (by simpa [zts, hz] using hb)
  · by_cases hz : q = a
    · rw [hz]; exact h4 a _ ht
    · exact h4 q y (by simpa [zts, hz] using hq)
theorem z_objInit (F : zF E D A cc own nL ret) {a idx : Nat} (hl : zTbl (.methodLink own idx Lib.objectInit)) (hin : zTbl (.instanceMethod Lib.objectInit)) (hc : zTbl (.code Lib.objectInit ⟨#[0xb1]⟩ 1 none)) (hR : 1 ≤ E.2.2.2.1.frames ∧ 20 ≤ E.2.2.2.1.locals) (hW : (st.map fun v => v.category).sum ≤ 8) (hd : decode cc pc = .ok (.invokespecial idx, 3)) (kk : zSim K f (zAt E D A Q nL κ g (pc + 3) lv st)) : zSim K f (zAt E D A Q nL κ g pc lv (.ref a :: st)) := by
  intro x hx hK H locs ls h1 h2 h3 h4 h5 h6
  exact W.objInit F.ex F.cd F.own (F.w hl) (F.w hin) (F.w hc) rfl (by rw [F.ml]; exact h6.1) rfl hd hR.1 (by have := lv_room (m := E.2.2.2.2.2.1) (pc := pc) (ls := ls) (rest := .ref a :: st) hW; omega) (kk x hx hK H locs ls h1 h2 h3 h4 h5 h6)
theorem z_callI (F : zF E D A cc own nL ret) {y : MethodName} {cb : ByteArray} {maxL : Nat} {rm : Room} {mc ms n index b : Nat} {rv : Int32 → Option Value} {As : List Value} {τ' : zT} {o : Option (Int32 × zG)} {h : Int32 → zG → Option ρ} (hC : zCall E.2.2.2.1 y cb maxL none rm mc ms n) (hM : zCon E.2.1 D y cb maxL none rm mc ms rv (.ref b :: As) κ.1 κ.2.1 g τ' o) (hl : zTbl (.methodLink own index y) ∨ ∃ host, zTbl (.methodLinkNest own index y host)) (hin : zTbl (.instanceMethod y)) (hy1 : y.name = "<init>") (hn : As.length = n) (hc : κ.2.2.1 + mc ≤ E.2.2.2.1.cells ∧ κ.2.2.2 + ms ≤ E.2.2.2.1.slots) (hW : (st.map fun v => v.category).sum ≤ 8) (hd : decode cc pc = .ok (.invokespecial index, 3))
    (kk : ∀ r g', zSim K (h r g') (zAt E D A Q nL (κ.1 + mc, τ', κ.2.2.1 + mc, κ.2.2.2 + ms) g' (pc + 3) lv ((rv r).toList ++ st))) (st0 : List Value) (hst : st0 = As.reverse ++ .ref b :: st) : zSim K (zb o h) (zAt E D A Q nL κ g pc lv st0) := by
  intro w hw hK H locs ls h1 h2 h3 h4 h5 h6
  subst hst
  cases ho : o with
  | none => rw [ho] at hw; cases hw
  | some q =>
    obtain ⟨x, g1⟩ := q
    rw [ho] at hw
    have hM2 := hM x g1 ho
    rw [← h1] at hM2
    refine z_after (o := o) (h := h) (w := w) F h1 h4 h5 h6 ?_ (kk x g1 w hw hK)
    rcases hl with hl | ⟨host, hl⟩
    · exact va_runI (Ts := []) (As := As) (rest := st) ⟨F.ex, F.cd, F.ml, F.own, fun w hw => by cases hw⟩ hM2 ⟨hC.B F hl, hy1, F.w hin⟩ ⟨zP_blind, zP_at F h2 h3 h4 h5⟩ rfl hn h6.1 rfl (lv_room hW) hd hc
    · refine va_runIN (Ts := []) (host := host) (bytes := cb) (maxL := maxL) (n := n) (As := As) (rest := st) ⟨F.ex, F.cd, F.ml, F.own, fun w hw => by cases hw⟩ hM2 ⟨?_, hy1, F.w hin⟩ ⟨zP_blind, zP_at F h2 h3 h4 h5⟩ rfl hn h6.1 rfl (lv_room hW) hd hc
      obtain ⟨c1, c2, c3, c4, c5, c6, c7⟩ := hC
      refine ⟨⟨c4, c5, c6, c7, fun w hw a' U hW => ?_, List.mem_cons_self⟩, F.w c1, F.w c2, ⟨c3.1, c3.2.1⟩, fun sig h => ?_, F.w hl⟩
      · rw [List.mem_singleton.mp hw]
        exact zword_at hW c1.2 (F.w c1)
      · have h2 := c3.2.2
        rw [h] at h2
        exact (Option.some.inj h2).symm
theorem z_aloadq_n (F : zF E D A cc own nL ret) {j : Fin 4} {i x : Nat} (n : Nat) (hi : (j : Nat) = i) (hn : lv[n]? = some (i, zref x)) (hd : decode cc pc = .ok (.aload_n j, 1)) (k : zSim K f (zAt E D A Q nL κ g (pc + 1) lv (zref x :: st))) : zSim K f (zAt E D A Q nL κ g pc lv st) := by
  intro r hr hK H locs ls h1 h2 h3 h4 h5 h6
  have hk := k r hr hK H locs ls h1 h2 h3 h4 h5 h6
  by_cases hz : x = 0
  · have e : zref x = .null := by simp [zref, hz]
    rw [e] at hk hn
    exact lv_aload_nN F.ex F.cd hd hi (lv_at h6 n hn) hk
  · have e : zref x = .ref x := by simp [zref, hz]
    rw [e] at hk hn
    exact lv_aload_n F.ex F.cd hd hi (lv_at h6 n hn) hk
end ZN
