-- ===== the typed heap: ints, references, longs by address and place; what stands at an address is said by a table =====
abbrev zG : Type := (Nat → Nat → Int32) × (Nat → Nat → Nat) × (Nat → Nat → Int64)
abbrev zS : Type := (FieldType × Nat) ⊕ Nat
abbrev zT : Type := Nat → Option zS
abbrev zE : Type := Program × Launch × Env × Room × State × MethodId × Array Value × List Frame × Method × Code
abbrev zD : Type := (Nat → ClassId) × (Nat → Nat → Nat) × (FieldType → ClassId) × (Nat → Nat)
abbrev zC : Type := Nat × zT × Nat × Nat
def zu {α : Type} (f : Nat → Nat → α) (a k : Nat) (x : α) : Nat → Nat → α := fun b j => if b = a ∧ j = k then x else f b j
def zsi (g : zG) (a k : Nat) (x : Int32) : zG := (zu g.1 a k x, g.2)
def zsr (g : zG) (a k : Nat) (x : Nat) : zG := (g.1, zu g.2.1 a k x, g.2.2)
def zsl (g : zG) (a k : Nat) (x : Int64) : zG := (g.1, g.2.1, zu g.2.2 a k x)
def zref (r : Nat) : Value := if r = 0 then .null else .ref r
def zv (ty : FieldType) (g : zG) (a k : Nat) : Value := match ty with
  | .long => .long (g.2.2 a k)
  | .object _ => zref (g.2.1 a k)
  | .array _ => zref (g.2.1 a k)
  | _ => .int (g.1 a k)
def zty (ci : Nat) : Nat → FieldType := match ci with
  | 0 => tyX0
  | 1 => tyX1
  | 2 => tyX2
  | 3 => tyX3
  | 4 => tyX4
  | 5 => tyX5
  | 6 => tyX6
  | 7 => tyX7
  | 8 => tyX8
  | 9 => tyX9
  | _ => tyX10
/-- what a reference field always holds; kinds from 11 on are objects under construction: nothing is said -/
def zsh (ci k : Nat) : Option zS := match ci, k with
  | 0, 0 => some (.inl (FieldType.int, 48))
  | 1, 0 => some (.inl (FieldType.int, 2400))
  | 1, 1 => some (.inl (FieldType.int, 2400))
  | 2, 0 => some (.inl (FieldType.int, 40))
  | 24, 0 => some (.inl (FieldType.int, 40))
  | 2, 1 => some (.inr 7)
  | 24, 1 => some (.inr 7)
  | 2, 7 => some (.inr 5)
  | 2, 8 => some (.inr 0)
  | 3, 0 => some (.inl (FieldType.int, 24))
  | 3, 1 => some (.inl (FieldType.int, 24))
  | 3, 2 => some (.inl (FieldType.int, 24))
  | 3, 3 => some (.inl (FieldType.int, 24))
  | 3, 4 => some (.inl (FieldType.int, 240))
  | 4, 0 => some (.inl (FieldType.byte, 240))
  | 4, 10 => some (.inl (FieldType.int, 34))
  | 4, 11 => some (.inl (FieldType.int, 34))
  | 4, 12 => some (.inl (FieldType.int, 34))
  | 5, 0 => some (.inr 0)
  | 5, 1 => some (.inr 3)
  | 5, 2 => some (.inl (FieldType.int, 8))
  | 5, 3 => some (.inl (FieldType.int, 60))
  | 6, 0 => some (.inl (FieldType.int, 4))
  | 6, 1 => some (.inl (FieldType.int, 4))
  | 6, 2 => some (.inl (FieldType.int, 160))
  | 7, 0 => some (.inl (FieldType.int, 40))
  | 7, 1 => some (.inl (FieldType.int, 40))
  | 7, 6 => some (.inl (FieldType.int, 40))
  | 7, 7 => some (.inl (FieldType.int, 40))
  | 8, 0 => some (.inr 2)
  | 8, 1 => some (.inl (FieldType.int, 6))
  | 8, 6 => some (.inr 0)
  | 9, 0 => some (.inr 5)
  | 9, 1 => some (.inr 5)
  | 9, 2 => some (.inr 4)
  | 9, 3 => some (.inr 1)
  | 9, 4 => some (.inr 2)
  | 9, 5 => some (.inr 8)
  | 9, 6 => some (.inr 6)
  | 10, 1 => some (.inl (FieldType.int, 49))
  | 10, 2 => some (.inl (FieldType.int, 8))
  | 10, 3 => some (.inl (FieldType.int, 60))
  | 10, 5 => some (.inl (FieldType.int, 24))
  | 10, 6 => some (.inl (FieldType.int, 24))
  | 10, 7 => some (.inl (FieldType.int, 24))
  | 10, 8 => some (.inl (FieldType.int, 24))
  | 10, 9 => some (.inl (FieldType.int, 240))
  | 10, 11 => some (.inl (FieldType.int, 49))
  | 10, 12 => some (.inl (FieldType.int, 8))
  | 10, 13 => some (.inl (FieldType.int, 60))
  | 10, 16 => some (.inl (FieldType.int, 24))
  | 10, 17 => some (.inl (FieldType.int, 24))
  | 10, 18 => some (.inl (FieldType.int, 24))
  | 10, 19 => some (.inl (FieldType.int, 24))
  | 10, 21 => some (.inl (FieldType.int, 240))
  | 10, 22 => some (.inl (FieldType.boolean, 13))
  | 10, 24 => some (.inl (FieldType.int, 64))
  | 10, 25 => some (.inl (FieldType.int, 64))
  | 10, 26 => some (.inl (FieldType.int, 240))
  | 10, 37 => some (.inl (FieldType.int, 40))
  | 10, 38 => some (.inl (FieldType.int, 2400))
  | 10, 39 => some (.inl (FieldType.int, 2400))
  | 10, 40 => some (.inl (FieldType.int, 40))
  | 10, 41 => some (.inl (FieldType.int, 40))
  | 10, 42 => some (.inl (FieldType.boolean, 40))
  | 10, 48 => some (.inl (FieldType.int, 40))
  | 10, 49 => some (.inl (FieldType.int, 40))
  | 10, 50 => some (.inl (FieldType.int, 40))
  | 10, 55 => some (.inl (FieldType.int, 40))
  | 10, 56 => some (.inl (FieldType.int, 49))
  | 10, 57 => some (.inl (FieldType.int, 6))
  | 10, 58 => some (.inl (FieldType.int, 4))
  | 10, 59 => some (.inl (FieldType.int, 4))
  | 10, 60 => some (.inl (FieldType.int, 160))
  | _, _ => none
def zHeap (D : zD) (τ : zT) (g : zG) (H : Heap) : Prop :=
  (∀ a ty n, τ a = some (.inl (ty, n)) → H[a]? = some (vp_cell (D.2.2.1 ty) (n, .inl (g.1 a)))) ∧
  (∀ a ci, τ a = some (.inr ci) → ∃ r : vw_C, vwCl[ci % 11]? = some r ∧ t_OB a (D.1 (ci % 11)) r.2.2 (D.2.1 (ci % 11)) H (fun k => zv (zty (ci % 11) k) g a k))
def zWT (τ : zT) (g : zG) : Prop := τ 0 = none ∧ (∀ a ci, τ a = some (.inr ci) → ∀ k sh, zsh ci k = some sh → τ (g.2.1 a k) = some sh) ∧ ∀ a, (τ a = some (.inr 2) ∨ τ a = some (.inr 24)) → g.2.1 a 6 = 0 ∨ τ (g.2.1 a 6) = some (.inr 1)
def zA (τ : zT) (sz : Nat) : Nat → Prop := fun q => (∃ x, τ q = some x) ∨ sz ≤ q
def zKn (D : zD) (U : State) : Prop := (∀ (c : Nat) (q : vw_C), vwCl[c]? = some q → u_Kn U q.1 q.2.1 q.2.2 (D.1 c) (D.2.1 c)) ∧ ∀ ty ∈ [FieldType.int, FieldType.byte, FieldType.boolean], ArrOfT U (D.2.2.1 ty) ty ∧ va_RA U (D.2.2.1 ty) ty
def zLOW (j : Nat) : Int32 := ([0, 2, 1, 1, 1, 0, 1, 1, 0, 0, 0, 0, 0] : List Int32).getD j 0
def zHIGH (j : Nat) : Int32 := ([0, 6, 6, 40, 40, 20, 20, 60, 59, 39, 0, 9, 7] : List Int32).getD j 0
def zFIRST (j : Nat) : Int32 := ([6, 3, 2, 20, 40, 3, 2, 12] : List Int32).getD j 0
def zWORDS : List Int32 := [99, 104, 97, 105, 110, 32, 32, 112, 105, 116, 99, 104, 32, 32, 103, 97, 112, 32, 32, 32, 32, 99, 111, 108, 117, 109, 110, 115, 112, 111, 119, 101, 114, 32, 32, 115, 116, 97, 114, 116, 32, 32, 115, 116, 101, 112, 32, 32, 32, 114, 111, 119, 115, 32, 32, 32, 104, 111, 108, 101, 32, 32, 32, 112, 117, 116, 32, 32, 32, 32, 103, 111, 32, 32, 32, 32, 32, 115, 112, 97, 99, 101, 32, 32, 115, 107, 105, 112, 32, 32, 32]
def zTab (k : Nat) : String := match k with
  | 0 => "LOW"
  | 1 => "HIGH"
  | _ => "AT_FIRST"
def zTabN (k : Nat) : Nat := match k with
  | 0 => 13
  | 1 => 13
  | _ => 8
def zTabF (k : Nat) : Nat → Int32 := match k with
  | 0 => zLOW
  | 1 => zHIGH
  | _ => zFIRST
/-- what nobody writes: the static tables, the text of the words, what the machine's own library says of itself -/
def zX (D : zD) (A : Nat → Prop) (U : State) : Prop :=
  (∀ k, k < 3 → va_Z "TypeChain" (zTab k) "[I" (.ref (D.2.2.2 k)) A U U.heap ∧ va_T .int (D.2.2.2 k) (zTabN k) (fun j => .int (zTabF k j)) A U U.heap) ∧
  va_Z "java/lang/String" "COMPACT_STRINGS" "Z" (.int 1) A U U.heap ∧
  va_Zq "jdk/internal/util/Preconditions" "SIOOBE_FORMATTER" "Ljava/util/function/BiFunction;" A U U.heap ∧
  vk_S 1 [91] [zWORDS] (fun _ => D.2.2.2 3) (fun _ => D.2.2.2 4) A U U.heap ∧
  vk_R "TypeChain$Reader" 156 "chain  pitch  gap    columnspower  start  step   rows   hole   put    go     space  skip   " (D.2.2.2 3) U
def zU (D : zD) (A : Nat → Prop) (U : State) : Prop := (∀ w, zTbl w → ∀ a, w.before a U = true) ∧ zKn D U ∧ zX D A U
theorem zword_at {args a' : Array Value} {s U : State} (hW : s.WarmedH U.vm) {w : Cond} (hg : zgw w = true) (h : w.before args s = true) : w.before a' U = true := by
  cases w with
  | fieldLinkNest a i b n d k => exact va_Nw.use rfl (va_Nw.warmF hW (va_Nw.of rfl h))
  | methodLinkNest a i x k => exact va_Nw.use rfl (va_Nw.warmM hW (va_Nw.of rfl h))
  | _ => exact word_at hW (good_of_word hg) h
theorem zsame_at {a a' : Array Value} {u U : State} (hv : u.vm = U.vm) {w : Cond} (hg : zgw w = true) (h : w.before a u = true) : w.before a' U = true := by
  have hW : u.WarmedH U.vm := by rw [← hv]; exact State.WarmedH.refl u
  exact zword_at hW hg h
theorem zKn.moved {D : zD} {u U : State} (hvm : u.vm.Alike U.vm) (h : zKn D u) : zKn D U := ⟨fun c q hq => u_Kn_moved hvm (h.1 c q hq), fun ty hk => ⟨arrOfT_moved hvm (h.2 ty hk).1, (h.2 ty hk).2.moved hvm⟩⟩
/-- to a later state: the tables warmer, the heap the same but in A, the world narrower -/
theorem zX.later {D : zD} {A B : Nat → Prop} {s U : State} (hW : s.WarmedH U.vm) (hq : ∀ a : Nat, a < s.heap.size → ¬ A a → U.heap[a]? = s.heap[a]?) (hAB : ∀ q, B q → A q) (h : zX D A s) : zX D B U := by
  obtain ⟨h1, h2, h3, h4, h5⟩ := h
  exact ⟨fun k hk => ⟨((va_Z.moved hW.alike (h1 k hk).1).kept hq).narrow hAB, ((va_T.moved hW.alike (h1 k hk).2).kept hq).narrow hAB⟩, ((va_Z.moved hW.alike h2).kept hq).narrow hAB, ((va_Zq.moved hW.alike h3).kept hq).narrow hAB, ((vk_S.moved hW.alike h4).kept hq).narrow hAB, vk_R.warm hW h5⟩
theorem zU.later {D : zD} {A B : Nat → Prop} {s U : State} (hW : s.WarmedH U.vm) (hq : ∀ a : Nat, a < s.heap.size → ¬ A a → U.heap[a]? = s.heap[a]?) (hAB : ∀ q, B q → A q) (h : zU D A s) : zU D B U :=
  ⟨fun w hw a => zword_at hW hw.2 (h.1 w hw #[]), h.2.1.moved hW.alike, h.2.2.later hW hq hAB⟩
theorem zU.call {D : zD} {A : Nat → Prop} {U : State} {g : JFrame} {mk : MethodId} {a : Array Value} (h : zU D A U) : zU D A (U.calling g mk a) :=
  zU.later (State.WarmedH.refl U) (fun _ _ _ => rfl) (fun _ h => h) h
/-- the machine stands at a place of a method: the heap is as told, the locals hold what is listed -/
def zAt (E : zE) (D : zD) (A : Nat → Prop) (Q : State → Prop) (nL : Nat) (κ : zC) (g : zG) (pc : Nat) (lv : List (Nat × Value)) (st : List Value) : Prop :=
  ∀ (H : Heap) (locs : List Loc) (ls : Array Slot), H.size = κ.1 → zHeap D κ.2.1 g H → zWT κ.2.1 g → (∀ q x, κ.2.1 q = some x → A q) → va_S A E.2.2.2.2.1.heap H locs → lv_has ls nL lv →
    W E.1 E.2.1 E.2.2.1 E.2.2.2.1 E.2.2.2.2.1 E.2.2.2.2.2.1 E.2.2.2.2.2.2.1 E.2.2.2.2.2.2.2.1 E.2.2.2.2.2.2.2.2.1 E.2.2.2.2.2.2.2.2.2 H locs κ.2.2.1 κ.2.2.2 Q (F0 E.2.2.2.2.2.1 pc ls st)
def zF (E : zE) (D : zD) (A : Nat → Prop) (cc : ByteArray) (own : String) (nL : Nat) (ret : Option FieldType) : Prop :=
  E.1.tables.exec = Jvm.exec ∧ E.2.2.2.2.2.2.2.2.2.code = cc ∧ E.2.2.2.2.2.2.2.2.2.maxLocals = nL ∧ E.2.2.2.2.1.vm.findClass own = some E.2.2.2.2.2.1.cls ∧ E.2.2.2.2.2.2.2.2.1.sig.returnType = ret ∧ E.2.2.2.2.2.2.2.2.1.locks = false ∧ zU D A E.2.2.2.2.1 ∧ (∀ q, E.2.2.2.2.1.heap.size ≤ q → A q)
def zSim {ρ : Type} (K : ρ → Prop) (f : Option ρ) (X : Prop) : Prop := ∀ r, f = some r → K r → X
theorem zF.ex {E : zE} {D : zD} {A : Nat → Prop} {cc : ByteArray} {own : String} {nL : Nat} {ret : Option FieldType} (F : zF E D A cc own nL ret) : E.1.tables.exec = Jvm.exec := F.1
theorem zF.cd {E : zE} {D : zD} {A : Nat → Prop} {cc : ByteArray} {own : String} {nL : Nat} {ret : Option FieldType} (F : zF E D A cc own nL ret) : E.2.2.2.2.2.2.2.2.2.code = cc := F.2.1
theorem zF.ml {E : zE} {D : zD} {A : Nat → Prop} {cc : ByteArray} {own : String} {nL : Nat} {ret : Option FieldType} (F : zF E D A cc own nL ret) : E.2.2.2.2.2.2.2.2.2.maxLocals = nL := F.2.2.1
theorem zF.own {E : zE} {D : zD} {A : Nat → Prop} {cc : ByteArray} {own : String} {nL : Nat} {ret : Option FieldType} (F : zF E D A cc own nL ret) : E.2.2.2.2.1.vm.findClass own = some E.2.2.2.2.2.1.cls := F.2.2.2.1
theorem zF.rt {E : zE} {D : zD} {A : Nat → Prop} {cc : ByteArray} {own : String} {nL : Nat} {ret : Option FieldType} (F : zF E D A cc own nL ret) : E.2.2.2.2.2.2.2.2.1.sig.returnType = ret := F.2.2.2.2.1
theorem zF.lk {E : zE} {D : zD} {A : Nat → Prop} {cc : ByteArray} {own : String} {nL : Nat} {ret : Option FieldType} (F : zF E D A cc own nL ret) : E.2.2.2.2.2.2.2.2.1.locks = false := F.2.2.2.2.2.1
theorem zF.u {E : zE} {D : zD} {A : Nat → Prop} {cc : ByteArray} {own : String} {nL : Nat} {ret : Option FieldType} (F : zF E D A cc own nL ret) : zU D A E.2.2.2.2.1 := F.2.2.2.2.2.2.1
theorem zF.w {E : zE} {D : zD} {A : Nat → Prop} {cc : ByteArray} {own : String} {nL : Nat} {ret : Option FieldType} (F : zF E D A cc own nL ret) {w : Cond} (h : zTbl w) : w.before E.2.2.2.2.2.2.1 E.2.2.2.2.1 = true := F.2.2.2.2.2.2.1.1 w h _
/-- a fragment's value gets a name -/
def zl {α ρ : Type} (e : α) (k : α → ρ) : ρ := k e
/-- a test that the machine itself makes -/
def zc {ρ : Type} (c : Prop) [Decidable c] (o : Option ρ) : Option ρ := if c then o else none
/-- a call's answer and heap -/
def zb {ρ : Type} (o : Option (Int32 × zG)) (k : Int32 → zG → Option ρ) : Option ρ := match o with
  | none => none
  | some q => k q.1 q.2
/-- a loop: its turns at most n -/
def zw {σ ρ : Type} (n : Nat) (step : σ → Option (σ ⊕ ρ)) (s : σ) : Option ρ := match n with
  | 0 => none
  | n + 1 => match step s with
    | none => none
    | some (.inl s') => zw n step s'
    | some (.inr r) => some r
abbrev zin (i : Int32) (n : Nat) : Prop := ¬ (i < 0 ∨ n ≤ i.toNatClampNeg)
def zrem (x y : Int32) : Int32 := x - x / y * y
def zshl (x y : Int32) : Int32 := x <<< (y &&& 31)
def zshr (x y : Int32) : Int32 := x >>> (y &&& 31)
def zushr (x y : Int32) : Int32 := (x.toUInt32 >>> (y.toUInt32 &&& Int32.toUInt32 31)).toInt32
def zlshl (x : Int64) (y : Int32) : Int64 := x <<< (y.toInt64 &&& 63)
def zlshr (x : Int64) (y : Int32) : Int64 := x >>> (y.toInt64 &&& 63)
def zlushr (x : Int64) (y : Int32) : Int64 := (x.toUInt64 >>> (y.toInt64.toUInt64 &&& Int64.toUInt64 63)).toInt64

section ZR
variable {ρ : Type} {K : ρ → Prop} {f f1 f2 : Option ρ} {E : zE} {D : zD} {A : Nat → Prop} {Q : State → Prop} {nL : Nat} {κ : zC} {g : zG} {pc : Nat} {lv lv' : List (Nat × Value)} {st : List Value} {cc : ByteArray} {own : String} {ret : Option FieldType}
theorem z_iconst (F : zF E D A cc own nL ret) {n : Int} {v : Int32} (hv : Int32.ofInt n = v) (hd : decode cc pc = .ok (.iconst n, 1)) (k : zSim K f (zAt E D A Q nL κ g (pc + 1) lv (.int v :: st))) : zSim K f (zAt E D A Q nL κ g (pc) lv (st)) :=
  fun r hr hK H locs ls h1 h2 h3 h4 h5 h6 => lv_iconst F.ex F.cd hd hv (k r hr hK H locs ls h1 h2 h3 h4 h5 h6)
theorem z_bipush (F : zF E D A cc own nL ret) {n : Int} {v : Int32} (hv : (Int8.ofInt n).toInt32 = v) (hd : decode cc pc = .ok (.bipush n, 2)) (k : zSim K f (zAt E D A Q nL κ g (pc + 2) lv (.int v :: st))) : zSim K f (zAt E D A Q nL κ g (pc) lv (st)) :=
  fun r hr hK H locs ls h1 h2 h3 h4 h5 h6 => lv_bipush F.ex F.cd hd hv (k r hr hK H locs ls h1 h2 h3 h4 h5 h6)
theorem z_sipush (F : zF E D A cc own nL ret) {n : Int} {v : Int32} (hv : (Int16.ofInt n).toInt32 = v) (hd : decode cc pc = .ok (.sipush n, 3)) (k : zSim K f (zAt E D A Q nL κ g (pc + 3) lv (.int v :: st))) : zSim K f (zAt E D A Q nL κ g (pc) lv (st)) :=
  fun r hr hK H locs ls h1 h2 h3 h4 h5 h6 => lv_sipush F.ex F.cd hd hv (k r hr hK H locs ls h1 h2 h3 h4 h5 h6)
theorem z_lconst (F : zF E D A cc own nL ret) {n : Fin 2} {v : Int64} (hv : Int64.ofNat (n : Nat) = v) (hd : decode cc pc = .ok (.lconst n, 1)) (k : zSim K f (zAt E D A Q nL κ g (pc + 1) lv (.long v :: st))) : zSim K f (zAt E D A Q nL κ g (pc) lv (st)) :=
  fun r hr hK H locs ls h1 h2 h3 h4 h5 h6 => lv_lconst F.ex F.cd hd hv (k r hr hK H locs ls h1 h2 h3 h4 h5 h6)
theorem z_ldc (F : zF E D A cc own nL ret) {index : Nat} {v : Int32} (hq : zTbl (.constant own index v)) (hd : decode cc pc = .ok (.ldc index, 2)) (k : zSim K f (zAt E D A Q nL κ g (pc + 2) lv (.int v :: st))) : zSim K f (zAt E D A Q nL κ g (pc) lv (st)) :=
  fun r hr hK H locs ls h1 h2 h3 h4 h5 h6 => lv_ldc F.ex F.cd F.own (F.w hq) hd (k r hr hK H locs ls h1 h2 h3 h4 h5 h6)
theorem z_ldcw (F : zF E D A cc own nL ret) {index : Nat} {v : Int32} (hq : zTbl (.constant own index v)) (hd : decode cc pc = .ok (.ldc_w index, 3)) (k : zSim K f (zAt E D A Q nL κ g (pc + 3) lv (.int v :: st))) : zSim K f (zAt E D A Q nL κ g (pc) lv (st)) :=
  fun r hr hK H locs ls h1 h2 h3 h4 h5 h6 => lv_ldcw F.ex F.cd F.own (F.w hq) hd (k r hr hK H locs ls h1 h2 h3 h4 h5 h6)
theorem z_ldc2 (F : zF E D A cc own nL ret) {index : Nat} {v : Int64} (hq : zTbl (.constantLong own index v)) (hd : decode cc pc = .ok (.ldc2_w index, 3)) (k : zSim K f (zAt E D A Q nL κ g (pc + 3) lv (.long v :: st))) : zSim K f (zAt E D A Q nL κ g (pc) lv (st)) :=
  fun r hr hK H locs ls h1 h2 h3 h4 h5 h6 => lv_ldc2 F.ex F.cd F.own (F.w hq) hd (k r hr hK H locs ls h1 h2 h3 h4 h5 h6)
theorem z_null (F : zF E D A cc own nL ret)  (hd : decode cc pc = .ok (.aconst_null, 1)) (k : zSim K f (zAt E D A Q nL κ g (pc + 1) lv (.null :: st))) : zSim K f (zAt E D A Q nL κ g (pc) lv (st)) :=
  fun r hr hK H locs ls h1 h2 h3 h4 h5 h6 => lv_null F.ex F.cd hd (k r hr hK H locs ls h1 h2 h3 h4 h5 h6)
theorem z_iload_n (F : zF E D A cc own nL ret) {j : Fin 4} {i : Nat} {x : Int32} (n : Nat) (hi : (j : Nat) = i) (hn : lv[n]? = some (i, .int x)) (hd : decode cc pc = .ok (.iload_n j, 1)) (k : zSim K f (zAt E D A Q nL κ g (pc + 1) lv (.int x :: st))) : zSim K f (zAt E D A Q nL κ g (pc) lv (st)) :=
  fun r hr hK H locs ls h1 h2 h3 h4 h5 h6 => lv_iload_n F.ex F.cd hd hi (lv_at h6 n hn) (k r hr hK H locs ls h1 h2 h3 h4 h5 h6)
theorem z_iload (F : zF E D A cc own nL ret) {i : Nat} {x : Int32} (n : Nat) (hn : lv[n]? = some (i, .int x)) (hd : decode cc pc = .ok (.iload i, 2)) (k : zSim K f (zAt E D A Q nL κ g (pc + 2) lv (.int x :: st))) : zSim K f (zAt E D A Q nL κ g (pc) lv (st)) :=
  fun r hr hK H locs ls h1 h2 h3 h4 h5 h6 => lv_iload F.ex F.cd hd (lv_at h6 n hn) (k r hr hK H locs ls h1 h2 h3 h4 h5 h6)
theorem z_lload_n (F : zF E D A cc own nL ret) {j : Fin 4} {i : Nat} {x : Int64} (n : Nat) (hi : (j : Nat) = i) (hn : lv[n]? = some (i, .long x)) (hd : decode cc pc = .ok (.lload_n j, 1)) (k : zSim K f (zAt E D A Q nL κ g (pc + 1) lv (.long x :: st))) : zSim K f (zAt E D A Q nL κ g (pc) lv (st)) :=
  fun r hr hK H locs ls h1 h2 h3 h4 h5 h6 => lv_lload_n F.ex F.cd hd hi (lv_at h6 n hn) (k r hr hK H locs ls h1 h2 h3 h4 h5 h6)
theorem z_lload (F : zF E D A cc own nL ret) {i : Nat} {x : Int64} (n : Nat) (hn : lv[n]? = some (i, .long x)) (hd : decode cc pc = .ok (.lload i, 2)) (k : zSim K f (zAt E D A Q nL κ g (pc + 2) lv (.long x :: st))) : zSim K f (zAt E D A Q nL κ g (pc) lv (st)) :=
  fun r hr hK H locs ls h1 h2 h3 h4 h5 h6 => lv_lload F.ex F.cd hd (lv_at h6 n hn) (k r hr hK H locs ls h1 h2 h3 h4 h5 h6)
theorem z_aload_n (F : zF E D A cc own nL ret) {j : Fin 4} {i : Nat} {x : Nat} (n : Nat) (hi : (j : Nat) = i) (hn : lv[n]? = some (i, .ref x)) (hd : decode cc pc = .ok (.aload_n j, 1)) (k : zSim K f (zAt E D A Q nL κ g (pc + 1) lv (.ref x :: st))) : zSim K f (zAt E D A Q nL κ g (pc) lv (st)) :=
  fun r hr hK H locs ls h1 h2 h3 h4 h5 h6 => lv_aload_n F.ex F.cd hd hi (lv_at h6 n hn) (k r hr hK H locs ls h1 h2 h3 h4 h5 h6)
theorem z_aload (F : zF E D A cc own nL ret) {i : Nat} {x : Nat} (n : Nat) (hn : lv[n]? = some (i, .ref x)) (hd : decode cc pc = .ok (.aload i, 2)) (k : zSim K f (zAt E D A Q nL κ g (pc + 2) lv (.ref x :: st))) : zSim K f (zAt E D A Q nL κ g (pc) lv (st)) :=
  fun r hr hK H locs ls h1 h2 h3 h4 h5 h6 => lv_aload F.ex F.cd hd (lv_at h6 n hn) (k r hr hK H locs ls h1 h2 h3 h4 h5 h6)
theorem z_istore_n (F : zF E D A cc own nL ret) {j : Fin 4} {i : Nat} {x : Int32} (hi : (j : Nat) = i) (hn : i < nL) (hd : decode cc pc = .ok (.istore_n j, 1)) (hl : (i, Value.int x) :: lv.filter (fun q => !(q.1 == i) && !(q.1 + 1 == i && q.2.category == 2)) = lv') (k : zSim K f (zAt E D A Q nL κ g (pc + 1) lv' (st))) : zSim K f (zAt E D A Q nL κ g (pc) lv (.int x :: st)) :=
  fun r hr hK H locs ls h1 h2 h3 h4 h5 h6 => lv_istore_n F.ex F.cd hd hi h6 hn hl (fun ls' h6' => k r hr hK H locs ls' h1 h2 h3 h4 h5 h6')
theorem z_istore (F : zF E D A cc own nL ret) {i : Nat} {x : Int32} (hn : i < nL) (hd : decode cc pc = .ok (.istore i, 2)) (hl : (i, Value.int x) :: lv.filter (fun q => !(q.1 == i) && !(q.1 + 1 == i && q.2.category == 2)) = lv') (k : zSim K f (zAt E D A Q nL κ g (pc + 2) lv' (st))) : zSim K f (zAt E D A Q nL κ g (pc) lv (.int x :: st)) :=
  fun r hr hK H locs ls h1 h2 h3 h4 h5 h6 => lv_istore F.ex F.cd hd h6 hn hl (fun ls' h6' => k r hr hK H locs ls' h1 h2 h3 h4 h5 h6')
theorem z_astore_n (F : zF E D A cc own nL ret) {j : Fin 4} {i : Nat} {x : Nat} (hi : (j : Nat) = i) (hn : i < nL) (hd : decode cc pc = .ok (.astore_n j, 1)) (hl : (i, Value.ref x) :: lv.filter (fun q => !(q.1 == i) && !(q.1 + 1 == i && q.2.category == 2)) = lv') (k : zSim K f (zAt E D A Q nL κ g (pc + 1) lv' (st))) : zSim K f (zAt E D A Q nL κ g (pc) lv (.ref x :: st)) :=
  fun r hr hK H locs ls h1 h2 h3 h4 h5 h6 => lv_astore_n F.ex F.cd hd hi h6 hn hl (fun ls' h6' => k r hr hK H locs ls' h1 h2 h3 h4 h5 h6')
theorem z_astore (F : zF E D A cc own nL ret) {i : Nat} {x : Nat} (hn : i < nL) (hd : decode cc pc = .ok (.astore i, 2)) (hl : (i, Value.ref x) :: lv.filter (fun q => !(q.1 == i) && !(q.1 + 1 == i && q.2.category == 2)) = lv') (k : zSim K f (zAt E D A Q nL κ g (pc + 2) lv' (st))) : zSim K f (zAt E D A Q nL κ g (pc) lv (.ref x :: st)) :=
  fun r hr hK H locs ls h1 h2 h3 h4 h5 h6 => lv_astore F.ex F.cd hd h6 hn hl (fun ls' h6' => k r hr hK H locs ls' h1 h2 h3 h4 h5 h6')
theorem z_lstore_n (F : zF E D A cc own nL ret) {j : Fin 4} {i : Nat} {x : Int64} (hi : (j : Nat) = i) (hn : i + 1 < nL) (hd : decode cc pc = .ok (.lstore_n j, 1)) (hl : (i, Value.long x) :: lv.filter (fun q => !(q.1 == i) && (!(q.1 == i + 1) && !(q.1 + 1 == i && q.2.category == 2))) = lv') (k : zSim K f (zAt E D A Q nL κ g (pc + 1) lv' (st))) : zSim K f (zAt E D A Q nL κ g (pc) lv (.long x :: st)) :=
  fun r hr hK H locs ls h1 h2 h3 h4 h5 h6 => lv_lstore_n F.ex F.cd hd hi h6 hn hl (fun ls' h6' => k r hr hK H locs ls' h1 h2 h3 h4 h5 h6')
theorem z_lstore (F : zF E D A cc own nL ret) {i : Nat} {x : Int64} (hn : i + 1 < nL) (hd : decode cc pc = .ok (.lstore i, 2)) (hl : (i, Value.long x) :: lv.filter (fun q => !(q.1 == i) && (!(q.1 == i + 1) && !(q.1 + 1 == i && q.2.category == 2))) = lv') (k : zSim K f (zAt E D A Q nL κ g (pc + 2) lv' (st))) : zSim K f (zAt E D A Q nL κ g (pc) lv (.long x :: st)) :=
  fun r hr hK H locs ls h1 h2 h3 h4 h5 h6 => lv_lstore F.ex F.cd hd h6 hn hl (fun ls' h6' => k r hr hK H locs ls' h1 h2 h3 h4 h5 h6')
theorem z_iinc (F : zF E D A cc own nL ret) {i : Nat} {n : Int} {x v : Int32} (j : Nat) (hj : lv[j]? = some (i, .int x)) (hv : x + Int32.ofInt n = v) (hn : i < nL) (hd : decode cc pc = .ok (.iinc i n, 3)) (hl : (i, Value.int v) :: lv.filter (fun q => !(q.1 == i) && !(q.1 + 1 == i && q.2.category == 2)) = lv') (k : zSim K f (zAt E D A Q nL κ g (pc + 3) lv' (st))) : zSim K f (zAt E D A Q nL κ g (pc) lv (st)) :=
  fun r hr hK H locs ls h1 h2 h3 h4 h5 h6 => lv_iinc F.ex F.cd hd h6 hj hv hn hl (fun ls' h6' => k r hr hK H locs ls' h1 h2 h3 h4 h5 h6')
theorem z_sub (js : List Nat) (hl : lv_pick lv js = lv') (k : zSim K f (zAt E D A Q nL κ g (pc) lv' (st))) : zSim K f (zAt E D A Q nL κ g (pc) lv (st)) :=
  fun r hr hK H locs ls h1 h2 h3 h4 h5 h6 => k r hr hK H locs ls h1 h2 h3 h4 h5 (lv_sub h6 js hl)
theorem z_iadd (F : zF E D A cc own nL ret) {x y : Int32} (hd : decode cc pc = .ok (.iadd, 1)) (k : zSim K f (zAt E D A Q nL κ g (pc + 1) lv (.int (x + y) :: st))) : zSim K f (zAt E D A Q nL κ g (pc) lv (.int y :: .int x :: st)) :=
  fun r hr hK H locs ls h1 h2 h3 h4 h5 h6 => lv_iadd F.ex F.cd hd (k r hr hK H locs ls h1 h2 h3 h4 h5 h6)
theorem z_isub (F : zF E D A cc own nL ret) {x y : Int32} (hd : decode cc pc = .ok (.isub, 1)) (k : zSim K f (zAt E D A Q nL κ g (pc + 1) lv (.int (x - y) :: st))) : zSim K f (zAt E D A Q nL κ g (pc) lv (.int y :: .int x :: st)) :=
  fun r hr hK H locs ls h1 h2 h3 h4 h5 h6 => lv_isub F.ex F.cd hd (k r hr hK H locs ls h1 h2 h3 h4 h5 h6)
theorem z_imul (F : zF E D A cc own nL ret) {x y : Int32} (hd : decode cc pc = .ok (.imul, 1)) (k : zSim K f (zAt E D A Q nL κ g (pc + 1) lv (.int (x * y) :: st))) : zSim K f (zAt E D A Q nL κ g (pc) lv (.int y :: .int x :: st)) :=
  fun r hr hK H locs ls h1 h2 h3 h4 h5 h6 => lv_imul F.ex F.cd hd (k r hr hK H locs ls h1 h2 h3 h4 h5 h6)
theorem z_iand (F : zF E D A cc own nL ret) {x y : Int32} (hd : decode cc pc = .ok (.iand, 1)) (k : zSim K f (zAt E D A Q nL κ g (pc + 1) lv (.int (x &&& y) :: st))) : zSim K f (zAt E D A Q nL κ g (pc) lv (.int y :: .int x :: st)) :=
  fun r hr hK H locs ls h1 h2 h3 h4 h5 h6 => lv_iand F.ex F.cd hd (k r hr hK H locs ls h1 h2 h3 h4 h5 h6)
theorem z_ior (F : zF E D A cc own nL ret) {x y : Int32} (hd : decode cc pc = .ok (.ior, 1)) (k : zSim K f (zAt E D A Q nL κ g (pc + 1) lv (.int (x ||| y) :: st))) : zSim K f (zAt E D A Q nL κ g (pc) lv (.int y :: .int x :: st)) :=
  fun r hr hK H locs ls h1 h2 h3 h4 h5 h6 => lv_ior F.ex F.cd hd (k r hr hK H locs ls h1 h2 h3 h4 h5 h6)
theorem z_ixor (F : zF E D A cc own nL ret) {x y : Int32} (hd : decode cc pc = .ok (.ixor, 1)) (k : zSim K f (zAt E D A Q nL κ g (pc + 1) lv (.int (x ^^^ y) :: st))) : zSim K f (zAt E D A Q nL κ g (pc) lv (.int y :: .int x :: st)) :=
  fun r hr hK H locs ls h1 h2 h3 h4 h5 h6 => lv_ixor F.ex F.cd hd (k r hr hK H locs ls h1 h2 h3 h4 h5 h6)
theorem z_ishl (F : zF E D A cc own nL ret) {x y : Int32} (hd : decode cc pc = .ok (.ishl, 1)) (k : zSim K f (zAt E D A Q nL κ g (pc + 1) lv (.int (zshl x y) :: st))) : zSim K f (zAt E D A Q nL κ g (pc) lv (.int y :: .int x :: st)) :=
  fun r hr hK H locs ls h1 h2 h3 h4 h5 h6 => lv_ishl F.ex F.cd hd (k r hr hK H locs ls h1 h2 h3 h4 h5 h6)
theorem z_ishr (F : zF E D A cc own nL ret) {x y : Int32} (hd : decode cc pc = .ok (.ishr, 1)) (k : zSim K f (zAt E D A Q nL κ g (pc + 1) lv (.int (zshr x y) :: st))) : zSim K f (zAt E D A Q nL κ g (pc) lv (.int y :: .int x :: st)) :=
  fun r hr hK H locs ls h1 h2 h3 h4 h5 h6 => lv_ishr F.ex F.cd hd (k r hr hK H locs ls h1 h2 h3 h4 h5 h6)
theorem z_ineg (F : zF E D A cc own nL ret) {x : Int32} (hd : decode cc pc = .ok (.ineg, 1)) (k : zSim K f (zAt E D A Q nL κ g (pc + 1) lv (.int (-x) :: st))) : zSim K f (zAt E D A Q nL κ g (pc) lv (.int x :: st)) :=
  fun r hr hK H locs ls h1 h2 h3 h4 h5 h6 => lv_ineg F.ex F.cd hd (k r hr hK H locs ls h1 h2 h3 h4 h5 h6)
theorem z_ladd (F : zF E D A cc own nL ret) {x y : Int64} (hd : decode cc pc = .ok (.ladd, 1)) (k : zSim K f (zAt E D A Q nL κ g (pc + 1) lv (.long (x + y) :: st))) : zSim K f (zAt E D A Q nL κ g (pc) lv (.long y :: .long x :: st)) :=
  fun r hr hK H locs ls h1 h2 h3 h4 h5 h6 => lv_ladd F.ex F.cd hd (k r hr hK H locs ls h1 h2 h3 h4 h5 h6)
theorem z_lsub (F : zF E D A cc own nL ret) {x y : Int64} (hd : decode cc pc = .ok (.lsub, 1)) (k : zSim K f (zAt E D A Q nL κ g (pc + 1) lv (.long (x - y) :: st))) : zSim K f (zAt E D A Q nL κ g (pc) lv (.long y :: .long x :: st)) :=
  fun r hr hK H locs ls h1 h2 h3 h4 h5 h6 => lv_lsub F.ex F.cd hd (k r hr hK H locs ls h1 h2 h3 h4 h5 h6)
theorem z_lmul (F : zF E D A cc own nL ret) {x y : Int64} (hd : decode cc pc = .ok (.lmul, 1)) (k : zSim K f (zAt E D A Q nL κ g (pc + 1) lv (.long (x * y) :: st))) : zSim K f (zAt E D A Q nL κ g (pc) lv (.long y :: .long x :: st)) :=
  fun r hr hK H locs ls h1 h2 h3 h4 h5 h6 => lv_lmul F.ex F.cd hd (k r hr hK H locs ls h1 h2 h3 h4 h5 h6)
theorem z_land (F : zF E D A cc own nL ret) {x y : Int64} (hd : decode cc pc = .ok (.land, 1)) (k : zSim K f (zAt E D A Q nL κ g (pc + 1) lv (.long (x &&& y) :: st))) : zSim K f (zAt E D A Q nL κ g (pc) lv (.long y :: .long x :: st)) :=
  fun r hr hK H locs ls h1 h2 h3 h4 h5 h6 => lv_land F.ex F.cd hd (k r hr hK H locs ls h1 h2 h3 h4 h5 h6)
theorem z_lor (F : zF E D A cc own nL ret) {x y : Int64} (hd : decode cc pc = .ok (.lor, 1)) (k : zSim K f (zAt E D A Q nL κ g (pc + 1) lv (.long (x ||| y) :: st))) : zSim K f (zAt E D A Q nL κ g (pc) lv (.long y :: .long x :: st)) :=
  fun r hr hK H locs ls h1 h2 h3 h4 h5 h6 => lv_lor F.ex F.cd hd (k r hr hK H locs ls h1 h2 h3 h4 h5 h6)
theorem z_lxor (F : zF E D A cc own nL ret) {x y : Int64} (hd : decode cc pc = .ok (.lxor, 1)) (k : zSim K f (zAt E D A Q nL κ g (pc + 1) lv (.long (x ^^^ y) :: st))) : zSim K f (zAt E D A Q nL κ g (pc) lv (.long y :: .long x :: st)) :=
  fun r hr hK H locs ls h1 h2 h3 h4 h5 h6 => lv_lxor F.ex F.cd hd (k r hr hK H locs ls h1 h2 h3 h4 h5 h6)
theorem z_lshl (F : zF E D A cc own nL ret) {x : Int64} {y : Int32} (hd : decode cc pc = .ok (.lshl, 1)) (k : zSim K f (zAt E D A Q nL κ g (pc + 1) lv (.long (zlshl x y) :: st))) : zSim K f (zAt E D A Q nL κ g (pc) lv (.int y :: .long x :: st)) :=
  fun r hr hK H locs ls h1 h2 h3 h4 h5 h6 => lv_lshl F.ex F.cd hd rfl (k r hr hK H locs ls h1 h2 h3 h4 h5 h6)
theorem z_lshr (F : zF E D A cc own nL ret) {x : Int64} {y : Int32} (hd : decode cc pc = .ok (.lshr, 1)) (k : zSim K f (zAt E D A Q nL κ g (pc + 1) lv (.long (zlshr x y) :: st))) : zSim K f (zAt E D A Q nL κ g (pc) lv (.int y :: .long x :: st)) :=
  fun r hr hK H locs ls h1 h2 h3 h4 h5 h6 => lv_lshr F.ex F.cd hd rfl (k r hr hK H locs ls h1 h2 h3 h4 h5 h6)
theorem z_lushr (F : zF E D A cc own nL ret) {x : Int64} {y : Int32} (hd : decode cc pc = .ok (.lushr, 1)) (k : zSim K f (zAt E D A Q nL κ g (pc + 1) lv (.long (zlushr x y) :: st))) : zSim K f (zAt E D A Q nL κ g (pc) lv (.int y :: .long x :: st)) :=
  fun r hr hK H locs ls h1 h2 h3 h4 h5 h6 => lv_lushr F.ex F.cd hd rfl (k r hr hK H locs ls h1 h2 h3 h4 h5 h6)
theorem z_iushr (F : zF E D A cc own nL ret) {x y : Int32} (hd : decode cc pc = .ok (.iushr, 1)) (k : zSim K f (zAt E D A Q nL κ g (pc + 1) lv (.int (zushr x y) :: st))) : zSim K f (zAt E D A Q nL κ g (pc) lv (.int y :: .int x :: st)) :=
  fun r hr hK H locs ls h1 h2 h3 h4 h5 h6 => lv_iushr F.ex F.cd hd rfl (k r hr hK H locs ls h1 h2 h3 h4 h5 h6)
theorem z_i2l (F : zF E D A cc own nL ret) {x : Int32} (hd : decode cc pc = .ok (.i2l, 1)) (k : zSim K f (zAt E D A Q nL κ g (pc + 1) lv (.long x.toInt64 :: st))) : zSim K f (zAt E D A Q nL κ g (pc) lv (.int x :: st)) :=
  fun r hr hK H locs ls h1 h2 h3 h4 h5 h6 => lv_i2l F.ex F.cd hd rfl (k r hr hK H locs ls h1 h2 h3 h4 h5 h6)
theorem z_l2i (F : zF E D A cc own nL ret) {x : Int64} (hd : decode cc pc = .ok (.l2i, 1)) (k : zSim K f (zAt E D A Q nL κ g (pc + 1) lv (.int x.toInt32 :: st))) : zSim K f (zAt E D A Q nL κ g (pc) lv (.long x :: st)) :=
  fun r hr hK H locs ls h1 h2 h3 h4 h5 h6 => lv_l2i F.ex F.cd hd rfl (k r hr hK H locs ls h1 h2 h3 h4 h5 h6)
theorem z_i2b (F : zF E D A cc own nL ret) {x : Int32} (hd : decode cc pc = .ok (.i2b, 1)) (k : zSim K f (zAt E D A Q nL κ g (pc + 1) lv (.int x.toInt8.toInt32 :: st))) : zSim K f (zAt E D A Q nL κ g (pc) lv (.int x :: st)) :=
  fun r hr hK H locs ls h1 h2 h3 h4 h5 h6 => lv_i2b F.ex F.cd hd rfl (k r hr hK H locs ls h1 h2 h3 h4 h5 h6)
theorem z_i2s (F : zF E D A cc own nL ret) {x : Int32} (hd : decode cc pc = .ok (.i2s, 1)) (k : zSim K f (zAt E D A Q nL κ g (pc + 1) lv (.int x.toInt16.toInt32 :: st))) : zSim K f (zAt E D A Q nL κ g (pc) lv (.int x :: st)) :=
  fun r hr hK H locs ls h1 h2 h3 h4 h5 h6 => lv_i2s F.ex F.cd hd rfl (k r hr hK H locs ls h1 h2 h3 h4 h5 h6)
theorem z_i2c (F : zF E D A cc own nL ret) {x : Int32} (hd : decode cc pc = .ok (.i2c, 1)) (k : zSim K f (zAt E D A Q nL κ g (pc + 1) lv (.int (x.toUInt32 % 65536).toInt32 :: st))) : zSim K f (zAt E D A Q nL κ g (pc) lv (.int x :: st)) :=
  fun r hr hK H locs ls h1 h2 h3 h4 h5 h6 => lv_i2c F.ex F.cd hd rfl (k r hr hK H locs ls h1 h2 h3 h4 h5 h6)
theorem z_lcmp (F : zF E D A cc own nL ret) {x y : Int64} (hd : decode cc pc = .ok (.lcmp, 1)) (k : zSim K f (zAt E D A Q nL κ g (pc + 1) lv (.int (lg_cmp x y) :: st))) : zSim K f (zAt E D A Q nL κ g (pc) lv (.long y :: .long x :: st)) :=
  fun r hr hK H locs ls h1 h2 h3 h4 h5 h6 => W.lcmp F.ex F.cd hd (k r hr hK H locs ls h1 h2 h3 h4 h5 h6)
theorem z_idiv (F : zF E D A cc own nL ret) {x y : Int32} [dz : Decidable (¬ y = 0)] (hd : decode cc pc = .ok (.idiv, 1)) (k : zSim K f (zAt E D A Q nL κ g (pc + 1) lv (.int (x / y) :: st))) : zSim K (zc (¬ y = 0) f) (zAt E D A Q nL κ g (pc) lv (.int y :: .int x :: st)) := by
  intro r hr hK H locs ls h1 h2 h3 h4 h5 h6
  unfold zc at hr
  by_cases hz : ¬ y = 0
  · rw [if_pos hz] at hr
    exact lv_idiv F.ex F.cd hd hz (k r hr hK H locs ls h1 h2 h3 h4 h5 h6)
  · rw [if_neg hz] at hr; cases hr
theorem z_irem (F : zF E D A cc own nL ret) {x y : Int32} [dz : Decidable (¬ y = 0)] (hd : decode cc pc = .ok (.irem, 1)) (k : zSim K f (zAt E D A Q nL κ g (pc + 1) lv (.int (zrem x y) :: st))) : zSim K (zc (¬ y = 0) f) (zAt E D A Q nL κ g (pc) lv (.int y :: .int x :: st)) := by
  intro r hr hK H locs ls h1 h2 h3 h4 h5 h6
  unfold zc at hr
  by_cases hz : ¬ y = 0
  · rw [if_pos hz] at hr
    exact lv_irem F.ex F.cd hd hz (k r hr hK H locs ls h1 h2 h3 h4 h5 h6)
  · rw [if_neg hz] at hr; cases hr
theorem z_dup (F : zF E D A cc own nL ret) {v : Value} (hv : v.category = 1) (hd : decode cc pc = .ok (.dup, 1)) (k : zSim K f (zAt E D A Q nL κ g (pc + 1) lv (v :: v :: st))) : zSim K f (zAt E D A Q nL κ g (pc) lv (v :: st)) :=
  fun r hr hK H locs ls h1 h2 h3 h4 h5 h6 => lv_dup F.ex F.cd hd hv (k r hr hK H locs ls h1 h2 h3 h4 h5 h6)
theorem z_pop (F : zF E D A cc own nL ret) {v : Value} (hv : v.category = 1) (hd : decode cc pc = .ok (.pop, 1)) (k : zSim K f (zAt E D A Q nL κ g (pc + 1) lv (st))) : zSim K f (zAt E D A Q nL κ g (pc) lv (v :: st)) :=
  fun r hr hK H locs ls h1 h2 h3 h4 h5 h6 => lv_pop F.ex F.cd hd hv (k r hr hK H locs ls h1 h2 h3 h4 h5 h6)
theorem z_dup2 (F : zF E D A cc own nL ret) {v w : Value} (hv : v.category = 1) (hw : w.category = 1) (hd : decode cc pc = .ok (.dup2, 1)) (k : zSim K f (zAt E D A Q nL κ g (pc + 1) lv (v :: w :: v :: w :: st))) : zSim K f (zAt E D A Q nL κ g (pc) lv (v :: w :: st)) :=
  fun r hr hK H locs ls h1 h2 h3 h4 h5 h6 => lv_dup2_11 F.ex F.cd hd hv hw (k r hr hK H locs ls h1 h2 h3 h4 h5 h6)
theorem z_if_ne (F : zF E D A cc own nL ret) {x : Int32} {off : Int} {tgt : Nat} [dz : Decidable (x = 0)] (hd : decode cc pc = .ok (.ifCond .ne off, 3)) (ht : (pc : Int) + off = (tgt : Int)) (kf : (x = 0) → zSim K f1 (zAt E D A Q nL κ g (pc + 3) lv (st))) (kt : ¬ (x = 0) → zSim K f2 (zAt E D A Q nL κ g (tgt) lv (st))) : zSim K (if x = 0 then f1 else f2) (zAt E D A Q nL κ g (pc) lv (.int x :: st)) := by
  intro r hr hK H locs ls h1 h2 h3 h4 h5 h6
  refine lv_if_ne F.ex F.cd hd ht (fun hz => ?_) (fun hz => ?_)
  · exact kt hz r (by rw [if_neg hz] at hr; exact hr) hK H locs ls h1 h2 h3 h4 h5 h6
  · exact kf hz r (by rw [if_pos hz] at hr; exact hr) hK H locs ls h1 h2 h3 h4 h5 h6
theorem z_icmp_ne (F : zF E D A cc own nL ret) {x y : Int32} {off : Int} {tgt : Nat} [dz : Decidable (x = y)] (hd : decode cc pc = .ok (.if_icmp .ne off, 3)) (ht : (pc : Int) + off = (tgt : Int)) (kf : (x = y) → zSim K f1 (zAt E D A Q nL κ g (pc + 3) lv (st))) (kt : ¬ (x = y) → zSim K f2 (zAt E D A Q nL κ g (tgt) lv (st))) : zSim K (if x = y then f1 else f2) (zAt E D A Q nL κ g (pc) lv (.int y :: .int x :: st)) := by
  intro r hr hK H locs ls h1 h2 h3 h4 h5 h6
  refine lv_icmp_ne F.ex F.cd hd ht (fun hz => ?_) (fun hz => ?_)
  · exact kt hz r (by rw [if_neg hz] at hr; exact hr) hK H locs ls h1 h2 h3 h4 h5 h6
  · exact kf hz r (by rw [if_pos hz] at hr; exact hr) hK H locs ls h1 h2 h3 h4 h5 h6
theorem z_if_eq (F : zF E D A cc own nL ret) {x : Int32} {off : Int} {tgt : Nat} [dz : Decidable (x = 0)] (hd : decode cc pc = .ok (.ifCond .eq off, 3)) (ht : (pc : Int) + off = (tgt : Int)) (kt : (x = 0) → zSim K f1 (zAt E D A Q nL κ g (tgt) lv (st))) (kf : ¬ (x = 0) → zSim K f2 (zAt E D A Q nL κ g (pc + 3) lv (st))) : zSim K (if x = 0 then f1 else f2) (zAt E D A Q nL κ g (pc) lv (.int x :: st)) := by
  intro r hr hK H locs ls h1 h2 h3 h4 h5 h6
  refine lv_if_eq F.ex F.cd hd ht (fun hz => ?_) (fun hz => ?_)
  · exact kt hz r (by rw [if_pos hz] at hr; exact hr) hK H locs ls h1 h2 h3 h4 h5 h6
  · exact kf hz r (by rw [if_neg hz] at hr; exact hr) hK H locs ls h1 h2 h3 h4 h5 h6
theorem z_icmp_eq (F : zF E D A cc own nL ret) {x y : Int32} {off : Int} {tgt : Nat} [dz : Decidable (x = y)] (hd : decode cc pc = .ok (.if_icmp .eq off, 3)) (ht : (pc : Int) + off = (tgt : Int)) (kt : (x = y) → zSim K f1 (zAt E D A Q nL κ g (tgt) lv (st))) (kf : ¬ (x = y) → zSim K f2 (zAt E D A Q nL κ g (pc + 3) lv (st))) : zSim K (if x = y then f1 else f2) (zAt E D A Q nL κ g (pc) lv (.int y :: .int x :: st)) := by
  intro r hr hK H locs ls h1 h2 h3 h4 h5 h6
  refine lv_icmp_eq F.ex F.cd hd ht (fun hz => ?_) (fun hz => ?_)
  · exact kt hz r (by rw [if_pos hz] at hr; exact hr) hK H locs ls h1 h2 h3 h4 h5 h6
  · exact kf hz r (by rw [if_neg hz] at hr; exact hr) hK H locs ls h1 h2 h3 h4 h5 h6
theorem z_if_lt (F : zF E D A cc own nL ret) {x : Int32} {off : Int} {tgt : Nat} [dz : Decidable (x < 0)] (hd : decode cc pc = .ok (.ifCond .lt off, 3)) (ht : (pc : Int) + off = (tgt : Int)) (kt : (x < 0) → zSim K f1 (zAt E D A Q nL κ g (tgt) lv (st))) (kf : ¬ (x < 0) → zSim K f2 (zAt E D A Q nL κ g (pc + 3) lv (st))) : zSim K (if x < 0 then f1 else f2) (zAt E D A Q nL κ g (pc) lv (.int x :: st)) := by
  intro r hr hK H locs ls h1 h2 h3 h4 h5 h6
  refine lv_if_lt F.ex F.cd hd ht (fun hz => ?_) (fun hz => ?_)
  · exact kt hz r (by rw [if_pos hz] at hr; exact hr) hK H locs ls h1 h2 h3 h4 h5 h6
  · exact kf hz r (by rw [if_neg hz] at hr; exact hr) hK H locs ls h1 h2 h3 h4 h5 h6
theorem z_icmp_lt (F : zF E D A cc own nL ret) {x y : Int32} {off : Int} {tgt : Nat} [dz : Decidable (x < y)] (hd : decode cc pc = .ok (.if_icmp .lt off, 3)) (ht : (pc : Int) + off = (tgt : Int)) (kt : (x < y) → zSim K f1 (zAt E D A Q nL κ g (tgt) lv (st))) (kf : ¬ (x < y) → zSim K f2 (zAt E D A Q nL κ g (pc + 3) lv (st))) : zSim K (if x < y then f1 else f2) (zAt E D A Q nL κ g (pc) lv (.int y :: .int x :: st)) := by
  intro r hr hK H locs ls h1 h2 h3 h4 h5 h6
  refine lv_icmp_lt F.ex F.cd hd ht (fun hz => ?_) (fun hz => ?_)
  · exact kt hz r (by rw [if_pos hz] at hr; exact hr) hK H locs ls h1 h2 h3 h4 h5 h6
  · exact kf hz r (by rw [if_neg hz] at hr; exact hr) hK H locs ls h1 h2 h3 h4 h5 h6
theorem z_if_ge (F : zF E D A cc own nL ret) {x : Int32} {off : Int} {tgt : Nat} [dz : Decidable (0 ≤ x)] (hd : decode cc pc = .ok (.ifCond .ge off, 3)) (ht : (pc : Int) + off = (tgt : Int)) (kt : (0 ≤ x) → zSim K f1 (zAt E D A Q nL κ g (tgt) lv (st))) (kf : ¬ (0 ≤ x) → zSim K f2 (zAt E D A Q nL κ g (pc + 3) lv (st))) : zSim K (if 0 ≤ x then f1 else f2) (zAt E D A Q nL κ g (pc) lv (.int x :: st)) := by
  intro r hr hK H locs ls h1 h2 h3 h4 h5 h6
  refine lv_if_ge F.ex F.cd hd ht (fun hz => ?_) (fun hz => ?_)
  · exact kt hz r (by rw [if_pos hz] at hr; exact hr) hK H locs ls h1 h2 h3 h4 h5 h6
  · exact kf hz r (by rw [if_neg hz] at hr; exact hr) hK H locs ls h1 h2 h3 h4 h5 h6
theorem z_icmp_ge (F : zF E D A cc own nL ret) {x y : Int32} {off : Int} {tgt : Nat} [dz : Decidable (y ≤ x)] (hd : decode cc pc = .ok (.if_icmp .ge off, 3)) (ht : (pc : Int) + off = (tgt : Int)) (kt : (y ≤ x) → zSim K f1 (zAt E D A Q nL κ g (tgt) lv (st))) (kf : ¬ (y ≤ x) → zSim K f2 (zAt E D A Q nL κ g (pc + 3) lv (st))) : zSim K (if y ≤ x then f1 else f2) (zAt E D A Q nL κ g (pc) lv (.int y :: .int x :: st)) := by
  intro r hr hK H locs ls h1 h2 h3 h4 h5 h6
  refine lv_icmp_ge F.ex F.cd hd ht (fun hz => ?_) (fun hz => ?_)
  · exact kt hz r (by rw [if_pos hz] at hr; exact hr) hK H locs ls h1 h2 h3 h4 h5 h6
  · exact kf hz r (by rw [if_neg hz] at hr; exact hr) hK H locs ls h1 h2 h3 h4 h5 h6
theorem z_if_gt (F : zF E D A cc own nL ret) {x : Int32} {off : Int} {tgt : Nat} [dz : Decidable (0 < x)] (hd : decode cc pc = .ok (.ifCond .gt off, 3)) (ht : (pc : Int) + off = (tgt : Int)) (kt : (0 < x) → zSim K f1 (zAt E D A Q nL κ g (tgt) lv (st))) (kf : ¬ (0 < x) → zSim K f2 (zAt E D A Q nL κ g (pc + 3) lv (st))) : zSim K (if 0 < x then f1 else f2) (zAt E D A Q nL κ g (pc) lv (.int x :: st)) := by
  intro r hr hK H locs ls h1 h2 h3 h4 h5 h6
  refine lv_if_gt F.ex F.cd hd ht (fun hz => ?_) (fun hz => ?_)
  · exact kt hz r (by rw [if_pos hz] at hr; exact hr) hK H locs ls h1 h2 h3 h4 h5 h6
  · exact kf hz r (by rw [if_neg hz] at hr; exact hr) hK H locs ls h1 h2 h3 h4 h5 h6
theorem z_icmp_gt (F : zF E D A cc own nL ret) {x y : Int32} {off : Int} {tgt : Nat} [dz : Decidable (y < x)] (hd : decode cc pc = .ok (.if_icmp .gt off, 3)) (ht : (pc : Int) + off = (tgt : Int)) (kt : (y < x) → zSim K f1 (zAt E D A Q nL κ g (tgt) lv (st))) (kf : ¬ (y < x) → zSim K f2 (zAt E D A Q nL κ g (pc + 3) lv (st))) : zSim K (if y < x then f1 else f2) (zAt E D A Q nL κ g (pc) lv (.int y :: .int x :: st)) := by
  intro r hr hK H locs ls h1 h2 h3 h4 h5 h6
  refine lv_icmp_gt F.ex F.cd hd ht (fun hz => ?_) (fun hz => ?_)
  · exact kt hz r (by rw [if_pos hz] at hr; exact hr) hK H locs ls h1 h2 h3 h4 h5 h6
  · exact kf hz r (by rw [if_neg hz] at hr; exact hr) hK H locs ls h1 h2 h3 h4 h5 h6
theorem z_if_le (F : zF E D A cc own nL ret) {x : Int32} {off : Int} {tgt : Nat} [dz : Decidable (x ≤ 0)] (hd : decode cc pc = .ok (.ifCond .le off, 3)) (ht : (pc : Int) + off = (tgt : Int)) (kt : (x ≤ 0) → zSim K f1 (zAt E D A Q nL κ g (tgt) lv (st))) (kf : ¬ (x ≤ 0) → zSim K f2 (zAt E D A Q nL κ g (pc + 3) lv (st))) : zSim K (if x ≤ 0 then f1 else f2) (zAt E D A Q nL κ g (pc) lv (.int x :: st)) := by
  intro r hr hK H locs ls h1 h2 h3 h4 h5 h6
  refine lv_if_le F.ex F.cd hd ht (fun hz => ?_) (fun hz => ?_)
  · exact kt hz r (by rw [if_pos hz] at hr; exact hr) hK H locs ls h1 h2 h3 h4 h5 h6
  · exact kf hz r (by rw [if_neg hz] at hr; exact hr) hK H locs ls h1 h2 h3 h4 h5 h6
theorem z_icmp_le (F : zF E D A cc own nL ret) {x y : Int32} {off : Int} {tgt : Nat} [dz : Decidable (x ≤ y)] (hd : decode cc pc = .ok (.if_icmp .le off, 3)) (ht : (pc : Int) + off = (tgt : Int)) (kt : (x ≤ y) → zSim K f1 (zAt E D A Q nL κ g (tgt) lv (st))) (kf : ¬ (x ≤ y) → zSim K f2 (zAt E D A Q nL κ g (pc + 3) lv (st))) : zSim K (if x ≤ y then f1 else f2) (zAt E D A Q nL κ g (pc) lv (.int y :: .int x :: st)) := by
  intro r hr hK H locs ls h1 h2 h3 h4 h5 h6
  refine lv_icmp_le F.ex F.cd hd ht (fun hz => ?_) (fun hz => ?_)
  · exact kt hz r (by rw [if_pos hz] at hr; exact hr) hK H locs ls h1 h2 h3 h4 h5 h6
  · exact kf hz r (by rw [if_neg hz] at hr; exact hr) hK H locs ls h1 h2 h3 h4 h5 h6
theorem z_goto (F : zF E D A cc own nL ret) {off : Int} {tgt : Nat} (hd : decode cc pc = .ok (.goto off, 3)) (ht : (pc : Int) + off = (tgt : Int)) (k : zSim K f (zAt E D A Q nL κ g (tgt) lv (st))) : zSim K f (zAt E D A Q nL κ g (pc) lv (st)) :=
  fun r hr hK H locs ls h1 h2 h3 h4 h5 h6 => lv_goto F.ex F.cd hd ht (k r hr hK H locs ls h1 h2 h3 h4 h5 h6)
theorem z_ite {c : Prop} [dz : Decidable c] {X : Prop} (kt : c → zSim K f1 X) (kf : ¬ c → zSim K f2 X) : zSim K (if c then f1 else f2) X := by
  intro r hr hK
  by_cases hz : c
  · exact kt hz r (by rw [if_pos hz] at hr; exact hr) hK
  · exact kf hz r (by rw [if_neg hz] at hr; exact hr) hK
theorem z_zc {c : Prop} [dz : Decidable c] {X : Prop} (k : c → zSim K f X) : zSim K (zc c f) X := by
  intro r hr hK
  unfold zc at hr
  by_cases hz : c
  · exact k hz r (by rw [if_pos hz] at hr; exact hr) hK
  · rw [if_neg hz] at hr; cases hr
theorem z_let {α : Type} {e : α} {h : α → Option ρ} {X : α → Prop} (k : ∀ x, zSim K (h x) (X x)) : zSim K (zl e h) (X e) := k e
theorem z_leti {e : Int32} {h : Int32 → Option ρ} (k : ∀ x, zSim K (h x) (zAt E D A Q nL κ g (pc) lv (.int x :: st))) : zSim K (zl e h) (zAt E D A Q nL κ g (pc) lv (.int e :: st)) := k e
theorem z_letl {e : Int64} {h : Int64 → Option ρ} (k : ∀ x, zSim K (h x) (zAt E D A Q nL κ g (pc) lv (.long x :: st))) : zSim K (zl e h) (zAt E D A Q nL κ g (pc) lv (.long e :: st)) := k e
theorem z_back {v : ρ} {X : Prop} (h : K v → X) : zSim K (some v) X := fun r hr hk => by cases hr; exact h hk
theorem z_tableIn (F : zF E D A cc own nL ret) {dflt lo hi : Int} {offs : Array Int} {len : Nat} {x : Int32} {off : Int} {tgt : Nat} (v : Int32) (hx : x = v) (hd : decode cc pc = .ok (.tableswitch dflt lo hi offs, len)) (h1 : ¬ v.toInt < lo) (h2 : ¬ hi < v.toInt) (ho : offs[(v.toInt - lo).toNat]? = some off) (ht : (pc : Int) + off = (tgt : Int)) (k : zSim K f (zAt E D A Q nL κ g (tgt) lv (st))) : zSim K f (zAt E D A Q nL κ g (pc) lv (.int x :: st)) := by
  subst hx
  exact fun r hr hK H locs ls e1 e2 e3 e4 e5 e6 => lv_tableIn F.ex F.cd hd h1 h2 ho ht (k r hr hK H locs ls e1 e2 e3 e4 e5 e6)
theorem z_tableOut (F : zF E D A cc own nL ret) {dflt lo hi : Int} {offs : Array Int} {len : Nat} {x : Int32} {tgt : Nat} (hd : decode cc pc = .ok (.tableswitch dflt lo hi offs, len)) (h : x.toInt < lo ∨ hi < x.toInt) (ht : (pc : Int) + dflt = (tgt : Int)) (k : zSim K f (zAt E D A Q nL κ g (tgt) lv (st))) : zSim K f (zAt E D A Q nL κ g (pc) lv (.int x :: st)) :=
  fun r hr hK H locs ls e1 e2 e3 e4 e5 e6 => lv_tableOut F.ex F.cd hd h ht (k r hr hK H locs ls e1 e2 e3 e4 e5 e6)
theorem z_lookup (F : zF E D A cc own nL ret) {dflt : Int} {ps : Array (Int × Int)} {len : Nat} {x : Int32} {off : Int} {tgt : Nat} (hd : decode cc pc = .ok (.lookupswitch dflt ps, len)) (hp : (ps.toList.zip (ps.toList.drop 1)).all (fun (a, next) => a.1 < next.1) = true) (ho : Op.lookupswitch.offset ps.toList dflt x.toInt = off) (ht : (pc : Int) + off = (tgt : Int)) (k : zSim K f (zAt E D A Q nL κ g (tgt) lv (st))) : zSim K f (zAt E D A Q nL κ g (pc) lv (.int x :: st)) :=
  fun r hr hK H locs ls e1 e2 e3 e4 e5 e6 => lv_lookup F.ex F.cd hd hp ho ht (k r hr hK H locs ls e1 e2 e3 e4 e5 e6)
end ZR
