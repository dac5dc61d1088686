-- ===== loops with an end, names for heaps, small machine members =====
def zN : Nat := 100000
def zk {ξ ρ : Type} (o : Option ξ) (c : ξ → Option ρ) : Option ρ := match o with
  | none => none
  | some x => c x
def zk2 {ξ ρ : Type} (o : Option (ξ ⊕ ρ)) (c : ξ → Option ρ) : Option ρ := match o with
  | none => none
  | some (.inl x) => c x
  | some (.inr r) => some r
def zmmin (x y : Int32) : Int32 := if y < x then y else x
def zmmax (x y : Int32) : Int32 := if x < y then y else x
theorem znar01 {x : Int32} (h : x = 0 ∨ x = 1) : narrow .boolean (.int x) = .int x := by
  rcases h with rfl | rfl <;> rfl
theorem zfit01 {x : Int32} (h : x = 0 ∨ x = 1) : fits .boolean (.int x) = true := by
  rcases h with rfl | rfl <;> rfl
theorem zWT.sr {τ : zT} {g : zG} {a ci k r : Nat} {sh : zS} (h : zWT τ g) (ht : τ a = some (.inr ci)) (hsh : zsh ci k = some sh) (h6 : k ≠ 6) (hr : τ r = some sh) : zWT τ (zsr g a k r) := by
  refine ⟨h.1, fun b cj hb j s2 hj => ?_, fun b hb => ?_⟩
  · show τ (zu g.2.1 a k r b j) = some s2
    by_cases hz : b = a ∧ j = k
    · obtain ⟨rfl, rfl⟩ := hz
      rw [zu_same]
      rw [ht] at hb
      cases hb
      rw [hsh] at hj
      cases hj
      exact hr
    · rw [zu_ne _ _ hz]
      exact h.2.1 b cj hb j s2 hj
  · show zu g.2.1 a k r b 6 = 0 ∨ τ (zu g.2.1 a k r b 6) = some (.inr 1)
    rw [zu_ne _ _ (fun z => h6 z.2.symm)]
    exact h.2.2 b hb
section ZL
variable {ρ : Type} {K : ρ → Prop} {f f1 f2 : Option ρ} {E : zE} {D : zD} {A : Nat → Prop} {Q : State → Prop} {nL : Nat} {κ : zC} {g : zG} {pc : Nat} {lv lv' : List (Nat × Value)} {st : List Value} {cc : ByteArray} {own : String} {ret : Option FieldType}
theorem z_letg {e : zG} {h : zG → Option ρ} (k : ∀ x, zSim K (h x) (zAt E D A Q nL κ x pc lv st)) : zSim K (zl e h) (zAt E D A Q nL κ e pc lv st) := k e
theorem z_letr {e : Nat} {sh : zS} {h : Nat → Option ρ} (ht : κ.2.1 e = some sh) (k : ∀ x, κ.2.1 x = some sh → zSim K (h x) (zAt E D A Q nL κ g pc lv (.ref x :: st))) : zSim K (zl e h) (zAt E D A Q nL κ g pc lv (.ref e :: st)) := k e ht
theorem z_iincl (F : zF E D A cc own nL ret) {i : Nat} {n : Int} {x y : Int32} {lv' : Int32 → List (Nat × Value)} {h : Int32 → Option ρ} (j : Nat) (hj : lv[j]? = some (i, .int x)) (hv : Int32.ofInt n = y) (hn : i < nL) (hd : decode cc pc = .ok (.iinc i n, 3)) (hl : ∀ v, (i, Value.int v) :: lv.filter (fun q => !(q.1 == i) && !(q.1 + 1 == i && q.2.category == 2)) = lv' v) (k : ∀ v, zSim K (h v) (zAt E D A Q nL κ g (pc + 3) (lv' v) st)) : zSim K (zl (x + y) h) (zAt E D A Q nL κ g pc lv st) :=
  z_iinc F j hj (by rw [hv]) hn hd (hl (x + y)) (k (x + y))
theorem z_loop {σ ξ : Type} (P : σ → Prop) (Px : ξ → Prop) {n : Nat} {step : σ → Option (σ ⊕ ξ)} {c : ξ → Option ρ} (s : σ) (h : ∀ s, zSim (zKl P Px) (step s) (P s)) (hx : ∀ x, zSim K (c x) (Px x)) : zSim K (zk (zw n step s) c) (P s) := by
  intro r hr hK
  cases hz : zw n step s with
  | none => rw [hz] at hr; cases hr
  | some x =>
    rw [hz] at hr
    exact z_while (K := Px) P h s x hz (hx x r hr hK)
theorem z_loop2 {σ ξ : Type} (P : σ → Prop) (Px : ξ → Prop) {n : Nat} {step : σ → Option (σ ⊕ (ξ ⊕ ρ))} {c : ξ → Option ρ} (s : σ) (h : ∀ s, zSim (zKl P (zKl Px K)) (step s) (P s)) (hx : ∀ x, zSim K (c x) (Px x)) : zSim K (zk2 (zw n step s) c) (P s) := by
  intro r hr hK
  cases hz : zw n step s with
  | none => rw [hz] at hr; cases hr
  | some q =>
    rw [hz] at hr
    cases q with
    | inl x => exact z_while (K := zKl Px K) P h s _ hz (hx x r hr hK)
    | inr r' => cases hr; exact z_while (K := zKl Px K) P h s _ hz hK
theorem z_wt (k : zWT κ.2.1 g → zSim K f (zAt E D A Q nL κ g pc lv st)) : zSim K f (zAt E D A Q nL κ g pc lv st) :=
  fun r hr hK H locs ls h1 h2 h3 h4 h5 h6 => k h3 r hr hK H locs ls h1 h2 h3 h4 h5 h6
theorem z_ifnull (F : zF E D A cc own nL ret) {x : Nat} {off : Int} {tgt : Nat} [dz : Decidable (x = 0)] (hd : decode cc pc = .ok (.ifnull off, 3)) (ht : (pc : Int) + off = (tgt : Int)) (kt : x = 0 → zSim K f1 (zAt E D A Q nL κ g tgt lv st)) (kf : ¬ x = 0 → zSim K f2 (zAt E D A Q nL κ g (pc + 3) lv st)) : zSim K (if x = 0 then f1 else f2) (zAt E D A Q nL κ g pc lv (zref x :: st)) := by
  intro r hr hK H locs ls h1 h2 h3 h4 h5 h6
  by_cases hz : x = 0
  · rw [if_pos hz] at hr
    have e : zref x = .null := by simp [zref, hz]
    rw [e]
    exact lv_ifnullN F.ex F.cd hd ht (kt hz r hr hK H locs ls h1 h2 h3 h4 h5 h6)
  · rw [if_neg hz] at hr
    have e : zref x = .ref x := by simp [zref, hz]
    rw [e]
    exact lv_ifnull F.ex F.cd hd (kf hz r hr hK H locs ls h1 h2 h3 h4 h5 h6)
theorem z_mmax (F : zF E D A cc own nL ret) {index : Nat} {x y : Int32} (hl : zTbl (.methodLink own index Lib.Math.max.name)) (hs : zTbl (.static Lib.Math.max.name)) (hi : zTbl (.initialized "java/lang/Math")) (hc : zTbl (.code Lib.Math.max.name Lib.Math.max.code 2 (some .int))) (hR : 1 ≤ E.2.2.2.1.frames ∧ 21 ≤ E.2.2.2.1.locals) (hκ : κ.2.2.1 ≤ E.2.2.2.1.cells ∧ κ.2.2.2 ≤ E.2.2.2.1.slots) (hW : (st.map fun v => v.category).sum ≤ 8) (hd : decode cc pc = .ok (.invokestatic index, 3)) (k : zSim K f (zAt E D A Q nL κ g (pc + 3) lv (.int (zmmax x y) :: st))) : zSim K f (zAt E D A Q nL κ g pc lv (.int y :: .int x :: st)) :=
  fun r hr hK H locs ls h1 h2 h3 h4 h5 h6 => va_mmax F.ex F.cd (by rw [F.ml, h6.1]) F.own (F.w hl) (F.w hs) (F.w hi) (F.w hc) hR.1 (by omega) hκ.1 hκ.2 hd (k r hr hK H locs ls h1 h2 h3 h4 h5 h6)
theorem z_mmin (F : zF E D A cc own nL ret) {index : Nat} {x y : Int32} (hl : zTbl (.methodLink own index Lib.Math.min.name)) (hs : zTbl (.static Lib.Math.min.name)) (hi : zTbl (.initialized "java/lang/Math")) (hc : zTbl (.code Lib.Math.min.name Lib.Math.min.code 2 (some .int))) (hR : 1 ≤ E.2.2.2.1.frames ∧ 21 ≤ E.2.2.2.1.locals) (hκ : κ.2.2.1 ≤ E.2.2.2.1.cells ∧ κ.2.2.2 ≤ E.2.2.2.1.slots) (hW : (st.map fun v => v.category).sum ≤ 8) (hd : decode cc pc = .ok (.invokestatic index, 3)) (k : zSim K f (zAt E D A Q nL κ g (pc + 3) lv (.int (zmmin x y) :: st))) : zSim K f (zAt E D A Q nL κ g pc lv (.int y :: .int x :: st)) :=
  fun r hr hK H locs ls h1 h2 h3 h4 h5 h6 => va_mmin F.ex F.cd (by rw [F.ml, h6.1]) F.own (F.w hl) (F.w hs) (F.w hi) (F.w hc) hR.1 (by omega) hκ.1 hκ.2 hd (k r hr hK H locs ls h1 h2 h3 h4 h5 h6)
end ZL
