theorem zWT.srn {τ : zT} {g : zG} {a ci k r : Nat} (h : zWT τ g) (ht : τ a = some (.inr ci)) (hno : zsh ci k = none) (h6 : k ≠ 6) : zWT τ (zsr g a k r) := by
  refine ⟨h.1, fun b cj hb j s2 hj => ?_, fun b hb => ?_⟩
  · show τ (zu g.2.1 a k r b j) = some s2
    by_cases hz : b = a ∧ j = k
    · obtain ⟨rfl, rfl⟩ := hz
      rw [ht] at hb
      cases hb
      rw [hno] at hj
      cases hj
    · rw [zu_ne _ _ hz]
      exact h.2.1 b cj hb j s2 hj
  · show zu g.2.1 a k r b 6 = 0 ∨ τ (zu g.2.1 a k r b 6) = some (.inr 1)
    rw [zu_ne _ _ (fun z => h6 z.2.symm)]
    exact h.2.2 b hb

theorem pf_X2_30_h {ρ : Type} {K : ρ → Prop} {f : Option ρ} {E : zE} {D : zD} {A : Nat → Prop} {Q : State → Prop} {nL : Nat} {κ : zC} {g : zG} {pc : Nat} {lv : List (Nat × Value)} {st : List Value} {cc : ByteArray} {ret : Option FieldType} (F : zF E D A cc "TypeChain$Printer" nL ret) {a : Nat} (ht : κ.2.1 a = some (.inr 24)) {x : Nat} (hx : κ.2.1 x = some (.inr 5)) (hd : decode cc pc = .ok (.putfield 30, 3)) (kk : zSim K f (zAt E D A Q nL κ (zsr g a 7 x) (pc + 3) lv st)) : zSim K f (zAt E D A Q nL κ g pc lv (.ref x :: .ref a :: st)) := z_wt (fun hw => z_put0 F (r := (RX2, TX2, 9)) (k := 7) ht rfl inZ2 tyX2_ok nmX2 (by decide) q_300 rfl rfl rfl (zOne_r g a 7 x) ((congrArg zref (zu_same g.2.1 a 7 x)).trans (zref_pos hw.1 hx)) (fun h => h.srn ht rfl (by decide)) hd kk)
theorem pf_X2_34_h {ρ : Type} {K : ρ → Prop} {f : Option ρ} {E : zE} {D : zD} {A : Nat → Prop} {Q : State → Prop} {nL : Nat} {κ : zC} {g : zG} {pc : Nat} {lv : List (Nat × Value)} {st : List Value} {cc : ByteArray} {ret : Option FieldType} (F : zF E D A cc "TypeChain$Printer" nL ret) {a : Nat} (ht : κ.2.1 a = some (.inr 24)) {x : Nat} (hx : κ.2.1 x = some (.inr 0)) (hd : decode cc pc = .ok (.putfield 34, 3)) (kk : zSim K f (zAt E D A Q nL κ (zsr g a 8 x) (pc + 3) lv st)) : zSim K f (zAt E D A Q nL κ g pc lv (.ref x :: .ref a :: st)) := z_wt (fun hw => z_put0 F (r := (RX2, TX2, 9)) (k := 8) ht rfl inZ2 tyX2_ok nmX2 (by decide) q_301 rfl rfl rfl (zOne_r g a 8 x) ((congrArg zref (zu_same g.2.1 a 8 x)).trans (zref_pos hw.1 hx)) (fun h => h.srn ht rfl (by decide)) hd kk)
theorem z_putRs {ρ : Type} {K : ρ → Prop} {f : Option ρ} {E : zE} {D : zD} {A : Nat → Prop} {Q : State → Prop} {nL : Nat} {κ : zC} {g : zG} {pc : Nat} {lv : List (Nat × Value)} {st : List Value} {cc : ByteArray} {ret : Option FieldType} {own : String} (F : zF E D A cc own nL ret) {a c k index x : Nat} {r : vw_C} (ht : κ.2.1 a = some (.inr (c + 11))) (hc : c < 11) (hr : vwCl[c]? = some r) (hin : ∀ w ∈ u_ws r.1 r.2.1 r.2.2, zTbl w) (hty : ∀ k, k < r.2.2 → parseFieldDescriptor (r.2.1 k).2.2.1 = some (zty c k)) (hnm : ∀ a, a < r.2.2 → ∀ b, b < r.2.2 → a ≠ b → (r.2.1 a).2.1 ≠ (r.2.1 b).2.1) (hk : k < r.2.2) (hl : zTbl (.fieldLink own index (r.2.1 k).1 (r.2.1 k).2.1 (r.2.1 k).2.2.1)) (hname : E.2.2.2.2.2.2.2.2.1.name = "<init>") (hdecl : (r.2.1 k).1 = own) (hot : (∃ n, zty c k = .object n) ∨ ∃ t, zty c k = .array t) (hx : x ≠ 0) (hd : decode cc pc = .ok (.putfield index, 3)) (kk : zSim K f (zAt E D A Q nL κ (zsr g a k x) (pc + 3) lv st)) : zSim K f (zAt E D A Q nL κ g pc lv (.ref x :: .ref a :: st)) := by
  have e : Value.ref x = zref x := by simp [zref, hx]
  rw [e]
  exact z_putRr F ht hc hr hin hty hnm hk hl hname hdecl hot hd kk
theorem z_toq {ρ : Type} {K : ρ → Prop} {f : Option ρ} {E : zE} {D : zD} {A : Nat → Prop} {Q : State → Prop} {nL : Nat} {κ : zC} {g : zG} {pc : Nat} {lv : List (Nat × Value)} {st : List Value} {x : Nat} (hx : x ≠ 0) (k : zSim K f (zAt E D A Q nL κ g pc lv (zref x :: st))) : zSim K f (zAt E D A Q nL κ g pc lv (.ref x :: st)) := by
  have e : Value.ref x = zref x := by simp [zref, hx]
  rw [e]
  exact k
theorem zdv_X0 (g : zG) : ∀ k, k < 4 → ∀ a, defaultValue (zty 0 k) = zv (zty 0 k) (zz g a) a k := by
  intro k hk a
  match k, hk with
  | 0, _ => simp [zty, tyX0, zv, zz, zref, defaultValue]
  | 1, _ => simp [zty, tyX0, zv, zz, zref, defaultValue]
  | 2, _ => simp [zty, tyX0, zv, zz, zref, defaultValue]
  | 3, _ => simp [zty, tyX0, zv, zz, zref, defaultValue]
  | k + 4, h => exact absurd h (by omega)
theorem zdv_X1 (g : zG) : ∀ k, k < 2 → ∀ a, defaultValue (zty 1 k) = zv (zty 1 k) (zz g a) a k := by
  intro k hk a
  match k, hk with
  | 0, _ => simp [zty, tyX1, zv, zz, zref, defaultValue]
  | 1, _ => simp [zty, tyX1, zv, zz, zref, defaultValue]
  | k + 2, h => exact absurd h (by omega)
theorem zdv_X2 (g : zG) : ∀ k, k < 9 → ∀ a, defaultValue (zty 2 k) = zv (zty 2 k) (zz g a) a k := by
  intro k hk a
  match k, hk with
  | 0, _ => simp [zty, tyX2, zv, zz, zref, defaultValue]
  | 1, _ => simp [zty, tyX2, zv, zz, zref, defaultValue]
  | 2, _ => simp [zty, tyX2, zv, zz, zref, defaultValue]
  | 3, _ => simp [zty, tyX2, zv, zz, zref, defaultValue]
  | 4, _ => simp [zty, tyX2, zv, zz, zref, defaultValue]
  | 5, _ => simp [zty, tyX2, zv, zz, zref, defaultValue]
  | 6, _ => simp [zty, tyX2, zv, zz, zref, defaultValue]
  | 7, _ => simp [zty, tyX2, zv, zz, zref, defaultValue]
  | 8, _ => simp [zty, tyX2, zv, zz, zref, defaultValue]
  | k + 9, h => exact absurd h (by omega)
theorem zdv_X3 (g : zG) : ∀ k, k < 7 → ∀ a, defaultValue (zty 3 k) = zv (zty 3 k) (zz g a) a k := by
  intro k hk a
  match k, hk with
  | 0, _ => simp [zty, tyX3, zv, zz, zref, defaultValue]
  | 1, _ => simp [zty, tyX3, zv, zz, zref, defaultValue]
  | 2, _ => simp [zty, tyX3, zv, zz, zref, defaultValue]
  | 3, _ => simp [zty, tyX3, zv, zz, zref, defaultValue]
  | 4, _ => simp [zty, tyX3, zv, zz, zref, defaultValue]
  | 5, _ => simp [zty, tyX3, zv, zz, zref, defaultValue]
  | 6, _ => simp [zty, tyX3, zv, zz, zref, defaultValue]
  | k + 7, h => exact absurd h (by omega)
theorem zdv_X4 (g : zG) : ∀ k, k < 14 → ∀ a, defaultValue (zty 4 k) = zv (zty 4 k) (zz g a) a k := by
  intro k hk a
  match k, hk with
  | 0, _ => simp [zty, tyX4, zv, zz, zref, defaultValue]
  | 1, _ => simp [zty, tyX4, zv, zz, zref, defaultValue]
  | 2, _ => simp [zty, tyX4, zv, zz, zref, defaultValue]
  | 3, _ => simp [zty, tyX4, zv, zz, zref, defaultValue]
  | 4, _ => simp [zty, tyX4, zv, zz, zref, defaultValue]
  | 5, _ => simp [zty, tyX4, zv, zz, zref, defaultValue]
  | 6, _ => simp [zty, tyX4, zv, zz, zref, defaultValue]
  | 7, _ => simp [zty, tyX4, zv, zz, zref, defaultValue]
  | 8, _ => simp [zty, tyX4, zv, zz, zref, defaultValue]
  | 9, _ => simp [zty, tyX4, zv, zz, zref, defaultValue]
  | 10, _ => simp [zty, tyX4, zv, zz, zref, defaultValue]
  | 11, _ => simp [zty, tyX4, zv, zz, zref, defaultValue]
  | 12, _ => simp [zty, tyX4, zv, zz, zref, defaultValue]
  | 13, _ => simp [zty, tyX4, zv, zz, zref, defaultValue]
  | k + 14, h => exact absurd h (by omega)
theorem zdv_X5 (g : zG) : ∀ k, k < 4 → ∀ a, defaultValue (zty 5 k) = zv (zty 5 k) (zz g a) a k := by
  intro k hk a
  match k, hk with
  | 0, _ => simp [zty, tyX5, zv, zz, zref, defaultValue]
  | 1, _ => simp [zty, tyX5, zv, zz, zref, defaultValue]
  | 2, _ => simp [zty, tyX5, zv, zz, zref, defaultValue]
  | 3, _ => simp [zty, tyX5, zv, zz, zref, defaultValue]
  | k + 4, h => exact absurd h (by omega)
theorem zdv_X6 (g : zG) : ∀ k, k < 3 → ∀ a, defaultValue (zty 6 k) = zv (zty 6 k) (zz g a) a k := by
  intro k hk a
  match k, hk with
  | 0, _ => simp [zty, tyX6, zv, zz, zref, defaultValue]
  | 1, _ => simp [zty, tyX6, zv, zz, zref, defaultValue]
  | 2, _ => simp [zty, tyX6, zv, zz, zref, defaultValue]
  | k + 3, h => exact absurd h (by omega)
theorem zdv_X7 (g : zG) : ∀ k, k < 9 → ∀ a, defaultValue (zty 7 k) = zv (zty 7 k) (zz g a) a k := by
  intro k hk a
  match k, hk with
  | 0, _ => simp [zty, tyX7, zv, zz, zref, defaultValue]
  | 1, _ => simp [zty, tyX7, zv, zz, zref, defaultValue]
  | 2, _ => simp [zty, tyX7, zv, zz, zref, defaultValue]
  | 3, _ => simp [zty, tyX7, zv, zz, zref, defaultValue]
  | 4, _ => simp [zty, tyX7, zv, zz, zref, defaultValue]
  | 5, _ => simp [zty, tyX7, zv, zz, zref, defaultValue]
  | 6, _ => simp [zty, tyX7, zv, zz, zref, defaultValue]
  | 7, _ => simp [zty, tyX7, zv, zz, zref, defaultValue]
  | 8, _ => simp [zty, tyX7, zv, zz, zref, defaultValue]
  | k + 9, h => exact absurd h (by omega)
theorem zdv_X8 (g : zG) : ∀ k, k < 9 → ∀ a, defaultValue (zty 8 k) = zv (zty 8 k) (zz g a) a k := by
  intro k hk a
  match k, hk with
  | 0, _ => simp [zty, tyX8, zv, zz, zref, defaultValue]
  | 1, _ => simp [zty, tyX8, zv, zz, zref, defaultValue]
  | 2, _ => simp [zty, tyX8, zv, zz, zref, defaultValue]
  | 3, _ => simp [zty, tyX8, zv, zz, zref, defaultValue]
  | 4, _ => simp [zty, tyX8, zv, zz, zref, defaultValue]
  | 5, _ => simp [zty, tyX8, zv, zz, zref, defaultValue]
  | 6, _ => simp [zty, tyX8, zv, zz, zref, defaultValue]
  | 7, _ => simp [zty, tyX8, zv, zz, zref, defaultValue]
  | 8, _ => simp [zty, tyX8, zv, zz, zref, defaultValue]
  | k + 9, h => exact absurd h (by omega)
theorem zdv_X9 (g : zG) : ∀ k, k < 11 → ∀ a, defaultValue (zty 9 k) = zv (zty 9 k) (zz g a) a k := by
  intro k hk a
  match k, hk with
  | 0, _ => simp [zty, tyX9, zv, zz, zref, defaultValue]
  | 1, _ => simp [zty, tyX9, zv, zz, zref, defaultValue]
  | 2, _ => simp [zty, tyX9, zv, zz, zref, defaultValue]
  | 3, _ => simp [zty, tyX9, zv, zz, zref, defaultValue]
  | 4, _ => simp [zty, tyX9, zv, zz, zref, defaultValue]
  | 5, _ => simp [zty, tyX9, zv, zz, zref, defaultValue]
  | 6, _ => simp [zty, tyX9, zv, zz, zref, defaultValue]
  | 7, _ => simp [zty, tyX9, zv, zz, zref, defaultValue]
  | 8, _ => simp [zty, tyX9, zv, zz, zref, defaultValue]
  | 9, _ => simp [zty, tyX9, zv, zz, zref, defaultValue]
  | 10, _ => simp [zty, tyX9, zv, zz, zref, defaultValue]
  | k + 11, h => exact absurd h (by omega)
theorem zdv_X10 (g : zG) : ∀ k, k < 61 → ∀ a, defaultValue (zty 10 k) = zv (zty 10 k) (zz g a) a k := by
  intro k hk a
  match k, hk with
  | 0, _ => simp [zty, tyX10, zv, zz, zref, defaultValue]
  | 1, _ => simp [zty, tyX10, zv, zz, zref, defaultValue]
  | 2, _ => simp [zty, tyX10, zv, zz, zref, defaultValue]
  | 3, _ => simp [zty, tyX10, zv, zz, zref, defaultValue]
  | 4, _ => simp [zty, tyX10, zv, zz, zref, defaultValue]
  | 5, _ => simp [zty, tyX10, zv, zz, zref, defaultValue]
  | 6, _ => simp [zty, tyX10, zv, zz, zref, defaultValue]
  | 7, _ => simp [zty, tyX10, zv, zz, zref, defaultValue]
  | 8, _ => simp [zty, tyX10, zv, zz, zref, defaultValue]
  | 9, _ => simp [zty, tyX10, zv, zz, zref, defaultValue]
  | 10, _ => simp [zty, tyX10, zv, zz, zref, defaultValue]
  | 11, _ => simp [zty, tyX10, zv, zz, zref, defaultValue]
  | 12, _ => simp [zty, tyX10, zv, zz, zref, defaultValue]
  | 13, _ => simp [zty, tyX10, zv, zz, zref, defaultValue]
  | 14, _ => simp [zty, tyX10, zv, zz, zref, defaultValue]
  | 15, _ => simp [zty, tyX10, zv, zz, zref, defaultValue]
  | 16, _ => simp [zty, tyX10, zv, zz, zref, defaultValue]
  | 17, _ => simp [zty, tyX10, zv, zz, zref, defaultValue]
  | 18, _ => simp [zty, tyX10, zv, zz, zref, defaultValue]
  | 19, _ => simp [zty, tyX10, zv, zz, zref, defaultValue]
  | 20, _ => simp [zty, tyX10, zv, zz, zref, defaultValue]
  | 21, _ => simp [zty, tyX10, zv, zz, zref, defaultValue]
  | 22, _ => simp [zty, tyX10, zv, zz, zref, defaultValue]
  | 23, _ => simp [zty, tyX10, zv, zz, zref, defaultValue]
  | 24, _ => simp [zty, tyX10, zv, zz, zref, defaultValue]
  | 25, _ => simp [zty, tyX10, zv, zz, zref, defaultValue]
  | 26, _ => simp [zty, tyX10, zv, zz, zref, defaultValue]
  | 27, _ => simp [zty, tyX10, zv, zz, zref, defaultValue]
  | 28, _ => simp [zty, tyX10, zv, zz, zref, defaultValue]
  | 29, _ => simp [zty, tyX10, zv, zz, zref, defaultValue]
  | 30, _ => simp [zty, tyX10, zv, zz, zref, defaultValue]
  | 31, _ => simp [zty, tyX10, zv, zz, zref, defaultValue]
  | 32, _ => simp [zty, tyX10, zv, zz, zref, defaultValue]
  | 33, _ => simp [zty, tyX10, zv, zz, zref, defaultValue]
  | 34, _ => simp [zty, tyX10, zv, zz, zref, defaultValue]
  | 35, _ => simp [zty, tyX10, zv, zz, zref, defaultValue]
  | 36, _ => simp [zty, tyX10, zv, zz, zref, defaultValue]
  | 37, _ => simp [zty, tyX10, zv, zz, zref, defaultValue]
  | 38, _ => simp [zty, tyX10, zv, zz, zref, defaultValue]
  | 39, _ => simp [zty, tyX10, zv, zz, zref, defaultValue]
  | 40, _ => simp [zty, tyX10, zv, zz, zref, defaultValue]
  | 41, _ => simp [zty, tyX10, zv, zz, zref, defaultValue]
  | 42, _ => simp [zty, tyX10, zv, zz, zref, defaultValue]
  | 43, _ => simp [zty, tyX10, zv, zz, zref, defaultValue]
  | 44, _ => simp [zty, tyX10, zv, zz, zref, defaultValue]
  | 45, _ => simp [zty, tyX10, zv, zz, zref, defaultValue]
  | 46, _ => simp [zty, tyX10, zv, zz, zref, defaultValue]
  | 47, _ => simp [zty, tyX10, zv, zz, zref, defaultValue]
  | 48, _ => simp [zty, tyX10, zv, zz, zref, defaultValue]
  | 49, _ => simp [zty, tyX10, zv, zz, zref, defaultValue]
  | 50, _ => simp [zty, tyX10, zv, zz, zref, defaultValue]
  | 51, _ => simp [zty, tyX10, zv, zz, zref, defaultValue]
  | 52, _ => simp [zty, tyX10, zv, zz, zref, defaultValue]
  | 53, _ => simp [zty, tyX10, zv, zz, zref, defaultValue]
  | 54, _ => simp [zty, tyX10, zv, zz, zref, defaultValue]
  | 55, _ => simp [zty, tyX10, zv, zz, zref, defaultValue]
  | 56, _ => simp [zty, tyX10, zv, zz, zref, defaultValue]
  | 57, _ => simp [zty, tyX10, zv, zz, zref, defaultValue]
  | 58, _ => simp [zty, tyX10, zv, zz, zref, defaultValue]
  | 59, _ => simp [zty, tyX10, zv, zz, zref, defaultValue]
  | 60, _ => simp [zty, tyX10, zv, zz, zref, defaultValue]
  | k + 61, h => exact absurd h (by omega)
theorem zprom_X0 {τ : zT} {g : zG} {a : Nat} (h : zWT τ g) (ht : τ a = some (.inr 11)) (h0 : τ (g.2.1 a 0) = some (.inl (FieldType.int, 48))) : zWT (zts τ a (.inr 0)) g :=
  h.prom ht (by decide) (fun e => by rw [e, h.1] at ht; cases ht) (fun k sh hk => by
    match k, hk with
    | 0, hk => cases hk; exact h0
    | 1, hk => cases hk
    | 2, hk => cases hk
    | 3, hk => cases hk
    | k + 4, hk => simp [zsh] at hk) (fun hp => by rcases hp with e | e <;> cases e)
theorem zprom_X1 {τ : zT} {g : zG} {a : Nat} (h : zWT τ g) (ht : τ a = some (.inr 12)) (h0 : τ (g.2.1 a 0) = some (.inl (FieldType.int, 2400))) (h1 : τ (g.2.1 a 1) = some (.inl (FieldType.int, 2400))) : zWT (zts τ a (.inr 1)) g :=
  h.prom ht (by decide) (fun e => by rw [e, h.1] at ht; cases ht) (fun k sh hk => by
    match k, hk with
    | 0, hk => cases hk; exact h0
    | 1, hk => cases hk; exact h1
    | k + 2, hk => simp [zsh] at hk) (fun hp => by rcases hp with e | e <;> cases e)
theorem zprom_X2 {τ : zT} {g : zG} {a : Nat} (h : zWT τ g) (ht : τ a = some (.inr 13)) (h0 : τ (g.2.1 a 0) = some (.inl (FieldType.int, 40))) (h1 : τ (g.2.1 a 1) = some (.inr 7)) (h6 : g.2.1 a 6 = 0 ∨ τ (g.2.1 a 6) = some (.inr 1)) : zWT (zts τ a (.inr 24)) g :=
  h.prom ht (by decide) (fun e => by rw [e, h.1] at ht; cases ht) (fun k sh hk => by
    match k, hk with
    | 0, hk => cases hk; exact h0
    | 1, hk => cases hk; exact h1
    | 2, hk => cases hk
    | 3, hk => cases hk
    | 4, hk => cases hk
    | 5, hk => cases hk
    | 6, hk => cases hk
    | 7, hk => cases hk
    | 8, hk => cases hk
    | k + 9, hk => simp [zsh] at hk) (fun hp => h6)
theorem zprom_X3 {τ : zT} {g : zG} {a : Nat} (h : zWT τ g) (ht : τ a = some (.inr 14)) (h0 : τ (g.2.1 a 0) = some (.inl (FieldType.int, 24))) (h1 : τ (g.2.1 a 1) = some (.inl (FieldType.int, 24))) (h2 : τ (g.2.1 a 2) = some (.inl (FieldType.int, 24))) (h3 : τ (g.2.1 a 3) = some (.inl (FieldType.int, 24))) (h4 : τ (g.2.1 a 4) = some (.inl (FieldType.int, 240))) : zWT (zts τ a (.inr 3)) g :=
  h.prom ht (by decide) (fun e => by rw [e, h.1] at ht; cases ht) (fun k sh hk => by
    match k, hk with
    | 0, hk => cases hk; exact h0
    | 1, hk => cases hk; exact h1
    | 2, hk => cases hk; exact h2
    | 3, hk => cases hk; exact h3
    | 4, hk => cases hk; exact h4
    | 5, hk => cases hk
    | 6, hk => cases hk
    | k + 7, hk => simp [zsh] at hk) (fun hp => by rcases hp with e | e <;> cases e)
theorem zprom_X4 {τ : zT} {g : zG} {a : Nat} (h : zWT τ g) (ht : τ a = some (.inr 15)) (h0 : τ (g.2.1 a 0) = some (.inl (FieldType.byte, 240))) (h10 : τ (g.2.1 a 10) = some (.inl (FieldType.int, 34))) (h11 : τ (g.2.1 a 11) = some (.inl (FieldType.int, 34))) (h12 : τ (g.2.1 a 12) = some (.inl (FieldType.int, 34))) : zWT (zts τ a (.inr 4)) g :=
  h.prom ht (by decide) (fun e => by rw [e, h.1] at ht; cases ht) (fun k sh hk => by
    match k, hk with
    | 0, hk => cases hk; exact h0
    | 1, hk => cases hk
    | 2, hk => cases hk
    | 3, hk => cases hk
    | 4, hk => cases hk
    | 5, hk => cases hk
    | 6, hk => cases hk
    | 7, hk => cases hk
    | 8, hk => cases hk
    | 9, hk => cases hk
    | 10, hk => cases hk; exact h10
    | 11, hk => cases hk; exact h11
    | 12, hk => cases hk; exact h12
    | 13, hk => cases hk
    | k + 14, hk => simp [zsh] at hk) (fun hp => by rcases hp with e | e <;> cases e)
theorem zprom_X5 {τ : zT} {g : zG} {a : Nat} (h : zWT τ g) (ht : τ a = some (.inr 16)) (h0 : τ (g.2.1 a 0) = some (.inr 0)) (h1 : τ (g.2.1 a 1) = some (.inr 3)) (h2 : τ (g.2.1 a 2) = some (.inl (FieldType.int, 8))) (h3 : τ (g.2.1 a 3) = some (.inl (FieldType.int, 60))) : zWT (zts τ a (.inr 5)) g :=
  h.prom ht (by decide) (fun e => by rw [e, h.1] at ht; cases ht) (fun k sh hk => by
    match k, hk with
    | 0, hk => cases hk; exact h0
    | 1, hk => cases hk; exact h1
    | 2, hk => cases hk; exact h2
    | 3, hk => cases hk; exact h3
    | k + 4, hk => simp [zsh] at hk) (fun hp => by rcases hp with e | e <;> cases e)
theorem zprom_X6 {τ : zT} {g : zG} {a : Nat} (h : zWT τ g) (ht : τ a = some (.inr 17)) (h0 : τ (g.2.1 a 0) = some (.inl (FieldType.int, 4))) (h1 : τ (g.2.1 a 1) = some (.inl (FieldType.int, 4))) (h2 : τ (g.2.1 a 2) = some (.inl (FieldType.int, 160))) : zWT (zts τ a (.inr 6)) g :=
  h.prom ht (by decide) (fun e => by rw [e, h.1] at ht; cases ht) (fun k sh hk => by
    match k, hk with
    | 0, hk => cases hk; exact h0
    | 1, hk => cases hk; exact h1
    | 2, hk => cases hk; exact h2
    | k + 3, hk => simp [zsh] at hk) (fun hp => by rcases hp with e | e <;> cases e)
theorem zprom_X7 {τ : zT} {g : zG} {a : Nat} (h : zWT τ g) (ht : τ a = some (.inr 18)) (h0 : τ (g.2.1 a 0) = some (.inl (FieldType.int, 40))) (h1 : τ (g.2.1 a 1) = some (.inl (FieldType.int, 40))) (h6 : τ (g.2.1 a 6) = some (.inl (FieldType.int, 40))) (h7 : τ (g.2.1 a 7) = some (.inl (FieldType.int, 40))) : zWT (zts τ a (.inr 7)) g :=
  h.prom ht (by decide) (fun e => by rw [e, h.1] at ht; cases ht) (fun k sh hk => by
    match k, hk with
    | 0, hk => cases hk; exact h0
    | 1, hk => cases hk; exact h1
    | 2, hk => cases hk
    | 3, hk => cases hk
    | 4, hk => cases hk
    | 5, hk => cases hk
    | 6, hk => cases hk; exact h6
    | 7, hk => cases hk; exact h7
    | 8, hk => cases hk
    | k + 9, hk => simp [zsh] at hk) (fun hp => by rcases hp with e | e <;> cases e)
theorem zprom_X8 {τ : zT} {g : zG} {a : Nat} (h : zWT τ g) (ht : τ a = some (.inr 19)) (h0 : τ (g.2.1 a 0) = some (.inr 2)) (h1 : τ (g.2.1 a 1) = some (.inl (FieldType.int, 6))) (h6 : τ (g.2.1 a 6) = some (.inr 0)) : zWT (zts τ a (.inr 8)) g :=
  h.prom ht (by decide) (fun e => by rw [e, h.1] at ht; cases ht) (fun k sh hk => by
    match k, hk with
    | 0, hk => cases hk; exact h0
    | 1, hk => cases hk; exact h1
    | 2, hk => cases hk
    | 3, hk => cases hk
    | 4, hk => cases hk
    | 5, hk => cases hk
    | 6, hk => cases hk; exact h6
    | 7, hk => cases hk
    | 8, hk => cases hk
    | k + 9, hk => simp [zsh] at hk) (fun hp => by rcases hp with e | e <;> cases e)
theorem zprom_X9 {τ : zT} {g : zG} {a : Nat} (h : zWT τ g) (ht : τ a = some (.inr 20)) (h0 : τ (g.2.1 a 0) = some (.inr 5)) (h1 : τ (g.2.1 a 1) = some (.inr 5)) (h2 : τ (g.2.1 a 2) = some (.inr 4)) (h3 : τ (g.2.1 a 3) = some (.inr 1)) (h4 : τ (g.2.1 a 4) = some (.inr 2)) (h5 : τ (g.2.1 a 5) = some (.inr 8)) (h6 : τ (g.2.1 a 6) = some (.inr 6)) : zWT (zts τ a (.inr 9)) g :=
  h.prom ht (by decide) (fun e => by rw [e, h.1] at ht; cases ht) (fun k sh hk => by
    match k, hk with
    | 0, hk => cases hk; exact h0
    | 1, hk => cases hk; exact h1
    | 2, hk => cases hk; exact h2
    | 3, hk => cases hk; exact h3
    | 4, hk => cases hk; exact h4
    | 5, hk => cases hk; exact h5
    | 6, hk => cases hk; exact h6
    | 7, hk => cases hk
    | 8, hk => cases hk
    | 9, hk => cases hk
    | 10, hk => cases hk
    | k + 11, hk => simp [zsh] at hk) (fun hp => by rcases hp with e | e <;> cases e)
theorem zprom_X10 {τ : zT} {g : zG} {a : Nat} (h : zWT τ g) (ht : τ a = some (.inr 21)) (h1 : τ (g.2.1 a 1) = some (.inl (FieldType.int, 49))) (h2 : τ (g.2.1 a 2) = some (.inl (FieldType.int, 8))) (h3 : τ (g.2.1 a 3) = some (.inl (FieldType.int, 60))) (h5 : τ (g.2.1 a 5) = some (.inl (FieldType.int, 24))) (h6 : τ (g.2.1 a 6) = some (.inl (FieldType.int, 24))) (h7 : τ (g.2.1 a 7) = some (.inl (FieldType.int, 24))) (h8 : τ (g.2.1 a 8) = some (.inl (FieldType.int, 24))) (h9 : τ (g.2.1 a 9) = some (.inl (FieldType.int, 240))) (h11 : τ (g.2.1 a 11) = some (.inl (FieldType.int, 49))) (h12 : τ (g.2.1 a 12) = some (.inl (FieldType.int, 8))) (h13 : τ (g.2.1 a 13) = some (.inl (FieldType.int, 60))) (h16 : τ (g.2.1 a 16) = some (.inl (FieldType.int, 24))) (h17 : τ (g.2.1 a 17) = some (.inl (FieldType.int, 24))) (h18 : τ (g.2.1 a 18) = some (.inl (FieldType.int, 24))) (h19 : τ (g.2.1 a 19) = some (.inl (FieldType.int, 24))) (h21 : τ (g.2.1 a 21) = some (.inl (FieldType.int, 240))) (h22 : τ (g.2.1 a 22) = some (.inl (FieldType.boolean, 13))) (h24 : τ (g.2.1 a 24) = some (.inl (FieldType.int, 64))) (h25 : τ (g.2.1 a 25) = some (.inl (FieldType.int, 64))) (h26 : τ (g.2.1 a 26) = some (.inl (FieldType.int, 240))) (h37 : τ (g.2.1 a 37) = some (.inl (FieldType.int, 40))) (h38 : τ (g.2.1 a 38) = some (.inl (FieldType.int, 2400))) (h39 : τ (g.2.1 a 39) = some (.inl (FieldType.int, 2400))) (h40 : τ (g.2.1 a 40) = some (.inl (FieldType.int, 40))) (h41 : τ (g.2.1 a 41) = some (.inl (FieldType.int, 40))) (h42 : τ (g.2.1 a 42) = some (.inl (FieldType.boolean, 40))) (h48 : τ (g.2.1 a 48) = some (.inl (FieldType.int, 40))) (h49 : τ (g.2.1 a 49) = some (.inl (FieldType.int, 40))) (h50 : τ (g.2.1 a 50) = some (.inl (FieldType.int, 40))) (h55 : τ (g.2.1 a 55) = some (.inl (FieldType.int, 40))) (h56 : τ (g.2.1 a 56) = some (.inl (FieldType.int, 49))) (h57 : τ (g.2.1 a 57) = some (.inl (FieldType.int, 6))) (h58 : τ (g.2.1 a 58) = some (.inl (FieldType.int, 4))) (h59 : τ (g.2.1 a 59) = some (.inl (FieldType.int, 4))) (h60 : τ (g.2.1 a 60) = some (.inl (FieldType.int, 160))) : zWT (zts τ a (.inr 10)) g :=
  h.prom ht (by decide) (fun e => by rw [e, h.1] at ht; cases ht) (fun k sh hk => by
    match k, hk with
    | 0, hk => cases hk
    | 1, hk => cases hk; exact h1
    | 2, hk => cases hk; exact h2
    | 3, hk => cases hk; exact h3
    | 4, hk => cases hk
    | 5, hk => cases hk; exact h5
    | 6, hk => cases hk; exact h6
    | 7, hk => cases hk; exact h7
    | 8, hk => cases hk; exact h8
    | 9, hk => cases hk; exact h9
    | 10, hk => cases hk
    | 11, hk => cases hk; exact h11
    | 12, hk => cases hk; exact h12
    | 13, hk => cases hk; exact h13
    | 14, hk => cases hk
    | 15, hk => cases hk
    | 16, hk => cases hk; exact h16
    | 17, hk => cases hk; exact h17
    | 18, hk => cases hk; exact h18
    | 19, hk => cases hk; exact h19
    | 20, hk => cases hk
    | 21, hk => cases hk; exact h21
    | 22, hk => cases hk; exact h22
    | 23, hk => cases hk
    | 24, hk => cases hk; exact h24
    | 25, hk => cases hk; exact h25
    | 26, hk => cases hk; exact h26
    | 27, hk => cases hk
    | 28, hk => cases hk
    | 29, hk => cases hk
    | 30, hk => cases hk
    | 31, hk => cases hk
    | 32, hk => cases hk
    | 33, hk => cases hk
    | 34, hk => cases hk
    | 35, hk => cases hk
    | 36, hk => cases hk
    | 37, hk => cases hk; exact h37
    | 38, hk => cases hk; exact h38
    | 39, hk => cases hk; exact h39
    | 40, hk => cases hk; exact h40
    | 41, hk => cases hk; exact h41
    | 42, hk => cases hk; exact h42
    | 43, hk => cases hk
    | 44, hk => cases hk
    | 45, hk => cases hk
    | 46, hk => cases hk
    | 47, hk => cases hk
    | 48, hk => cases hk; exact h48
    | 49, hk => cases hk; exact h49
    | 50, hk => cases hk; exact h50
    | 51, hk => cases hk
    | 52, hk => cases hk
    | 53, hk => cases hk
    | 54, hk => cases hk
    | 55, hk => cases hk; exact h55
    | 56, hk => cases hk; exact h56
    | 57, hk => cases hk; exact h57
    | 58, hk => cases hk; exact h58
    | 59, hk => cases hk; exact h59
    | 60, hk => cases hk; exact h60
    | k + 61, hk => simp [zsh] at hk) (fun hp => by rcases hp with e | e <;> cases e)
theorem zprom_24 {τ : zT} {g : zG} {a : Nat} (h : zWT τ g) (ht : τ a = some (.inr 24)) (h7 : τ (g.2.1 a 7) = some (.inr 5)) (h8 : τ (g.2.1 a 8) = some (.inr 0)) : zWT (zts τ a (.inr 2)) g :=
  h.prom ht (by decide) (fun e => by rw [e, h.1] at ht; cases ht) (fun k sh hk => by
    match k, hk with
    | 0, hk => cases hk; exact h.2.1 a 24 ht 0 _ rfl
    | 1, hk => cases hk; exact h.2.1 a 24 ht 1 _ rfl
    | 2, hk => cases hk
    | 3, hk => cases hk
    | 4, hk => cases hk
    | 5, hk => cases hk
    | 6, hk => cases hk
    | 7, hk => cases hk; exact h7
    | 8, hk => cases hk; exact h8
    | k + 9, hk => simp [zsh] at hk) (fun _ => h.2.2 a (Or.inr ht))
set_option maxRecDepth 100000 in
set_option maxHeartbeats 4000000 in
theorem c_X2_begin_h (l : Launch) (D : zD) (sz : Nat) (τ : zT) (g : zG) (a : Nat) (b1 : Nat) (b2 : Nat) (hta : τ a = some (.inr 24)) (htb1 : τ b1 = some (.inr 5)) (htb2 : τ b2 = some (.inr 0)) : zCon l D yX2_begin cX2_begin 3 none rm_X2_begin 0 0 zrV [.ref a, .ref b1, .ref b2] sz τ g τ (f_X2_begin a b1 b2 g) := by
  refine zCon.of (by decide) (Nat.le_of_ble_eq_true rfl) (fun E r g' hl hR hsz hnm F => ?_)
  have F : zF E D (zA τ sz) cX2_begin "TypeChain$Printer" 3 none := F
  show zSim (fun q : Int32 × zG => q = (r, g')) (f_X2_begin a b1 b2 g) (zAt E D (zA τ sz) (zQ E D zrV 0 0 sz τ τ r g') 3 (sz, τ, 0, 0) g 0 [(0, .ref a), (1, .ref b1), (2, .ref b2)] [])
  unfold f_X2_begin
  refine z_aload_n F 0 rfl rfl dX2_begin_0 ?_
  refine z_aload_n F 1 rfl rfl dX2_begin_1 ?_
  refine pf_X2_30_h F hta htb1 dX2_begin_2 ?_
  refine z_letg (fun g1 => ?_)
  refine z_aload_n F 0 rfl rfl dX2_begin_5 ?_
  refine z_aload_n F 2 rfl rfl dX2_begin_6 ?_
  refine pf_X2_34_h F hta htb2 dX2_begin_7 ?_
  refine z_letg (fun g2 => ?_)
  refine z_aload_n F 0 rfl rfl dX2_begin_10 ?_
  refine z_iconst (v := 0) F (by decide) dX2_begin_11 ?_
  refine pf_X2_38_h F hta dX2_begin_12 ?_
  refine z_letg (fun g3 => ?_)
  refine z_aload_n F 0 rfl rfl dX2_begin_15 ?_
  refine z_iconst (v := 0) F (by decide) dX2_begin_16 ?_
  refine pf_X2_42_h F hta dX2_begin_17 ?_
  refine z_letg (fun g4 => ?_)
  refine z_aload_n F 0 rfl rfl dX2_begin_20 ?_
  refine z_iconst (v := 1) F (by decide) dX2_begin_21 ?_
  refine pf_X2_45_h F hta dX2_begin_22 ?_
  refine z_letg (fun g5 => ?_)
  refine z_aload_n F 0 rfl rfl dX2_begin_25 ?_
  refine z_iconst (v := 0) F (by decide) dX2_begin_26 ?_
  refine pf_X2_48_h F hta dX2_begin_27 ?_
  refine z_letg (fun g6 => ?_)
  refine z_aload_n F 0 rfl rfl dX2_begin_30 ?_
  refine gf_X2_18_h F hta dX2_begin_31 (fun ht7 => ?_)
  refine z_iconst (v := 0) F (by decide) dX2_begin_34 ?_
  refine pf_X2_51 F ht7 (Or.inl rfl) dX2_begin_35 ?_
  refine z_letg (fun g8 => ?_)
  refine z_aload_n F 0 rfl rfl dX2_begin_38 ?_
  refine gf_X2_9_h F hta dX2_begin_39 (fun ht9 => ?_)
  refine z_iconst (v := 0) F (by decide) dX2_begin_42 ?_
  refine k_J7_fill_53178 F (by rw [hR]; exact ⟨by decide, by decide⟩) q_280 ht9 ⟨Nat.zero_le _, Nat.zero_le _⟩ (Nat.le_of_ble_eq_true rfl) dX2_begin_43 (fun v10 g11 => ?_)
  refine z_aload_n F 0 rfl rfl dX2_begin_46 ?_
  refine gf_X2_22_h F hta dX2_begin_47 ?_
  refine z_ifnull (tgt := 60) F dX2_begin_50 (by decide) (fun c12 => ?_) (fun c12 => ?_)
  · exact z_vreturn F rfl rfl rfl rfl (fun h => h) dX2_begin_60
  · refine z_aload_n F 0 rfl rfl dX2_begin_53 ?_
    refine gf_X2_22_h_n F hta c12 dX2_begin_54 (fun ht13 => ?_)
    refine k_X1_clear F (by rw [hR]; exact ⟨by decide, by decide⟩) q_281 ht13 ⟨Nat.zero_le _, Nat.zero_le _⟩ (Nat.le_of_ble_eq_true rfl) dX2_begin_57 (fun v14 g15 => ?_)
    exact z_vreturn F rfl rfl rfl rfl (fun h => h) dX2_begin_60
theorem k_X2_begin_h {ρ : Type} {K : ρ → Prop} {E : zE} {D : zD} {A : Nat → Prop} {Q : State → Prop} {nL : Nat} {κ : zC} {g : zG} {pc : Nat} {lv : List (Nat × Value)} {st : List Value} {cc : ByteArray} {own : String} {ret : Option FieldType} (F : zF E D A cc own nL ret) {index : Nat} {h : Int32 → zG → Option ρ} {a : Nat} {b1 : Nat} {b2 : Nat}  (hR : 2 + 1 ≤ E.2.2.2.1.frames ∧ 8 + (3 + 11) + 43 ≤ E.2.2.2.1.locals) (hl : zTbl (.methodLink own index yX2_begin)) (hta : κ.2.1 a = some (.inr 24)) (htb1 : κ.2.1 b1 = some (.inr 5)) (htb2 : κ.2.1 b2 = some (.inr 0)) (hc : κ.2.2.1 ≤ E.2.2.2.1.cells ∧ κ.2.2.2 ≤ E.2.2.2.1.slots) (hW : (st.map fun v => v.category).sum ≤ 8) (hd : decode cc pc = .ok (.invokevirtual index, 3)) (kk : ∀ r g', zSim K (h r g') (zAt E D A Q nL κ g' (pc + 3) lv (st))) : zSim K (zb (f_X2_begin a b1 b2 g) h) (zAt E D A Q nL κ g pc lv (.ref b2 :: .ref b1 :: .ref a :: st)) :=
  z_callV F (n := 2) (As := [.ref b1, .ref b2]) (C := (RX2, TX2, 9)) ⟨q_279, q_10, by decide +kernel, rfl, rfl, hR.1, hR.2⟩ (c_X2_begin_h E.2.1 D κ.1 κ.2.1 g a b1 b2 hta htb1 htb2) hl q_277 q_278 hta rfl rfl rfl hc hW hd kk _ rfl
theorem dX0_init_0 : decode cX0_init 0 = .ok (.aload_n 0, 1) := by decide +kernel
theorem dX0_init_1 : decode cX0_init 1 = .ok (.invokespecial 3, 3) := by decide +kernel
theorem dX0_init_4 : decode cX0_init 4 = .ok (.aload_n 0, 1) := by decide +kernel
theorem dX0_init_5 : decode cX0_init 5 = .ok (.bipush 48, 2) := by decide +kernel
theorem dX0_init_7 : decode cX0_init 7 = .ok (.newarray .int, 2) := by decide +kernel
theorem dX0_init_9 : decode cX0_init 9 = .ok (.putfield 9, 3) := by decide +kernel
theorem dX0_init_12 : decode cX0_init 12 = .ok (.return_, 1) := by decide +kernel
def t_X0_init (τ : zT) (sz a : Nat) : zT := (zts (zts τ sz (.inl (.int, 48))) a (.inr 0))
theorem t_X0_init_new (τ : zT) (sz a : Nat) (h : a < sz) : t_X0_init τ sz a a = some (.inr 0) := by
  unfold t_X0_init
  first | exact zts_same _ _ _ | (repeat (first | exact zts_same _ _ _ | refine zts_ne ?_ (by omega)))
theorem t_X0_init_old {τ : zT} {sz a e : Nat} {x : Option zS} (h : τ e = x) (he : e < sz) (ha : e ≠ a) : t_X0_init τ sz a e = x := by
  unfold t_X0_init
  repeat (first | exact h | refine zts_ne ?_ (by omega) | fail)
def f_X0_init (sz : Nat) (a : Nat) (g : zG) : Option (Int32 × zG) :=
  zl (zz g sz) (fun g1 => zl (zsr g1 a 0 sz) (fun g4 => zc (g4.2.1 a 0 = sz) (some (0, g4))))
abbrev rm_X0_init : Room := { frames := 1, cells := 1, slots := 48, locals := 20 }
set_option maxRecDepth 100000 in
set_option maxHeartbeats 4000000 in
theorem c_X0_init (l : Launch) (D : zD) (sz : Nat) (τ : zT) (g : zG) (a : Nat) (h0 : 0 < sz) (hta : τ a = some (.inr 11)) : zCon l D yX0_init cX0_init 1 none rm_X0_init 1 48 zrV [.ref a] sz τ g (t_X0_init τ sz a) (f_X0_init sz a g) := by
  refine zCon.of (by decide) (Nat.le_of_ble_eq_true rfl) (fun E r g' hl hR hsz hnm F => ?_)
  have F : zF E D (zA τ sz) cX0_init "TypeChain$Chain" 1 none := F
  have hnm : E.2.2.2.2.2.2.2.2.1.name = "<init>" := hnm
  show zSim (fun q : Int32 × zG => q = (r, g')) (f_X0_init sz a g) (zAt E D (zA τ sz) (zQ E D zrV 1 48 sz τ (t_X0_init τ sz a) r g') 1 (sz, τ, 0, 0) g 0 [(0, .ref a)] [])
  unfold f_X0_init
  refine z_lt (fun hlt => ?_)
  have hlt_a : a < sz := hlt a _ hta
  refine z_aload_n F 0 rfl rfl dX0_init_0 ?_
  refine z_objInit F q_40 q_27 q_28 (by rw [hR]; exact ⟨by decide, by decide⟩) (Nat.le_of_ble_eq_true rfl) dX0_init_1 ?_
  refine z_aload_n F 0 rfl rfl dX0_init_4 ?_
  refine z_bipush (v := 48) F (by decide) dX0_init_5 ?_
  refine z_newa (ty := .int) (N := 48) F rfl (by decide) q_66 rfl (by decide) (by decide) (by decide) (by show 0 < _; omega) (by rw [hR]; exact Nat.le_of_ble_eq_true rfl) (by rw [hR]; exact Nat.le_of_ble_eq_true rfl) dX0_init_7 ?_
  have ht2 : (zts τ sz (.inl (.int, 48))) sz = some (.inl (.int, 48)) := zts_same _ _ _
  have ht3 : (zts τ sz (.inl (.int, 48))) a = some (.inr 11) := zts_ne hta (by omega)
  show zSim _ _ (zAt E D (zA τ sz) (zQ E D zrV 1 48 sz τ (t_X0_init τ sz a) r g') 1 (sz + 1, (zts τ sz (.inl (.int, 48))), 1, 48) (zz g sz) 9 [(0, .ref a)] [.ref sz, .ref a])
  refine z_letg (fun g1 => ?_)
  refine z_putRs (c := 0) (r := (RX0, TX0, 4)) (k := 0) F ht3 (by decide) rfl inZ0 tyX0_ok nmX0 (by decide) q_41 hnm rfl (Or.inr ⟨_, rfl⟩) (by omega) dX0_init_9 ?_
  refine z_letg (fun g4 => ?_)
  refine z_zc (fun hck5 => ?_)
  refine z_prom (c := 11) (c2 := 0) ht3 rfl (fun hw => zprom_X0 hw ht3 (by rw [hck5]; exact ht2)) ?_
  have ht6 : (zts (zts τ sz (.inl (.int, 48))) a (.inr 0)) a = some (.inr 0) := zts_same _ _ _
  show zSim _ _ (zAt E D (zA τ sz) (zQ E D zrV 1 48 sz τ (t_X0_init τ sz a) r g') 1 (sz + 1, (zts (zts τ sz (.inl (.int, 48))) a (.inr 0)), 1, 48) g4 12 [(0, .ref a)] [])
  exact z_vreturn F rfl rfl rfl rfl (fun h => h) dX0_init_12
theorem dX1_init_0 : decode cX1_init 0 = .ok (.aload_n 0, 1) := by decide +kernel
theorem dX1_init_1 : decode cX1_init 1 = .ok (.invokespecial 3, 3) := by decide +kernel
theorem dX1_init_4 : decode cX1_init 4 = .ok (.aload_n 0, 1) := by decide +kernel
theorem dX1_init_5 : decode cX1_init 5 = .ok (.sipush 2400, 3) := by decide +kernel
theorem dX1_init_8 : decode cX1_init 8 = .ok (.newarray .int, 2) := by decide +kernel
theorem dX1_init_10 : decode cX1_init 10 = .ok (.putfield 9, 3) := by decide +kernel
theorem dX1_init_13 : decode cX1_init 13 = .ok (.aload_n 0, 1) := by decide +kernel
theorem dX1_init_14 : decode cX1_init 14 = .ok (.sipush 2400, 3) := by decide +kernel
theorem dX1_init_17 : decode cX1_init 17 = .ok (.newarray .int, 2) := by decide +kernel
theorem dX1_init_19 : decode cX1_init 19 = .ok (.putfield 15, 3) := by decide +kernel
theorem dX1_init_22 : decode cX1_init 22 = .ok (.return_, 1) := by decide +kernel
def t_X1_init (τ : zT) (sz a : Nat) : zT := (zts (zts (zts τ sz (.inl (.int, 2400))) (sz + 1) (.inl (.int, 2400))) a (.inr 1))
theorem t_X1_init_new (τ : zT) (sz a : Nat) (h : a < sz) : t_X1_init τ sz a a = some (.inr 1) := by
  unfold t_X1_init
  first | exact zts_same _ _ _ | (repeat (first | exact zts_same _ _ _ | refine zts_ne ?_ (by omega)))
theorem t_X1_init_old {τ : zT} {sz a e : Nat} {x : Option zS} (h : τ e = x) (he : e < sz) (ha : e ≠ a) : t_X1_init τ sz a e = x := by
  unfold t_X1_init
  repeat (first | exact h | refine zts_ne ?_ (by omega) | refine t_X0_init_old ?_ (by omega) (by omega))
def f_X1_init (sz : Nat) (a : Nat) (g : zG) : Option (Int32 × zG) :=
  zl (zz g sz) (fun g1 => zl (zsr g1 a 0 sz) (fun g4 => zl (zz g4 (sz + 1)) (fun g5 => zl (zsr g5 a 1 (sz + 1)) (fun g8 => zc (g8.2.1 a 0 = sz ∧ g8.2.1 a 1 = (sz + 1)) (some (0, g8))))))
abbrev rm_X1_init : Room := { frames := 1, cells := 2, slots := 4800, locals := 20 }
set_option maxRecDepth 100000 in
set_option maxHeartbeats 4000000 in
theorem c_X1_init (l : Launch) (D : zD) (sz : Nat) (τ : zT) (g : zG) (a : Nat) (h0 : 0 < sz) (hta : τ a = some (.inr 12)) : zCon l D yX1_init cX1_init 1 none rm_X1_init 2 4800 zrV [.ref a] sz τ g (t_X1_init τ sz a) (f_X1_init sz a g) := by
  refine zCon.of (by decide) (Nat.le_of_ble_eq_true rfl) (fun E r g' hl hR hsz hnm F => ?_)
  have F : zF E D (zA τ sz) cX1_init "TypeChain$Page" 1 none := F
  have hnm : E.2.2.2.2.2.2.2.2.1.name = "<init>" := hnm
  show zSim (fun q : Int32 × zG => q = (r, g')) (f_X1_init sz a g) (zAt E D (zA τ sz) (zQ E D zrV 2 4800 sz τ (t_X1_init τ sz a) r g') 1 (sz, τ, 0, 0) g 0 [(0, .ref a)] [])
  unfold f_X1_init
  refine z_lt (fun hlt => ?_)
  have hlt_a : a < sz := hlt a _ hta
  refine z_aload_n F 0 rfl rfl dX1_init_0 ?_
  refine z_objInit F q_219 q_27 q_28 (by rw [hR]; exact ⟨by decide, by decide⟩) (Nat.le_of_ble_eq_true rfl) dX1_init_1 ?_
  refine z_aload_n F 0 rfl rfl dX1_init_4 ?_
  refine z_sipush (v := 2400) F (by decide) dX1_init_5 ?_
  refine z_newa (ty := .int) (N := 2400) F rfl (by decide) q_66 rfl (by decide) (by decide) (by decide) (by show 0 < _; omega) (by rw [hR]; exact Nat.le_of_ble_eq_true rfl) (by rw [hR]; exact Nat.le_of_ble_eq_true rfl) dX1_init_8 ?_
  have ht2 : (zts τ sz (.inl (.int, 2400))) sz = some (.inl (.int, 2400)) := zts_same _ _ _
  have ht3 : (zts τ sz (.inl (.int, 2400))) a = some (.inr 12) := zts_ne hta (by omega)
  show zSim _ _ (zAt E D (zA τ sz) (zQ E D zrV 2 4800 sz τ (t_X1_init τ sz a) r g') 1 (sz + 1, (zts τ sz (.inl (.int, 2400))), 1, 2400) (zz g sz) 10 [(0, .ref a)] [.ref sz, .ref a])
  refine z_letg (fun g1 => ?_)
  refine z_putRs (c := 1) (r := (RX1, TX1, 2)) (k := 0) F ht3 (by decide) rfl inZ1 tyX1_ok nmX1 (by decide) q_220 hnm rfl (Or.inr ⟨_, rfl⟩) (by omega) dX1_init_10 ?_
  refine z_letg (fun g4 => ?_)
  refine z_aload_n F 0 rfl rfl dX1_init_13 ?_
  refine z_sipush (v := 2400) F (by decide) dX1_init_14 ?_
  refine z_newa (ty := .int) (N := 2400) F rfl (by decide) q_66 rfl (by decide) (by decide) (by decide) (by show 0 < _; omega) (by rw [hR]; exact Nat.le_of_ble_eq_true rfl) (by rw [hR]; exact Nat.le_of_ble_eq_true rfl) dX1_init_17 ?_
  have ht6 : (zts (zts τ sz (.inl (.int, 2400))) (sz + 1) (.inl (.int, 2400))) (sz + 1) = some (.inl (.int, 2400)) := zts_same _ _ _
  have ht7 : (zts (zts τ sz (.inl (.int, 2400))) (sz + 1) (.inl (.int, 2400))) a = some (.inr 12) := zts_ne ht3 (by omega)
  show zSim _ _ (zAt E D (zA τ sz) (zQ E D zrV 2 4800 sz τ (t_X1_init τ sz a) r g') 1 (sz + 2, (zts (zts τ sz (.inl (.int, 2400))) (sz + 1) (.inl (.int, 2400))), 2, 4800) (zz g4 (sz + 1)) 19 [(0, .ref a)] [.ref (sz + 1), .ref a])
  refine z_letg (fun g5 => ?_)
  refine z_putRs (c := 1) (r := (RX1, TX1, 2)) (k := 1) F ht7 (by decide) rfl inZ1 tyX1_ok nmX1 (by decide) q_222 hnm rfl (Or.inr ⟨_, rfl⟩) (by omega) dX1_init_19 ?_
  refine z_letg (fun g8 => ?_)
  have ht10 : (zts (zts τ sz (.inl (.int, 2400))) (sz + 1) (.inl (.int, 2400))) sz = some (.inl (.int, 2400)) := by repeat (first | exact ht2 | refine zts_ne ?_ (by omega) | refine t_X0_init_old ?_ (by omega) (by omega))
  refine z_zc (fun hck9 => ?_)
  refine z_prom (c := 12) (c2 := 1) ht7 rfl (fun hw => zprom_X1 hw ht7 (by rw [hck9.1]; exact ht10) (by rw [hck9.2]; exact ht6)) ?_
  have ht11 : (zts (zts (zts τ sz (.inl (.int, 2400))) (sz + 1) (.inl (.int, 2400))) a (.inr 1)) a = some (.inr 1) := zts_same _ _ _
  show zSim _ _ (zAt E D (zA τ sz) (zQ E D zrV 2 4800 sz τ (t_X1_init τ sz a) r g') 1 (sz + 2, (zts (zts (zts τ sz (.inl (.int, 2400))) (sz + 1) (.inl (.int, 2400))) a (.inr 1)), 2, 4800) g8 22 [(0, .ref a)] [])
  exact z_vreturn F rfl rfl rfl rfl (fun h => h) dX1_init_22
theorem dX3_init_0 : decode cX3_init 0 = .ok (.aload_n 0, 1) := by decide +kernel
theorem dX3_init_1 : decode cX3_init 1 = .ok (.invokespecial 3, 3) := by decide +kernel
theorem dX3_init_4 : decode cX3_init 4 = .ok (.aload_n 0, 1) := by decide +kernel
theorem dX3_init_5 : decode cX3_init 5 = .ok (.bipush 24, 2) := by decide +kernel
theorem dX3_init_7 : decode cX3_init 7 = .ok (.newarray .int, 2) := by decide +kernel
theorem dX3_init_9 : decode cX3_init 9 = .ok (.putfield 9, 3) := by decide +kernel
theorem dX3_init_12 : decode cX3_init 12 = .ok (.aload_n 0, 1) := by decide +kernel
theorem dX3_init_13 : decode cX3_init 13 = .ok (.bipush 24, 2) := by decide +kernel
theorem dX3_init_15 : decode cX3_init 15 = .ok (.newarray .int, 2) := by decide +kernel
theorem dX3_init_17 : decode cX3_init 17 = .ok (.putfield 15, 3) := by decide +kernel
theorem dX3_init_20 : decode cX3_init 20 = .ok (.aload_n 0, 1) := by decide +kernel
theorem dX3_init_21 : decode cX3_init 21 = .ok (.bipush 24, 2) := by decide +kernel
theorem dX3_init_23 : decode cX3_init 23 = .ok (.newarray .int, 2) := by decide +kernel
theorem dX3_init_25 : decode cX3_init 25 = .ok (.putfield 18, 3) := by decide +kernel
theorem dX3_init_28 : decode cX3_init 28 = .ok (.aload_n 0, 1) := by decide +kernel
theorem dX3_init_29 : decode cX3_init 29 = .ok (.bipush 24, 2) := by decide +kernel
theorem dX3_init_31 : decode cX3_init 31 = .ok (.newarray .int, 2) := by decide +kernel
theorem dX3_init_33 : decode cX3_init 33 = .ok (.putfield 21, 3) := by decide +kernel
theorem dX3_init_36 : decode cX3_init 36 = .ok (.aload_n 0, 1) := by decide +kernel
theorem dX3_init_37 : decode cX3_init 37 = .ok (.sipush 240, 3) := by decide +kernel
theorem dX3_init_40 : decode cX3_init 40 = .ok (.newarray .int, 2) := by decide +kernel
theorem dX3_init_42 : decode cX3_init 42 = .ok (.putfield 24, 3) := by decide +kernel
theorem dX3_init_45 : decode cX3_init 45 = .ok (.return_, 1) := by decide +kernel
def t_X3_init (τ : zT) (sz a : Nat) : zT := (zts (zts (zts (zts (zts (zts τ sz (.inl (.int, 24))) (sz + 1) (.inl (.int, 24))) (sz + 2) (.inl (.int, 24))) (sz + 3) (.inl (.int, 24))) (sz + 4) (.inl (.int, 240))) a (.inr 3))
theorem t_X3_init_new (τ : zT) (sz a : Nat) (h : a < sz) : t_X3_init τ sz a a = some (.inr 3) := by
  unfold t_X3_init
  first | exact zts_same _ _ _ | (repeat (first | exact zts_same _ _ _ | refine zts_ne ?_ (by omega)))
theorem t_X3_init_old {τ : zT} {sz a e : Nat} {x : Option zS} (h : τ e = x) (he : e < sz) (ha : e ≠ a) : t_X3_init τ sz a e = x := by
  unfold t_X3_init
  repeat (first | exact h | refine zts_ne ?_ (by omega) | refine t_X0_init_old ?_ (by omega) (by omega) | refine t_X1_init_old ?_ (by omega) (by omega))
def f_X3_init (sz : Nat) (a : Nat) (g : zG) : Option (Int32 × zG) :=
  zl (zz g sz) (fun g1 => zl (zsr g1 a 0 sz) (fun g4 => zl (zz g4 (sz + 1)) (fun g5 => zl (zsr g5 a 1 (sz + 1)) (fun g8 => zl (zz g8 (sz + 2)) (fun g9 => zl (zsr g9 a 2 (sz + 2)) (fun g12 => zl (zz g12 (sz + 3)) (fun g13 => zl (zsr g13 a 3 (sz + 3)) (fun g16 => zl (zz g16 (sz + 4)) (fun g17 => zl (zsr g17 a 4 (sz + 4)) (fun g20 => zc (g20.2.1 a 0 = sz ∧ g20.2.1 a 1 = (sz + 1) ∧ g20.2.1 a 2 = (sz + 2) ∧ g20.2.1 a 3 = (sz + 3) ∧ g20.2.1 a 4 = (sz + 4)) (some (0, g20))))))))))))
abbrev rm_X3_init : Room := { frames := 1, cells := 5, slots := 336, locals := 20 }
set_option maxRecDepth 100000 in
set_option maxHeartbeats 4000000 in
theorem c_X3_init (l : Launch) (D : zD) (sz : Nat) (τ : zT) (g : zG) (a : Nat) (h0 : 0 < sz) (hta : τ a = some (.inr 14)) : zCon l D yX3_init cX3_init 1 none rm_X3_init 5 336 zrV [.ref a] sz τ g (t_X3_init τ sz a) (f_X3_init sz a g) := by
  refine zCon.of (by decide) (Nat.le_of_ble_eq_true rfl) (fun E r g' hl hR hsz hnm F => ?_)
  have F : zF E D (zA τ sz) cX3_init "TypeChain$Program" 1 none := F
  have hnm : E.2.2.2.2.2.2.2.2.1.name = "<init>" := hnm
  show zSim (fun q : Int32 × zG => q = (r, g')) (f_X3_init sz a g) (zAt E D (zA τ sz) (zQ E D zrV 5 336 sz τ (t_X3_init τ sz a) r g') 1 (sz, τ, 0, 0) g 0 [(0, .ref a)] [])
  unfold f_X3_init
  refine z_lt (fun hlt => ?_)
  have hlt_a : a < sz := hlt a _ hta
  refine z_aload_n F 0 rfl rfl dX3_init_0 ?_
  refine z_objInit F q_72 q_27 q_28 (by rw [hR]; exact ⟨by decide, by decide⟩) (Nat.le_of_ble_eq_true rfl) dX3_init_1 ?_
  refine z_aload_n F 0 rfl rfl dX3_init_4 ?_
  refine z_bipush (v := 24) F (by decide) dX3_init_5 ?_
  refine z_newa (ty := .int) (N := 24) F rfl (by decide) q_66 rfl (by decide) (by decide) (by decide) (by show 0 < _; omega) (by rw [hR]; exact Nat.le_of_ble_eq_true rfl) (by rw [hR]; exact Nat.le_of_ble_eq_true rfl) dX3_init_7 ?_
  have ht2 : (zts τ sz (.inl (.int, 24))) sz = some (.inl (.int, 24)) := zts_same _ _ _
  have ht3 : (zts τ sz (.inl (.int, 24))) a = some (.inr 14) := zts_ne hta (by omega)
  show zSim _ _ (zAt E D (zA τ sz) (zQ E D zrV 5 336 sz τ (t_X3_init τ sz a) r g') 1 (sz + 1, (zts τ sz (.inl (.int, 24))), 1, 24) (zz g sz) 9 [(0, .ref a)] [.ref sz, .ref a])
  refine z_letg (fun g1 => ?_)
  refine z_putRs (c := 3) (r := (RX3, TX3, 7)) (k := 0) F ht3 (by decide) rfl inZ3 tyX3_ok nmX3 (by decide) q_73 hnm rfl (Or.inr ⟨_, rfl⟩) (by omega) dX3_init_9 ?_
  refine z_letg (fun g4 => ?_)
  refine z_aload_n F 0 rfl rfl dX3_init_12 ?_
  refine z_bipush (v := 24) F (by decide) dX3_init_13 ?_
  refine z_newa (ty := .int) (N := 24) F rfl (by decide) q_66 rfl (by decide) (by decide) (by decide) (by show 0 < _; omega) (by rw [hR]; exact Nat.le_of_ble_eq_true rfl) (by rw [hR]; exact Nat.le_of_ble_eq_true rfl) dX3_init_15 ?_
  have ht6 : (zts (zts τ sz (.inl (.int, 24))) (sz + 1) (.inl (.int, 24))) (sz + 1) = some (.inl (.int, 24)) := zts_same _ _ _
  have ht7 : (zts (zts τ sz (.inl (.int, 24))) (sz + 1) (.inl (.int, 24))) a = some (.inr 14) := zts_ne ht3 (by omega)
  show zSim _ _ (zAt E D (zA τ sz) (zQ E D zrV 5 336 sz τ (t_X3_init τ sz a) r g') 1 (sz + 2, (zts (zts τ sz (.inl (.int, 24))) (sz + 1) (.inl (.int, 24))), 2, 48) (zz g4 (sz + 1)) 17 [(0, .ref a)] [.ref (sz + 1), .ref a])
  refine z_letg (fun g5 => ?_)
  refine z_putRs (c := 3) (r := (RX3, TX3, 7)) (k := 1) F ht7 (by decide) rfl inZ3 tyX3_ok nmX3 (by decide) q_76 hnm rfl (Or.inr ⟨_, rfl⟩) (by omega) dX3_init_17 ?_
  refine z_letg (fun g8 => ?_)
  refine z_aload_n F 0 rfl rfl dX3_init_20 ?_
  refine z_bipush (v := 24) F (by decide) dX3_init_21 ?_
  refine z_newa (ty := .int) (N := 24) F rfl (by decide) q_66 rfl (by decide) (by decide) (by decide) (by show 0 < _; omega) (by rw [hR]; exact Nat.le_of_ble_eq_true rfl) (by rw [hR]; exact Nat.le_of_ble_eq_true rfl) dX3_init_23 ?_
  have ht10 : (zts (zts (zts τ sz (.inl (.int, 24))) (sz + 1) (.inl (.int, 24))) (sz + 2) (.inl (.int, 24))) (sz + 2) = some (.inl (.int, 24)) := zts_same _ _ _
  have ht11 : (zts (zts (zts τ sz (.inl (.int, 24))) (sz + 1) (.inl (.int, 24))) (sz + 2) (.inl (.int, 24))) a = some (.inr 14) := zts_ne ht7 (by omega)
  show zSim _ _ (zAt E D (zA τ sz) (zQ E D zrV 5 336 sz τ (t_X3_init τ sz a) r g') 1 (sz + 3, (zts (zts (zts τ sz (.inl (.int, 24))) (sz + 1) (.inl (.int, 24))) (sz + 2) (.inl (.int, 24))), 3, 72) (zz g8 (sz + 2)) 25 [(0, .ref a)] [.ref (sz + 2), .ref a])
  refine z_letg (fun g9 => ?_)
  refine z_putRs (c := 3) (r := (RX3, TX3, 7)) (k := 2) F ht11 (by decide) rfl inZ3 tyX3_ok nmX3 (by decide) q_79 hnm rfl (Or.inr ⟨_, rfl⟩) (by omega) dX3_init_25 ?_
  refine z_letg (fun g12 => ?_)
  refine z_aload_n F 0 rfl rfl dX3_init_28 ?_
  refine z_bipush (v := 24) F (by decide) dX3_init_29 ?_
  refine z_newa (ty := .int) (N := 24) F rfl (by decide) q_66 rfl (by decide) (by decide) (by decide) (by show 0 < _; omega) (by rw [hR]; exact Nat.le_of_ble_eq_true rfl) (by rw [hR]; exact Nat.le_of_ble_eq_true rfl) dX3_init_31 ?_
  have ht14 : (zts (zts (zts (zts τ sz (.inl (.int, 24))) (sz + 1) (.inl (.int, 24))) (sz + 2) (.inl (.int, 24))) (sz + 3) (.inl (.int, 24))) (sz + 3) = some (.inl (.int, 24)) := zts_same _ _ _
  have ht15 : (zts (zts (zts (zts τ sz (.inl (.int, 24))) (sz + 1) (.inl (.int, 24))) (sz + 2) (.inl (.int, 24))) (sz + 3) (.inl (.int, 24))) a = some (.inr 14) := zts_ne ht11 (by omega)
  show zSim _ _ (zAt E D (zA τ sz) (zQ E D zrV 5 336 sz τ (t_X3_init τ sz a) r g') 1 (sz + 4, (zts (zts (zts (zts τ sz (.inl (.int, 24))) (sz + 1) (.inl (.int, 24))) (sz + 2) (.inl (.int, 24))) (sz + 3) (.inl (.int, 24))), 4, 96) (zz g12 (sz + 3)) 33 [(0, .ref a)] [.ref (sz + 3), .ref a])
  refine z_letg (fun g13 => ?_)
  refine z_putRs (c := 3) (r := (RX3, TX3, 7)) (k := 3) F ht15 (by decide) rfl inZ3 tyX3_ok nmX3 (by decide) q_80 hnm rfl (Or.inr ⟨_, rfl⟩) (by omega) dX3_init_33 ?_
  refine z_letg (fun g16 => ?_)
  refine z_aload_n F 0 rfl rfl dX3_init_36 ?_
  refine z_sipush (v := 240) F (by decide) dX3_init_37 ?_
  refine z_newa (ty := .int) (N := 240) F rfl (by decide) q_66 rfl (by decide) (by decide) (by decide) (by show 0 < _; omega) (by rw [hR]; exact Nat.le_of_ble_eq_true rfl) (by rw [hR]; exact Nat.le_of_ble_eq_true rfl) dX3_init_40 ?_
  have ht18 : (zts (zts (zts (zts (zts τ sz (.inl (.int, 24))) (sz + 1) (.inl (.int, 24))) (sz + 2) (.inl (.int, 24))) (sz + 3) (.inl (.int, 24))) (sz + 4) (.inl (.int, 240))) (sz + 4) = some (.inl (.int, 240)) := zts_same _ _ _
  have ht19 : (zts (zts (zts (zts (zts τ sz (.inl (.int, 24))) (sz + 1) (.inl (.int, 24))) (sz + 2) (.inl (.int, 24))) (sz + 3) (.inl (.int, 24))) (sz + 4) (.inl (.int, 240))) a = some (.inr 14) := zts_ne ht15 (by omega)
  show zSim _ _ (zAt E D (zA τ sz) (zQ E D zrV 5 336 sz τ (t_X3_init τ sz a) r g') 1 (sz + 5, (zts (zts (zts (zts (zts τ sz (.inl (.int, 24))) (sz + 1) (.inl (.int, 24))) (sz + 2) (.inl (.int, 24))) (sz + 3) (.inl (.int, 24))) (sz + 4) (.inl (.int, 240))), 5, 336) (zz g16 (sz + 4)) 42 [(0, .ref a)] [.ref (sz + 4), .ref a])
  refine z_letg (fun g17 => ?_)
  refine z_putRs (c := 3) (r := (RX3, TX3, 7)) (k := 4) F ht19 (by decide) rfl inZ3 tyX3_ok nmX3 (by decide) q_83 hnm rfl (Or.inr ⟨_, rfl⟩) (by omega) dX3_init_42 ?_
  refine z_letg (fun g20 => ?_)
  have ht22 : (zts (zts (zts (zts (zts τ sz (.inl (.int, 24))) (sz + 1) (.inl (.int, 24))) (sz + 2) (.inl (.int, 24))) (sz + 3) (.inl (.int, 24))) (sz + 4) (.inl (.int, 240))) sz = some (.inl (.int, 24)) := by repeat (first | exact ht2 | refine zts_ne ?_ (by omega) | refine t_X0_init_old ?_ (by omega) (by omega) | refine t_X1_init_old ?_ (by omega) (by omega))
  have ht23 : (zts (zts (zts (zts (zts τ sz (.inl (.int, 24))) (sz + 1) (.inl (.int, 24))) (sz + 2) (.inl (.int, 24))) (sz + 3) (.inl (.int, 24))) (sz + 4) (.inl (.int, 240))) (sz + 1) = some (.inl (.int, 24)) := by repeat (first | exact ht6 | refine zts_ne ?_ (by omega) | refine t_X0_init_old ?_ (by omega) (by omega) | refine t_X1_init_old ?_ (by omega) (by omega))
  have ht24 : (zts (zts (zts (zts (zts τ sz (.inl (.int, 24))) (sz + 1) (.inl (.int, 24))) (sz + 2) (.inl (.int, 24))) (sz + 3) (.inl (.int, 24))) (sz + 4) (.inl (.int, 240))) (sz + 2) = some (.inl (.int, 24)) := by repeat (first | exact ht10 | refine zts_ne ?_ (by omega) | refine t_X0_init_old ?_ (by omega) (by omega) | refine t_X1_init_old ?_ (by omega) (by omega))
  have ht25 : (zts (zts (zts (zts (zts τ sz (.inl (.int, 24))) (sz + 1) (.inl (.int, 24))) (sz + 2) (.inl (.int, 24))) (sz + 3) (.inl (.int, 24))) (sz + 4) (.inl (.int, 240))) (sz + 3) = some (.inl (.int, 24)) := by repeat (first | exact ht14 | refine zts_ne ?_ (by omega) | refine t_X0_init_old ?_ (by omega) (by omega) | refine t_X1_init_old ?_ (by omega) (by omega))
  refine z_zc (fun hck21 => ?_)
  refine z_prom (c := 14) (c2 := 3) ht19 rfl (fun hw => zprom_X3 hw ht19 (by rw [hck21.1]; exact ht22) (by rw [hck21.2.1]; exact ht23) (by rw [hck21.2.2.1]; exact ht24) (by rw [hck21.2.2.2.1]; exact ht25) (by rw [hck21.2.2.2.2]; exact ht18)) ?_
  have ht26 : (zts (zts (zts (zts (zts (zts τ sz (.inl (.int, 24))) (sz + 1) (.inl (.int, 24))) (sz + 2) (.inl (.int, 24))) (sz + 3) (.inl (.int, 24))) (sz + 4) (.inl (.int, 240))) a (.inr 3)) a = some (.inr 3) := zts_same _ _ _
  show zSim _ _ (zAt E D (zA τ sz) (zQ E D zrV 5 336 sz τ (t_X3_init τ sz a) r g') 1 (sz + 5, (zts (zts (zts (zts (zts (zts τ sz (.inl (.int, 24))) (sz + 1) (.inl (.int, 24))) (sz + 2) (.inl (.int, 24))) (sz + 3) (.inl (.int, 24))) (sz + 4) (.inl (.int, 240))) a (.inr 3)), 5, 336) g20 45 [(0, .ref a)] [])
  exact z_vreturn F rfl rfl rfl rfl (fun h => h) dX3_init_45
theorem dX4_init_0 : decode cX4_init 0 = .ok (.aload_n 0, 1) := by decide +kernel
theorem dX4_init_1 : decode cX4_init 1 = .ok (.invokespecial 3, 3) := by decide +kernel
theorem dX4_init_4 : decode cX4_init 4 = .ok (.aload_n 0, 1) := by decide +kernel
theorem dX4_init_5 : decode cX4_init 5 = .ok (.sipush 240, 3) := by decide +kernel
theorem dX4_init_8 : decode cX4_init 8 = .ok (.newarray .byte, 2) := by decide +kernel
theorem dX4_init_10 : decode cX4_init 10 = .ok (.putfield 9, 3) := by decide +kernel
theorem dX4_init_13 : decode cX4_init 13 = .ok (.aload_n 0, 1) := by decide +kernel
theorem dX4_init_14 : decode cX4_init 14 = .ok (.bipush 34, 2) := by decide +kernel
theorem dX4_init_16 : decode cX4_init 16 = .ok (.newarray .int, 2) := by decide +kernel
theorem dX4_init_18 : decode cX4_init 18 = .ok (.putfield 15, 3) := by decide +kernel
theorem dX4_init_21 : decode cX4_init 21 = .ok (.aload_n 0, 1) := by decide +kernel
theorem dX4_init_22 : decode cX4_init 22 = .ok (.bipush 34, 2) := by decide +kernel
theorem dX4_init_24 : decode cX4_init 24 = .ok (.newarray .int, 2) := by decide +kernel
theorem dX4_init_26 : decode cX4_init 26 = .ok (.putfield 19, 3) := by decide +kernel
theorem dX4_init_29 : decode cX4_init 29 = .ok (.aload_n 0, 1) := by decide +kernel
theorem dX4_init_30 : decode cX4_init 30 = .ok (.bipush 34, 2) := by decide +kernel
theorem dX4_init_32 : decode cX4_init 32 = .ok (.newarray .int, 2) := by decide +kernel
theorem dX4_init_34 : decode cX4_init 34 = .ok (.putfield 22, 3) := by decide +kernel
theorem dX4_init_37 : decode cX4_init 37 = .ok (.return_, 1) := by decide +kernel
def t_X4_init (τ : zT) (sz a : Nat) : zT := (zts (zts (zts (zts (zts τ sz (.inl (.byte, 240))) (sz + 1) (.inl (.int, 34))) (sz + 2) (.inl (.int, 34))) (sz + 3) (.inl (.int, 34))) a (.inr 4))
theorem t_X4_init_new (τ : zT) (sz a : Nat) (h : a < sz) : t_X4_init τ sz a a = some (.inr 4) := by
  unfold t_X4_init
  first | exact zts_same _ _ _ | (repeat (first | exact zts_same _ _ _ | refine zts_ne ?_ (by omega)))
theorem t_X4_init_old {τ : zT} {sz a e : Nat} {x : Option zS} (h : τ e = x) (he : e < sz) (ha : e ≠ a) : t_X4_init τ sz a e = x := by
  unfold t_X4_init
  repeat (first | exact h | refine zts_ne ?_ (by omega) | refine t_X0_init_old ?_ (by omega) (by omega) | refine t_X1_init_old ?_ (by omega) (by omega) | refine t_X3_init_old ?_ (by omega) (by omega))
def f_X4_init (sz : Nat) (a : Nat) (g : zG) : Option (Int32 × zG) :=
  zl (zz g sz) (fun g1 => zl (zsr g1 a 0 sz) (fun g4 => zl (zz g4 (sz + 1)) (fun g5 => zl (zsr g5 a 10 (sz + 1)) (fun g8 => zl (zz g8 (sz + 2)) (fun g9 => zl (zsr g9 a 11 (sz + 2)) (fun g12 => zl (zz g12 (sz + 3)) (fun g13 => zl (zsr g13 a 12 (sz + 3)) (fun g16 => zc (g16.2.1 a 0 = sz ∧ g16.2.1 a 10 = (sz + 1) ∧ g16.2.1 a 11 = (sz + 2) ∧ g16.2.1 a 12 = (sz + 3)) (some (0, g16))))))))))
abbrev rm_X4_init : Room := { frames := 1, cells := 4, slots := 342, locals := 20 }
set_option maxRecDepth 100000 in
set_option maxHeartbeats 4000000 in
theorem c_X4_init (l : Launch) (D : zD) (sz : Nat) (τ : zT) (g : zG) (a : Nat) (h0 : 0 < sz) (hta : τ a = some (.inr 15)) : zCon l D yX4_init cX4_init 1 none rm_X4_init 4 342 zrV [.ref a] sz τ g (t_X4_init τ sz a) (f_X4_init sz a g) := by
  refine zCon.of (by decide) (Nat.le_of_ble_eq_true rfl) (fun E r g' hl hR hsz hnm F => ?_)
  have F : zF E D (zA τ sz) cX4_init "TypeChain$Reader" 1 none := F
  have hnm : E.2.2.2.2.2.2.2.2.1.name = "<init>" := hnm
  show zSim (fun q : Int32 × zG => q = (r, g')) (f_X4_init sz a g) (zAt E D (zA τ sz) (zQ E D zrV 4 342 sz τ (t_X4_init τ sz a) r g') 1 (sz, τ, 0, 0) g 0 [(0, .ref a)] [])
  unfold f_X4_init
  refine z_lt (fun hlt => ?_)
  have hlt_a : a < sz := hlt a _ hta
  refine z_aload_n F 0 rfl rfl dX4_init_0 ?_
  refine z_objInit F q_165 q_27 q_28 (by rw [hR]; exact ⟨by decide, by decide⟩) (Nat.le_of_ble_eq_true rfl) dX4_init_1 ?_
  refine z_aload_n F 0 rfl rfl dX4_init_4 ?_
  refine z_sipush (v := 240) F (by decide) dX4_init_5 ?_
  refine z_newa (ty := .byte) (N := 240) F rfl (by decide) q_213 rfl (by decide) (by decide) (by decide) (by show 0 < _; omega) (by rw [hR]; exact Nat.le_of_ble_eq_true rfl) (by rw [hR]; exact Nat.le_of_ble_eq_true rfl) dX4_init_8 ?_
  have ht2 : (zts τ sz (.inl (.byte, 240))) sz = some (.inl (.byte, 240)) := zts_same _ _ _
  have ht3 : (zts τ sz (.inl (.byte, 240))) a = some (.inr 15) := zts_ne hta (by omega)
  show zSim _ _ (zAt E D (zA τ sz) (zQ E D zrV 4 342 sz τ (t_X4_init τ sz a) r g') 1 (sz + 1, (zts τ sz (.inl (.byte, 240))), 1, 240) (zz g sz) 10 [(0, .ref a)] [.ref sz, .ref a])
  refine z_letg (fun g1 => ?_)
  refine z_putRs (c := 4) (r := (RX4, TX4, 14)) (k := 0) F ht3 (by decide) rfl inZ4 tyX4_ok nmX4 (by decide) q_166 hnm rfl (Or.inr ⟨_, rfl⟩) (by omega) dX4_init_10 ?_
  refine z_letg (fun g4 => ?_)
  refine z_aload_n F 0 rfl rfl dX4_init_13 ?_
  refine z_bipush (v := 34) F (by decide) dX4_init_14 ?_
  refine z_newa (ty := .int) (N := 34) F rfl (by decide) q_66 rfl (by decide) (by decide) (by decide) (by show 0 < _; omega) (by rw [hR]; exact Nat.le_of_ble_eq_true rfl) (by rw [hR]; exact Nat.le_of_ble_eq_true rfl) dX4_init_16 ?_
  have ht6 : (zts (zts τ sz (.inl (.byte, 240))) (sz + 1) (.inl (.int, 34))) (sz + 1) = some (.inl (.int, 34)) := zts_same _ _ _
  have ht7 : (zts (zts τ sz (.inl (.byte, 240))) (sz + 1) (.inl (.int, 34))) a = some (.inr 15) := zts_ne ht3 (by omega)
  show zSim _ _ (zAt E D (zA τ sz) (zQ E D zrV 4 342 sz τ (t_X4_init τ sz a) r g') 1 (sz + 2, (zts (zts τ sz (.inl (.byte, 240))) (sz + 1) (.inl (.int, 34))), 2, 274) (zz g4 (sz + 1)) 18 [(0, .ref a)] [.ref (sz + 1), .ref a])
  refine z_letg (fun g5 => ?_)
  refine z_putRs (c := 4) (r := (RX4, TX4, 14)) (k := 10) F ht7 (by decide) rfl inZ4 tyX4_ok nmX4 (by decide) q_180 hnm rfl (Or.inr ⟨_, rfl⟩) (by omega) dX4_init_18 ?_
  refine z_letg (fun g8 => ?_)
  refine z_aload_n F 0 rfl rfl dX4_init_21 ?_
  refine z_bipush (v := 34) F (by decide) dX4_init_22 ?_
  refine z_newa (ty := .int) (N := 34) F rfl (by decide) q_66 rfl (by decide) (by decide) (by decide) (by show 0 < _; omega) (by rw [hR]; exact Nat.le_of_ble_eq_true rfl) (by rw [hR]; exact Nat.le_of_ble_eq_true rfl) dX4_init_24 ?_
  have ht10 : (zts (zts (zts τ sz (.inl (.byte, 240))) (sz + 1) (.inl (.int, 34))) (sz + 2) (.inl (.int, 34))) (sz + 2) = some (.inl (.int, 34)) := zts_same _ _ _
  have ht11 : (zts (zts (zts τ sz (.inl (.byte, 240))) (sz + 1) (.inl (.int, 34))) (sz + 2) (.inl (.int, 34))) a = some (.inr 15) := zts_ne ht7 (by omega)
  show zSim _ _ (zAt E D (zA τ sz) (zQ E D zrV 4 342 sz τ (t_X4_init τ sz a) r g') 1 (sz + 3, (zts (zts (zts τ sz (.inl (.byte, 240))) (sz + 1) (.inl (.int, 34))) (sz + 2) (.inl (.int, 34))), 3, 308) (zz g8 (sz + 2)) 26 [(0, .ref a)] [.ref (sz + 2), .ref a])
  refine z_letg (fun g9 => ?_)
  refine z_putRs (c := 4) (r := (RX4, TX4, 14)) (k := 11) F ht11 (by decide) rfl inZ4 tyX4_ok nmX4 (by decide) q_181 hnm rfl (Or.inr ⟨_, rfl⟩) (by omega) dX4_init_26 ?_
  refine z_letg (fun g12 => ?_)
  refine z_aload_n F 0 rfl rfl dX4_init_29 ?_
  refine z_bipush (v := 34) F (by decide) dX4_init_30 ?_
  refine z_newa (ty := .int) (N := 34) F rfl (by decide) q_66 rfl (by decide) (by decide) (by decide) (by show 0 < _; omega) (by rw [hR]; exact Nat.le_of_ble_eq_true rfl) (by rw [hR]; exact Nat.le_of_ble_eq_true rfl) dX4_init_32 ?_
  have ht14 : (zts (zts (zts (zts τ sz (.inl (.byte, 240))) (sz + 1) (.inl (.int, 34))) (sz + 2) (.inl (.int, 34))) (sz + 3) (.inl (.int, 34))) (sz + 3) = some (.inl (.int, 34)) := zts_same _ _ _
  have ht15 : (zts (zts (zts (zts τ sz (.inl (.byte, 240))) (sz + 1) (.inl (.int, 34))) (sz + 2) (.inl (.int, 34))) (sz + 3) (.inl (.int, 34))) a = some (.inr 15) := zts_ne ht11 (by omega)
  show zSim _ _ (zAt E D (zA τ sz) (zQ E D zrV 4 342 sz τ (t_X4_init τ sz a) r g') 1 (sz + 4, (zts (zts (zts (zts τ sz (.inl (.byte, 240))) (sz + 1) (.inl (.int, 34))) (sz + 2) (.inl (.int, 34))) (sz + 3) (.inl (.int, 34))), 4, 342) (zz g12 (sz + 3)) 34 [(0, .ref a)] [.ref (sz + 3), .ref a])
  refine z_letg (fun g13 => ?_)
  refine z_putRs (c := 4) (r := (RX4, TX4, 14)) (k := 12) F ht15 (by decide) rfl inZ4 tyX4_ok nmX4 (by decide) q_182 hnm rfl (Or.inr ⟨_, rfl⟩) (by omega) dX4_init_34 ?_
  refine z_letg (fun g16 => ?_)
  have ht18 : (zts (zts (zts (zts τ sz (.inl (.byte, 240))) (sz + 1) (.inl (.int, 34))) (sz + 2) (.inl (.int, 34))) (sz + 3) (.inl (.int, 34))) sz = some (.inl (.byte, 240)) := by repeat (first | exact ht2 | refine zts_ne ?_ (by omega) | refine t_X0_init_old ?_ (by omega) (by omega) | refine t_X1_init_old ?_ (by omega) (by omega) | refine t_X3_init_old ?_ (by omega) (by omega))
  have ht19 : (zts (zts (zts (zts τ sz (.inl (.byte, 240))) (sz + 1) (.inl (.int, 34))) (sz + 2) (.inl (.int, 34))) (sz + 3) (.inl (.int, 34))) (sz + 1) = some (.inl (.int, 34)) := by repeat (first | exact ht6 | refine zts_ne ?_ (by omega) | refine t_X0_init_old ?_ (by omega) (by omega) | refine t_X1_init_old ?_ (by omega) (by omega) | refine t_X3_init_old ?_ (by omega) (by omega))
  have ht20 : (zts (zts (zts (zts τ sz (.inl (.byte, 240))) (sz + 1) (.inl (.int, 34))) (sz + 2) (.inl (.int, 34))) (sz + 3) (.inl (.int, 34))) (sz + 2) = some (.inl (.int, 34)) := by repeat (first | exact ht10 | refine zts_ne ?_ (by omega) | refine t_X0_init_old ?_ (by omega) (by omega) | refine t_X1_init_old ?_ (by omega) (by omega) | refine t_X3_init_old ?_ (by omega) (by omega))
  refine z_zc (fun hck17 => ?_)
  refine z_prom (c := 15) (c2 := 4) ht15 rfl (fun hw => zprom_X4 hw ht15 (by rw [hck17.1]; exact ht18) (by rw [hck17.2.1]; exact ht19) (by rw [hck17.2.2.1]; exact ht20) (by rw [hck17.2.2.2]; exact ht14)) ?_
  have ht21 : (zts (zts (zts (zts (zts τ sz (.inl (.byte, 240))) (sz + 1) (.inl (.int, 34))) (sz + 2) (.inl (.int, 34))) (sz + 3) (.inl (.int, 34))) a (.inr 4)) a = some (.inr 4) := zts_same _ _ _
  show zSim _ _ (zAt E D (zA τ sz) (zQ E D zrV 4 342 sz τ (t_X4_init τ sz a) r g') 1 (sz + 4, (zts (zts (zts (zts (zts τ sz (.inl (.byte, 240))) (sz + 1) (.inl (.int, 34))) (sz + 2) (.inl (.int, 34))) (sz + 3) (.inl (.int, 34))) a (.inr 4)), 4, 342) g16 37 [(0, .ref a)] [])
  exact z_vreturn F rfl rfl rfl rfl (fun h => h) dX4_init_37
theorem dX5_init_0 : decode cX5_init 0 = .ok (.aload_n 0, 1) := by decide +kernel
theorem dX5_init_1 : decode cX5_init 1 = .ok (.invokespecial 3, 3) := by decide +kernel
theorem dX5_init_4 : decode cX5_init 4 = .ok (.aload_n 0, 1) := by decide +kernel
theorem dX5_init_5 : decode cX5_init 5 = .ok (.new 9, 3) := by decide +kernel
theorem dX5_init_8 : decode cX5_init 8 = .ok (.dup, 1) := by decide +kernel
theorem dX5_init_9 : decode cX5_init 9 = .ok (.invokespecial 11, 3) := by decide +kernel
theorem dX5_init_12 : decode cX5_init 12 = .ok (.putfield 12, 3) := by decide +kernel
theorem dX5_init_15 : decode cX5_init 15 = .ok (.aload_n 0, 1) := by decide +kernel
theorem dX5_init_16 : decode cX5_init 16 = .ok (.new 18, 3) := by decide +kernel
theorem dX5_init_19 : decode cX5_init 19 = .ok (.dup, 1) := by decide +kernel
theorem dX5_init_20 : decode cX5_init 20 = .ok (.invokespecial 20, 3) := by decide +kernel
theorem dX5_init_23 : decode cX5_init 23 = .ok (.putfield 21, 3) := by decide +kernel
theorem dX5_init_26 : decode cX5_init 26 = .ok (.aload_n 0, 1) := by decide +kernel
theorem dX5_init_27 : decode cX5_init 27 = .ok (.bipush 8, 2) := by decide +kernel
theorem dX5_init_29 : decode cX5_init 29 = .ok (.newarray .int, 2) := by decide +kernel
theorem dX5_init_31 : decode cX5_init 31 = .ok (.putfield 25, 3) := by decide +kernel
theorem dX5_init_34 : decode cX5_init 34 = .ok (.aload_n 0, 1) := by decide +kernel
theorem dX5_init_35 : decode cX5_init 35 = .ok (.bipush 60, 2) := by decide +kernel
theorem dX5_init_37 : decode cX5_init 37 = .ok (.newarray .int, 2) := by decide +kernel
theorem dX5_init_39 : decode cX5_init 39 = .ok (.putfield 29, 3) := by decide +kernel
theorem dX5_init_42 : decode cX5_init 42 = .ok (.aload_n 0, 1) := by decide +kernel
theorem dX5_init_43 : decode cX5_init 43 = .ok (.invokevirtual 32, 3) := by decide +kernel
theorem dX5_init_46 : decode cX5_init 46 = .ok (.aload_n 0, 1) := by decide +kernel
theorem dX5_init_47 : decode cX5_init 47 = .ok (.invokevirtual 35, 3) := by decide +kernel
theorem dX5_init_50 : decode cX5_init 50 = .ok (.return_, 1) := by decide +kernel
def t_X5_init (τ : zT) (sz a : Nat) : zT := (zts (zts (zts (t_X3_init (zts (t_X0_init (zts τ sz (.inr 11)) (sz + 1) sz) (sz + 2) (.inr 14)) (sz + 3) (sz + 2)) (sz + 8) (.inl (.int, 8))) (sz + 9) (.inl (.int, 60))) a (.inr 5))
theorem t_X5_init_new (τ : zT) (sz a : Nat) (h : a < sz) : t_X5_init τ sz a a = some (.inr 5) := by
  unfold t_X5_init
  first | exact zts_same _ _ _ | (repeat (first | exact zts_same _ _ _ | refine zts_ne ?_ (by omega)))
theorem t_X5_init_old {τ : zT} {sz a e : Nat} {x : Option zS} (h : τ e = x) (he : e < sz) (ha : e ≠ a) : t_X5_init τ sz a e = x := by
  unfold t_X5_init
  repeat (first | exact h | refine zts_ne ?_ (by omega) | refine t_X0_init_old ?_ (by omega) (by omega) | refine t_X1_init_old ?_ (by omega) (by omega) | refine t_X3_init_old ?_ (by omega) (by omega) | refine t_X4_init_old ?_ (by omega) (by omega))
def f_X5_init (sz : Nat) (a : Nat) (g : zG) : Option (Int32 × zG) :=
  zl (zz g sz) (fun g1 => zb (f_X0_init (sz + 1) sz g1) (fun v5 g4 => zl (zsr g4 a 0 sz) (fun g8 => zl (zz g8 (sz + 2)) (fun g9 => zb (f_X3_init (sz + 3) (sz + 2) g9) (fun v13 g12 => zl (zsr g12 a 1 (sz + 2)) (fun g16 => zl (zz g16 (sz + 8)) (fun g17 => zl (zsr g17 a 2 (sz + 8)) (fun g20 => zl (zz g20 (sz + 9)) (fun g21 => zl (zsr g21 a 3 (sz + 9)) (fun g24 => zc (g24.2.1 a 0 = sz ∧ g24.2.1 a 1 = (sz + 2) ∧ g24.2.1 a 2 = (sz + 8) ∧ g24.2.1 a 3 = (sz + 9)) (zb (f_X5_beAtFirst a g24) (fun v30 g31 => zb (f_X5_settle a g31) (fun v32 g33 => some (0, g33))))))))))))))
abbrev rm_X5_init : Room := { frames := 3, cells := 10, slots := 463, locals := 62 }
set_option maxRecDepth 100000 in
set_option maxHeartbeats 4000000 in
theorem c_X5_init (l : Launch) (D : zD) (sz : Nat) (τ : zT) (g : zG) (a : Nat) (h0 : 0 < sz) (hta : τ a = some (.inr 16)) : zCon l D yX5_init cX5_init 1 none rm_X5_init 10 463 zrV [.ref a] sz τ g (t_X5_init τ sz a) (f_X5_init sz a g) := by
  refine zCon.of (by decide) (Nat.le_of_ble_eq_true rfl) (fun E r g' hl hR hsz hnm F => ?_)
  have F : zF E D (zA τ sz) cX5_init "TypeChain$Rules" 1 none := F
  have hnm : E.2.2.2.2.2.2.2.2.1.name = "<init>" := hnm
  show zSim (fun q : Int32 × zG => q = (r, g')) (f_X5_init sz a g) (zAt E D (zA τ sz) (zQ E D zrV 10 463 sz τ (t_X5_init τ sz a) r g') 1 (sz, τ, 0, 0) g 0 [(0, .ref a)] [])
  unfold f_X5_init
  refine z_lt (fun hlt => ?_)
  have hlt_a : a < sz := hlt a _ hta
  refine z_aload_n F 0 rfl rfl dX5_init_0 ?_
  refine z_objInit F q_34 q_27 q_28 (by rw [hR]; exact ⟨by decide, by decide⟩) (Nat.le_of_ble_eq_true rfl) dX5_init_1 ?_
  refine z_aload_n F 0 rfl rfl dX5_init_4 ?_
  refine z_new (C := (RX0, TX0, 4)) (c := 0) F rfl (by decide) inZ0 tyX0_ok (zdv_X0 _) q_35 q_36 q_3 (by show 0 < _; omega) (by rw [hR]; exact Nat.le_of_ble_eq_true rfl) (by rw [hR]; exact Nat.le_of_ble_eq_true rfl) dX5_init_5 ?_
  have ht2 : (zts τ sz (.inr 11)) sz = some (.inr 11) := zts_same _ _ _
  have ht3 : (zts τ sz (.inr 11)) a = some (.inr 16) := zts_ne hta (by omega)
  show zSim _ _ (zAt E D (zA τ sz) (zQ E D zrV 10 463 sz τ (t_X5_init τ sz a) r g') 1 (sz + 1, (zts τ sz (.inr 11)), 1, 4) (zz g sz) 8 [(0, .ref a)] [.ref sz, .ref a])
  refine z_letg (fun g1 => ?_)
  refine z_dup F rfl dX5_init_8 ?_
  refine z_callI (κ := (sz + 1, (zts τ sz (.inr 11)), 1, 4)) F (n := 0) (mc := 1) (ms := 48) (rm := rm_X0_init) (rv := zrV) (As := []) (st := [.ref sz, .ref a]) ⟨q_39, q_3, by decide +kernel, rfl, rfl, by rw [hR]; decide, by rw [hR]; decide⟩ (c_X0_init E.2.1 D (sz + 1) (zts τ sz (.inr 11)) g1 sz (by omega) ht2) (Or.inr ⟨_, q_37⟩) q_38 rfl rfl ⟨by rw [hR]; exact Nat.le_of_ble_eq_true rfl, by rw [hR]; exact Nat.le_of_ble_eq_true rfl⟩ (Nat.le_of_ble_eq_true rfl) dX5_init_9 (fun v5 g4 => ?_) _ rfl
  have ht6 : (t_X0_init (zts τ sz (.inr 11)) (sz + 1) sz) sz = some (.inr 0) := t_X0_init_new _ _ _ (by omega)
  have ht7 : (t_X0_init (zts τ sz (.inr 11)) (sz + 1) sz) a = some (.inr 16) := t_X0_init_old ht3 (by omega) (by omega)
  show zSim _ _ (zAt E D (zA τ sz) (zQ E D zrV 10 463 sz τ (t_X5_init τ sz a) r g') 1 (sz + 2, (t_X0_init (zts τ sz (.inr 11)) (sz + 1) sz), 2, 52) g4 12 [(0, .ref a)] [.ref sz, .ref a])
  refine z_putRs (c := 5) (r := (RX5, TX5, 4)) (k := 0) F ht7 (by decide) rfl inZ5 tyX5_ok nmX5 (by decide) q_135 hnm rfl (Or.inl ⟨_, rfl⟩) (by omega) dX5_init_12 ?_
  refine z_letg (fun g8 => ?_)
  refine z_aload_n F 0 rfl rfl dX5_init_15 ?_
  refine z_new (C := (RX3, TX3, 7)) (c := 3) F rfl (by decide) inZ3 tyX3_ok (zdv_X3 _) q_67 q_68 q_4 (by show 0 < _; omega) (by rw [hR]; exact Nat.le_of_ble_eq_true rfl) (by rw [hR]; exact Nat.le_of_ble_eq_true rfl) dX5_init_16 ?_
  have ht10 : (zts (t_X0_init (zts τ sz (.inr 11)) (sz + 1) sz) (sz + 2) (.inr 14)) (sz + 2) = some (.inr 14) := zts_same _ _ _
  have ht11 : (zts (t_X0_init (zts τ sz (.inr 11)) (sz + 1) sz) (sz + 2) (.inr 14)) a = some (.inr 16) := zts_ne ht7 (by omega)
  show zSim _ _ (zAt E D (zA τ sz) (zQ E D zrV 10 463 sz τ (t_X5_init τ sz a) r g') 1 (sz + 3, (zts (t_X0_init (zts τ sz (.inr 11)) (sz + 1) sz) (sz + 2) (.inr 14)), 3, 59) (zz g8 (sz + 2)) 19 [(0, .ref a)] [.ref (sz + 2), .ref a])
  refine z_letg (fun g9 => ?_)
  refine z_dup F rfl dX5_init_19 ?_
  refine z_callI (κ := (sz + 3, (zts (t_X0_init (zts τ sz (.inr 11)) (sz + 1) sz) (sz + 2) (.inr 14)), 3, 59)) F (n := 0) (mc := 5) (ms := 336) (rm := rm_X3_init) (rv := zrV) (As := []) (st := [.ref (sz + 2), .ref a]) ⟨q_71, q_4, by decide +kernel, rfl, rfl, by rw [hR]; decide, by rw [hR]; decide⟩ (c_X3_init E.2.1 D (sz + 3) (zts (t_X0_init (zts τ sz (.inr 11)) (sz + 1) sz) (sz + 2) (.inr 14)) g9 (sz + 2) (by omega) ht10) (Or.inr ⟨_, q_69⟩) q_70 rfl rfl ⟨by rw [hR]; exact Nat.le_of_ble_eq_true rfl, by rw [hR]; exact Nat.le_of_ble_eq_true rfl⟩ (Nat.le_of_ble_eq_true rfl) dX5_init_20 (fun v13 g12 => ?_) _ rfl
  have ht14 : (t_X3_init (zts (t_X0_init (zts τ sz (.inr 11)) (sz + 1) sz) (sz + 2) (.inr 14)) (sz + 3) (sz + 2)) (sz + 2) = some (.inr 3) := t_X3_init_new _ _ _ (by omega)
  have ht15 : (t_X3_init (zts (t_X0_init (zts τ sz (.inr 11)) (sz + 1) sz) (sz + 2) (.inr 14)) (sz + 3) (sz + 2)) a = some (.inr 16) := t_X3_init_old ht11 (by omega) (by omega)
  show zSim _ _ (zAt E D (zA τ sz) (zQ E D zrV 10 463 sz τ (t_X5_init τ sz a) r g') 1 (sz + 8, (t_X3_init (zts (t_X0_init (zts τ sz (.inr 11)) (sz + 1) sz) (sz + 2) (.inr 14)) (sz + 3) (sz + 2)), 8, 395) g12 23 [(0, .ref a)] [.ref (sz + 2), .ref a])
  refine z_putRs (c := 5) (r := (RX5, TX5, 4)) (k := 1) F ht15 (by decide) rfl inZ5 tyX5_ok nmX5 (by decide) q_139 hnm rfl (Or.inl ⟨_, rfl⟩) (by omega) dX5_init_23 ?_
  refine z_letg (fun g16 => ?_)
  refine z_aload_n F 0 rfl rfl dX5_init_26 ?_
  refine z_bipush (v := 8) F (by decide) dX5_init_27 ?_
  refine z_newa (ty := .int) (N := 8) F rfl (by decide) q_66 rfl (by decide) (by decide) (by decide) (by show 0 < _; omega) (by rw [hR]; exact Nat.le_of_ble_eq_true rfl) (by rw [hR]; exact Nat.le_of_ble_eq_true rfl) dX5_init_29 ?_
  have ht18 : (zts (t_X3_init (zts (t_X0_init (zts τ sz (.inr 11)) (sz + 1) sz) (sz + 2) (.inr 14)) (sz + 3) (sz + 2)) (sz + 8) (.inl (.int, 8))) (sz + 8) = some (.inl (.int, 8)) := zts_same _ _ _
  have ht19 : (zts (t_X3_init (zts (t_X0_init (zts τ sz (.inr 11)) (sz + 1) sz) (sz + 2) (.inr 14)) (sz + 3) (sz + 2)) (sz + 8) (.inl (.int, 8))) a = some (.inr 16) := zts_ne ht15 (by omega)
  show zSim _ _ (zAt E D (zA τ sz) (zQ E D zrV 10 463 sz τ (t_X5_init τ sz a) r g') 1 (sz + 9, (zts (t_X3_init (zts (t_X0_init (zts τ sz (.inr 11)) (sz + 1) sz) (sz + 2) (.inr 14)) (sz + 3) (sz + 2)) (sz + 8) (.inl (.int, 8))), 9, 403) (zz g16 (sz + 8)) 31 [(0, .ref a)] [.ref (sz + 8), .ref a])
  refine z_letg (fun g17 => ?_)
  refine z_putRs (c := 5) (r := (RX5, TX5, 4)) (k := 2) F ht19 (by decide) rfl inZ5 tyX5_ok nmX5 (by decide) q_144 hnm rfl (Or.inr ⟨_, rfl⟩) (by omega) dX5_init_31 ?_
  refine z_letg (fun g20 => ?_)
  refine z_aload_n F 0 rfl rfl dX5_init_34 ?_
  refine z_bipush (v := 60) F (by decide) dX5_init_35 ?_
  refine z_newa (ty := .int) (N := 60) F rfl (by decide) q_66 rfl (by decide) (by decide) (by decide) (by show 0 < _; omega) (by rw [hR]; exact Nat.le_of_ble_eq_true rfl) (by rw [hR]; exact Nat.le_of_ble_eq_true rfl) dX5_init_37 ?_
  have ht22 : (zts (zts (t_X3_init (zts (t_X0_init (zts τ sz (.inr 11)) (sz + 1) sz) (sz + 2) (.inr 14)) (sz + 3) (sz + 2)) (sz + 8) (.inl (.int, 8))) (sz + 9) (.inl (.int, 60))) (sz + 9) = some (.inl (.int, 60)) := zts_same _ _ _
  have ht23 : (zts (zts (t_X3_init (zts (t_X0_init (zts τ sz (.inr 11)) (sz + 1) sz) (sz + 2) (.inr 14)) (sz + 3) (sz + 2)) (sz + 8) (.inl (.int, 8))) (sz + 9) (.inl (.int, 60))) a = some (.inr 16) := zts_ne ht19 (by omega)
  show zSim _ _ (zAt E D (zA τ sz) (zQ E D zrV 10 463 sz τ (t_X5_init τ sz a) r g') 1 (sz + 10, (zts (zts (t_X3_init (zts (t_X0_init (zts τ sz (.inr 11)) (sz + 1) sz) (sz + 2) (.inr 14)) (sz + 3) (sz + 2)) (sz + 8) (.inl (.int, 8))) (sz + 9) (.inl (.int, 60))), 10, 463) (zz g20 (sz + 9)) 39 [(0, .ref a)] [.ref (sz + 9), .ref a])
  refine z_letg (fun g21 => ?_)
  refine z_putRs (c := 5) (r := (RX5, TX5, 4)) (k := 3) F ht23 (by decide) rfl inZ5 tyX5_ok nmX5 (by decide) q_148 hnm rfl (Or.inr ⟨_, rfl⟩) (by omega) dX5_init_39 ?_
  refine z_letg (fun g24 => ?_)
  have ht26 : (zts (zts (t_X3_init (zts (t_X0_init (zts τ sz (.inr 11)) (sz + 1) sz) (sz + 2) (.inr 14)) (sz + 3) (sz + 2)) (sz + 8) (.inl (.int, 8))) (sz + 9) (.inl (.int, 60))) sz = some (.inr 0) := by repeat (first | exact ht6 | refine zts_ne ?_ (by omega) | refine t_X0_init_old ?_ (by omega) (by omega) | refine t_X1_init_old ?_ (by omega) (by omega) | refine t_X3_init_old ?_ (by omega) (by omega) | refine t_X4_init_old ?_ (by omega) (by omega))
  have ht27 : (zts (zts (t_X3_init (zts (t_X0_init (zts τ sz (.inr 11)) (sz + 1) sz) (sz + 2) (.inr 14)) (sz + 3) (sz + 2)) (sz + 8) (.inl (.int, 8))) (sz + 9) (.inl (.int, 60))) (sz + 2) = some (.inr 3) := by repeat (first | exact ht14 | refine zts_ne ?_ (by omega) | refine t_X0_init_old ?_ (by omega) (by omega) | refine t_X1_init_old ?_ (by omega) (by omega) | refine t_X3_init_old ?_ (by omega) (by omega) | refine t_X4_init_old ?_ (by omega) (by omega))
  have ht28 : (zts (zts (t_X3_init (zts (t_X0_init (zts τ sz (.inr 11)) (sz + 1) sz) (sz + 2) (.inr 14)) (sz + 3) (sz + 2)) (sz + 8) (.inl (.int, 8))) (sz + 9) (.inl (.int, 60))) (sz + 8) = some (.inl (.int, 8)) := by repeat (first | exact ht18 | refine zts_ne ?_ (by omega) | refine t_X0_init_old ?_ (by omega) (by omega) | refine t_X1_init_old ?_ (by omega) (by omega) | refine t_X3_init_old ?_ (by omega) (by omega) | refine t_X4_init_old ?_ (by omega) (by omega))
  refine z_zc (fun hck25 => ?_)
  refine z_prom (c := 16) (c2 := 5) ht23 rfl (fun hw => zprom_X5 hw ht23 (by rw [hck25.1]; exact ht26) (by rw [hck25.2.1]; exact ht27) (by rw [hck25.2.2.1]; exact ht28) (by rw [hck25.2.2.2]; exact ht22)) ?_
  have ht29 : (zts (zts (zts (t_X3_init (zts (t_X0_init (zts τ sz (.inr 11)) (sz + 1) sz) (sz + 2) (.inr 14)) (sz + 3) (sz + 2)) (sz + 8) (.inl (.int, 8))) (sz + 9) (.inl (.int, 60))) a (.inr 5)) a = some (.inr 5) := zts_same _ _ _
  show zSim _ _ (zAt E D (zA τ sz) (zQ E D zrV 10 463 sz τ (t_X5_init τ sz a) r g') 1 (sz + 10, (zts (zts (zts (t_X3_init (zts (t_X0_init (zts τ sz (.inr 11)) (sz + 1) sz) (sz + 2) (.inr 14)) (sz + 3) (sz + 2)) (sz + 8) (.inl (.int, 8))) (sz + 9) (.inl (.int, 60))) a (.inr 5)), 10, 463) g24 42 [(0, .ref a)] [])
  refine z_aload_n F 0 rfl rfl dX5_init_42 ?_
  refine k_X5_beAtFirst (κ := (sz + 10, (zts (zts (zts (t_X3_init (zts (t_X0_init (zts τ sz (.inr 11)) (sz + 1) sz) (sz + 2) (.inr 14)) (sz + 3) (sz + 2)) (sz + 8) (.inl (.int, 8))) (sz + 9) (.inl (.int, 60))) a (.inr 5)), 10, 463)) F (by rw [hR]; exact ⟨by decide, by decide⟩) q_105 ht29 ⟨by rw [hR]; exact Nat.le_of_ble_eq_true rfl, by rw [hR]; exact Nat.le_of_ble_eq_true rfl⟩ (Nat.le_of_ble_eq_true rfl) dX5_init_43 (fun v30 g31 => ?_)
  refine z_aload_n F 0 rfl rfl dX5_init_46 ?_
  refine k_X5_settle (κ := (sz + 10, (zts (zts (zts (t_X3_init (zts (t_X0_init (zts τ sz (.inr 11)) (sz + 1) sz) (sz + 2) (.inr 14)) (sz + 3) (sz + 2)) (sz + 8) (.inl (.int, 8))) (sz + 9) (.inl (.int, 60))) a (.inr 5)), 10, 463)) F (by rw [hR]; exact ⟨by decide, by decide⟩) q_121 ht29 ⟨by rw [hR]; exact Nat.le_of_ble_eq_true rfl, by rw [hR]; exact Nat.le_of_ble_eq_true rfl⟩ (Nat.le_of_ble_eq_true rfl) dX5_init_47 (fun v32 g33 => ?_)
  exact z_vreturn F rfl rfl rfl rfl (fun h => h) dX5_init_50
theorem dX6_init_0 : decode cX6_init 0 = .ok (.aload_n 0, 1) := by decide +kernel
theorem dX6_init_1 : decode cX6_init 1 = .ok (.invokespecial 3, 3) := by decide +kernel
theorem dX6_init_4 : decode cX6_init 4 = .ok (.aload_n 0, 1) := by decide +kernel
theorem dX6_init_5 : decode cX6_init 5 = .ok (.iconst 4, 1) := by decide +kernel
theorem dX6_init_6 : decode cX6_init 6 = .ok (.newarray .int, 2) := by decide +kernel
theorem dX6_init_8 : decode cX6_init 8 = .ok (.putfield 9, 3) := by decide +kernel
theorem dX6_init_11 : decode cX6_init 11 = .ok (.aload_n 0, 1) := by decide +kernel
theorem dX6_init_12 : decode cX6_init 12 = .ok (.iconst 4, 1) := by decide +kernel
theorem dX6_init_13 : decode cX6_init 13 = .ok (.newarray .int, 2) := by decide +kernel
theorem dX6_init_15 : decode cX6_init 15 = .ok (.putfield 15, 3) := by decide +kernel
theorem dX6_init_18 : decode cX6_init 18 = .ok (.aload_n 0, 1) := by decide +kernel
theorem dX6_init_19 : decode cX6_init 19 = .ok (.sipush 160, 3) := by decide +kernel
theorem dX6_init_22 : decode cX6_init 22 = .ok (.newarray .int, 2) := by decide +kernel
theorem dX6_init_24 : decode cX6_init 24 = .ok (.putfield 18, 3) := by decide +kernel
theorem dX6_init_27 : decode cX6_init 27 = .ok (.aload_n 0, 1) := by decide +kernel
theorem dX6_init_28 : decode cX6_init 28 = .ok (.getfield 15, 3) := by decide +kernel
theorem dX6_init_31 : decode cX6_init 31 = .ok (.iconst (-1), 1) := by decide +kernel
theorem dX6_init_32 : decode cX6_init 32 = .ok (.invokestatic 21, 3) := by decide +kernel
theorem dX6_init_35 : decode cX6_init 35 = .ok (.return_, 1) := by decide +kernel
def t_X6_init (τ : zT) (sz a : Nat) : zT := (zts (zts (zts (zts τ sz (.inl (.int, 4))) (sz + 1) (.inl (.int, 4))) (sz + 2) (.inl (.int, 160))) a (.inr 6))
theorem t_X6_init_new (τ : zT) (sz a : Nat) (h : a < sz) : t_X6_init τ sz a a = some (.inr 6) := by
  unfold t_X6_init
  first | exact zts_same _ _ _ | (repeat (first | exact zts_same _ _ _ | refine zts_ne ?_ (by omega)))
theorem t_X6_init_old {τ : zT} {sz a e : Nat} {x : Option zS} (h : τ e = x) (he : e < sz) (ha : e ≠ a) : t_X6_init τ sz a e = x := by
  unfold t_X6_init
  repeat (first | exact h | refine zts_ne ?_ (by omega) | refine t_X0_init_old ?_ (by omega) (by omega) | refine t_X1_init_old ?_ (by omega) (by omega) | refine t_X3_init_old ?_ (by omega) (by omega) | refine t_X4_init_old ?_ (by omega) (by omega) | refine t_X5_init_old ?_ (by omega) (by omega))
def f_X6_init (sz : Nat) (a : Nat) (g : zG) : Option (Int32 × zG) :=
  zl (zz g sz) (fun g1 => zl (zsr g1 a 0 sz) (fun g4 => zl (zz g4 (sz + 1)) (fun g5 => zl (zsr g5 a 1 (sz + 1)) (fun g8 => zl (zz g8 (sz + 2)) (fun g9 => zl (zsr g9 a 2 (sz + 2)) (fun g12 => zc (g12.2.1 a 0 = sz ∧ g12.2.1 a 1 = (sz + 1) ∧ g12.2.1 a 2 = (sz + 2)) (zb (f_J7_fill_53178 4 (g12.2.1 a 1) (-1) g12) (fun v18 g19 => some (0, g19)))))))))
abbrev rm_X6_init : Room := { frames := 1, cells := 3, slots := 168, locals := 23 }
set_option maxRecDepth 100000 in
set_option maxHeartbeats 4000000 in
theorem c_X6_init (l : Launch) (D : zD) (sz : Nat) (τ : zT) (g : zG) (a : Nat) (h0 : 0 < sz) (hta : τ a = some (.inr 17)) : zCon l D yX6_init cX6_init 1 none rm_X6_init 3 168 zrV [.ref a] sz τ g (t_X6_init τ sz a) (f_X6_init sz a g) := by
  refine zCon.of (by decide) (Nat.le_of_ble_eq_true rfl) (fun E r g' hl hR hsz hnm F => ?_)
  have F : zF E D (zA τ sz) cX6_init "TypeChain$Sheets" 1 none := F
  have hnm : E.2.2.2.2.2.2.2.2.1.name = "<init>" := hnm
  show zSim (fun q : Int32 × zG => q = (r, g')) (f_X6_init sz a g) (zAt E D (zA τ sz) (zQ E D zrV 3 168 sz τ (t_X6_init τ sz a) r g') 1 (sz, τ, 0, 0) g 0 [(0, .ref a)] [])
  unfold f_X6_init
  refine z_lt (fun hlt => ?_)
  have hlt_a : a < sz := hlt a _ hta
  refine z_aload_n F 0 rfl rfl dX6_init_0 ?_
  refine z_objInit F q_370 q_27 q_28 (by rw [hR]; exact ⟨by decide, by decide⟩) (Nat.le_of_ble_eq_true rfl) dX6_init_1 ?_
  refine z_aload_n F 0 rfl rfl dX6_init_4 ?_
  refine z_iconst (v := 4) F (by decide) dX6_init_5 ?_
  refine z_newa (ty := .int) (N := 4) F rfl (by decide) q_66 rfl (by decide) (by decide) (by decide) (by show 0 < _; omega) (by rw [hR]; exact Nat.le_of_ble_eq_true rfl) (by rw [hR]; exact Nat.le_of_ble_eq_true rfl) dX6_init_6 ?_
  have ht2 : (zts τ sz (.inl (.int, 4))) sz = some (.inl (.int, 4)) := zts_same _ _ _
  have ht3 : (zts τ sz (.inl (.int, 4))) a = some (.inr 17) := zts_ne hta (by omega)
  show zSim _ _ (zAt E D (zA τ sz) (zQ E D zrV 3 168 sz τ (t_X6_init τ sz a) r g') 1 (sz + 1, (zts τ sz (.inl (.int, 4))), 1, 4) (zz g sz) 8 [(0, .ref a)] [.ref sz, .ref a])
  refine z_letg (fun g1 => ?_)
  refine z_putRs (c := 6) (r := (RX6, TX6, 3)) (k := 0) F ht3 (by decide) rfl inZ6 tyX6_ok nmX6 (by decide) q_372 hnm rfl (Or.inr ⟨_, rfl⟩) (by omega) dX6_init_8 ?_
  refine z_letg (fun g4 => ?_)
  refine z_aload_n F 0 rfl rfl dX6_init_11 ?_
  refine z_iconst (v := 4) F (by decide) dX6_init_12 ?_
  refine z_newa (ty := .int) (N := 4) F rfl (by decide) q_66 rfl (by decide) (by decide) (by decide) (by show 0 < _; omega) (by rw [hR]; exact Nat.le_of_ble_eq_true rfl) (by rw [hR]; exact Nat.le_of_ble_eq_true rfl) dX6_init_13 ?_
  have ht6 : (zts (zts τ sz (.inl (.int, 4))) (sz + 1) (.inl (.int, 4))) (sz + 1) = some (.inl (.int, 4)) := zts_same _ _ _
  have ht7 : (zts (zts τ sz (.inl (.int, 4))) (sz + 1) (.inl (.int, 4))) a = some (.inr 17) := zts_ne ht3 (by omega)
  show zSim _ _ (zAt E D (zA τ sz) (zQ E D zrV 3 168 sz τ (t_X6_init τ sz a) r g') 1 (sz + 2, (zts (zts τ sz (.inl (.int, 4))) (sz + 1) (.inl (.int, 4))), 2, 8) (zz g4 (sz + 1)) 15 [(0, .ref a)] [.ref (sz + 1), .ref a])
  refine z_letg (fun g5 => ?_)
  refine z_putRs (c := 6) (r := (RX6, TX6, 3)) (k := 1) F ht7 (by decide) rfl inZ6 tyX6_ok nmX6 (by decide) q_374 hnm rfl (Or.inr ⟨_, rfl⟩) (by omega) dX6_init_15 ?_
  refine z_letg (fun g8 => ?_)
  refine z_aload_n F 0 rfl rfl dX6_init_18 ?_
  refine z_sipush (v := 160) F (by decide) dX6_init_19 ?_
  refine z_newa (ty := .int) (N := 160) F rfl (by decide) q_66 rfl (by decide) (by decide) (by decide) (by show 0 < _; omega) (by rw [hR]; exact Nat.le_of_ble_eq_true rfl) (by rw [hR]; exact Nat.le_of_ble_eq_true rfl) dX6_init_22 ?_
  have ht10 : (zts (zts (zts τ sz (.inl (.int, 4))) (sz + 1) (.inl (.int, 4))) (sz + 2) (.inl (.int, 160))) (sz + 2) = some (.inl (.int, 160)) := zts_same _ _ _
  have ht11 : (zts (zts (zts τ sz (.inl (.int, 4))) (sz + 1) (.inl (.int, 4))) (sz + 2) (.inl (.int, 160))) a = some (.inr 17) := zts_ne ht7 (by omega)
  show zSim _ _ (zAt E D (zA τ sz) (zQ E D zrV 3 168 sz τ (t_X6_init τ sz a) r g') 1 (sz + 3, (zts (zts (zts τ sz (.inl (.int, 4))) (sz + 1) (.inl (.int, 4))) (sz + 2) (.inl (.int, 160))), 3, 168) (zz g8 (sz + 2)) 24 [(0, .ref a)] [.ref (sz + 2), .ref a])
  refine z_letg (fun g9 => ?_)
  refine z_putRs (c := 6) (r := (RX6, TX6, 3)) (k := 2) F ht11 (by decide) rfl inZ6 tyX6_ok nmX6 (by decide) q_376 hnm rfl (Or.inr ⟨_, rfl⟩) (by omega) dX6_init_24 ?_
  refine z_letg (fun g12 => ?_)
  have ht14 : (zts (zts (zts τ sz (.inl (.int, 4))) (sz + 1) (.inl (.int, 4))) (sz + 2) (.inl (.int, 160))) sz = some (.inl (.int, 4)) := by repeat (first | exact ht2 | refine zts_ne ?_ (by omega) | refine t_X0_init_old ?_ (by omega) (by omega) | refine t_X1_init_old ?_ (by omega) (by omega) | refine t_X3_init_old ?_ (by omega) (by omega) | refine t_X4_init_old ?_ (by omega) (by omega) | refine t_X5_init_old ?_ (by omega) (by omega))
  have ht15 : (zts (zts (zts τ sz (.inl (.int, 4))) (sz + 1) (.inl (.int, 4))) (sz + 2) (.inl (.int, 160))) (sz + 1) = some (.inl (.int, 4)) := by repeat (first | exact ht6 | refine zts_ne ?_ (by omega) | refine t_X0_init_old ?_ (by omega) (by omega) | refine t_X1_init_old ?_ (by omega) (by omega) | refine t_X3_init_old ?_ (by omega) (by omega) | refine t_X4_init_old ?_ (by omega) (by omega) | refine t_X5_init_old ?_ (by omega) (by omega))
  refine z_zc (fun hck13 => ?_)
  refine z_prom (c := 17) (c2 := 6) ht11 rfl (fun hw => zprom_X6 hw ht11 (by rw [hck13.1]; exact ht14) (by rw [hck13.2.1]; exact ht15) (by rw [hck13.2.2]; exact ht10)) ?_
  have ht16 : (zts (zts (zts (zts τ sz (.inl (.int, 4))) (sz + 1) (.inl (.int, 4))) (sz + 2) (.inl (.int, 160))) a (.inr 6)) a = some (.inr 6) := zts_same _ _ _
  show zSim _ _ (zAt E D (zA τ sz) (zQ E D zrV 3 168 sz τ (t_X6_init τ sz a) r g') 1 (sz + 3, (zts (zts (zts (zts τ sz (.inl (.int, 4))) (sz + 1) (.inl (.int, 4))) (sz + 2) (.inl (.int, 160))) a (.inr 6)), 3, 168) g12 27 [(0, .ref a)] [])
  refine z_aload_n F 0 rfl rfl dX6_init_27 ?_
  refine gf_X6_15 F ht16 dX6_init_28 (fun ht17 => ?_)
  refine z_iconst (v := (-1)) F (by decide) dX6_init_31 ?_
  refine k_J7_fill_53178 (κ := (sz + 3, (zts (zts (zts (zts τ sz (.inl (.int, 4))) (sz + 1) (.inl (.int, 4))) (sz + 2) (.inl (.int, 160))) a (.inr 6)), 3, 168)) F (by rw [hR]; exact ⟨by decide, by decide⟩) q_371 ht17 ⟨by rw [hR]; exact Nat.le_of_ble_eq_true rfl, by rw [hR]; exact Nat.le_of_ble_eq_true rfl⟩ (Nat.le_of_ble_eq_true rfl) dX6_init_32 (fun v18 g19 => ?_)
  exact z_vreturn F rfl rfl rfl rfl (fun h => h) dX6_init_35
theorem dX7_init_0 : decode cX7_init 0 = .ok (.aload_n 0, 1) := by decide +kernel
theorem dX7_init_1 : decode cX7_init 1 = .ok (.invokespecial 3, 3) := by decide +kernel
theorem dX7_init_4 : decode cX7_init 4 = .ok (.aload_n 0, 1) := by decide +kernel
theorem dX7_init_5 : decode cX7_init 5 = .ok (.bipush 40, 2) := by decide +kernel
theorem dX7_init_7 : decode cX7_init 7 = .ok (.newarray .int, 2) := by decide +kernel
theorem dX7_init_9 : decode cX7_init 9 = .ok (.putfield 9, 3) := by decide +kernel
theorem dX7_init_12 : decode cX7_init 12 = .ok (.aload_n 0, 1) := by decide +kernel
theorem dX7_init_13 : decode cX7_init 13 = .ok (.bipush 40, 2) := by decide +kernel
theorem dX7_init_15 : decode cX7_init 15 = .ok (.newarray .int, 2) := by decide +kernel
theorem dX7_init_17 : decode cX7_init 17 = .ok (.putfield 15, 3) := by decide +kernel
theorem dX7_init_20 : decode cX7_init 20 = .ok (.aload_n 0, 1) := by decide +kernel
theorem dX7_init_21 : decode cX7_init 21 = .ok (.bipush 40, 2) := by decide +kernel
theorem dX7_init_23 : decode cX7_init 23 = .ok (.newarray .int, 2) := by decide +kernel
theorem dX7_init_25 : decode cX7_init 25 = .ok (.putfield 18, 3) := by decide +kernel
theorem dX7_init_28 : decode cX7_init 28 = .ok (.aload_n 0, 1) := by decide +kernel
theorem dX7_init_29 : decode cX7_init 29 = .ok (.bipush 40, 2) := by decide +kernel
theorem dX7_init_31 : decode cX7_init 31 = .ok (.newarray .int, 2) := by decide +kernel
theorem dX7_init_33 : decode cX7_init 33 = .ok (.putfield 21, 3) := by decide +kernel
theorem dX7_init_36 : decode cX7_init 36 = .ok (.return_, 1) := by decide +kernel
def t_X7_init (τ : zT) (sz a : Nat) : zT := (zts (zts (zts (zts (zts τ sz (.inl (.int, 40))) (sz + 1) (.inl (.int, 40))) (sz + 2) (.inl (.int, 40))) (sz + 3) (.inl (.int, 40))) a (.inr 7))
theorem t_X7_init_new (τ : zT) (sz a : Nat) (h : a < sz) : t_X7_init τ sz a a = some (.inr 7) := by
  unfold t_X7_init
  first | exact zts_same _ _ _ | (repeat (first | exact zts_same _ _ _ | refine zts_ne ?_ (by omega)))
theorem t_X7_init_old {τ : zT} {sz a e : Nat} {x : Option zS} (h : τ e = x) (he : e < sz) (ha : e ≠ a) : t_X7_init τ sz a e = x := by
  unfold t_X7_init
  repeat (first | exact h | refine zts_ne ?_ (by omega) | refine t_X0_init_old ?_ (by omega) (by omega) | refine t_X1_init_old ?_ (by omega) (by omega) | refine t_X3_init_old ?_ (by omega) (by omega) | refine t_X4_init_old ?_ (by omega) (by omega) | refine t_X5_init_old ?_ (by omega) (by omega) | refine t_X6_init_old ?_ (by omega) (by omega))
def f_X7_init (sz : Nat) (a : Nat) (g : zG) : Option (Int32 × zG) :=
  zl (zz g sz) (fun g1 => zl (zsr g1 a 0 sz) (fun g4 => zl (zz g4 (sz + 1)) (fun g5 => zl (zsr g5 a 1 (sz + 1)) (fun g8 => zl (zz g8 (sz + 2)) (fun g9 => zl (zsr g9 a 6 (sz + 2)) (fun g12 => zl (zz g12 (sz + 3)) (fun g13 => zl (zsr g13 a 7 (sz + 3)) (fun g16 => zc (g16.2.1 a 0 = sz ∧ g16.2.1 a 1 = (sz + 1) ∧ g16.2.1 a 6 = (sz + 2) ∧ g16.2.1 a 7 = (sz + 3)) (some (0, g16))))))))))
abbrev rm_X7_init : Room := { frames := 1, cells := 4, slots := 160, locals := 20 }
set_option maxRecDepth 100000 in
set_option maxHeartbeats 4000000 in
theorem c_X7_init (l : Launch) (D : zD) (sz : Nat) (τ : zT) (g : zG) (a : Nat) (h0 : 0 < sz) (hta : τ a = some (.inr 18)) : zCon l D yX7_init cX7_init 1 none rm_X7_init 4 160 zrV [.ref a] sz τ g (t_X7_init τ sz a) (f_X7_init sz a g) := by
  refine zCon.of (by decide) (Nat.le_of_ble_eq_true rfl) (fun E r g' hl hR hsz hnm F => ?_)
  have F : zF E D (zA τ sz) cX7_init "TypeChain$Strike" 1 none := F
  have hnm : E.2.2.2.2.2.2.2.2.1.name = "<init>" := hnm
  show zSim (fun q : Int32 × zG => q = (r, g')) (f_X7_init sz a g) (zAt E D (zA τ sz) (zQ E D zrV 4 160 sz τ (t_X7_init τ sz a) r g') 1 (sz, τ, 0, 0) g 0 [(0, .ref a)] [])
  unfold f_X7_init
  refine z_lt (fun hlt => ?_)
  have hlt_a : a < sz := hlt a _ hta
  refine z_aload_n F 0 rfl rfl dX7_init_0 ?_
  refine z_objInit F q_240 q_27 q_28 (by rw [hR]; exact ⟨by decide, by decide⟩) (Nat.le_of_ble_eq_true rfl) dX7_init_1 ?_
  refine z_aload_n F 0 rfl rfl dX7_init_4 ?_
  refine z_bipush (v := 40) F (by decide) dX7_init_5 ?_
  refine z_newa (ty := .int) (N := 40) F rfl (by decide) q_66 rfl (by decide) (by decide) (by decide) (by show 0 < _; omega) (by rw [hR]; exact Nat.le_of_ble_eq_true rfl) (by rw [hR]; exact Nat.le_of_ble_eq_true rfl) dX7_init_7 ?_
  have ht2 : (zts τ sz (.inl (.int, 40))) sz = some (.inl (.int, 40)) := zts_same _ _ _
  have ht3 : (zts τ sz (.inl (.int, 40))) a = some (.inr 18) := zts_ne hta (by omega)
  show zSim _ _ (zAt E D (zA τ sz) (zQ E D zrV 4 160 sz τ (t_X7_init τ sz a) r g') 1 (sz + 1, (zts τ sz (.inl (.int, 40))), 1, 40) (zz g sz) 9 [(0, .ref a)] [.ref sz, .ref a])
  refine z_letg (fun g1 => ?_)
  refine z_putRs (c := 7) (r := (RX7, TX7, 9)) (k := 0) F ht3 (by decide) rfl inZ7 tyX7_ok nmX7 (by decide) q_241 hnm rfl (Or.inr ⟨_, rfl⟩) (by omega) dX7_init_9 ?_
  refine z_letg (fun g4 => ?_)
  refine z_aload_n F 0 rfl rfl dX7_init_12 ?_
  refine z_bipush (v := 40) F (by decide) dX7_init_13 ?_
  refine z_newa (ty := .int) (N := 40) F rfl (by decide) q_66 rfl (by decide) (by decide) (by decide) (by show 0 < _; omega) (by rw [hR]; exact Nat.le_of_ble_eq_true rfl) (by rw [hR]; exact Nat.le_of_ble_eq_true rfl) dX7_init_15 ?_
  have ht6 : (zts (zts τ sz (.inl (.int, 40))) (sz + 1) (.inl (.int, 40))) (sz + 1) = some (.inl (.int, 40)) := zts_same _ _ _
  have ht7 : (zts (zts τ sz (.inl (.int, 40))) (sz + 1) (.inl (.int, 40))) a = some (.inr 18) := zts_ne ht3 (by omega)
  show zSim _ _ (zAt E D (zA τ sz) (zQ E D zrV 4 160 sz τ (t_X7_init τ sz a) r g') 1 (sz + 2, (zts (zts τ sz (.inl (.int, 40))) (sz + 1) (.inl (.int, 40))), 2, 80) (zz g4 (sz + 1)) 17 [(0, .ref a)] [.ref (sz + 1), .ref a])
  refine z_letg (fun g5 => ?_)
  refine z_putRs (c := 7) (r := (RX7, TX7, 9)) (k := 1) F ht7 (by decide) rfl inZ7 tyX7_ok nmX7 (by decide) q_243 hnm rfl (Or.inr ⟨_, rfl⟩) (by omega) dX7_init_17 ?_
  refine z_letg (fun g8 => ?_)
  refine z_aload_n F 0 rfl rfl dX7_init_20 ?_
  refine z_bipush (v := 40) F (by decide) dX7_init_21 ?_
  refine z_newa (ty := .int) (N := 40) F rfl (by decide) q_66 rfl (by decide) (by decide) (by decide) (by show 0 < _; omega) (by rw [hR]; exact Nat.le_of_ble_eq_true rfl) (by rw [hR]; exact Nat.le_of_ble_eq_true rfl) dX7_init_23 ?_
  have ht10 : (zts (zts (zts τ sz (.inl (.int, 40))) (sz + 1) (.inl (.int, 40))) (sz + 2) (.inl (.int, 40))) (sz + 2) = some (.inl (.int, 40)) := zts_same _ _ _
  have ht11 : (zts (zts (zts τ sz (.inl (.int, 40))) (sz + 1) (.inl (.int, 40))) (sz + 2) (.inl (.int, 40))) a = some (.inr 18) := zts_ne ht7 (by omega)
  show zSim _ _ (zAt E D (zA τ sz) (zQ E D zrV 4 160 sz τ (t_X7_init τ sz a) r g') 1 (sz + 3, (zts (zts (zts τ sz (.inl (.int, 40))) (sz + 1) (.inl (.int, 40))) (sz + 2) (.inl (.int, 40))), 3, 120) (zz g8 (sz + 2)) 25 [(0, .ref a)] [.ref (sz + 2), .ref a])
  refine z_letg (fun g9 => ?_)
  refine z_putRs (c := 7) (r := (RX7, TX7, 9)) (k := 6) F ht11 (by decide) rfl inZ7 tyX7_ok nmX7 (by decide) q_254 hnm rfl (Or.inr ⟨_, rfl⟩) (by omega) dX7_init_25 ?_
  refine z_letg (fun g12 => ?_)
  refine z_aload_n F 0 rfl rfl dX7_init_28 ?_
  refine z_bipush (v := 40) F (by decide) dX7_init_29 ?_
  refine z_newa (ty := .int) (N := 40) F rfl (by decide) q_66 rfl (by decide) (by decide) (by decide) (by show 0 < _; omega) (by rw [hR]; exact Nat.le_of_ble_eq_true rfl) (by rw [hR]; exact Nat.le_of_ble_eq_true rfl) dX7_init_31 ?_
  have ht14 : (zts (zts (zts (zts τ sz (.inl (.int, 40))) (sz + 1) (.inl (.int, 40))) (sz + 2) (.inl (.int, 40))) (sz + 3) (.inl (.int, 40))) (sz + 3) = some (.inl (.int, 40)) := zts_same _ _ _
  have ht15 : (zts (zts (zts (zts τ sz (.inl (.int, 40))) (sz + 1) (.inl (.int, 40))) (sz + 2) (.inl (.int, 40))) (sz + 3) (.inl (.int, 40))) a = some (.inr 18) := zts_ne ht11 (by omega)
  show zSim _ _ (zAt E D (zA τ sz) (zQ E D zrV 4 160 sz τ (t_X7_init τ sz a) r g') 1 (sz + 4, (zts (zts (zts (zts τ sz (.inl (.int, 40))) (sz + 1) (.inl (.int, 40))) (sz + 2) (.inl (.int, 40))) (sz + 3) (.inl (.int, 40))), 4, 160) (zz g12 (sz + 3)) 33 [(0, .ref a)] [.ref (sz + 3), .ref a])
  refine z_letg (fun g13 => ?_)
  refine z_putRs (c := 7) (r := (RX7, TX7, 9)) (k := 7) F ht15 (by decide) rfl inZ7 tyX7_ok nmX7 (by decide) q_255 hnm rfl (Or.inr ⟨_, rfl⟩) (by omega) dX7_init_33 ?_
  refine z_letg (fun g16 => ?_)
  have ht18 : (zts (zts (zts (zts τ sz (.inl (.int, 40))) (sz + 1) (.inl (.int, 40))) (sz + 2) (.inl (.int, 40))) (sz + 3) (.inl (.int, 40))) sz = some (.inl (.int, 40)) := by repeat (first | exact ht2 | refine zts_ne ?_ (by omega) | refine t_X0_init_old ?_ (by omega) (by omega) | refine t_X1_init_old ?_ (by omega) (by omega) | refine t_X3_init_old ?_ (by omega) (by omega) | refine t_X4_init_old ?_ (by omega) (by omega) | refine t_X5_init_old ?_ (by omega) (by omega) | refine t_X6_init_old ?_ (by omega) (by omega))
  have ht19 : (zts (zts (zts (zts τ sz (.inl (.int, 40))) (sz + 1) (.inl (.int, 40))) (sz + 2) (.inl (.int, 40))) (sz + 3) (.inl (.int, 40))) (sz + 1) = some (.inl (.int, 40)) := by repeat (first | exact ht6 | refine zts_ne ?_ (by omega) | refine t_X0_init_old ?_ (by omega) (by omega) | refine t_X1_init_old ?_ (by omega) (by omega) | refine t_X3_init_old ?_ (by omega) (by omega) | refine t_X4_init_old ?_ (by omega) (by omega) | refine t_X5_init_old ?_ (by omega) (by omega) | refine t_X6_init_old ?_ (by omega) (by omega))
  have ht20 : (zts (zts (zts (zts τ sz (.inl (.int, 40))) (sz + 1) (.inl (.int, 40))) (sz + 2) (.inl (.int, 40))) (sz + 3) (.inl (.int, 40))) (sz + 2) = some (.inl (.int, 40)) := by repeat (first | exact ht10 | refine zts_ne ?_ (by omega) | refine t_X0_init_old ?_ (by omega) (by omega) | refine t_X1_init_old ?_ (by omega) (by omega) | refine t_X3_init_old ?_ (by omega) (by omega) | refine t_X4_init_old ?_ (by omega) (by omega) | refine t_X5_init_old ?_ (by omega) (by omega) | refine t_X6_init_old ?_ (by omega) (by omega))
  refine z_zc (fun hck17 => ?_)
  refine z_prom (c := 18) (c2 := 7) ht15 rfl (fun hw => zprom_X7 hw ht15 (by rw [hck17.1]; exact ht18) (by rw [hck17.2.1]; exact ht19) (by rw [hck17.2.2.1]; exact ht20) (by rw [hck17.2.2.2]; exact ht14)) ?_
  have ht21 : (zts (zts (zts (zts (zts τ sz (.inl (.int, 40))) (sz + 1) (.inl (.int, 40))) (sz + 2) (.inl (.int, 40))) (sz + 3) (.inl (.int, 40))) a (.inr 7)) a = some (.inr 7) := zts_same _ _ _
  show zSim _ _ (zAt E D (zA τ sz) (zQ E D zrV 4 160 sz τ (t_X7_init τ sz a) r g') 1 (sz + 4, (zts (zts (zts (zts (zts τ sz (.inl (.int, 40))) (sz + 1) (.inl (.int, 40))) (sz + 2) (.inl (.int, 40))) (sz + 3) (.inl (.int, 40))) a (.inr 7)), 4, 160) g16 36 [(0, .ref a)] [])
  exact z_vreturn F rfl rfl rfl rfl (fun h => h) dX7_init_36
theorem dX2_init_0 : decode cX2_init 0 = .ok (.aload_n 0, 1) := by decide +kernel
theorem dX2_init_1 : decode cX2_init 1 = .ok (.invokespecial 3, 3) := by decide +kernel
theorem dX2_init_4 : decode cX2_init 4 = .ok (.aload_n 0, 1) := by decide +kernel
theorem dX2_init_5 : decode cX2_init 5 = .ok (.bipush 40, 2) := by decide +kernel
theorem dX2_init_7 : decode cX2_init 7 = .ok (.newarray .int, 2) := by decide +kernel
theorem dX2_init_9 : decode cX2_init 9 = .ok (.putfield 9, 3) := by decide +kernel
theorem dX2_init_12 : decode cX2_init 12 = .ok (.aload_n 0, 1) := by decide +kernel
theorem dX2_init_13 : decode cX2_init 13 = .ok (.new 15, 3) := by decide +kernel
theorem dX2_init_16 : decode cX2_init 16 = .ok (.dup, 1) := by decide +kernel
theorem dX2_init_17 : decode cX2_init 17 = .ok (.invokespecial 17, 3) := by decide +kernel
theorem dX2_init_20 : decode cX2_init 20 = .ok (.putfield 18, 3) := by decide +kernel
theorem dX2_init_23 : decode cX2_init 23 = .ok (.aload_n 0, 1) := by decide +kernel
theorem dX2_init_24 : decode cX2_init 24 = .ok (.aload_n 1, 1) := by decide +kernel
theorem dX2_init_25 : decode cX2_init 25 = .ok (.putfield 22, 3) := by decide +kernel
theorem dX2_init_28 : decode cX2_init 28 = .ok (.aload_n 0, 1) := by decide +kernel
theorem dX2_init_29 : decode cX2_init 29 = .ok (.aload_n 2, 1) := by decide +kernel
theorem dX2_init_30 : decode cX2_init 30 = .ok (.aload_n 3, 1) := by decide +kernel
theorem dX2_init_31 : decode cX2_init 31 = .ok (.invokevirtual 26, 3) := by decide +kernel
theorem dX2_init_34 : decode cX2_init 34 = .ok (.return_, 1) := by decide +kernel
def t_X2_init (τ : zT) (sz a : Nat) : zT := (zts (zts (t_X7_init (zts (zts τ sz (.inl (.int, 40))) (sz + 1) (.inr 18)) (sz + 2) (sz + 1)) a (.inr 24)) a (.inr 2))
theorem t_X2_init_new (τ : zT) (sz a : Nat) (h : a < sz) : t_X2_init τ sz a a = some (.inr 2) := by
  unfold t_X2_init
  first | exact zts_same _ _ _ | (repeat (first | exact zts_same _ _ _ | refine zts_ne ?_ (by omega)))
theorem t_X2_init_old {τ : zT} {sz a e : Nat} {x : Option zS} (h : τ e = x) (he : e < sz) (ha : e ≠ a) : t_X2_init τ sz a e = x := by
  unfold t_X2_init
  repeat (first | exact h | refine zts_ne ?_ (by omega) | refine t_X0_init_old ?_ (by omega) (by omega) | refine t_X1_init_old ?_ (by omega) (by omega) | refine t_X3_init_old ?_ (by omega) (by omega) | refine t_X4_init_old ?_ (by omega) (by omega) | refine t_X5_init_old ?_ (by omega) (by omega) | refine t_X6_init_old ?_ (by omega) (by omega) | refine t_X7_init_old ?_ (by omega) (by omega))
def f_X2_init (sz : Nat) (a : Nat) (b1 : Nat) (b2 : Nat) (b3 : Nat) (g : zG) : Option (Int32 × zG) :=
  zl (zz g sz) (fun g1 => zl (zsr g1 a 0 sz) (fun g7 => zl (zz g7 (sz + 1)) (fun g8 => zb (f_X7_init (sz + 2) (sz + 1) g8) (fun v15 g14 => zl (zsr g14 a 1 (sz + 1)) (fun g21 => zl (zsr g21 a 6 b1) (fun g22 => zc (g22.2.1 a 0 = sz ∧ g22.2.1 a 1 = (sz + 1) ∧ g22.2.1 a 6 = b1) (zb (f_X2_begin a b2 b3 g22) (fun v29 g30 => zc (g30.2.1 a 7 = b2 ∧ g30.2.1 a 8 = b3) (some (0, g30))))))))))
abbrev rm_X2_init : Room := { frames := 3, cells := 6, slots := 209, locals := 65 }
set_option maxRecDepth 100000 in
set_option maxHeartbeats 4000000 in
theorem c_X2_init (l : Launch) (D : zD) (sz : Nat) (τ : zT) (g : zG) (a : Nat) (b1 : Nat) (b2 : Nat) (b3 : Nat) (h0 : 0 < sz) (hta : τ a = some (.inr 13)) (htb1 : b1 = 0 ∨ τ b1 = some (.inr 1)) (htb2 : τ b2 = some (.inr 5)) (htb3 : τ b3 = some (.inr 0)) : zCon l D yX2_init cX2_init 4 none rm_X2_init 6 209 zrV [.ref a, zref b1, .ref b2, .ref b3] sz τ g (t_X2_init τ sz a) (f_X2_init sz a b1 b2 b3 g) := by
  refine zCon.of (by decide) (by
    have e : lg_sl [Value.ref a, zref b1, Value.ref b2, Value.ref b3] = [.val (.ref a), .val (zref b1), .val (.ref b2), .val (.ref b3)] := by unfold zref; split <;> rfl
    rw [e]; exact Nat.le_refl 4) (fun E r g' hl hR hsz hnm F => ?_)
  have F : zF E D (zA τ sz) cX2_init "TypeChain$Printer" 4 none := F
  have hnm : E.2.2.2.2.2.2.2.2.1.name = "<init>" := hnm
  have elv : lv_args 0 [.ref a, zref b1, .ref b2, .ref b3] = [(0, .ref a), (1, zref b1), (2, .ref b2), (3, .ref b3)] := by unfold zref; split <;> rfl
  rw [elv]
  show zSim (fun q : Int32 × zG => q = (r, g')) (f_X2_init sz a b1 b2 b3 g) (zAt E D (zA τ sz) (zQ E D zrV 6 209 sz τ (t_X2_init τ sz a) r g') 4 (sz, τ, 0, 0) g 0 [(0, .ref a), (1, zref b1), (2, .ref b2), (3, .ref b3)] [])
  unfold f_X2_init
  refine z_lt (fun hlt => ?_)
  have hlt_a : a < sz := hlt a _ hta
  have hlt_b1 : b1 < sz := htb1.elim (fun h => by rw [h]; exact h0) (fun h => hlt _ _ h)
  have hlt_b2 : b2 < sz := hlt b2 _ htb2
  have hlt_b3 : b3 < sz := hlt b3 _ htb3
  refine z_aload_n F 0 rfl rfl dX2_init_0 ?_
  refine z_objInit F q_234 q_27 q_28 (by rw [hR]; exact ⟨by decide, by decide⟩) (Nat.le_of_ble_eq_true rfl) dX2_init_1 ?_
  refine z_aload_n F 0 rfl rfl dX2_init_4 ?_
  refine z_bipush (v := 40) F (by decide) dX2_init_5 ?_
  refine z_newa (ty := .int) (N := 40) F rfl (by decide) q_66 rfl (by decide) (by decide) (by decide) (by show 0 < _; omega) (by rw [hR]; exact Nat.le_of_ble_eq_true rfl) (by rw [hR]; exact Nat.le_of_ble_eq_true rfl) dX2_init_7 ?_
  have ht2 : (zts τ sz (.inl (.int, 40))) sz = some (.inl (.int, 40)) := zts_same _ _ _
  have ht3 : (zts τ sz (.inl (.int, 40))) a = some (.inr 13) := zts_ne hta (by omega)
  have ht4 : b1 = 0 ∨ (zts τ sz (.inl (.int, 40))) b1 = some (.inr 1) := htb1.imp id (fun h => zts_ne h (by omega))
  have ht5 : (zts τ sz (.inl (.int, 40))) b2 = some (.inr 5) := zts_ne htb2 (by omega)
  have ht6 : (zts τ sz (.inl (.int, 40))) b3 = some (.inr 0) := zts_ne htb3 (by omega)
  show zSim _ _ (zAt E D (zA τ sz) (zQ E D zrV 6 209 sz τ (t_X2_init τ sz a) r g') 4 (sz + 1, (zts τ sz (.inl (.int, 40))), 1, 40) (zz g sz) 9 [(0, .ref a), (1, zref b1), (2, .ref b2), (3, .ref b3)] [.ref sz, .ref a])
  refine z_letg (fun g1 => ?_)
  refine z_putRs (c := 2) (r := (RX2, TX2, 9)) (k := 0) F ht3 (by decide) rfl inZ2 tyX2_ok nmX2 (by decide) q_286 hnm rfl (Or.inr ⟨_, rfl⟩) (by omega) dX2_init_9 ?_
  refine z_letg (fun g7 => ?_)
  refine z_aload_n F 0 rfl rfl dX2_init_12 ?_
  refine z_new (C := (RX7, TX7, 9)) (c := 7) F rfl (by decide) inZ7 tyX7_ok (zdv_X7 _) q_235 q_236 q_11 (by show 0 < _; omega) (by rw [hR]; exact Nat.le_of_ble_eq_true rfl) (by rw [hR]; exact Nat.le_of_ble_eq_true rfl) dX2_init_13 ?_
  have ht9 : (zts (zts τ sz (.inl (.int, 40))) (sz + 1) (.inr 18)) (sz + 1) = some (.inr 18) := zts_same _ _ _
  have ht10 : (zts (zts τ sz (.inl (.int, 40))) (sz + 1) (.inr 18)) a = some (.inr 13) := zts_ne ht3 (by omega)
  have ht11 : b1 = 0 ∨ (zts (zts τ sz (.inl (.int, 40))) (sz + 1) (.inr 18)) b1 = some (.inr 1) := ht4.imp id (fun h => zts_ne h (by omega))
  have ht12 : (zts (zts τ sz (.inl (.int, 40))) (sz + 1) (.inr 18)) b2 = some (.inr 5) := zts_ne ht5 (by omega)
  have ht13 : (zts (zts τ sz (.inl (.int, 40))) (sz + 1) (.inr 18)) b3 = some (.inr 0) := zts_ne ht6 (by omega)
  show zSim _ _ (zAt E D (zA τ sz) (zQ E D zrV 6 209 sz τ (t_X2_init τ sz a) r g') 4 (sz + 2, (zts (zts τ sz (.inl (.int, 40))) (sz + 1) (.inr 18)), 2, 49) (zz g7 (sz + 1)) 16 [(0, .ref a), (1, zref b1), (2, .ref b2), (3, .ref b3)] [.ref (sz + 1), .ref a])
  refine z_letg (fun g8 => ?_)
  refine z_dup F rfl dX2_init_16 ?_
  refine z_callI (κ := (sz + 2, (zts (zts τ sz (.inl (.int, 40))) (sz + 1) (.inr 18)), 2, 49)) F (n := 0) (mc := 4) (ms := 160) (rm := rm_X7_init) (rv := zrV) (As := []) (st := [.ref (sz + 1), .ref a]) ⟨q_239, q_11, by decide +kernel, rfl, rfl, by rw [hR]; decide, by rw [hR]; decide⟩ (c_X7_init E.2.1 D (sz + 2) (zts (zts τ sz (.inl (.int, 40))) (sz + 1) (.inr 18)) g8 (sz + 1) (by omega) ht9) (Or.inr ⟨_, q_237⟩) q_238 rfl rfl ⟨by rw [hR]; exact Nat.le_of_ble_eq_true rfl, by rw [hR]; exact Nat.le_of_ble_eq_true rfl⟩ (Nat.le_of_ble_eq_true rfl) dX2_init_17 (fun v15 g14 => ?_) _ rfl
  have ht16 : (t_X7_init (zts (zts τ sz (.inl (.int, 40))) (sz + 1) (.inr 18)) (sz + 2) (sz + 1)) (sz + 1) = some (.inr 7) := t_X7_init_new _ _ _ (by omega)
  have ht17 : (t_X7_init (zts (zts τ sz (.inl (.int, 40))) (sz + 1) (.inr 18)) (sz + 2) (sz + 1)) a = some (.inr 13) := t_X7_init_old ht10 (by omega) (by omega)
  have ht18 : b1 = 0 ∨ (t_X7_init (zts (zts τ sz (.inl (.int, 40))) (sz + 1) (.inr 18)) (sz + 2) (sz + 1)) b1 = some (.inr 1) := ht11.imp id (fun h => t_X7_init_old h (by omega) (by omega))
  have ht19 : (t_X7_init (zts (zts τ sz (.inl (.int, 40))) (sz + 1) (.inr 18)) (sz + 2) (sz + 1)) b2 = some (.inr 5) := t_X7_init_old ht12 (by omega) (by omega)
  have ht20 : (t_X7_init (zts (zts τ sz (.inl (.int, 40))) (sz + 1) (.inr 18)) (sz + 2) (sz + 1)) b3 = some (.inr 0) := t_X7_init_old ht13 (by omega) (by omega)
  show zSim _ _ (zAt E D (zA τ sz) (zQ E D zrV 6 209 sz τ (t_X2_init τ sz a) r g') 4 (sz + 6, (t_X7_init (zts (zts τ sz (.inl (.int, 40))) (sz + 1) (.inr 18)) (sz + 2) (sz + 1)), 6, 209) g14 20 [(0, .ref a), (1, zref b1), (2, .ref b2), (3, .ref b3)] [.ref (sz + 1), .ref a])
  refine z_putRs (c := 2) (r := (RX2, TX2, 9)) (k := 1) F ht17 (by decide) rfl inZ2 tyX2_ok nmX2 (by decide) q_288 hnm rfl (Or.inl ⟨_, rfl⟩) (by omega) dX2_init_20 ?_
  refine z_letg (fun g21 => ?_)
  refine z_aload_n F 0 rfl rfl dX2_init_23 ?_
  refine z_aloadq_n F 1 rfl rfl dX2_init_24 ?_
  refine z_putRr (c := 2) (r := (RX2, TX2, 9)) (k := 6) F ht17 (by decide) rfl inZ2 tyX2_ok nmX2 (by decide) q_299 hnm rfl (Or.inl ⟨_, rfl⟩) dX2_init_25 ?_
  refine z_letg (fun g22 => ?_)
  have ht24 : (t_X7_init (zts (zts τ sz (.inl (.int, 40))) (sz + 1) (.inr 18)) (sz + 2) (sz + 1)) sz = some (.inl (.int, 40)) := by repeat (first | exact ht2 | refine zts_ne ?_ (by omega) | refine t_X0_init_old ?_ (by omega) (by omega) | refine t_X1_init_old ?_ (by omega) (by omega) | refine t_X3_init_old ?_ (by omega) (by omega) | refine t_X4_init_old ?_ (by omega) (by omega) | refine t_X5_init_old ?_ (by omega) (by omega) | refine t_X6_init_old ?_ (by omega) (by omega) | refine t_X7_init_old ?_ (by omega) (by omega))
  refine z_zc (fun hck23 => ?_)
  refine z_prom (c := 13) (c2 := 24) ht17 rfl (fun hw => zprom_X2 hw ht17 (by rw [hck23.1]; exact ht24) (by rw [hck23.2.1]; exact ht16) (by rw [hck23.2.2]; exact ht18)) ?_
  have ht25 : (zts (t_X7_init (zts (zts τ sz (.inl (.int, 40))) (sz + 1) (.inr 18)) (sz + 2) (sz + 1)) a (.inr 24)) a = some (.inr 24) := zts_same _ _ _
  have ht26 : b1 = 0 ∨ (zts (t_X7_init (zts (zts τ sz (.inl (.int, 40))) (sz + 1) (.inr 18)) (sz + 2) (sz + 1)) a (.inr 24)) b1 = some (.inr 1) := ht18.imp id (fun h => zts_of h ht17 (by intro e; cases e))
  have ht27 : (zts (t_X7_init (zts (zts τ sz (.inl (.int, 40))) (sz + 1) (.inr 18)) (sz + 2) (sz + 1)) a (.inr 24)) b2 = some (.inr 5) := zts_of ht19 ht17 (by intro e; cases e)
  have ht28 : (zts (t_X7_init (zts (zts τ sz (.inl (.int, 40))) (sz + 1) (.inr 18)) (sz + 2) (sz + 1)) a (.inr 24)) b3 = some (.inr 0) := zts_of ht20 ht17 (by intro e; cases e)
  show zSim _ _ (zAt E D (zA τ sz) (zQ E D zrV 6 209 sz τ (t_X2_init τ sz a) r g') 4 (sz + 6, (zts (t_X7_init (zts (zts τ sz (.inl (.int, 40))) (sz + 1) (.inr 18)) (sz + 2) (sz + 1)) a (.inr 24)), 6, 209) g22 28 [(0, .ref a), (1, zref b1), (2, .ref b2), (3, .ref b3)] [])
  refine z_aload_n F 0 rfl rfl dX2_init_28 ?_
  refine z_aload_n F 2 rfl rfl dX2_init_29 ?_
  refine z_aload_n F 3 rfl rfl dX2_init_30 ?_
  refine k_X2_begin_h (κ := (sz + 6, (zts (t_X7_init (zts (zts τ sz (.inl (.int, 40))) (sz + 1) (.inr 18)) (sz + 2) (sz + 1)) a (.inr 24)), 6, 209)) F (by rw [hR]; exact ⟨by decide, by decide⟩) q_276 ht25 ht27 ht28 ⟨by rw [hR]; exact Nat.le_of_ble_eq_true rfl, by rw [hR]; exact Nat.le_of_ble_eq_true rfl⟩ (Nat.le_of_ble_eq_true rfl) dX2_init_31 (fun v29 g30 => ?_)
  refine z_zc (fun hck31 => ?_)
  refine z_prom (c := 24) (c2 := 2) ht25 rfl (fun hw => zprom_24 hw ht25 (by rw [hck31.1]; exact ht27) (by rw [hck31.2]; exact ht28)) ?_
  show zSim _ _ (zAt E D (zA τ sz) (zQ E D zrV 6 209 sz τ (t_X2_init τ sz a) r g') 4 (sz + 6, (zts (zts (t_X7_init (zts (zts τ sz (.inl (.int, 40))) (sz + 1) (.inr 18)) (sz + 2) (sz + 1)) a (.inr 24)) a (.inr 2)), 6, 209) g30 34 [(0, .ref a), (1, zref b1), (2, .ref b2), (3, .ref b3)] [])
  exact z_vreturn F rfl rfl rfl rfl (fun h => h) dX2_init_34
