-- ===== the state that both hold =====
/-- the tape: how many bytes, which -/
abbrev aT : Type := Nat × (Nat → Nat)
/-- now: tick, row, pages -/
abbrev aP : Type := Nat × Nat × Nat
/-- the page: letters, how often -/
abbrev aG : Type := (Nat → Nat) × (Nat → Nat)
/-- the latest line: was one, columns, the most, that waited, the tick of each column, what is seen (numbers as the calls answer them) -/
abbrev aS : Type := Bool × Int32 × Int32 × Int32 × (Nat → Int32) × (Nat → Int32)
/-- the latest run -/
abbrev aQ : Type := Bool × Int32 × Int32 × Int32
/-- sheets: nothing or lane and size; cells -/
abbrev aW : Type := (Nat → Option (Nat × Nat)) × (Nat → Int32)
abbrev aZ : Type := aR × aT × Int32 × (Nat → Nat) × aP × aG × aS × aQ × aW
def zR (σ : aZ) : aR := σ.1
def zTp (σ : aZ) : aT := σ.2.1
def zFt (σ : aZ) : Int32 := σ.2.2.1
def zLn (σ : aZ) : Nat → Nat := σ.2.2.2.1
def zPs (σ : aZ) : aP := σ.2.2.2.2.1
def zPg (σ : aZ) : aG := σ.2.2.2.2.2.1
def zSk (σ : aZ) : aS := σ.2.2.2.2.2.2.1
def zRn (σ : aZ) : aQ := σ.2.2.2.2.2.2.2.1
def zSh (σ : aZ) : aW := σ.2.2.2.2.2.2.2.2
def vTp (t : aT) : Prop := t.1 ≤ 240 ∧ ∀ i, i < t.1 → t.2 i < 256
def vLn (ρ : aR) (ln : Nat → Nat) : Prop := ∀ c, c < 40 → ln c ≤ 26 ∧ (aV ρ 3 ≤ c → ln c = 0)
def vPs (ρ : aR) (k : Nat) (p : aP) : Prop := p.1 ≤ k * 400000 ∧ p.2.1 < aV ρ 7 ∧ p.2.2 ≤ 1 + k * 1000
def vPg (k : Nat) (y : aG) : Prop := ∀ j, j < 2400 → (y.1 j ≤ 26 ∧ y.2 j ≤ k * 24) ∧ (y.1 j = 0 ↔ y.2 j = 0)
/-- a column that was struck faced its letter's slug then -/
def vSk (ρ : aR) (k : Nat) (s : aS) : Prop := s.1 = true → ∀ c, c < aV ρ 3 → (s.2.2.2.2.1 c = -4 ∨ ∃ t, t ≤ k * 400000 ∧ s.2.2.2.2.1 c = nI t ∧ (c * aV ρ 2 + t) % aV ρ 1 = 0) ∧ (s.2.2.2.2.2 c = -4 ∨ ((∃ l, 1 ≤ l ∧ l ≤ 26 ∧ s.2.2.2.2.2 c = nI l) ∧ s.2.2.2.2.1 c ≠ -4))
def vSh (w : aW) : Prop := ∀ k, k < 4 → ∀ l n, w.1 k = some (l, n) → l ≤ 2 ∧ n ≤ 40
def vZ (k : Nat) (σ : aZ) : Prop := vR (zR σ) ∧ vTp (zTp σ) ∧ vLn (zR σ) (zLn σ) ∧ vPs (zR σ) k (zPs σ) ∧ vPg k (zPg σ) ∧ vSk (zR σ) k (zSk σ) ∧ vSh (zSh σ)
def bI (b : Bool) : Int32 := if b then 1 else 0
-- the class
def cTp (t : aT) (o y : Nat → Int32) : Prop := o 1 = nI t.1 ∧ ∀ i, i < t.1 → y i = (nI (t.2 i)).toInt8.toInt32
def cLn (ln : Nat → Nat) (y : Nat → Int32) : Prop := ∀ c, c < 40 → y c = nI (ln c)
def cPg (y : aG) (a b : Nat → Int32) : Prop := ∀ j, j < 2400 → a j = nI (y.1 j) ∧ b j = nI (y.2 j)
def cSk (ρ : aR) (s : aS) (o t u : Nat → Int32) (w : Int64) (g : zG) : Prop := o 2 = bI s.1 ∧ (s.1 = true → o 3 = s.2.1 ∧ o 4 = s.2.2.1 ∧ f_J13_bitCount_95d88 w g = some (s.2.2.2.1, g) ∧ ∀ c, c < aV ρ 3 → t c = s.2.2.2.2.1 c ∧ u c = s.2.2.2.2.2 c)
def cRn (q : aQ) (o : Nat → Int32) : Prop := o 7 = bI q.1 ∧ (q.1 = true → o 8 = q.2.1 ∧ o 9 = q.2.2.1 ∧ o 10 = q.2.2.2)
def cSh (w : aW) (a b c : Nat → Int32) : Prop := (∀ k, k < 4 → (w.1 k = none → b k = -1) ∧ ∀ l n, w.1 k = some (l, n) → a k = nI l ∧ b k = nI n) ∧ ∀ i, i < 160 → c i = w.2 i
-- the reference
def mTp (t : aT) (o : Int32) (y : Nat → Int32) : Prop := o = nI t.1 ∧ ∀ i, i < t.1 → y i = nI (t.2 i)
def mSk (ρ : aR) (s : aS) (b o1 o2 o3 : Int32) (t m u : Nat → Int32) : Prop := b = bI s.1 ∧ (s.1 = true → o1 = s.2.1 ∧ o2 = s.2.2.1 ∧ o3 = s.2.2.2.1 ∧ ∀ c, c < aV ρ 3 → t c = s.2.2.2.2.1 c ∧ u c = s.2.2.2.2.2 c ∧ (s.2.2.2.2.1 c = -4 → m c = -4) ∧ ∀ v, v < 2000000000 → s.2.2.2.2.1 c = nI v → m c = nI (slg (aN ρ) (aV ρ 1) (aV ρ 2) c v))
def mRn (q : aQ) (b o1 o2 o3 : Int32) : Prop := b = bI q.1 ∧ (q.1 = true → o1 = q.2.1 ∧ o2 = q.2.2.1 ∧ o3 = q.2.2.2)
def mSh (w : aW) (a b c : Nat → Int32) : Prop := (∀ k, k < 4 → (w.1 k = none → a k = -4) ∧ ∀ l n, w.1 k = some (l, n) → a k = nI l ∧ b k = nI n) ∧ ∀ i, i < 160 → c i = w.2 i
/-- the class, but for what its trials keep -/
def CI (σ : aZ) (X r : Nat) (g : zG) : Prop := rX X g ∧ rW X r g ∧ cR (zR σ) r g ∧ cTp (zTp σ) (g.1 (X + 23)) (g.1 (X + 24)) ∧ g.1 (X + 23) 2 = zFt σ ∧ cLn (zLn σ) (g.1 (X + 32)) ∧ (g.1 (X + 31) 2 = nI (zPs σ).1 ∧ g.1 (X + 31) 3 = nI (zPs σ).2.1 ∧ g.1 (X + 31) 4 = nI (zPs σ).2.2) ∧ cPg (zPg σ) (g.1 (X + 29)) (g.1 (X + 30)) ∧
  cSk (zR σ) (zSk σ) (g.1 (X + 33)) (g.1 (X + 34)) (g.1 (X + 35)) (g.2.2 (X + 33) 5) g ∧ cRn (zRn σ) (g.1 X) ∧ cSh (zSh σ) (g.1 (X + 50)) (g.1 (X + 51)) (g.1 (X + 52))
def MI (σ : aZ) (M : Nat) (g : zG) : Prop := rM M g ∧ mR (zR σ) M g ∧ mTp (zTp σ) (g.1 M 27) (g.1 (M + 20)) ∧ g.1 M 32 = zFt σ ∧ cLn (zLn σ) (g.1 (M + 21)) ∧ (g.1 M 34 = nI (zPs σ).1 ∧ g.1 M 35 = nI (zPs σ).2.1 ∧ g.1 M 36 = nI (zPs σ).2.2) ∧ cPg (zPg σ) (g.1 (M + 22)) (g.1 (M + 23)) ∧
  mSk (zR σ) (zSk σ) (g.1 M 44) (g.1 M 45) (g.1 M 46) (g.1 M 47) (g.1 (M + 27)) (g.1 (M + 28)) (g.1 (M + 29)) ∧ mRn (zRn σ) (g.1 M 51) (g.1 M 52) (g.1 M 53) (g.1 M 54) ∧ mSh (zSh σ) (g.1 (M + 33)) (g.1 (M + 34)) (g.1 (M + 35))
theorem zsi_at {g : zG} {a k b : Nat} {x : Int32} (h : b ≠ a) : (zsi g a k x).1 b = g.1 b := by
  funext j
  simp [zsi, zu, h]
theorem zsi_get {g : zG} {a k j : Nat} {x : Int32} (h : j ≠ k) : (zsi g a k x).1 a j = g.1 a j := by simp [zsi, zu, h]
theorem zsi_same {g : zG} {a k : Nat} {x : Int32} : (zsi g a k x).1 a k = x := by simp [zsi, zu]
theorem zsi_r {g : zG} {a k : Nat} {x : Int32} : (zsi g a k x).2.1 = g.2.1 := rfl
theorem zsi_l {g : zG} {a k : Nat} {x : Int32} : (zsi g a k x).2.2 = g.2.2 := rfl
/-- what lies outside a set of addresses stays -/
def frm (S : Nat → Prop) (g g' : zG) : Prop := g'.2.1 = g.2.1 ∧ ∀ b, ¬ S b → g'.1 b = g.1 b ∧ g'.2.2 b = g.2.2 b
theorem frm.refl (S : Nat → Prop) (g : zG) : frm S g g := ⟨rfl, fun _ _ => ⟨rfl, rfl⟩⟩
theorem frm.trans {S : Nat → Prop} {g g1 g2 : zG} (h1 : frm S g g1) (h2 : frm S g1 g2) : frm S g g2 := ⟨h2.1.trans h1.1, fun b hb => ⟨((h2.2 b hb).1).trans (h1.2 b hb).1, ((h2.2 b hb).2).trans (h1.2 b hb).2⟩⟩
theorem frm.si {S : Nat → Prop} {g : zG} {a k : Nat} {x : Int32} (h : S a) : frm S g (zsi g a k x) := ⟨rfl, fun b hb => ⟨zsi_at (fun e => hb (by rw [e]; exact h)), rfl⟩⟩
theorem frm.mono {S S2 : Nat → Prop} {g g' : zG} (h : frm S g g') (hs : ∀ b, S b → S2 b) : frm S2 g g' := ⟨h.1, fun b hb => h.2 b (fun e => hb (hs b e))⟩
theorem rX.kept {X : Nat} {g g' : zG} (h : rX X g) (e : g'.2.1 = g.2.1) : rX X g' := by unfold rX rR at *; rw [e]; exact h
theorem rM.kept {X : Nat} {g g' : zG} (h : rM X g) (e : g'.2.1 = g.2.1) : rM X g' := by unfold rM at *; rw [e]; exact h
theorem rW.kept {X r : Nat} {g g' : zG} (h : rW X r g) (e : g'.2.1 = g.2.1) : rW X r g' := by unfold rW at *; rw [e]; exact h
theorem cR.kept {ρ : aR} {r : Nat} {g g' : zG} (h : cR ρ r g) (e : ∀ b, r + 1 ≤ b → b ≤ r + 10 → g'.1 b = g.1 b) : cR ρ r g' := by
  unfold cR at *
  rw [e (r + 1) (by omega) (by omega), e (r + 2) (by omega) (by omega), e (r + 3) (by omega) (by omega), e (r + 4) (by omega) (by omega), e (r + 5) (by omega) (by omega), e (r + 6) (by omega) (by omega), e (r + 7) (by omega) (by omega), e (r + 8) (by omega) (by omega), e (r + 9) (by omega) (by omega), e (r + 10) (by omega) (by omega)]
  exact h
theorem mR.kept {ρ : aR} {M : Nat} {g g' : zG} (h : mR ρ M g) (e0 : g'.1 M 0 = g.1 M 0) (e4 : g'.1 M 4 = g.1 M 4) (e : ∀ b, M + 1 ≤ b → b ≤ M + 8 → g'.1 b = g.1 b) : mR ρ M g' := by
  unfold mR at *
  rw [e0, e4, e (M + 1) (by omega) (by omega), e (M + 2) (by omega) (by omega), e (M + 3) (by omega) (by omega), e (M + 4) (by omega) (by omega), e (M + 5) (by omega) (by omega), e (M + 6) (by omega) (by omega), e (M + 7) (by omega) (by omega), e (M + 8) (by omega) (by omega)]
  exact h
theorem bits_kept {w : Int64} {v : Int32} {g g' : zG} (h : f_J13_bitCount_95d88 w g = some (v, g)) : f_J13_bitCount_95d88 w g' = some (v, g') := by
  unfold f_J13_bitCount_95d88 at *
  simp only [zl_eq] at *
  have h1 := congrArg Prod.fst (Option.some.inj h)
  rw [show v = _ from h1.symm]
theorem MI.kept {σ : aZ} {M : Nat} {g g' : zG} {S : Nat → Prop} (h : MI σ M g) (hf : frm S g g') (hS : ∀ b, S b → b < M) : MI σ M g' := by
  have e : ∀ b, M ≤ b → g'.1 b = g.1 b := fun b hb => (hf.2 b (fun z => by have := hS b z; omega)).1
  obtain ⟨h1, h2, h3, h4, h5, h6, h7, h8, h9, h10⟩ := h
  refine ⟨h1.kept hf.1, h2.kept (by rw [e M (Nat.le_refl _)]) (by rw [e M (Nat.le_refl _)]) (fun b b1 _ => e b (by omega)), ?_⟩
  rw [e M (Nat.le_refl _), e (M + 20) (by omega), e (M + 21) (by omega), e (M + 22) (by omega), e (M + 23) (by omega), e (M + 27) (by omega), e (M + 28) (by omega), e (M + 29) (by omega), e (M + 33) (by omega), e (M + 34) (by omega), e (M + 35) (by omega)]
  exact ⟨h3, h4, h5, h6, h7, h8, h9, h10⟩
theorem CI.kept {σ : aZ} {X r : Nat} {g g' : zG} {S : Nat → Prop} (h : CI σ X r g) (hf : frm S g g') (hS : ∀ b, S b → X + 53 ≤ b) : CI σ X r g' := by
  have e : ∀ b, b < X + 53 → g'.1 b = g.1 b := fun b hb => (hf.2 b (fun z => by have := hS b z; omega)).1
  have e2 : g'.2.2 (X + 33) = g.2.2 (X + 33) := (hf.2 (X + 33) (fun z => by have := hS _ z; omega)).2
  obtain ⟨h1, h2, h3, h4, h5, h6, h7, h8, h9, h10, h11⟩ := h
  have hr : r = X + 1 ∨ r = X + 12 := h2.2.1.imp (fun z => z.1) (fun z => z.1)
  refine ⟨h1.kept hf.1, h2.kept hf.1, h3.kept (fun b b1 b2 => e b (by omega)), ?_⟩
  rw [e (X + 23) (by omega), e (X + 24) (by omega), e (X + 32) (by omega), e (X + 31) (by omega), e (X + 29) (by omega), e (X + 30) (by omega), e (X + 33) (by omega), e (X + 34) (by omega), e (X + 35) (by omega), e X (by omega), e (X + 50) (by omega), e (X + 51) (by omega), e (X + 52) (by omega), e2]
  refine ⟨h4, h5, h6, h7, h8, ⟨h9.1, fun hz => ?_⟩, h10, h11⟩
  obtain ⟨q1, q2, q3, q4⟩ := h9.2 hz
  exact ⟨q1, q2, bits_kept q3, q4⟩
