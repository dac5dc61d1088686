-- ===== what a text tells, and how the two heaps hold it =====
abbrev aR : Type := Nat × (Nat → Nat) × (Nat → Nat) × (Nat → Nat) × Nat × (Nat → Nat) × (Nat → Nat) × (Nat → Nat) × (Nat → Nat) × (Nat → Nat)
def aN (ρ : aR) : Nat := ρ.1
def aC (ρ : aR) : Nat → Nat := ρ.2.1
def aV (ρ : aR) : Nat → Nat := ρ.2.2.1
def aH (ρ : aR) : Nat → Nat := ρ.2.2.2.1
def aM (ρ : aR) : Nat := ρ.2.2.2.2.1
def aA (ρ : aR) : Nat → Nat := ρ.2.2.2.2.2.1
def aU (ρ : aR) : Nat → Nat := ρ.2.2.2.2.2.2.1
def aF (ρ : aR) : Nat → Nat := ρ.2.2.2.2.2.2.2.1
def aY (ρ : aR) : Nat → Nat := ρ.2.2.2.2.2.2.2.2.1
def aL (ρ : aR) : Nat → Nat := ρ.2.2.2.2.2.2.2.2.2
/-- the bounds of the document -/
def vR (ρ : aR) : Prop := (2 ≤ aN ρ ∧ aN ρ ≤ 48) ∧ (∀ i, i < aN ρ → 1 ≤ aC ρ i ∧ aC ρ i ≤ 26) ∧ (2 ≤ aV ρ 1 ∧ aV ρ 1 ≤ 6) ∧ (1 ≤ aV ρ 2 ∧ aV ρ 2 ≤ 6) ∧ (1 ≤ aV ρ 3 ∧ aV ρ 3 ≤ 40) ∧ (1 ≤ aV ρ 4 ∧ aV ρ 4 ≤ 40) ∧ aV ρ 5 ≤ 20 ∧ (1 ≤ aV ρ 6 ∧ aV ρ 6 ≤ 20) ∧ (1 ≤ aV ρ 7 ∧ aV ρ 7 ≤ 60) ∧ (∀ r, aH ρ r < 256) ∧ (∀ r, aV ρ 7 ≤ r → aH ρ r = 0) ∧ aM ρ ≤ 24 ∧
  ∀ k, k < aM ρ → aA ρ k ≤ 3 ∧ (aA ρ k = 0 → aU ρ k + aY ρ k ≤ aV ρ 3) ∧ (aA ρ k ≠ 0 → aY ρ k = 0) ∧ (aA ρ k = 2 → aU ρ k ≤ 9) ∧ (aA ρ k = 3 → aU ρ k ≤ 7) ∧ aU ρ k ≤ 59 ∧ aF ρ k + aY ρ k ≤ 240 ∧ ∀ i, i < aY ρ k → 1 ≤ aL ρ (aF ρ k + i) ∧ aL ρ (aF ρ k + i) ≤ 26
/-- rules of the class at r -/
def cR (ρ : aR) (r : Nat) (g : zG) : Prop := (g.1 (r + 1) 1 = nI (aN ρ) ∧ g.1 (r + 1) 2 = nI (aV ρ 1) ∧ g.1 (r + 1) 3 = nI (aV ρ 2)) ∧ (∀ i, i < aN ρ → g.1 (r + 2) i = nI (aC ρ i)) ∧ g.1 (r + 3) 5 = nI (aM ρ) ∧
  (∀ k, k < aM ρ → g.1 (r + 4) k = nI (aA ρ k + 9) ∧ g.1 (r + 5) k = nI (aU ρ k) ∧ g.1 (r + 6) k = nI (aF ρ k) ∧ g.1 (r + 7) k = nI (aY ρ k) ∧ ∀ i, i < aY ρ k → g.1 (r + 8) (aF ρ k + i) = nI (aL ρ (aF ρ k + i))) ∧
  (∀ k, 1 ≤ k → k ≤ 7 → g.1 (r + 9) k = nI (aV ρ k)) ∧ ∀ i, i < 60 → g.1 (r + 10) i = nI (aH ρ i)
/-- the same in the reference, M -/
def mR (ρ : aR) (M : Nat) (g : zG) : Prop := g.1 M 0 = nI (aN ρ) ∧ (∀ i, i < aN ρ → g.1 (M + 1) i = nI (aC ρ i)) ∧ g.1 M 4 = nI (aM ρ) ∧
  (∀ k, k < aM ρ → g.1 (M + 4) k = nI (aA ρ k) ∧ g.1 (M + 5) k = nI (aU ρ k) ∧ g.1 (M + 6) k = nI (aF ρ k) ∧ g.1 (M + 7) k = nI (aY ρ k) ∧ ∀ i, i < aY ρ k → g.1 (M + 8) (aF ρ k + i) = nI (aL ρ (aF ρ k + i))) ∧
  (∀ k, 1 ≤ k → k ≤ 7 → g.1 (M + 2) k = nI (aV ρ k)) ∧ ∀ i, i < 60 → g.1 (M + 3) i = nI (aH ρ i)
/-- references of a Rules object -/
def rR (r : Nat) (g : zG) : Prop := g.2.1 r 0 = r + 1 ∧ g.2.1 r 1 = r + 3 ∧ g.2.1 r 2 = r + 9 ∧ g.2.1 r 3 = r + 10 ∧ g.2.1 (r + 1) 0 = r + 2 ∧ g.2.1 (r + 3) 0 = r + 4 ∧ g.2.1 (r + 3) 1 = r + 5 ∧ g.2.1 (r + 3) 2 = r + 6 ∧ g.2.1 (r + 3) 3 = r + 7 ∧ g.2.1 (r + 3) 4 = r + 8
/-- references of the reference -/
def rM (M : Nat) (g : zG) : Prop := g.2.1 M 1 = M + 1 ∧ g.2.1 M 2 = M + 2 ∧ g.2.1 M 3 = M + 3 ∧ g.2.1 M 5 = M + 4 ∧ g.2.1 M 6 = M + 5 ∧ g.2.1 M 7 = M + 6 ∧ g.2.1 M 8 = M + 7 ∧ g.2.1 M 9 = M + 8 ∧ g.2.1 M 11 = M + 9 ∧ g.2.1 M 12 = M + 10 ∧ g.2.1 M 13 = M + 11 ∧ g.2.1 M 16 = M + 12 ∧ g.2.1 M 17 = M + 13 ∧ g.2.1 M 18 = M + 14 ∧ g.2.1 M 19 = M + 15 ∧ g.2.1 M 21 = M + 16 ∧ g.2.1 M 22 = M + 17 ∧ g.2.1 M 24 = M + 18 ∧ g.2.1 M 25 = M + 19 ∧ g.2.1 M 26 = M + 20 ∧ g.2.1 M 37 = M + 21 ∧ g.2.1 M 38 = M + 22 ∧ g.2.1 M 39 = M + 23 ∧ g.2.1 M 40 = M + 24 ∧ g.2.1 M 41 = M + 25 ∧ g.2.1 M 42 = M + 26 ∧ g.2.1 M 48 = M + 27 ∧ g.2.1 M 49 = M + 28 ∧ g.2.1 M 50 = M + 29 ∧ g.2.1 M 55 = M + 30 ∧ g.2.1 M 56 = M + 31 ∧ g.2.1 M 57 = M + 32 ∧ g.2.1 M 58 = M + 33 ∧ g.2.1 M 59 = M + 34 ∧ g.2.1 M 60 = M + 35
/-- references of the class, but the rules and the draft -/
def rX (X : Nat) (g : zG) : Prop := rR (X + 1) g ∧ rR (X + 12) g ∧ g.2.1 X 2 = X + 23 ∧ g.2.1 X 3 = X + 28 ∧ g.2.1 X 4 = X + 31 ∧ g.2.1 X 5 = X + 38 ∧ g.2.1 X 6 = X + 49 ∧ g.2.1 (X + 23) 0 = X + 24 ∧ g.2.1 (X + 23) 10 = X + 25 ∧ g.2.1 (X + 23) 11 = X + 26 ∧ g.2.1 (X + 23) 12 = X + 27 ∧ g.2.1 (X + 28) 0 = X + 29 ∧ g.2.1 (X + 28) 1 = X + 30 ∧
  g.2.1 (X + 31) 0 = X + 32 ∧ g.2.1 (X + 31) 1 = X + 33 ∧ g.2.1 (X + 31) 6 = X + 28 ∧ g.2.1 (X + 33) 0 = X + 34 ∧ g.2.1 (X + 33) 1 = X + 35 ∧ g.2.1 (X + 33) 6 = X + 36 ∧ g.2.1 (X + 33) 7 = X + 37 ∧
  g.2.1 (X + 38) 0 = X + 42 ∧ g.2.1 (X + 38) 1 = X + 39 ∧ g.2.1 (X + 38) 6 = X + 40 ∧ g.2.1 (X + 40) 0 = X + 41 ∧ g.2.1 (X + 42) 0 = X + 43 ∧ g.2.1 (X + 42) 1 = X + 44 ∧ g.2.1 (X + 42) 6 = 0 ∧ g.2.1 (X + 44) 0 = X + 45 ∧ g.2.1 (X + 44) 1 = X + 46 ∧ g.2.1 (X + 44) 6 = X + 47 ∧ g.2.1 (X + 44) 7 = X + 48 ∧
  g.2.1 (X + 49) 0 = X + 50 ∧ g.2.1 (X + 49) 1 = X + 51 ∧ g.2.1 (X + 49) 2 = X + 52
/-- where the rules are -/
def rW (X r : Nat) (g : zG) : Prop := g.2.1 X 0 = r ∧ ((r = X + 1 ∧ g.2.1 X 1 = X + 12) ∨ (r = X + 12 ∧ g.2.1 X 1 = X + 1)) ∧ g.2.1 (X + 31) 7 = r ∧ g.2.1 (X + 31) 8 = r + 1
theorem rX.rules {X r : Nat} {g : zG} (h : rX X g) (hw : rW X r g) : rR r g := by
  rcases hw.2.1 with ⟨rfl, -⟩ | ⟨rfl, -⟩
  · exact h.1
  · exact h.2.1
theorem c3 : (3 : Int32).toNatClampNeg = 3 := rfl
theorem c1 : (1 : Int32).toNatClampNeg = 1 := rfl
theorem c2 : (2 : Int32).toNatClampNeg = 2 := rfl
theorem c4 : (4 : Int32).toNatClampNeg = 4 := rfl
theorem c5 : (5 : Int32).toNatClampNeg = 5 := rfl
theorem c6 : (6 : Int32).toNatClampNeg = 6 := rfl
theorem c7 : (7 : Int32).toNatClampNeg = 7 := rfl
theorem c0 : (0 : Int32).toNatClampNeg = 0 := rfl
theorem zlit (n N : Nat) (h : n < N) (hN : N < 2147483648) : zin (nI n) N := i_zin.mpr (by rw [i_nI (by omega)]; omega)
theorem nI_lit (n : Nat) : (OfNat.ofNat n : Int32) = nI n := rfl
theorem i64 (x : Int32) : x.toInt64.toInt = x.toInt := by simp
/-- an Int32 is one of the naturals below n, or not -/
theorem i_case (x : Int32) (n : Nat) (hn : n < 2147483648) : (∃ k, k < n ∧ x = nI k) ∨ x.toInt < 0 ∨ (n : Int) ≤ x.toInt := by
  by_cases h0 : x.toInt < 0
  · exact Or.inr (Or.inl h0)
  · by_cases h1 : (n : Int) ≤ x.toInt
    · exact Or.inr (Or.inr h1)
    · refine Or.inl ⟨x.toInt.toNat, by omega, ?_⟩
      apply i_eq.mpr
      rw [i_nI (by omega)]
      omega
theorem nI_cl {n : Nat} (h : n < 2147483648) : (nI n).toNatClampNeg = n := nI_clamp (by simpa using h)
section P1
variable {X r : Nat} {ρ : aR} {g : zG}
theorem cR.val {k : Nat} (h : cR ρ r g) (h1 : 1 ≤ k) (h2 : k ≤ 7) : g.1 (r + 9) k = nI (aV ρ k) := h.2.2.2.2.1 k h1 h2
theorem mR.val {M k : Nat} (h : mR ρ M g) (h1 : 1 ≤ k) (h2 : k ≤ 7) : g.1 (M + 2) k = nI (aV ρ k) := h.2.2.2.2.1 k h1 h2
theorem rM.set {M : Nat} (h : rM M g) : g.2.1 M 2 = M + 2 := h.2.1
theorem q_isColumn (hX : rX X g) (hw : rW X r g) (hv : vR ρ) (hc : cR ρ r g) (x : Int32) : f_X9_isColumn X x g = some (if 0 ≤ x.toInt ∧ x.toInt < aV ρ 3 then 1 else 0, g) := by
  have hr := hX.rules hw
  have e := hc.val (k := 3) (by omega) (by omega)
  have hb := hv.2.2.2.2.1
  unfold f_X9_isColumn
  rw [hw.1, hr.2.2.1, zc_pos (by decide), c3, e]
  simp only [i_lt, i_le, i_nI (show aV ρ 3 < 2147483648 by omega)]
  show (if x.toInt < 0 then some ((0 : Int32), g) else _) = _
  by_cases h1 : x.toInt < 0
  · rw [if_pos h1, if_neg (by omega)]
  · rw [if_neg h1]
    by_cases h2 : (aV ρ 3 : Int) ≤ x.toInt
    · rw [if_pos h2, if_neg (by omega)]
    · rw [if_neg h2, if_pos (by omega)]
theorem q_isRow (hX : rX X g) (hw : rW X r g) (hv : vR ρ) (hc : cR ρ r g) (x : Int32) : f_X9_isRow X x g = some (if 0 ≤ x.toInt ∧ x.toInt < aV ρ 7 then 1 else 0, g) := by
  have hr := hX.rules hw
  have e := hc.val (k := 7) (by omega) (by omega)
  have hb := hv.2.2.2.2.2.2.2.2.1
  unfold f_X9_isRow
  rw [hw.1, hr.2.2.1, zc_pos (by decide), c7, e]
  simp only [i_lt, i_le, i_nI (show aV ρ 7 < 2147483648 by omega)]
  show (if x.toInt < 0 then some ((0 : Int32), g) else _) = _
  by_cases h1 : x.toInt < 0
  · rw [if_pos h1, if_neg (by omega)]
  · rw [if_neg h1]
    by_cases h2 : (aV ρ 7 : Int) ≤ x.toInt
    · rw [if_pos h2, if_neg (by omega)]
    · rw [if_neg h2, if_pos (by omega)]
/-- a bound of the reference: up to a number less 1 -/
theorem m_upto {n : Nat} (h1 : 1 ≤ n) (h2 : n < 2147483648) (x : Int32) : f_X10_in x.toInt64 0 ((nI n - 1).toInt64) g = some (if 0 ≤ x.toInt ∧ x.toInt < n then 1 else 0, g) := by
  have e : (nI n - 1).toInt = n - 1 := by rw [i_sub (by rw [i_nI h2]; show -2147483648 ≤ (n : Int) - 1 ∧ (n : Int) - 1 < 2147483648; omega), i_nI h2]; rfl
  rw [in_spec, i64, i64, e]
  congr 2
  show (if 0 ≤ x.toInt ∧ x.toInt ≤ (n : Int) - 1 then (1 : Int32) else 0) = _
  by_cases h : 0 ≤ x.toInt ∧ x.toInt < n
  · rw [if_pos h, if_pos (by omega)]
  · rw [if_neg h, if_neg (by omega)]
theorem m_isColumn {M : Nat} (hM : rM M g) (hv : vR ρ) (hm : mR ρ M g) (x : Int32) : f_X10_isColumn M x g = some (if 0 ≤ x.toInt ∧ x.toInt < aV ρ 3 then 1 else 0, g) := by
  have hb := hv.2.2.2.2.1
  unfold f_X10_isColumn
  rw [zc_pos (by decide), hM.set, c3, hm.val (by omega) (by omega), m_upto (by omega) (by omega), zb_some]
  split
  · rw [zc_pos (Or.inr rfl)]
  · rw [zc_pos (Or.inl rfl)]
theorem q_isLetter (x : Int32) : f_X9_isLetter x g = some (if 1 ≤ x.toInt ∧ x.toInt ≤ 26 then 1 else 0, g) := by
  unfold f_X9_isLetter
  simp only [i_lt]
  show (if x.toInt < 1 then some ((0 : Int32), g) else if 26 < x.toInt then _ else _) = _
  by_cases h1 : x.toInt < 1
  · rw [if_pos h1, if_neg (by omega)]
  · rw [if_neg h1]
    by_cases h2 : 26 < x.toInt
    · rw [if_pos h2, if_neg (by omega)]
    · rw [if_neg h2, if_pos (by omega)]
theorem q_isTick (x : Int32) : f_X9_isTick x g = some (if 0 ≤ x.toInt ∧ x.toInt ≤ 1000000 then 1 else 0, g) := by
  unfold f_X9_isTick
  simp only [i_lt]
  show (if x.toInt < 0 then some ((0 : Int32), g) else if 1000000 < x.toInt then _ else _) = _
  by_cases h1 : x.toInt < 0
  · rw [if_pos h1, if_neg (by omega)]
  · rw [if_neg h1]
    by_cases h2 : 1000000 < x.toInt
    · rw [if_pos h2, if_neg (by omega)]
    · rw [if_neg h2, if_pos (by omega)]
theorem m_in (lo hi : Int64) (a b : Int) (ha : lo.toInt = a) (hb : hi.toInt = b) (x : Int32) : f_X10_in x.toInt64 lo hi g = some (if a ≤ x.toInt ∧ x.toInt ≤ b then 1 else 0, g) := by
  rw [in_spec, i64, ha, hb]
theorem b1 {α : Type} {A B : α} : (if (1 : Int32) = 0 then A else B) = B := rfl
theorem b0 {α : Type} {A B : α} : (if (0 : Int32) = 0 then A else B) = A := rfl
theorem i_one {x : Int32} {n : Nat} (h : 0 ≤ x.toInt ∧ x.toInt < n) (hn : n < 2147483648) : ∃ k, k < n ∧ x = nI k := by
  rcases i_case x n hn with h1 | h1 | h1
  · exact h1
  · omega
  · omega
theorem nI_inj {a b : Nat} (ha : a < 2147483648) (hb : b < 2147483648) : nI a = nI b ↔ a = b := nI_eq (by simpa using ha) (by simpa using hb)
theorem p_fault (hX : rX X g) (h : g.1 (X + 23) 2 = g.1 (X + 53) 32) : ∃ v, f_X9_fault X g = some (v, g) ∧ f_X10_fault (X + 53) g = some (v, g) := by
  refine ⟨g.1 (X + 53) 32, ?_, rfl⟩
  unfold f_X9_fault
  rw [hX.2.2.1, h]
theorem p_rule (hX : rX X g) (hw : rW X r g) (hM : rM (X + 53) g) (hv : vR ρ) (hc : cR ρ r g) (hm : mR ρ (X + 53) g) (x : Int32) : ∃ v, f_X9_rule X x g = some (v, g) ∧ f_X10_rule (X + 53) x g = some (v, g) := by
  have hr := hX.rules hw
  unfold f_X9_rule f_X10_rule
  rw [hw.1, hr.1, hr.2.1, hr.2.2.1, m_in 0 8 0 8 rfl rfl, zb_some, hM.set, hc.1.1, hc.2.2.1, hm.1, hm.2.2.1]
  simp only [i_lt, i_le]
  show ∃ v, (if x.toInt < 0 then some ((-1 : Int32), g) else if x.toInt ≤ 8 then _ else _) = _ ∧ _
  by_cases h1 : x.toInt < 0
  · exact ⟨-1, by rw [if_pos h1], by rw [if_neg (show ¬ (0 ≤ x.toInt ∧ x.toInt ≤ 8) by omega)]; rfl⟩
  · by_cases h2 : x.toInt ≤ 8
    · rw [if_neg h1, if_pos h2, if_pos (show 0 ≤ x.toInt ∧ x.toInt ≤ 8 by omega), b1]
      obtain ⟨k, hk, rfl⟩ := i_one (n := 9) (show 0 ≤ x.toInt ∧ x.toInt < 9 by omega) (by decide)
      by_cases h8 : k = 8
      · subst h8; exact ⟨_, rfl, rfl⟩
      · by_cases h0 : k = 0
        · subst h0; exact ⟨_, rfl, rfl⟩
        · have e8 : ¬ nI k = 8 := fun e => h8 ((nI_inj (by omega) (by omega)).mp e)
          have e0 : ¬ nI k = 0 := fun e => h0 ((nI_inj (by omega) (by omega)).mp e)
          rw [if_neg e8, if_neg e0, if_neg e0, if_neg e8, zc_pos (zlit k 8 (by omega) (by omega)), zc_pos (zlit k 8 (by omega) (by omega)), nI_cl (by omega), hc.val (by omega) (by omega), hm.val (by omega) (by omega)]
          exact ⟨_, rfl, rfl⟩
    · exact ⟨-1, by rw [if_neg h1, if_neg h2], by rw [if_neg (show ¬ (0 ≤ x.toInt ∧ x.toInt ≤ 8) by omega)]; rfl⟩
theorem p_slug (hX : rX X g) (hw : rW X r g) (hM : rM (X + 53) g) (hv : vR ρ) (hc : cR ρ r g) (hm : mR ρ (X + 53) g) (x : Int32) : ∃ v, f_X9_slug X x g = some (v, g) ∧ f_X10_slug (X + 53) x g = some (v, g) := by
  have hr := hX.rules hw
  have hb := hv.1
  unfold f_X9_slug f_X10_slug
  rw [hw.1, hr.1, hr.2.2.2.2.1, hc.1.1, hm.1, m_upto (by omega) (by omega), zb_some, hM.1]
  simp only [i_lt, i_nI (show aN ρ < 2147483648 by omega)]
  show ∃ v, (if x.toInt < 0 then some ((-1 : Int32), g) else if x.toInt < (aN ρ : Int) then _ else _) = _ ∧ _
  by_cases h : 0 ≤ x.toInt ∧ x.toInt < aN ρ
  · obtain ⟨k, hk, rfl⟩ := i_one h (by omega)
    rw [if_neg (by omega), if_pos h.2, if_pos h, b1, zc_pos (zlit k 48 (by omega) (by omega)), zc_pos (zlit k 49 (by omega) (by omega)), nI_cl (by omega), hc.2.1 k hk, hm.2.1 k hk]
    exact ⟨_, rfl, rfl⟩
  · refine ⟨-1, ?_, by rw [if_neg h]; rfl⟩
    by_cases h1 : x.toInt < 0
    · rw [if_pos h1]
    · rw [if_neg h1, if_neg (by omega)]
theorem p_holes (hX : rX X g) (hw : rW X r g) (hM : rM (X + 53) g) (hv : vR ρ) (hc : cR ρ r g) (hm : mR ρ (X + 53) g) (x : Int32) : ∃ v, f_X9_holes X x g = some (v, g) ∧ f_X10_holes (X + 53) x g = some (v, g) := by
  have hr := hX.rules hw
  have hb := hv.2.2.2.2.2.2.2.2.1
  unfold f_X9_holes f_X10_holes
  rw [q_isRow hX hw hv hc, zb_some, zc_pos (c := zin 7 8) (by decide), hM.set, c7, hm.val (by omega) (by omega), m_upto (by omega) (by omega), zb_some, hw.1, hr.2.2.2.1, hM.2.2.1]
  by_cases h : 0 ≤ x.toInt ∧ x.toInt < aV ρ 7
  · obtain ⟨k, hk, rfl⟩ := i_one h (by omega)
    rw [if_pos h, b1, b1, zc_pos (zlit k 60 (by omega) (by omega)), zc_pos (zlit k 60 (by omega) (by omega)), nI_cl (by omega), hc.2.2.2.2.2 k (by omega), hm.2.2.2.2.2 k (by omega)]
    exact ⟨_, rfl, rfl⟩
  · rw [if_neg h]
    exact ⟨-1, rfl, rfl⟩
/-- the line: a letter or none for each column -/
def iLine (ρ : aR) (X : Nat) (g : zG) (ln : Nat → Nat) : Prop := ∀ c, c < 40 → g.1 (X + 32) c = nI (ln c) ∧ g.1 (X + 53 + 21) c = nI (ln c) ∧ ln c ≤ 26 ∧ (aV ρ 3 ≤ c → ln c = 0)
theorem p_line (hX : rX X g) (hw : rW X r g) (hM : rM (X + 53) g) (hv : vR ρ) (hc : cR ρ r g) (hm : mR ρ (X + 53) g) {ln : Nat → Nat} (hl : iLine ρ X g ln) (x : Int32) : ∃ v, f_X9_line X x g = some (v, g) ∧ f_X10_line (X + 53) x g = some (v, g) := by
  have hb := hv.2.2.2.2.1
  unfold f_X9_line f_X10_line
  have e1 : g.2.1 (X + 53) 37 = X + 53 + 21 := by unfold rM at hM; simp only [hM]
  rw [q_isColumn hX hw hv hc, zb_some, m_isColumn hM hv hm, zb_some, hX.2.2.2.2.1, hX.2.2.2.2.2.2.2.2.2.2.2.2.2.1, e1]
  by_cases h : 0 ≤ x.toInt ∧ x.toInt < aV ρ 3
  · obtain ⟨k, hk, rfl⟩ := i_one h (by omega)
    rw [if_pos h, b1, b1, zc_pos (zlit k 40 (by omega) (by omega)), zc_pos (zlit k 40 (by omega) (by omega)), nI_cl (by omega), (hl k (by omega)).1, (hl k (by omega)).2.1]
    exact ⟨_, rfl, rfl⟩
  · rw [if_neg h]
    exact ⟨-1, rfl, rfl⟩
theorem p_ran (h7 : g.1 X 7 = g.1 (X + 53) 51) (h8 : g.1 X 7 ≠ 0 → g.1 X 8 = g.1 (X + 53) 52 ∧ g.1 X 9 = g.1 (X + 53) 53 ∧ g.1 X 10 = g.1 (X + 53) 54) (x : Int32) : ∃ v, f_X9_ran X x g = some (v, g) ∧ f_X10_ran (X + 53) x g = some (v, g) := by
  unfold f_X9_ran f_X10_ran
  rw [m_in 0 2 0 2 rfl rfl, zb_some, ← h7]
  simp only [i_lt, i_le]
  show ∃ v, (if x.toInt < 0 then some ((-1 : Int32), g) else if x.toInt ≤ 2 then _ else _) = _ ∧ _
  by_cases h1 : x.toInt < 0
  · exact ⟨-1, by rw [if_pos h1], by rw [if_neg (show ¬ (0 ≤ x.toInt ∧ x.toInt ≤ 2) by omega)]; rfl⟩
  · by_cases h2 : x.toInt ≤ 2
    · rw [if_neg h1, if_pos h2, if_pos (show 0 ≤ x.toInt ∧ x.toInt ≤ 2 by omega), b1]
      by_cases hz : g.1 X 7 = 0
      · rw [if_pos hz, if_pos hz]; exact ⟨_, rfl, rfl⟩
      · obtain ⟨e1, e2, e3⟩ := h8 hz
        rw [if_neg hz, if_neg hz, e1, e2, e3]
        by_cases h0 : x = 0
        · rw [if_pos h0]; exact ⟨_, rfl, rfl⟩
        · rw [if_neg h0]
          by_cases h1 : x = 1
          · rw [if_pos h1]; exact ⟨_, rfl, rfl⟩
          · rw [if_neg h1]; exact ⟨_, rfl, rfl⟩
    · exact ⟨-1, by rw [if_neg h1, if_neg h2], by rw [if_neg (show ¬ (0 ≤ x.toInt ∧ x.toInt ≤ 2) by omega)]; rfl⟩
end P1
