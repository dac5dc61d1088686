-- ===== reading the mirrors =====
theorem zc_pos {ρ : Type} {c : Prop} [dz : Decidable c] {o : Option ρ} (h : c) : zc c o = o := if_pos h
theorem zb_some {ρ : Type} (r : Int32) (g : zG) (k : Int32 → zG → Option ρ) : zb (some (r, g)) k = k r g := rfl
theorem zl_eq {α ρ : Type} (e : α) (k : α → ρ) : zl e k = k e := rfl
theorem zk_some {ξ ρ : Type} (x : ξ) (c : ξ → Option ρ) : zk (some x) c = c x := rfl
theorem zk2_inl {ξ ρ : Type} (x : ξ) (c : ξ → Option ρ) : zk2 (some (.inl x)) c = c x := rfl
theorem zk2_inr {ξ ρ : Type} (r : ρ) (c : ξ → Option ρ) : zk2 (some (.inr r)) c = some r := rfl
/-- a loop that counts: at most n turns, then an end -/
theorem zw_run {σ ρ : Type} {step : σ → Option (σ ⊕ ρ)} (I : Nat → σ → Prop) (Q : ρ → Prop) (n : Nat) (hs : ∀ k s, k < n → I k s → (∃ s', step s = some (.inl s') ∧ I (k + 1) s') ∨ ∃ r, step s = some (.inr r) ∧ Q r) (he : ∀ s, I n s → ∃ r, step s = some (.inr r) ∧ Q r) : ∀ (d k N : Nat) (s : σ), k + d = n → d < N → I k s → ∃ r, zw N step s = some r ∧ Q r := by
  intro d
  induction d with
  | zero =>
    intro k N s hk hN hI
    obtain ⟨N, rfl⟩ : ∃ M, N = M + 1 := ⟨N - 1, by omega⟩
    have : k = n := by omega
    subst this
    obtain ⟨r, h1, h2⟩ := he s hI
    exact ⟨r, by unfold zw; rw [h1], h2⟩
  | succ d ih =>
    intro k N s hk hN hI
    obtain ⟨N, rfl⟩ : ∃ M, N = M + 1 := ⟨N - 1, by omega⟩
    rcases hs k s (by omega) hI with ⟨s', h1, h2⟩ | ⟨r, h1, h2⟩
    · obtain ⟨r, h3, h4⟩ := ih (k + 1) N s' (by omega) (by omega) h2
      exact ⟨r, by unfold zw; rw [h1]; exact h3, h4⟩
    · exact ⟨r, by unfold zw; rw [h1], h2⟩
/-- the same with the value told: a loop whose state at turn k is s k -/
theorem zw_seq {σ ρ : Type} {step : σ → Option (σ ⊕ ρ)} (s : Nat → σ) (r : ρ) (n : Nat) (hs : ∀ k, k < n → step (s k) = some (.inl (s (k + 1)))) (he : step (s n) = some (.inr r)) {N : Nat} (hN : n < N) : zw N step (s 0) = some r := by
  obtain ⟨r', h1, h2⟩ := zw_run (step := step) (fun k x => x = s k) (fun x => x = r) n (fun k x hk hx => Or.inl ⟨s (k + 1), by rw [hx]; exact hs k hk, rfl⟩) (fun x hx => ⟨r, by rw [hx]; exact he, rfl⟩) n 0 N (s 0) (by omega) hN rfl
  rw [h1, h2]
theorem zN_big : 99999 < zN := by unfold zN; omega
-- ===== numbers =====
theorem i_lt {a b : Int32} : a < b ↔ a.toInt < b.toInt := Int32.lt_iff_toInt_lt
theorem i_le {a b : Int32} : a ≤ b ↔ a.toInt ≤ b.toInt := Int32.le_iff_toInt_le
theorem i_eq {a b : Int32} : a = b ↔ a.toInt = b.toInt := Int32.toInt_inj.symm
theorem i_rng (a : Int32) : -2147483648 ≤ a.toInt ∧ a.toInt < 2147483648 := ⟨by have := Int32.le_toInt a; simpa using this, by have := Int32.toInt_lt a; simpa using this⟩
theorem i_add {a b : Int32} (h : -2147483648 ≤ a.toInt + b.toInt ∧ a.toInt + b.toInt < 2147483648) : (a + b).toInt = a.toInt + b.toInt := by
  rw [Int32.toInt_add]
  exact Int.bmod_eq_of_le (by omega) (by omega)
theorem i_sub {a b : Int32} (h : -2147483648 ≤ a.toInt - b.toInt ∧ a.toInt - b.toInt < 2147483648) : (a - b).toInt = a.toInt - b.toInt := by
  rw [Int32.toInt_sub]
  exact Int.bmod_eq_of_le (by omega) (by omega)
theorem i_mul {a b : Int32} (h : -2147483648 ≤ a.toInt * b.toInt ∧ a.toInt * b.toInt < 2147483648) : (a * b).toInt = a.toInt * b.toInt := by
  rw [Int32.toInt_mul]
  exact Int.bmod_eq_of_le (by omega) (by omega)
theorem i_nI {n : Nat} (h : n < 2147483648) : (nI n).toInt = n := nI_toInt (by simpa using h)
theorem i_zin {i : Int32} {n : Nat} : zin i n ↔ 0 ≤ i.toInt ∧ i.toInt < n := vp_in_iff
theorem i_clamp (i : Int32) : i.toNatClampNeg = i.toInt.toNat := rfl
theorem in_spec (x lo hi : Int64) (g : zG) : f_X10_in x lo hi g = some (if lo.toInt ≤ x.toInt ∧ x.toInt ≤ hi.toInt then 1 else 0, g) := by
  unfold f_X10_in
  simp only [lg_cmp_lt, lg_cmp_gt, Int64.lt_iff_toInt_lt]
  by_cases h1 : x.toInt < lo.toInt
  · rw [if_pos h1, if_neg (by omega)]
  · rw [if_neg h1]
    by_cases h2 : hi.toInt < x.toInt
    · rw [if_pos h2, if_neg (by omega)]
    · rw [if_neg h2, if_pos (by omega)]
/-- a test of bounds: what it answers as a truth -/
theorem in_1 {x lo hi : Int64} {g : zG} {ρ : Type} {A B : Option ρ} (h : lo.toInt ≤ x.toInt ∧ x.toInt ≤ hi.toInt) : zb (f_X10_in x lo hi g) (fun v g1 => if v = 0 then A else B) = B := by
  rw [in_spec, if_pos h]; rfl
