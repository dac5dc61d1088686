-- ===== counts =====
def lset (ch : Nat → Nat) : Nat → Nat
  | 0 => 0
  | k + 1 => lset ch k ||| 2 ^ ch k
theorem lset_bit (ch : Nat → Nat) (k l : Nat) : (lset ch k).testBit l = true ↔ ∃ i, i < k ∧ ch i = l := by
  induction k with
  | zero => rw [show lset ch 0 = 0 from rfl, Nat.zero_testBit]; exact ⟨fun h => (by cases h), fun ⟨i, h, _⟩ => absurd h (by omega)⟩
  | succ k ih =>
    rw [show lset ch (k + 1) = lset ch k ||| 2 ^ ch k from rfl, Nat.testBit_or, Bool.or_eq_true, ih, Nat.testBit_two_pow, decide_eq_true_iff]
    constructor
    · rintro (⟨i, h1, h2⟩ | h)
      · exact ⟨i, by omega, h2⟩
      · exact ⟨k, by omega, h⟩
    · rintro ⟨i, h1, h2⟩
      rcases Nat.lt_or_ge i k with h | h
      · exact Or.inl ⟨i, h, h2⟩
      · have : i = k := by omega
        rw [this] at h2; exact Or.inr h2
theorem lset_lt {ch : Nat → Nat} {k m : Nat} (h : ∀ i, i < k → ch i < m) : lset ch k < 2 ^ m := by
  induction k with
  | zero => exact Nat.two_pow_pos m
  | succ k ih => exact Nat.or_lt_two_pow (ih (fun i hi => h i (by omega))) (Nat.pow_lt_pow_right (by omega) (h k (by omega)))
theorem zshl_1 : ∀ l, l < 31 → zshl 1 (nI l) = nI (2 ^ l) := by decide +kernel
theorem zshr_k : ∀ k, k < 32 → ((nI k &&& 31).toBitVec.smod 32).toNat = k := by decide +kernel
theorem zshr_nI {x k : Nat} (hx : x < 2147483648) (hk : k < 32) : zshr (nI x) (nI k) = nI (x / 2 ^ k) := pk_shrN (by simpa using hx) _ k (zshr_k k hk)
theorem zbit {x k : Nat} (hx : x < 2147483648) (hk : k < 32) : zshr (nI x) (nI k) &&& 1 = nI (if x.testBit k then 1 else 0) := by
  have h1 : x / 2 ^ k < 2147483648 := Nat.lt_of_le_of_lt (Nat.div_le_self _ _) hx
  rw [zshr_nI hx hk, pk_andN (k := 1) (by omega) (by decide), Nat.testBit_eq_decide_div_mod_eq]
  congr 1
  rcases Nat.mod_two_eq_zero_or_one (x / 2 ^ k) with h | h
  · rw [show x / 2 ^ k % 2 ^ 1 = x / 2 ^ k % 2 from rfl, h]; rfl
  · rw [show x / 2 ^ k % 2 ^ 1 = x / 2 ^ k % 2 from rfl, h]; rfl
theorem m_countOf {x : Nat} (hx : x < 1073741824) (g : zG) : f_X10_countOf (nI x) g = some (nI (cw (fun k => x.testBit k) 32), g) := by
  have hcut : cw (fun k => x.testBit k) 32 = cw (fun k => x.testBit k) 30 := cw_cut (f := fun k => x.testBit k) (a := 30) 2 (fun i hi => Nat.testBit_lt_two_pow (Nat.lt_of_lt_of_le (show x < 2 ^ 30 from hx) (Nat.pow_le_pow_right (n := 2) (by decide) hi)))
  rw [hcut]
  unfold f_X10_countOf
  have hz := zw_seq (step := fun s : Int32 × Int32 => l_X10_countOf_4 (nI x) g s.1 s.2) (fun i => (nI (cw (fun k => x.testBit k) i), nI i)) (nI (cw (fun k => x.testBit k) 30)) 30 (fun i hi => ?_) ?_ (N := zN) (by have := zN_big; omega)
  · rw [show ((0, 0) : Int32 × Int32) = (nI (cw (fun k => x.testBit k) 0), nI 0) from rfl, hz, zk_some]
    rfl
  · show l_X10_countOf_4 (nI x) g (nI (cw (fun k => x.testBit k) i)) (nI i) = _
    unfold l_X10_countOf_4
    rw [if_neg (show ¬ (30 : Int32) ≤ nI i from fun e => by have := (nle (a := 30) (by omega) (by omega)).mp e; omega), zl_eq, zl_eq, zbit (by omega) (by omega), nI_add, nI_1]
    rfl
  · show l_X10_countOf_4 (nI x) g (nI (cw (fun k => x.testBit k) 30)) (nI 30) = _
    unfold l_X10_countOf_4
    rw [if_pos (show (30 : Int32) ≤ nI 30 from (nle (a := 30) (by omega) (by omega)).mpr (Nat.le_refl _))]
theorem q_letterSet {n : Nat} {ch : Nat → Nat} {a : Nat} {g : zG} (hn : n ≤ 48) (h1 : g.1 a 1 = nI n) (h2 : ∀ i, i < n → g.1 (g.2.1 a 0) i = nI (ch i) ∧ ch i ≤ 26) : f_X0_letterSet a g = some (nI (lset ch n), g) := by
  unfold f_X0_letterSet
  have hz := zw_seq (step := fun s : Int32 × Int32 => l_X0_letterSet_4 a g s.1 s.2) (fun i => (nI (lset ch i), nI i)) (nI (lset ch n)) n (fun i hi => ?_) ?_ (N := zN) (by have := zN_big; omega)
  · rw [show ((0, 0) : Int32 × Int32) = (nI (lset ch 0), nI 0) from rfl, hz, zk_some]
    rfl
  · show l_X0_letterSet_4 a g (nI (lset ch i)) (nI i) = _
    unfold l_X0_letterSet_4
    have := h2 i hi
    rw [h1, if_neg (fun e => by have := (nle (by omega) (by omega)).mp e; omega), zc_pos (zlit i 48 (by omega) (by omega)), nI_cl (by omega), this.1, zl_eq, zl_eq, zshl_1 _ (by omega), nI_or, nI_1]
    rfl
  · show l_X0_letterSet_4 a g (nI (lset ch n)) (nI n) = _
    unfold l_X0_letterSet_4
    rw [h1, if_pos ((nle (by omega) (by omega)).mpr (Nat.le_refl _))]
/-- a sum -/
def smf (f : Nat → Nat) : Nat → Nat
  | 0 => 0
  | k + 1 => smf f k + f k
theorem smf_cut {f : Nat → Nat} {a : Nat} (d : Nat) (h : ∀ i, a ≤ i → f i = 0) : smf f (a + d) = smf f a := by
  induction d with
  | zero => rfl
  | succ d ih => rw [← Nat.add_assoc, smf, h _ (by omega), ih]; rfl
def hol (h : Nat → Nat) (i : Nat) : Nat := cw (fun k => (h i).testBit k) 32
theorem q_holeCount {h : Nat → Nat} {a : Nat} {g : zG} (hh : ∀ i, i < 60 → g.1 (g.2.1 a 3) i = nI (h i) ∧ h i < 256) : f_X5_holeCount a g = some (nI (smf (hol h) 60), g) := by
  unfold f_X5_holeCount
  have hz := zw_seq (step := fun s : Int32 × Int32 × zG => l_X5_holeCount_4 a s.1 s.2.1 s.2.2) (fun i => (nI (smf (hol h) i), nI i, g)) (nI (smf (hol h) 60), g) 60 (fun i hi => ?_) ?_ (N := zN) (by have := zN_big; omega)
  · rw [show ((0, 0, g) : Int32 × Int32 × zG) = (nI (smf (hol h) 0), nI 0, g) from rfl, hz, zk_some]
    rfl
  · show l_X5_holeCount_4 a (nI (smf (hol h) i)) (nI i) g = _
    unfold l_X5_holeCount_4
    have := hh i hi
    rw [if_neg (show ¬ (60 : Int32) ≤ nI i from fun e => by have := (nle (a := 60) (by omega) (by omega)).mp e; omega), zc_pos (zlit i 60 (by omega) (by omega)), nI_cl (by omega), this.1, j_bits (by omega), zb_some, zl_eq, zl_eq, nI_add, nI_1]
    rfl
  · show l_X5_holeCount_4 a (nI (smf (hol h) 60)) (nI 60) g = _
    unfold l_X5_holeCount_4
    rw [if_pos (show (60 : Int32) ≤ nI 60 from (nle (a := 60) (by omega) (by omega)).mpr (Nat.le_refl _))]
theorem hol_0 {h : Nat → Nat} {i : Nat} (e : h i = 0) : hol h i = 0 := by unfold hol; rw [e]; decide
section OKS8
variable {X : Nat}
theorem o_count (x : Int32) : OKC X (fun g => f_X9_count X x g) (fun g => f_X10_count (X + 53) x g) := OKC.read (fun k σ r g hk hv hc hm => by
  have hX := hc.1
  have hw := hc.2.1
  have hr := hX.rules hw
  have hM := hm.1
  have bn := hv.1.1
  have bc := hv.1.2.1
  have b7 := hv.1.2.2.2.2.2.2.2.2.1
  have bh := hv.1.2.2.2.2.2.2.2.2.2.1
  have bh0 := hv.1.2.2.2.2.2.2.2.2.2.2.1
  have eL : f_X2_lettersInLine (X + 31) g = some (nI (cw (fun c => decide (zLn σ c ≠ 0)) 40), g) := q_lettersInLine hX.ln (fun c h => ⟨hc.2.2.2.2.2.1 c h, (hv.2.2.1 c h).1⟩)
  have eN : f_X10_lettersNow (X + 53) g = some (nI (cw (fun c => decide (zLn σ c ≠ 0)) 40), g) := m_lettersNow hM hv.1 hm.2.1 (fun c h => ⟨hm.2.2.2.2.1 c h, hv.2.2.1 c h⟩)
  have hls : lset (aC (zR σ)) (aN (zR σ)) < 2 ^ 27 := lset_lt (fun i hi => by have := bc i hi; omega)
  have eS : f_X0_letterSet (r + 1) g = some (nI (lset (aC (zR σ)) (aN (zR σ))), g) := q_letterSet (by omega) hc.2.2.1.1.1 (fun i hi => ⟨by rw [hr.2.2.2.2.1]; exact hc.2.2.1.2.1 i hi, (bc i hi).2⟩)
  have eH : f_X5_holeCount r g = some (nI (smf (hol (aH (zR σ))) 60), g) := q_holeCount (fun i hi => ⟨by rw [hr.2.2.2.1]; exact hc.2.2.1.2.2.2.2.2 i hi, bh i⟩)
  have hcut : smf (hol (aH (zR σ))) 60 = smf (hol (aH (zR σ))) (aV (zR σ) 7) := by
    have := smf_cut (f := hol (aH (zR σ))) (a := aV (zR σ) 7) (60 - aV (zR σ) 7) (fun i hi => hol_0 (bh0 i hi))
    rw [show aV (zR σ) 7 + (60 - aV (zR σ) 7) = 60 by omega] at this
    exact this
  have h1 := zw_seq (step := fun s : Int32 × Int32 => l_X10_count_7 (X + 53) x 0 g s.1 s.2) (fun i => (nI (lset (aC (zR σ)) i), nI i)) (nI (lset (aC (zR σ)) (aN (zR σ)))) (aN (zR σ)) (fun i hi => by
    show l_X10_count_7 (X + 53) x 0 g (nI (lset (aC (zR σ)) i)) (nI i) = _
    have := bc i hi
    unfold l_X10_count_7
    rw [hm.2.1.1, if_neg (fun e => by have := (nle (by omega) (by omega)).mp e; omega), zc_pos (zlit i 49 (by omega) (by omega)), nI_cl (by omega), hM.1, hm.2.1.2.1 i hi, zl_eq, zl_eq, zshl_1 _ (by omega), nI_or, nI_1]
    rfl) (by
    show l_X10_count_7 (X + 53) x 0 g (nI (lset (aC (zR σ)) (aN (zR σ)))) (nI (aN (zR σ))) = _
    unfold l_X10_count_7
    rw [hm.2.1.1, if_pos ((nle (by omega) (by omega)).mpr (Nat.le_refl _))]) (N := zN) (by have := zN_big; omega)
  have h2 := zw_seq (step := fun s : Int32 × Int32 × zG => l_X10_count_37 (X + 53) x (nI (lset (aC (zR σ)) (aN (zR σ)))) s.1 s.2.1 s.2.2) (fun i => (nI (smf (hol (aH (zR σ))) i), nI i, g)) (nI (smf (hol (aH (zR σ))) (aV (zR σ) 7)), g) (aV (zR σ) 7) (fun i hi => by
    show l_X10_count_37 (X + 53) x (nI (lset (aC (zR σ)) (aN (zR σ)))) (nI (smf (hol (aH (zR σ))) i)) (nI i) g = _
    have := bh i
    unfold l_X10_count_37
    rw [zc_pos (c := zin 7 8) (by decide), hM.set, c7, hm.2.1.val (by omega) (by omega), if_neg (fun e => by have := (nle (by omega) (by omega)).mp e; omega), zc_pos (zlit i 60 (by omega) (by omega)), nI_cl (by omega), hM.ho, hm.2.1.2.2.2.2.2 i (by omega), m_countOf (by omega), zb_some, zl_eq, zl_eq, nI_add, nI_1]
    rfl) (by
    show l_X10_count_37 (X + 53) x (nI (lset (aC (zR σ)) (aN (zR σ)))) (nI (smf (hol (aH (zR σ))) (aV (zR σ) 7))) (nI (aV (zR σ) 7)) g = _
    unfold l_X10_count_37
    rw [zc_pos (c := zin 7 8) (by decide), hM.set, c7, hm.2.1.val (by omega) (by omega), if_pos ((nle (by omega) (by omega)).mpr (Nat.le_refl _))]) (N := zN) (by have := zN_big; omega)
  have eM : f_X10_count (X + 53) x g = j_X10_count_68 (X + 53) x (nI (lset (aC (zR σ)) (aN (zR σ)))) (nI (smf (hol (aH (zR σ))) 60)) g := by
    unfold f_X10_count
    rw [show ((0, 0) : Int32 × Int32) = (nI (lset (aC (zR σ)) 0), nI 0) from rfl, h1, zk_some]
    unfold j_X10_count_34
    rw [show ((0, 0, g) : Int32 × Int32 × zG) = (nI (smf (hol (aH (zR σ))) 0), nI 0, g) from rfl, h2, zk_some, hcut]
  rw [eM]
  unfold f_X9_count j_X10_count_68
  rw [hX.pr, eL, zb_some, eN, zb_some, hw.1, hr.1, eS, zb_some, j_bits (by omega), zb_some, m_countOf (by omega), zb_some, eH, zb_some, hX.re, hc.2.2.2.1.1, hm.2.2.1.1]
  by_cases q0 : x = 0
  · rw [if_pos q0, if_pos q0]; exact ⟨_, rfl, rfl⟩
  · rw [if_neg q0, if_neg q0]
    by_cases q1 : x = 1
    · rw [if_pos q1, if_pos q1]; exact ⟨_, rfl, rfl⟩
    · rw [if_neg q1, if_neg q1]
      by_cases q2 : x = 2
      · rw [if_pos q2, if_pos q2]; exact ⟨_, rfl, rfl⟩
      · rw [if_neg q2, if_neg q2]
        by_cases q3 : x = 3
        · rw [if_pos q3, if_pos q3]; exact ⟨_, rfl, rfl⟩
        · rw [if_neg q3, if_neg q3]
          by_cases q4 : x = 4
          · rw [if_pos q4, if_pos q4, hX.sh, show f_X6_isNothing (X + 49) 0 g = _ from q_isNothing (X := X) (i := 0) (by omega), zb_some]
            simp only [zc_pos (show zin 0 4 by decide)]
            rw [hM.la, hM.si, c0, hX.sh1]
            have hs := hc.2.2.2.2.2.2.2.2.2.2.1 0 (by omega)
            have ms := hm.2.2.2.2.2.2.2.2.2.1 0 (by omega)
            cases hq : (zSh σ).1 0 with
            | none => rw [if_pos (hs.1 hq), if_pos (ms.1 hq)]; exact ⟨_, rfl, rfl⟩
            | some q =>
              obtain ⟨l, n⟩ := q
              have hb := hv.2.2.2.2.2.2 0 (by omega) l n hq
              rw [(hs.2 l n hq).2, (ms.2 l n hq).1, (ms.2 l n hq).2, if_neg (nm1 (by omega)), if_neg (nm4 (by omega)), b0, hX.sh, hX.sh1, (hs.2 l n hq).2]
              exact ⟨_, rfl, rfl⟩
          · rw [if_neg q4, if_neg q4]; exact ⟨_, rfl, rfl⟩)
end OKS8
