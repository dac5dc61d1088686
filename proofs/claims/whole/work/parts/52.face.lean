-- ===== which letter faces which column =====
def vCh (n p q : Nat) (ch : Nat → Nat) : Prop := (1 ≤ n ∧ n ≤ 48) ∧ (1 ≤ p ∧ p ≤ 6) ∧ (1 ≤ q ∧ q ≤ 6) ∧ ∀ i, i < n → 1 ≤ ch i ∧ ch i ≤ 26
/-- a chain of the class at a -/
def cCh (n p q : Nat) (ch : Nat → Nat) (a : Nat) (g : zG) : Prop := g.1 a 1 = nI n ∧ g.1 a 2 = nI p ∧ g.1 a 3 = nI q ∧ ∀ i, i < n → g.1 (g.2.1 a 0) i = nI (ch i)
/-- the chain of the reference -/
def mCh (n p q : Nat) (ch : Nat → Nat) (M : Nat) (g : zG) : Prop := g.1 M 0 = nI n ∧ g.1 (M + 2) 1 = nI p ∧ g.1 (M + 2) 2 = nI q ∧ ∀ i, i < n → g.1 (M + 1) i = nI (ch i)
def slg (n p q c t : Nat) : Nat := (c * q + t) / p % n
def fac (n p q : Nat) (ch : Nat → Nat) (c t l : Nat) : Prop := (c * q + t) % p = 0 ∧ ch (slg n p q c t) = l
theorem cR.ch {ρ : aR} {r : Nat} {g : zG} (h : cR ρ r g) (hr : rR r g) : cCh (aN ρ) (aV ρ 1) (aV ρ 2) (aC ρ) (r + 1) g := ⟨h.1.1, h.1.2.1, h.1.2.2, fun i hi => by rw [hr.2.2.2.2.1]; exact h.2.1 i hi⟩
theorem mR.ch {ρ : aR} {M : Nat} {g : zG} (h : mR ρ M g) : mCh (aN ρ) (aV ρ 1) (aV ρ 2) (aC ρ) M g := ⟨h.1, h.val (by omega) (by omega), h.val (by omega) (by omega), h.2.1⟩
theorem vR.ch {ρ : aR} (h : vR ρ) : vCh (aN ρ) (aV ρ 1) (aV ρ 2) (aC ρ) := ⟨by have := h.1; omega, by have := h.2.2.1; omega, h.2.2.2.1, h.2.1⟩
theorem zrem_nI {a d : Nat} (ha : a < 2147483648) (h0 : 0 < d) (hd : d < 2147483648) : zrem (nI a) (nI d) = nI (a % d) := pk_rem (by simpa using ha) h0 (by simpa using hd)
theorem zdiv_nI {a d : Nat} (ha : a < 2147483648) (h0 : 0 < d) (hd : d < 2147483648) : nI a / nI d = nI (a / d) := pk_div (by simpa using ha) h0 (by simpa using hd)
theorem nlt {a b : Nat} (ha : a < 2147483648) (hb : b < 2147483648) : nI a < nI b ↔ a < b := nI_ltI (by simpa using ha) (by simpa using hb)
theorem nle {a b : Nat} (ha : a < 2147483648) (hb : b < 2147483648) : nI a ≤ nI b ↔ a ≤ b := nI_leI (by simpa using ha) (by simpa using hb)
theorem nz {a : Nat} (h0 : 0 < a) (ha : a < 2147483648) : ¬ nI a = 0 := fun e => by have := (nI_inj (b := 0) ha (by omega)).mp e; omega
theorem nm4 {a : Nat} (ha : a < 2147483648) : ¬ nI a = -4 := fun e => by
  have h := congrArg Int32.toInt e
  rw [i_nI ha] at h
  have h2 : (-4 : Int32).toInt = -4 := rfl
  omega
theorem wb {q c t : Nat} (hq : q ≤ 6) (hc : c < 40) (ht : t < 2000000000) : c * q + t < 2147483648 := by
  have : c * q ≤ 39 * 6 := Nat.mul_le_mul (by omega) hq
  omega
section FA
variable {n p q : Nat} {ch : Nat → Nat} {g : zG} {a M : Nat}
theorem q_slugFacing (hv : vCh n p q ch) (h : cCh n p q ch a g) {c t : Nat} (hc : c < 40) (ht : t < 2000000000) : f_X0_slugFacing a (nI c) (nI t) g = some (if (c * q + t) % p = 0 then nI (slg n p q c t) else -4, g) := by
  obtain ⟨⟨n1, n2⟩, ⟨p1, p2⟩, ⟨q1, q2⟩, -⟩ := hv
  have hb := wb q2 hc ht
  unfold f_X0_slugFacing
  rw [zl_eq, h.1, h.2.1, h.2.2.1, pk_mul, nI_add]
  rw [if_neg (show ¬ nI n < (1 : Int32) from fun e => by have := (nlt (b := 1) (by omega) (by omega)).mp e; omega), if_neg (show ¬ nI p < (1 : Int32) from fun e => by have := (nlt (b := 1) (by omega) (by omega)).mp e; omega)]
  rw [zc_pos (nz (by omega) (by omega)), zrem_nI hb (by omega) (by omega), zc_pos (nz (by omega) (by omega)), zc_pos (nz (by omega) (by omega)), zdiv_nI hb (by omega) (by omega)]
  have hd : (c * q + t) / p < 2147483648 := Nat.lt_of_le_of_lt (Nat.div_le_self _ _) hb
  rw [zrem_nI hd (by omega) (by omega)]
  by_cases h0 : (c * q + t) % p = 0
  · rw [if_pos h0, h0]; rfl
  · rw [if_neg h0, if_neg (nz (by omega) (Nat.lt_of_le_of_lt (Nat.mod_le _ _) hb))]
theorem slg_lt (n1 : 1 ≤ n) (c t : Nat) : slg n p q c t < n := Nat.mod_lt _ (by omega)
theorem q_letterFacing (hv : vCh n p q ch) (h : cCh n p q ch a g) {c t : Nat} (hc : c < 40) (ht : t < 2000000000) : f_X0_letterFacing a (nI c) (nI t) g = some (if (c * q + t) % p = 0 then nI (ch (slg n p q c t)) else -4, g) := by
  have hn := hv.1
  have hs := slg_lt (p := p) (q := q) hn.1 c t
  unfold f_X0_letterFacing
  rw [q_slugFacing hv h hc ht, zb_some]
  by_cases h0 : (c * q + t) % p = 0
  · rw [if_pos h0, if_pos h0, if_pos (show (0 : Int32) ≤ nI (slg n p q c t) from (nle (a := 0) (by omega) (by omega)).mpr (by omega)), zc_pos (zlit _ 48 (by omega) (by omega)), nI_cl (by omega), h.2.2.2 _ hs]
  · rw [if_neg h0, if_neg h0]; rfl
theorem m_slugAt (hv : vCh n p q ch) (hM : rM M g) (h : mCh n p q ch M g) {c t : Nat} (hc : c < 40) (ht : t < 2000000000) : f_X10_slugAt M (nI c) (nI t) g = some (if (c * q + t) % p = 0 then nI (slg n p q c t) else -4, g) := by
  obtain ⟨⟨n1, n2⟩, ⟨p1, p2⟩, ⟨q1, q2⟩, -⟩ := hv
  have hb := wb q2 hc ht
  unfold f_X10_slugAt
  rw [zc_pos (c := zin 2 8) (by decide), zl_eq, zc_pos (c := zin 1 8) (by decide), zc_pos (c := zin 1 8) (by decide), hM.set, c1, c2, h.1, h.2.1, h.2.2.1, pk_mul, nI_add]
  rw [zc_pos (nz (by omega) (by omega)), zrem_nI hb (by omega) (by omega), zc_pos (nz (by omega) (by omega)), zc_pos (nz (by omega) (by omega)), zdiv_nI hb (by omega) (by omega)]
  have hd : (c * q + t) / p < 2147483648 := Nat.lt_of_le_of_lt (Nat.div_le_self _ _) hb
  rw [zrem_nI hd (by omega) (by omega)]
  by_cases h0 : (c * q + t) % p = 0
  · rw [if_pos h0, h0]; rfl
  · rw [if_neg h0, if_neg (nz (by omega) (Nat.lt_of_le_of_lt (Nat.mod_le _ _) hb))]
theorem m_letterAt (hv : vCh n p q ch) (hM : rM M g) (h : mCh n p q ch M g) {c t : Nat} (hc : c < 40) (ht : t < 2000000000) : f_X10_letterAt M (nI c) (nI t) g = some (if (c * q + t) % p = 0 then nI (ch (slg n p q c t)) else -4, g) := by
  have hn := hv.1
  have hs := slg_lt (p := p) (q := q) hn.1 c t
  unfold f_X10_letterAt
  rw [m_slugAt hv hM h hc ht, zb_some]
  by_cases h0 : (c * q + t) % p = 0
  · rw [if_pos h0, if_pos h0, if_neg (nm4 (by omega)), zc_pos (zlit _ 49 (by omega) (by omega)), nI_cl (by omega), hM.1, h.2.2.2 _ hs]
  · rw [if_neg h0, if_neg h0, if_pos rfl]
/-- the first tick from t on at which the letter faces the column -/
def fst (n p q : Nat) (ch : Nat → Nat) (c l t u : Nat) : Prop := t ≤ u ∧ fac n p q ch c u l ∧ ∀ s, t ≤ s → s < u → ¬ fac n p q ch c s l
theorem fst_uniq {c l t u w : Nat} (h1 : fst n p q ch c l t u) (h2 : fst n p q ch c l t w) : u = w := by
  rcases Nat.lt_trichotomy u w with h | h | h
  · exact absurd h1.2.1 (h2.2.2 u h1.1 h)
  · exact h
  · exact absurd h2.2.1 (h1.2.2 w h2.1 h)
/-- how long until slug i faces -/
def wt (n p W i : Nat) : Nat := if i * p < W % (n * p) then i * p + n * p - W % (n * p) else i * p - W % (n * p)
theorem wt_lt (n1 : 1 ≤ n) (p1 : 1 ≤ p) (W i : Nat) (hi : i < n) : wt n p W i < n * p := by
  have hpos : 0 < n * p := Nat.mul_pos (by omega) (by omega)
  have hm := Nat.mod_lt W hpos
  have hip : i * p < n * p := Nat.mul_lt_mul_of_pos_right hi (by omega)
  unfold wt
  split <;> omega
theorem wt_fac (n1 : 1 ≤ n) (p1 : 1 ≤ p) (W i : Nat) (hi : i < n) : (W + wt n p W i) % p = 0 ∧ (W + wt n p W i) / p % n = i := by
  have hpos : 0 < n * p := Nat.mul_pos (by omega) (by omega)
  have hm := Nat.mod_lt W hpos
  have hd := Nat.div_add_mod W (n * p)
  have hip : i * p < n * p := Nat.mul_lt_mul_of_pos_right hi (by omega)
  have key : ∃ z, W + wt n p W i = (i + n * z) * p := by
    unfold wt
    split
    · refine ⟨W / (n * p) + 1, ?_⟩
      have : (i + n * (W / (n * p) + 1)) * p = i * p + n * p * (W / (n * p)) + n * p := by
        rw [Nat.add_mul, Nat.mul_add, Nat.add_mul, Nat.mul_one, Nat.mul_right_comm n (W / (n * p)) p]; omega
      omega
    · refine ⟨W / (n * p), ?_⟩
      have : (i + n * (W / (n * p))) * p = i * p + n * p * (W / (n * p)) := by
        rw [Nat.add_mul, Nat.mul_right_comm n (W / (n * p)) p]
      omega
  obtain ⟨z, hz⟩ := key
  rw [hz]
  refine ⟨Nat.mul_mod_left _ _, ?_⟩
  rw [Nat.mul_div_cancel _ (by omega), Nat.add_mul_mod_self_left, Nat.mod_eq_of_lt hi]
theorem wt_le (n1 : 1 ≤ n) (p1 : 1 ≤ p) (W d : Nat) (hd : (W + d) % p = 0) : wt n p W ((W + d) / p % n) ≤ d := by
  have hpos : 0 < n * p := Nat.mul_pos (by omega) (by omega)
  have hm := Nat.mod_lt W hpos
  have hi : (W + d) / p % n < n := Nat.mod_lt _ (by omega)
  have h1 : (W + d) % (n * p) = ((W + d) / p % n) * p := by
    have e1 : W + d = (W + d) / p * p := by
      have := Nat.div_add_mod (W + d) p
      rw [hd, Nat.add_zero, Nat.mul_comm] at this
      exact this.symm
    have e2 : ((W + d) / p * p) % (n * p) = ((W + d) / p % n) * p := Nat.mul_mod_mul_right _ _ _
    rw [← e2, ← e1]
  have hip : ((W + d) / p % n) * p < n * p := Nat.mul_lt_mul_of_pos_right hi (by omega)
  have hdm := Nat.div_add_mod W (n * p)
  have hdm2 := Nat.div_add_mod (W + d) (n * p)
  have hle : W / (n * p) ≤ (W + d) / (n * p) := Nat.div_le_div_right (by omega)
  have hq : n * p * (W / (n * p)) ≤ n * p * ((W + d) / (n * p)) := Nat.mul_le_mul_left _ hle
  unfold wt
  split
  · rename_i hlt
    have hne : W / (n * p) ≠ (W + d) / (n * p) := by
      intro e
      rw [← e] at hdm2
      omega
    have hl2 : W / (n * p) + 1 ≤ (W + d) / (n * p) := by omega
    have hq2 : n * p * (W / (n * p) + 1) ≤ n * p * ((W + d) / (n * p)) := Nat.mul_le_mul_left _ hl2
    rw [Nat.mul_add, Nat.mul_one] at hq2
    omega
  · omega
/-- nextTick: the first such tick, if the chain has the letter -/
theorem q_next_loop (hv : vCh n p q ch) (h : cCh n p q ch a g) (W l T : Nat) (hl : l ≤ 26) : ∃ m, zw zN (fun s => l_X0_nextTick_40 a (nI l) (nI T) (nI (n * p)) (nI (W % (n * p))) g s.1 s.2) (nI (n * p), 0) = some (nI m) ∧ ((m = n * p ∧ ∀ i, i < n → ch i ≠ l) ∨ ((∃ i, i < n ∧ ch i = l ∧ m = wt n p W i) ∧ ∀ i, i < n → ch i = l → m ≤ wt n p W i)) := by
  obtain ⟨⟨n1, n2⟩, ⟨p1, p2⟩, ⟨q1, q2⟩, hch⟩ := hv
  have hpos : 0 < n * p := Nat.mul_pos (by omega) (by omega)
  have hnp : n * p ≤ 48 * 6 := Nat.mul_le_mul n2 p2
  have hm := Nat.mod_lt W hpos
  let Inv : Nat → Int32 × Int32 → Prop := fun k s => ∃ m, s = (nI m, nI k) ∧ m ≤ n * p ∧ ((m = n * p ∧ ∀ i, i < k → ch i ≠ l) ∨ ((∃ i, i < k ∧ ch i = l ∧ m = wt n p W i) ∧ ∀ i, i < k → ch i = l → m ≤ wt n p W i))
  let Qf : Int32 → Prop := fun r => ∃ m, r = nI m ∧ ((m = n * p ∧ ∀ i, i < n → ch i ≠ l) ∨ ((∃ i, i < n ∧ ch i = l ∧ m = wt n p W i) ∧ ∀ i, i < n → ch i = l → m ≤ wt n p W i))
  let sf : Int32 × Int32 → Option ((Int32 × Int32) ⊕ Int32) := fun s => l_X0_nextTick_40 a (nI l) (nI T) (nI (n * p)) (nI (W % (n * p))) g s.1 s.2
  have hS : ∀ k s, k < n → Inv k s → (∃ s', sf s = some (.inl s') ∧ Inv (k + 1) s') ∨ ∃ r, sf s = some (.inr r) ∧ Qf r := by
    intro k s hk hI
    obtain ⟨m, rfl, hmn, hI⟩ := hI
    left
    have hkp : k * p < n * p := Nat.mul_lt_mul_of_pos_right hk (by omega)
    have hwt := wt_lt n1 p1 W k hk
    have hstep : ∀ v, l_X0_nextTick_40 a (nI l) (nI T) (nI (n * p)) (nI (W % (n * p))) g (nI m) (nI k) = v ↔ (if ch k = l then (if n * p ≤ n * p ∧ m ≤ wt n p W k then some (.inl (nI m, nI (k + 1))) else some (.inl (nI (wt n p W k), nI (k + 1)))) else some (.inl (nI m, nI (k + 1)))) = v := by
      intro v
      have e : l_X0_nextTick_40 a (nI l) (nI T) (nI (n * p)) (nI (W % (n * p))) g (nI m) (nI k) = j_X0_nextTick_73_40 a (nI l) (nI T) (nI (n * p)) (nI (W % (n * p))) (nI m) (nI k) (nI (wt n p W k)) g := by
        unfold l_X0_nextTick_40
        rw [h.1, h.2.1, if_neg (show ¬ nI n ≤ nI k from fun e => by have := (nle (by omega) (by omega)).mp e; omega), pk_mul, zl_eq]
        by_cases hlt : k * p < W % (n * p)
        · have e1 : (nI (k * p) - nI (W % (n * p))).toInt = (k * p : Int) - (W % (n * p) : Nat) := by
            rw [i_sub (by rw [i_nI (by omega), i_nI (by omega)]; omega), i_nI (by omega), i_nI (by omega)]; omega
          rw [if_neg (show ¬ (0 : Int32) ≤ nI (k * p) - nI (W % (n * p)) from fun e => by
            rw [i_le, e1] at e
            have e0 : (0 : Int32).toInt = 0 := rfl
            omega), zl_eq]
          congr 1
          apply i_eq.mpr
          rw [i_add (by rw [e1, i_nI (by omega)]; omega), e1, i_nI (by omega), i_nI (by omega)]
          unfold wt
          rw [if_pos hlt]
          omega
        · rw [pk_sub (by omega), if_pos (show (0 : Int32) ≤ nI (k * p - W % (n * p)) from (nle (a := 0) (by omega) (by omega)).mpr (by omega))]
          unfold wt
          rw [if_neg hlt]
      rw [e]
      unfold j_X0_nextTick_73_40
      rw [zc_pos (zlit k 48 (by omega) (by omega)), nI_cl (by omega), h.2.2.2 k hk]
      have hck := hch k hk
      by_cases hc : ch k = l
      · rw [if_pos (show nI (ch k) = nI l by rw [hc]), if_pos hc]
        by_cases hle : m ≤ wt n p W k
        · rw [if_pos (show nI m ≤ nI (wt n p W k) from (nle (by omega) (by omega)).mpr hle), if_pos ⟨Nat.le_refl _, hle⟩, zl_eq, nI_1]
        · rw [if_neg (show ¬ nI m ≤ nI (wt n p W k) from fun e => hle ((nle (by omega) (by omega)).mp e)), if_neg (fun e => hle e.2), zl_eq, nI_1]
      · rw [if_neg (show ¬ nI (ch k) = nI l from fun e => hc ((nI_inj (by omega) (by omega)).mp e)), if_neg hc, zl_eq, nI_1]
    by_cases hc : ch k = l
    · by_cases hle : m ≤ wt n p W k
      · refine ⟨(nI m, nI (k + 1)), (hstep _).mpr (by rw [if_pos hc, if_pos ⟨Nat.le_refl _, hle⟩]), m, rfl, hmn, ?_⟩
        right
        rcases hI with ⟨h5, h6⟩ | ⟨⟨i, h5, h6, h7⟩, h8⟩
        · omega
        · refine ⟨⟨i, by omega, h6, h7⟩, fun j hj hcj => ?_⟩
          rcases Nat.lt_or_ge j k with hjk | hjk
          · exact h8 j hjk hcj
          · have : j = k := by omega
            rw [this]; exact hle
      · refine ⟨(nI (wt n p W k), nI (k + 1)), (hstep _).mpr (by rw [if_pos hc, if_neg (fun e => hle e.2)]), wt n p W k, rfl, by omega, ?_⟩
        right
        refine ⟨⟨k, by omega, hc, rfl⟩, fun j hj hcj => ?_⟩
        rcases Nat.lt_or_ge j k with hjk | hjk
        · rcases hI with ⟨h5, h6⟩ | ⟨-, h8⟩
          · exact absurd hcj (h6 j hjk)
          · have := h8 j hjk hcj
            omega
        · have : j = k := by omega
          rw [this]; exact Nat.le_refl _
    · refine ⟨(nI m, nI (k + 1)), (hstep _).mpr (by rw [if_neg hc]), m, rfl, hmn, ?_⟩
      rcases hI with ⟨h5, h6⟩ | ⟨⟨i, h5, h6, h7⟩, h8⟩
      · left
        refine ⟨h5, fun j hj => ?_⟩
        rcases Nat.lt_or_ge j k with hjk | hjk
        · exact h6 j hjk
        · have : j = k := by omega
          rw [this]; exact hc
      · right
        refine ⟨⟨i, by omega, h6, h7⟩, fun j hj hcj => ?_⟩
        rcases Nat.lt_or_ge j k with hjk | hjk
        · exact h8 j hjk hcj
        · have : j = k := by omega
          rw [this] at hcj
          exact absurd hcj hc
  have hE : ∀ s, Inv n s → ∃ r, sf s = some (.inr r) ∧ Qf r := by
    intro s hI
    obtain ⟨m, rfl, hmn, hI⟩ := hI
    refine ⟨nI m, ?_, m, rfl, hI⟩
    show l_X0_nextTick_40 a (nI l) (nI T) (nI (n * p)) (nI (W % (n * p))) g (nI m) (nI n) = _
    unfold l_X0_nextTick_40
    rw [h.1, if_pos (show nI n ≤ nI n from (nle (by omega) (by omega)).mpr (Nat.le_refl _))]
  obtain ⟨r, h1, m, h2, h3⟩ := zw_run Inv Qf n hS hE n 0 zN (nI (n * p), 0) (by omega) (by have := zN_big; omega) ⟨n * p, rfl, Nat.le_refl _, Or.inl ⟨rfl, fun i hi => by omega⟩⟩
  exact ⟨m, by rw [← h2]; exact h1, h3⟩
theorem q_nextTick (hv : vCh n p q ch) (h : cCh n p q ch a g) {c l t : Nat} (hc : c < 40) (hl : l ≤ 26) (ht : t < 1999999000) : (∃ u, f_X0_nextTick a (nI c) (nI l) (nI t) g = some (nI u, g) ∧ fst n p q ch c l t u ∧ u < t + n * p) ∨ (f_X0_nextTick a (nI c) (nI l) (nI t) g = some (-4, g) ∧ ∀ i, i < n → ch i ≠ l) := by
  have hv' := hv
  obtain ⟨⟨n1, n2⟩, ⟨p1, p2⟩, ⟨q1, q2⟩, hch⟩ := hv
  have hb := wb q2 hc (show t < 2000000000 by omega)
  have hpos : 0 < n * p := Nat.mul_pos (by omega) (by omega)
  have hnp : n * p ≤ 48 * 6 := Nat.mul_le_mul n2 p2
  obtain ⟨m, hm, hI⟩ := q_next_loop hv' h (c * q + t) l t hl
  have e : f_X0_nextTick a (nI c) (nI l) (nI t) g = j_X0_nextTick_101 a (nI t) (nI (n * p)) (nI m) g := by
    unfold f_X0_nextTick
    rw [h.1, h.2.1, h.2.2.1, pk_mul, pk_mul, nI_add, zl_eq, if_pos (show (1 : Int32) ≤ nI (n * p) from (nle (a := 1) (by omega) (by omega)).mpr (by omega)), zc_pos (nz hpos (by omega)), zrem_nI hb hpos (by omega), zl_eq, hm, zk_some]
  rw [e]
  unfold j_X0_nextTick_101
  rcases hI with ⟨h5, h6⟩ | ⟨⟨i, h5, h6, h7⟩, h8⟩
  · right
    rw [h5, if_pos rfl]
    exact ⟨rfl, h6⟩
  · left
    have hw := wt_lt n1 p1 (c * q + t) i h5
    have hf := wt_fac n1 p1 (c * q + t) i h5
    refine ⟨t + m, ?_, ⟨by omega, ⟨?_, ?_⟩, fun s hs1 hs2 hfs => ?_⟩, by omega⟩
    · rw [if_neg (fun e => by have := (nI_inj (by omega) (by omega)).mp e; omega), nI_add]
    · rw [h7, ← Nat.add_assoc]; exact hf.1
    · unfold slg
      rw [h7, ← Nat.add_assoc, hf.2, h6]
    · have hd : (c * q + t + (s - t)) % p = 0 := by
        rw [Nat.add_assoc, show t + (s - t) = s by omega]; exact hfs.1
      have h9 := wt_le n1 p1 (c * q + t) (s - t) hd
      have h10 : (c * q + t + (s - t)) / p % n = slg n p q c s := by
        unfold slg
        rw [Nat.add_assoc, show t + (s - t) = s by omega]
      rw [h10] at h9
      have := h8 _ (slg_lt n1 c s) hfs.2
      omega
end FA
