-- ===== orders of letters =====
section PM
def swp (f : Nat → Nat) (i j : Nat) : Nat → Nat := zup (zup f i (f j)) j (f i)
def cnt (P : Nat → Bool) (f : Nat → Nat) (i n : Nat) : Nat := cw (fun j => decide (i ≤ j) && P (f j)) n
def Pm (i n : Nat) (f f' : Nat → Nat) : Prop := ∀ P : Nat → Bool, cnt P f i n = cnt P f' i n
theorem zup_same (f : Nat → Nat) (k x : Nat) : zup f k x k = x := if_pos rfl
theorem zup_ne {f : Nat → Nat} {k x j : Nat} (h : j ≠ k) : zup f k x j = f j := if_neg h
theorem cw_up {h h' : Nat → Bool} {a : Nat} (e : ∀ j, j ≠ a → h' j = h j) : ∀ n, a < n → cw h' n + (if h a = true then 1 else 0) = cw h n + (if h' a = true then 1 else 0) := by
  intro n
  induction n with
  | zero => intro z; omega
  | succ n ih =>
    intro ha
    show cw h' n + (if h' n = true then 1 else 0) + (if h a = true then 1 else 0) = cw h n + (if h n = true then 1 else 0) + (if h' a = true then 1 else 0)
    by_cases e1 : a = n
    · subst e1
      have : cw h' a = cw h a := cw_same (fun i hi => e i (by omega))
      omega
    · have h1 := ih (by omega)
      rw [e n (fun z => e1 z.symm)]
      omega
theorem Pm.refl (i n : Nat) (f : Nat → Nat) : Pm i n f f := fun _ => rfl
theorem Pm.trans {i n : Nat} {f f' f2 : Nat → Nat} (h : Pm i n f f') (h2 : Pm i n f' f2) : Pm i n f f2 := fun P => (h P).trans (h2 P)
theorem Pm.symm {i n : Nat} {f f' : Nat → Nat} (h : Pm i n f f') : Pm i n f' f := fun P => (h P).symm
theorem swp_self (f : Nat → Nat) (a : Nat) : swp f a a = f := by
  funext j
  unfold swp zup
  by_cases h : j = a
  · rw [if_pos h, h]
  · rw [if_neg h, if_neg h]
theorem swp_l {f : Nat → Nat} {a b : Nat} : swp f a b a = f b := by
  unfold swp zup
  by_cases h : a = b
  · rw [if_pos h, h]
  · rw [if_neg h, if_pos rfl]
theorem swp_r {f : Nat → Nat} {a b : Nat} : swp f a b b = f a := by
  unfold swp zup
  rw [if_pos rfl]
theorem swp_o {f : Nat → Nat} {a b j : Nat} (h1 : j ≠ a) (h2 : j ≠ b) : swp f a b j = f j := by
  unfold swp zup
  rw [if_neg h2, if_neg h1]
theorem swp_pm {i n a b : Nat} {f : Nat → Nat} (ha : i ≤ a) (hb : i ≤ b) (ha2 : a < n) (hb2 : b < n) : Pm i n f (swp f a b) := by
  intro P
  by_cases e : a = b
  · subst e; rw [swp_self]
  · have u1 := cw_up (h := fun j => decide (i ≤ j) && P (f j)) (h' := fun j => decide (i ≤ j) && P (zup f a (f b) j)) (a := a) (fun j hj => by show (_ && P (zup f a (f b) j)) = _; rw [zup_ne hj]) n ha2
    have u2 := cw_up (h := fun j => decide (i ≤ j) && P (zup f a (f b) j)) (h' := fun j => decide (i ≤ j) && P (swp f a b j)) (a := b) (fun j hj => by show (_ && P (zup (zup f a (f b)) b (f a) j)) = _; rw [zup_ne hj]) n hb2
    simp only [ha, hb, decide_true, Bool.true_and, zup_same, swp_r, zup_ne (fun z => e z.symm : b ≠ a)] at u1 u2
    unfold cnt
    omega
theorem cnt_split {P : Nat → Bool} {f : Nat → Nat} {i n : Nat} (h : i < n) : cnt P f i n = cnt P f (i + 1) n + (if P (f i) = true then 1 else 0) := by
  have u := cw_up (h := fun j => decide (i + 1 ≤ j) && P (f j)) (h' := fun j => decide (i ≤ j) && P (f j)) (a := i) (fun j hj => by
    show (decide (i ≤ j) && P (f j)) = (decide (i + 1 ≤ j) && P (f j))
    congr 1
    exact decide_eq_decide.mpr (by omega)) n h
  simp only [show decide (i + 1 ≤ i) = false from decide_eq_false (by omega), show decide (i ≤ i) = true from decide_eq_true (by omega), Bool.false_and, Bool.true_and] at u
  unfold cnt
  have e0 : (if false = true then 1 else 0) = 0 := rfl
  rw [e0] at u
  omega
theorem Pm.down {i n : Nat} {f f' : Nat → Nat} (h : Pm (i + 1) n f f') (e : f i = f' i) (hi : i < n) : Pm i n f f' := fun P => by
  rw [cnt_split hi, cnt_split hi, h P, e]
theorem Pm.downs {n : Nat} {f f' : Nat → Nat} : ∀ (d i : Nat), Pm (i + d) n f f' → i + d ≤ n → (∀ j, j < i + d → f j = f' j) → Pm i n f f' := by
  intro d
  induction d with
  | zero => intro i h _ _; exact h
  | succ d ih =>
    intro i h hn e
    have h2 : Pm (i + d) n f f' := Pm.down (by rw [Nat.add_assoc]; exact h) (e _ (by omega)) (by omega)
    exact ih i h2 (by omega) (fun j hj => e j (by omega))
theorem cw_stop {f : Nat → Bool} {a : Nat} : ∀ d, (∀ i, a ≤ i → i < a + d → f i = false) → cw f (a + d) = cw f a := by
  intro d
  induction d with
  | zero => intro _; rfl
  | succ d ih =>
    intro h
    rw [← Nat.add_assoc, cw_f (h (a + d) (by omega) (by omega)), ih (fun i i1 i2 => h i i1 (by omega))]
theorem cw_full {f : Nat → Bool} : ∀ k, (∀ i, i < k → f i = true) → cw f k = k := by
  intro k
  induction k with
  | zero => intro _; rfl
  | succ k ih => intro h; rw [cw_t (h k (by omega)), ih (fun i hi => h i (by omega))]
theorem cnt_le (P : Nat → Bool) (f : Nat → Nat) (d n : Nat) (h : d ≤ n) : cnt P f (n - d) n ≤ d := by
  unfold cnt
  have h0 : cw (fun j => decide (n - d ≤ j) && P (f j)) (n - d) = 0 := cw_zero (fun c hc => by rw [decide_eq_false (by omega)]; rfl)
  have h1 := cw_add (fun j => decide (n - d ≤ j) && P (f j)) (n - d) d
  have h2 := cw_le (fun k => decide (n - d ≤ n - d + k) && P (f (n - d + k))) d
  rw [show n - d + d = n by omega] at h1
  omega
theorem cnt_sub {P Q : Nat → Bool} {f : Nat → Nat} {i n : Nat} (h : ∀ v, P v = true → Q v = true) : cnt P f i n ≤ cnt Q f i n := by
  unfold cnt
  induction n with
  | zero => exact Nat.le_refl _
  | succ n ih =>
    show cw _ n + (if (decide (i ≤ n) && P (f n)) = true then 1 else 0) ≤ cw _ n + (if (decide (i ≤ n) && Q (f n)) = true then 1 else 0)
    refine Nat.add_le_add ih ?_
    cases hp : P (f n) with
    | false => rw [Bool.and_false, if_neg (by decide)]; exact Nat.zero_le _
    | true => rw [h _ hp]; exact Nat.le_refl _
/-- the place of an order among all -/
def fct : Nat → Nat
  | 0 => 1
  | d + 1 => (d + 1) * fct d
def rkd (n : Nat) (f : Nat → Nat) : Nat → Nat
  | 0 => 0
  | d + 1 => cnt (fun v => decide (v < f (n - (d + 1)))) f (n - d) n * fct d + rkd n f d
theorem rkd_lt (n : Nat) (f : Nat → Nat) : ∀ d, d ≤ n → rkd n f d < fct d := by
  intro d
  induction d with
  | zero => intro _; show 0 < 1; omega
  | succ d ih =>
    intro h
    have h1 := ih (by omega)
    have h2 := cnt_le (fun v => decide (v < f (n - (d + 1)))) f d n (by omega)
    have h3 := Nat.mul_le_mul_right (fct d) h2
    show cnt (fun v => decide (v < f (n - (d + 1)))) f (n - d) n * fct d + rkd n f d < (d + 1) * fct d
    rw [Nat.add_mul, Nat.one_mul]
    omega
theorem fct_mono : ∀ n, n ≤ 6 → fct n ≤ 720 := by decide
theorem rk_step {i n : Nat} {f f' : Nat → Nat} (hi : i < n) (he : ∀ j, j < i → f j = f' j) (hl : f i < f' i) (hp : Pm i n f f') : rkd n f n < rkd n f' n := by
  have base : ∀ e, n - (e + 1) = i → e + 1 ≤ n → rkd n f (e + 1) < rkd n f' (e + 1) := by
    intro e h1 h2
    have hn : n - e = i + 1 := by omega
    show cnt (fun v => decide (v < f (n - (e + 1)))) f (n - e) n * fct e + rkd n f e < cnt (fun v => decide (v < f' (n - (e + 1)))) f' (n - e) n * fct e + rkd n f' e
    rw [h1, hn]
    have k1 := cnt_split (P := fun v => decide (v < f' i)) (f := f) hi
    have k2 := cnt_split (P := fun v => decide (v < f' i)) (f := f') hi
    rw [if_pos (decide_eq_true hl)] at k1
    rw [if_neg (by rw [decide_eq_true_iff]; omega)] at k2
    have k3 := hp (fun v => decide (v < f' i))
    have k4 := cnt_sub (P := fun v => decide (v < f i)) (Q := fun v => decide (v < f' i)) (f := f) (i := i + 1) (n := n) (fun v hv => decide_eq_true (by have := of_decide_eq_true hv; omega))
    have k5 := rkd_lt n f e (by omega)
    have k6 : cnt (fun v => decide (v < f i)) f (i + 1) n + 1 ≤ cnt (fun v => decide (v < f' i)) f' (i + 1) n := by omega
    have k7 := Nat.mul_le_mul_right (fct e) k6
    rw [Nat.add_mul, Nat.one_mul] at k7
    omega
  have up : ∀ d, n - i + d ≤ n → rkd n f (n - i + d) < rkd n f' (n - i + d) := by
    intro d
    induction d with
    | zero =>
      intro _
      have := base (n - i - 1) (by omega) (by omega)
      rw [show n - i - 1 + 1 = n - i + 0 by omega] at this
      exact this
    | succ d ih =>
      intro h
      have h1 := ih (by omega)
      show cnt (fun v => decide (v < f (n - (n - i + d + 1)))) f (n - (n - i + d)) n * fct (n - i + d) + rkd n f (n - i + d) < cnt (fun v => decide (v < f' (n - (n - i + d + 1)))) f' (n - (n - i + d)) n * fct (n - i + d) + rkd n f' (n - i + d)
      have h2 : Pm (n - (n - i + d)) n f f' := by
        refine Pm.downs d _ ?_ (by omega) (fun j hj => he j (by omega))
        rw [show n - (n - i + d) + d = i by omega]; exact hp
      rw [he (n - (n - i + d + 1)) (by omega), h2]
      omega
  have := up i (by omega)
  rw [show n - i + i = n by omega] at this
  exact this
def srt (n : Nat) (s : Nat → Nat) : Prop := ∀ a b, a < b → b < n → s a ≤ s b
theorem srt_le {n : Nat} {s s' : Nat → Nat} (h1 : srt n s) (h2 : srt n s') (hp : Pm 0 n s s') {i : Nat} (hi : i < n) : s' i ≤ s i := by
  apply Classical.byContradiction
  intro hlt
  have e : cw (fun j => decide (0 ≤ j) && decide (s j ≤ s i)) n = cw (fun j => decide (0 ≤ j) && decide (s' j ≤ s i)) n := hp (fun v => decide (v ≤ s i))
  have c1 : i + 1 ≤ cw (fun j => decide (0 ≤ j) && decide (s j ≤ s i)) n := by
    have := cw_full (f := fun j => decide (0 ≤ j) && decide (s j ≤ s i)) (i + 1) (fun j hj => by
      rw [decide_eq_true (Nat.zero_le j), Bool.true_and]
      apply decide_eq_true
      rcases Nat.lt_or_ge j i with h | h
      · exact h1 j i h hi
      · rw [show j = i by omega]; exact Nat.le_refl _)
    have m := cw_mono (fun j => decide (0 ≤ j) && decide (s j ≤ s i)) (show i + 1 ≤ n by omega)
    omega
  have c2 : cw (fun j => decide (0 ≤ j) && decide (s' j ≤ s i)) n ≤ i := by
    have := cw_stop (f := fun j => decide (0 ≤ j) && decide (s' j ≤ s i)) (a := i) (n - i) (fun j j1 j2 => by
      have : ¬ s' j ≤ s i := by
        rcases Nat.lt_or_ge i j with h | h
        · have := h2 i j h (by omega); omega
        · rw [show j = i by omega]; omega
      rw [decide_eq_false this, Bool.and_false])
    rw [show i + (n - i) = n by omega] at this
    rw [this]
    exact cw_le _ _
  omega
theorem srt_eq {n : Nat} {s s' : Nat → Nat} (h1 : srt n s) (h2 : srt n s') (hp : Pm 0 n s s') : ∀ i, i < n → s i = s' i := fun i hi => Nat.le_antisymm (srt_le h2 h1 hp.symm hi) (srt_le h1 h2 hp hi)
theorem Pm.has {n : Nat} {f f' : Nat → Nat} (h : Pm 0 n f f') {l : Nat} (hx : ∃ i, i < n ∧ f i = l) : ∃ i, i < n ∧ f' i = l := by
  apply Classical.byContradiction
  intro hn
  have e : cw (fun j => decide (0 ≤ j) && decide (f j = l)) n = cw (fun j => decide (0 ≤ j) && decide (f' j = l)) n := h (fun v => decide (v = l))
  have z : cw (fun j => decide (0 ≤ j) && decide (f' j = l)) n = 0 := cw_zero (fun c hc => by
    rw [decide_eq_false (fun z => hn ⟨c, hc, z⟩), Bool.and_false])
  rw [z] at e
  obtain ⟨i, i1, i2⟩ := hx
  have := cw_none e i i1
  rw [decide_eq_true (Nat.zero_le i), decide_eq_true i2] at this
  cases this
theorem Pm.all {n : Nat} {f f' : Nat → Nat} (h : Pm 0 n f f') {Q : Nat → Prop} (hx : ∀ i, i < n → Q (f i)) : ∀ i, i < n → Q (f' i) := fun i hi => by
  obtain ⟨j, j1, j2⟩ := h.symm.has ⟨i, hi, rfl⟩
  rw [← j2]; exact hx j j1
theorem nI_p (m : Nat) : nI (m + 1) + (-1) = nI m := by
  have : (-1 : Int32) = -(nI 1) := rfl
  rw [this, ← Int32.sub_eq_add_neg, pk_sub (by omega)]
  rfl
theorem nI_s2 {m : Nat} (h : 2 ≤ m) : nI m - 2 = nI (m - 2) := pk_sub h
theorem nI_s1 {m : Nat} (h : 1 ≤ m) : nI m - 1 = nI (m - 1) := pk_sub h
theorem nI_neg {a : Nat} (ha : a < 2147483648) : ¬ nI a < (0 : Int32) := fun e => by
  have := (nlt (b := 0) ha (by omega)).mp e
  omega
theorem nI_pos0 {a : Nat} (ha : a < 2147483648) : (0 : Int32) ≤ nI a := (nle (a := 0) (by omega) ha).mpr (Nat.zero_le _)
/-- the letters turned round from lo to hi -/
def rv (f : Nat → Nat) (lo hi : Nat) : Nat → Nat → Nat
  | 0 => f
  | d + 1 => if hi ≤ lo then f else rv (swp f lo hi) (lo + 1) (hi - 1) d
theorem rv_pm {i n : Nat} : ∀ (d : Nat) (f : Nat → Nat) (lo hi : Nat), i ≤ lo → hi < n → Pm i n f (rv f lo hi d) ∧ ∀ j, j < lo → rv f lo hi d j = f j := by
  intro d
  induction d with
  | zero => intro f lo hi _ _; exact ⟨Pm.refl _ _ _, fun _ _ => rfl⟩
  | succ d ih =>
    intro f lo hi h1 h2
    unfold rv
    by_cases h : hi ≤ lo
    · rw [if_pos h]; exact ⟨Pm.refl _ _ _, fun _ _ => rfl⟩
    · rw [if_neg h]
      obtain ⟨q1, q2⟩ := ih (swp f lo hi) (lo + 1) (hi - 1) (by omega) (by omega)
      exact ⟨(swp_pm h1 (by omega) (by omega) h2).trans q1, fun j hj => by rw [q2 j (by omega), swp_o (by omega) (by omega)]⟩
theorem rv_e {f : Nat → Nat} {lo hi d : Nat} (h : hi ≤ lo) : rv f lo hi (d + 1) = f := if_pos h
theorem rv_s {f : Nat → Nat} {lo hi d : Nat} (h : ¬ hi ≤ lo) : rv f lo hi (d + 1) = rv (swp f lo hi) (lo + 1) (hi - 1) d := if_neg h
/-- the pivot of an order, and what it changes with -/
def piv (n : Nat) (f : Nat → Nat) (p q : Nat) : Prop := p + 1 < n ∧ f p < f (p + 1) ∧ (∀ j, p < j → j + 1 < n → f (j + 1) ≤ f j) ∧ p < q ∧ q < n ∧ f p < f q ∧ ∀ j, q < j → j < n → f j ≤ f p
def nxt (n : Nat) (f : Nat → Nat) (p q : Nat) : Nat → Nat := rv (swp f p q) (p + 1) (n - 1) (n + 1)
theorem piv_ex {n : Nat} {f : Nat → Nat} (hn : 2 ≤ n) : (∀ i, i + 1 < n → f (i + 1) ≤ f i) ∨ ∃ p q, piv n f p q := by
  by_cases h : ∀ i, i + 1 < n → f (i + 1) ≤ f i
  · exact Or.inl h
  · right
    have hex : ∃ d, d + 2 ≤ n ∧ f (n - 2 - d) < f (n - 2 - d + 1) := Classical.byContradiction (fun hno => h (fun i hi => Classical.byContradiction (fun hi2 => hno ⟨n - 2 - i, by omega, by rw [show n - 2 - (n - 2 - i) = i by omega]; omega⟩)))
    obtain ⟨d, ⟨d1, d2⟩, d3⟩ := pk_least _ hex
    have hex2 : ∃ e, n - 2 - d < n - 1 - e ∧ e < n ∧ f (n - 2 - d) < f (n - 1 - e) := ⟨d, by omega, by omega, by rw [show n - 1 - d = n - 2 - d + 1 by omega]; exact d2⟩
    obtain ⟨e, ⟨e1, e2, e3⟩, e4⟩ := pk_least _ hex2
    refine ⟨n - 2 - d, n - 1 - e, by omega, d2, fun j j1 j2 => ?_, e1, by omega, e3, fun j j1 j2 => ?_⟩
    · have := d3 (n - 2 - j) (by omega)
      rw [show n - 2 - (n - 2 - j) = j by omega] at this
      apply Classical.byContradiction
      intro hx
      exact this ⟨by omega, by omega⟩
    · have := e4 (n - 1 - j) (by omega)
      rw [show n - 1 - (n - 1 - j) = j by omega] at this
      apply Classical.byContradiction
      intro hx
      exact this ⟨by omega, by omega, by omega⟩
theorem nxt_pm {n p q : Nat} {f : Nat → Nat} (h : piv n f p q) : Pm p n f (nxt n f p q) ∧ (∀ j, j < p → f j = nxt n f p q j) ∧ f p < nxt n f p q p := by
  obtain ⟨h1, h2, h3, h4, h5, h6, h7⟩ := h
  obtain ⟨r1, r2⟩ := rv_pm (i := p) (n := n) (n + 1) (swp f p q) (p + 1) (n - 1) (by omega) (by omega)
  refine ⟨(swp_pm (Nat.le_refl _) (by omega) (by omega) h5).trans r1, fun j hj => ?_, ?_⟩
  · show f j = rv (swp f p q) (p + 1) (n - 1) (n + 1) j
    rw [r2 j (by omega), swp_o (by omega) (by omega)]
  · show f p < rv (swp f p q) (p + 1) (n - 1) (n + 1) p
    rw [r2 p (by omega), swp_l]; exact h6
/-- letters of a chain in the class -/
def hC (n : Nat) (f : Nat → Nat) (a : Nat) (g : zG) : Prop := g.2.1 a 0 = a + 1 ∧ g.1 a 1 = nI n ∧ ∀ i, i < n → g.1 (a + 1) i = nI (f i)
/-- in the reference -/
def hM (n : Nat) (f : Nat → Nat) (a : Nat) (g : zG) : Prop := g.2.1 a 1 = a + 1 ∧ g.1 a 0 = nI n ∧ ∀ i, i < n → g.1 (a + 1) i = nI (f i)
theorem c_swap {n a i j : Nat} {f : Nat → Nat} {g : zG} (h : hC n f a g) (hn : n ≤ 48) (hi : i < n) (hj : j < n) : ∃ g', f_X0_swapLetters a (nI i) (nI j) g = some (0, g') ∧ frm (fun x => x = a + 1) g g' ∧ hC n (swp f i j) a g' := by
  obtain ⟨h1, h2, h3⟩ := h
  refine ⟨zsi (zsi g (a + 1) i (nI (f j))) (a + 1) j (nI (f i)), ?_, (frm.si (S := fun x => x = a + 1) rfl).trans (frm.si (S := fun x => x = a + 1) rfl), h1, ?_, fun k hk => ?_⟩
  · unfold f_X0_swapLetters
    simp only [zc_pos (zlit i 48 (by omega) (by omega)), zc_pos (zlit j 48 (by omega) (by omega)), nI_cl (show i < 2147483648 by omega), nI_cl (show j < 2147483648 by omega), zl_eq, zsi_r]
    rw [h1, h3 i hi, h3 j hj]
  · rw [zsi_at (by omega), zsi_at (by omega)]; exact h2
  · by_cases e : k = j
    · rw [e, zsi_same, swp_r]
    · rw [zsi_get e]
      by_cases e2 : k = i
      · rw [e2, zsi_same, swp_l]
      · rw [zsi_get e2, swp_o e2 e]; exact h3 k hk
theorem c_rev {n a : Nat} (hn : n ≤ 48) : ∀ (d N lo hi : Nat) (f : Nat → Nat) (g : zG), hC n f a g → hi < n → lo ≤ n → hi ≤ lo + d → d < N → ∃ g', zw N (fun s : Int32 × Int32 × zG => l_X0_toNextOrder_93 a s.1 s.2.1 s.2.2) (nI lo, nI hi, g) = some g' ∧ frm (fun x => x = a + 1) g g' ∧ hC n (rv f lo hi (d + 1)) a g' := by
  intro d
  induction d with
  | zero =>
    intro N lo hi f g h h1 h0 h2 hN
    obtain ⟨N, rfl⟩ : ∃ K, N = K + 1 := ⟨N - 1, by omega⟩
    rw [rv_e (by omega)]
    refine ⟨g, zw_end ?_ N, frm.refl _ _, h⟩
    show l_X0_toNextOrder_93 a (nI lo) (nI hi) g = _
    unfold l_X0_toNextOrder_93
    rw [if_pos ((nle (by omega) (by omega)).mpr (by omega))]
  | succ d ih =>
    intro N lo hi f g h h1 h0 h2 hN
    obtain ⟨N, rfl⟩ : ∃ K, N = K + 1 := ⟨N - 1, by omega⟩
    by_cases hb : hi ≤ lo
    · rw [rv_e hb]
      refine ⟨g, zw_end ?_ N, frm.refl _ _, h⟩
      show l_X0_toNextOrder_93 a (nI lo) (nI hi) g = _
      unfold l_X0_toNextOrder_93
      rw [if_pos ((nle (by omega) (by omega)).mpr (by omega))]
    · obtain ⟨g1, q1, q2, q3⟩ := c_swap h hn (show lo < n by omega) h1
      obtain ⟨g2, q4, q5, q6⟩ := ih N (lo + 1) (hi - 1) (swp f lo hi) g1 q3 (by omega) (by omega) (by omega) (by omega)
      rw [rv_s hb]
      refine ⟨g2, ?_, q2.trans q5, q6⟩
      rw [zw_step (s' := (nI (lo + 1), nI (hi - 1), g1)) (by
        show l_X0_toNextOrder_93 a (nI lo) (nI hi) g = _
        unfold l_X0_toNextOrder_93
        rw [if_neg (fun e => by have := (nle (by omega) (by omega)).mp e; omega), q1, zb_some, zl_eq, zl_eq, nI_1]
        obtain ⟨m, rfl⟩ : ∃ m, hi = m + 1 := ⟨hi - 1, by omega⟩
        rw [nI_p]
        rfl)]
      exact q4
theorem c_pturn {n a i : Nat} {f : Nat → Nat} {g : zG} (h : hC n f a g) (hn : n ≤ 48) (hf : ∀ i, i < n → f i ≤ 26) (hi : i + 1 < n) : l_X0_toNextOrder_7 a g (nI i) = if f i < f (i + 1) then some (.inr (nI i)) else some (.inl (nI i + (-1))) := by
  obtain ⟨h1, h2, h3⟩ := h
  have k1 := hf i (by omega)
  have k2 := hf (i + 1) hi
  unfold l_X0_toNextOrder_7
  rw [if_neg (nI_neg (by omega)), nI_1, zc_pos (zlit i 48 (by omega) (by omega)), zc_pos (zlit (i + 1) 48 (by omega) (by omega)), nI_cl (by omega), nI_cl (by omega), h1, h3 i (by omega), h3 (i + 1) hi, zl_eq]
  by_cases e : f i < f (i + 1)
  · rw [if_pos e, if_pos ((nlt (by omega) (by omega)).mpr e)]
  · rw [if_neg e, if_neg (fun z => e ((nlt (by omega) (by omega)).mp z))]
theorem c_none {n a : Nat} {f : Nat → Nat} {g : zG} (h : hC n f a g) (hn : 2 ≤ n ∧ n ≤ 48) (hf : ∀ i, i < n → f i ≤ 26) (hd : ∀ i, i + 1 < n → f (i + 1) ≤ f i) : f_X0_toNextOrder a g = some (0, g) := by
  have hz := zw_seq (step := fun s : Int32 => l_X0_toNextOrder_7 a g s) (fun k => if k + 2 ≤ n then nI (n - 2 - k) else (-1 : Int32)) (-1 : Int32) (n - 1) (fun k hk => by
    show l_X0_toNextOrder_7 a g (if k + 2 ≤ n then nI (n - 2 - k) else (-1 : Int32)) = _
    rw [if_pos (by omega), c_pturn h hn.2 hf (by omega), if_neg (by have := hd (n - 2 - k) (by omega); omega)]
    by_cases e : k + 1 + 2 ≤ n
    · rw [if_pos e, show n - 2 - k = n - 2 - (k + 1) + 1 by omega, nI_p]
    · rw [if_neg e, show n - 2 - k = 0 by omega]; rfl) (by
    show l_X0_toNextOrder_7 a g (if n - 1 + 2 ≤ n then nI (n - 2 - (n - 1)) else (-1 : Int32)) = _
    rw [if_neg (by omega)]
    unfold l_X0_toNextOrder_7
    rw [if_pos (by decide)]) (N := zN) (by have := zN_big; omega)
  rw [if_pos (by omega), Nat.sub_zero] at hz
  unfold f_X0_toNextOrder
  rw [zl_eq, h.2.1, nI_s2 hn.1, hz, zk_some]
  unfold j_X0_toNextOrder_34
  rw [if_neg (by decide)]
theorem c_sec {n a p q j : Nat} {f : Nat → Nat} {g : zG} (h : hC n f a g) (hn : n ≤ 48) (hf : ∀ i, i < n → f i ≤ 26) (hv : piv n f p q) (h1 : q ≤ j) (h2 : j < n) : l_X0_toNextOrder_47 a (nI p) g (nI j) = if j = q then some (.inr (nI j)) else some (.inl (nI (j - 1))) := by
  obtain ⟨v1, v2, v3, v4, v5, v6, v7⟩ := hv
  obtain ⟨k1, k2, k3⟩ := h
  have f1 := hf p (by omega)
  have f2 := hf j h2
  unfold l_X0_toNextOrder_47
  rw [nI_1, zc_pos (zlit j 48 (by omega) (by omega)), zc_pos (zlit p 48 (by omega) (by omega)), nI_cl (by omega), nI_cl (by omega), k1, k3 p (by omega), k3 j h2, zl_eq]
  by_cases e : j = q
  · rw [if_pos e, if_pos ((nlt (by omega) (by omega)).mpr (by rw [e]; exact v6))]
    by_cases e2 : nI j ≤ nI (p + 1)
    · rw [if_pos e2]
    · rw [if_neg e2]
  · have := v7 j (by omega) h2
    rw [if_neg e, if_neg (show ¬ nI j ≤ nI (p + 1) from fun z => by have := (nle (by omega) (by omega)).mp z; omega), if_neg (show ¬ nI (f p) < nI (f j) from fun z => by have := (nlt (by omega) (by omega)).mp z; omega)]
    obtain ⟨m, rfl⟩ : ∃ m, j = m + 1 := ⟨j - 1, by omega⟩
    rw [nI_p]
    rfl
theorem c_next {n a p q : Nat} {f : Nat → Nat} {g : zG} (h : hC n f a g) (hn : 2 ≤ n ∧ n ≤ 48) (hf : ∀ i, i < n → f i ≤ 26) (hv : piv n f p q) : ∃ g', f_X0_toNextOrder a g = some (1, g') ∧ frm (fun x => x = a + 1) g g' ∧ hC n (nxt n f p q) a g' := by
  have hv0 := hv
  obtain ⟨v1, v2, v3, v4, v5, v6, v7⟩ := hv
  have hz := zw_seq (step := fun s : Int32 => l_X0_toNextOrder_7 a g s) (fun k => nI (n - 2 - k)) (nI p) (n - 2 - p) (fun k hk => by
    show l_X0_toNextOrder_7 a g (nI (n - 2 - k)) = _
    rw [c_pturn h hn.2 hf (by omega), if_neg (by have := v3 (n - 2 - k) (by omega) (by omega); omega), show n - 2 - k = n - 2 - (k + 1) + 1 by omega, nI_p]) (by
    show l_X0_toNextOrder_7 a g (nI (n - 2 - (n - 2 - p))) = _
    rw [show n - 2 - (n - 2 - p) = p by omega, c_pturn h hn.2 hf v1, if_pos v2]) (N := zN) (by have := zN_big; omega)
  have hy := zw_seq (step := fun s : Int32 => l_X0_toNextOrder_47 a (nI p) g s) (fun k => nI (n - 1 - k)) (nI q) (n - 1 - q) (fun k hk => by
    show l_X0_toNextOrder_47 a (nI p) g (nI (n - 1 - k)) = _
    rw [c_sec h hn.2 hf hv0 (by omega) (by omega), if_neg (by omega)]
    rfl) (by
    show l_X0_toNextOrder_47 a (nI p) g (nI (n - 1 - (n - 1 - q))) = _
    rw [show n - 1 - (n - 1 - q) = q by omega, c_sec h hn.2 hf hv0 (by omega) (by omega), if_pos rfl]) (N := zN) (by have := zN_big; omega)
  obtain ⟨g1, q1, q2, q3⟩ := c_swap h hn.2 (show p < n by omega) v5
  obtain ⟨g2, q4, q5, q6⟩ := c_rev hn.2 n zN (p + 1) (n - 1) (swp f p q) g1 q3 (by omega) (by omega) (by omega) (by have := zN_big; omega)
  refine ⟨g2, ?_, q2.trans q5, q6⟩
  rw [Nat.sub_zero] at hz hy
  unfold f_X0_toNextOrder
  rw [zl_eq, h.2.1, nI_s2 hn.1, hz, zk_some]
  unfold j_X0_toNextOrder_34
  rw [if_pos (nI_pos0 (by omega)), zl_eq, h.2.1, nI_s1 (by omega), hy, zk_some]
  unfold j_X0_toNextOrder_75
  rw [q1, zb_some, zl_eq, zl_eq, nI_1, q3.2.1, nI_s1 (by omega), q4, zk_some]
  rfl
theorem m_swap {n a i j : Nat} {f : Nat → Nat} {g : zG} (h : hM n f a g) (hn : n ≤ 48) (hi : i < n) (hj : j < n) : ∃ g', f_X10_swaps a (nI i) (nI j) g = some (0, g') ∧ frm (fun x => x = a + 1) g g' ∧ hM n (swp f i j) a g' := by
  obtain ⟨h1, h2, h3⟩ := h
  refine ⟨zsi (zsi g (a + 1) i (nI (f j))) (a + 1) j (nI (f i)), ?_, (frm.si (S := fun x => x = a + 1) rfl).trans (frm.si (S := fun x => x = a + 1) rfl), h1, ?_, fun k hk => ?_⟩
  · unfold f_X10_swaps
    simp only [zc_pos (zlit i 49 (by omega) (by omega)), zc_pos (zlit j 49 (by omega) (by omega)), nI_cl (show i < 2147483648 by omega), nI_cl (show j < 2147483648 by omega), zl_eq, zsi_r]
    rw [h1, h3 i hi, h3 j hj]
  · rw [zsi_at (by omega), zsi_at (by omega)]; exact h2
  · by_cases e : k = j
    · rw [e, zsi_same, swp_r]
    · rw [zsi_get e]
      by_cases e2 : k = i
      · rw [e2, zsi_same, swp_l]
      · rw [zsi_get e2, swp_o e2 e]; exact h3 k hk
theorem m_rev {n a : Nat} (hn : n ≤ 48) : ∀ (d N lo hi : Nat) (f : Nat → Nat) (g : zG), hM n f a g → hi < n → lo ≤ n → hi ≤ lo + d → d < N → ∃ g', zw N (fun s : Int32 × Int32 × zG => l_X10_goesOn_86 a s.1 s.2.1 s.2.2) (nI lo, nI hi, g) = some g' ∧ frm (fun x => x = a + 1) g g' ∧ hM n (rv f lo hi (d + 1)) a g' := by
  intro d
  induction d with
  | zero =>
    intro N lo hi f g h h1 h0 h2 hN
    obtain ⟨N, rfl⟩ : ∃ K, N = K + 1 := ⟨N - 1, by omega⟩
    rw [rv_e (by omega)]
    refine ⟨g, zw_end ?_ N, frm.refl _ _, h⟩
    show l_X10_goesOn_86 a (nI lo) (nI hi) g = _
    unfold l_X10_goesOn_86
    rw [if_pos ((nle (by omega) (by omega)).mpr (by omega))]
  | succ d ih =>
    intro N lo hi f g h h1 h0 h2 hN
    obtain ⟨N, rfl⟩ : ∃ K, N = K + 1 := ⟨N - 1, by omega⟩
    by_cases hb : hi ≤ lo
    · rw [rv_e hb]
      refine ⟨g, zw_end ?_ N, frm.refl _ _, h⟩
      show l_X10_goesOn_86 a (nI lo) (nI hi) g = _
      unfold l_X10_goesOn_86
      rw [if_pos ((nle (by omega) (by omega)).mpr (by omega))]
    · obtain ⟨g1, q1, q2, q3⟩ := m_swap h hn (show lo < n by omega) h1
      obtain ⟨g2, q4, q5, q6⟩ := ih N (lo + 1) (hi - 1) (swp f lo hi) g1 q3 (by omega) (by omega) (by omega) (by omega)
      rw [rv_s hb]
      refine ⟨g2, ?_, q2.trans q5, q6⟩
      rw [zw_step (s' := (nI (lo + 1), nI (hi - 1), g1)) (by
        show l_X10_goesOn_86 a (nI lo) (nI hi) g = _
        unfold l_X10_goesOn_86
        rw [if_neg (fun e => by have := (nle (by omega) (by omega)).mp e; omega), q1, zb_some, zl_eq, zl_eq, nI_1]
        obtain ⟨m, rfl⟩ : ∃ m, hi = m + 1 := ⟨hi - 1, by omega⟩
        rw [nI_p]
        rfl)]
      exact q4
theorem m_pturn {n a i : Nat} {f : Nat → Nat} {g : zG} (h : hM n f a g) (hn : n ≤ 48) (hf : ∀ i, i < n → f i ≤ 26) (hi : i + 1 < n) : l_X10_goesOn_7 a g (nI i) = if f i < f (i + 1) then some (.inr (nI i)) else some (.inl (nI i + (-1))) := by
  obtain ⟨h1, h2, h3⟩ := h
  have k1 := hf i (by omega)
  have k2 := hf (i + 1) hi
  unfold l_X10_goesOn_7
  rw [if_neg (nI_neg (by omega)), nI_1, zc_pos (zlit i 49 (by omega) (by omega)), zc_pos (zlit (i + 1) 49 (by omega) (by omega)), nI_cl (by omega), nI_cl (by omega), h1, h3 i (by omega), h3 (i + 1) hi, zl_eq]
  by_cases e : f i < f (i + 1)
  · rw [if_pos e, if_pos ((nlt (by omega) (by omega)).mpr e)]
  · rw [if_neg e, if_neg (fun z => e ((nlt (by omega) (by omega)).mp z))]
theorem m_none {n a : Nat} {f : Nat → Nat} {g : zG} (h : hM n f a g) (hn : 2 ≤ n ∧ n ≤ 48) (hf : ∀ i, i < n → f i ≤ 26) (hd : ∀ i, i + 1 < n → f (i + 1) ≤ f i) : f_X10_goesOn a g = some (0, g) := by
  have hz := zw_seq (step := fun s : Int32 => l_X10_goesOn_7 a g s) (fun k => if k + 2 ≤ n then nI (n - 2 - k) else (-1 : Int32)) (-1 : Int32) (n - 1) (fun k hk => by
    show l_X10_goesOn_7 a g (if k + 2 ≤ n then nI (n - 2 - k) else (-1 : Int32)) = _
    rw [if_pos (by omega), m_pturn h hn.2 hf (by omega), if_neg (by have := hd (n - 2 - k) (by omega); omega)]
    by_cases e : k + 1 + 2 ≤ n
    · rw [if_pos e, show n - 2 - k = n - 2 - (k + 1) + 1 by omega, nI_p]
    · rw [if_neg e, show n - 2 - k = 0 by omega]; rfl) (by
    show l_X10_goesOn_7 a g (if n - 1 + 2 ≤ n then nI (n - 2 - (n - 1)) else (-1 : Int32)) = _
    rw [if_neg (by omega)]
    unfold l_X10_goesOn_7
    rw [if_pos (by decide)]) (N := zN) (by have := zN_big; omega)
  rw [if_pos (by omega), Nat.sub_zero] at hz
  unfold f_X10_goesOn
  rw [zl_eq, h.2.1, nI_s2 hn.1, hz, zk_some]
  unfold j_X10_goesOn_34
  rw [if_neg (by decide)]
theorem m_sec {n a p q j : Nat} {f : Nat → Nat} {g : zG} (h : hM n f a g) (hn : n ≤ 48) (hf : ∀ i, i < n → f i ≤ 26) (hv : piv n f p q) (h1 : q ≤ j) (h2 : j < n) : l_X10_goesOn_47 a (nI p) g (nI j) = if j = q then some (.inr (nI j)) else some (.inl (nI (j - 1))) := by
  obtain ⟨v1, v2, v3, v4, v5, v6, v7⟩ := hv
  obtain ⟨k1, k2, k3⟩ := h
  have f1 := hf p (by omega)
  have f2 := hf j h2
  unfold l_X10_goesOn_47
  rw [ zc_pos (zlit j 49 (by omega) (by omega)), zc_pos (zlit p 49 (by omega) (by omega)), nI_cl (by omega), nI_cl (by omega), k1, k3 p (by omega), k3 j h2, zl_eq]
  by_cases e : j = q
  · rw [if_pos e, if_pos ((nlt (by omega) (by omega)).mpr (by rw [e]; exact v6))]
    
  · have := v7 j (by omega) h2
    rw [if_neg e,  if_neg (show ¬ nI (f p) < nI (f j) from fun z => by have := (nlt (by omega) (by omega)).mp z; omega)]
    obtain ⟨m, rfl⟩ : ∃ m, j = m + 1 := ⟨j - 1, by omega⟩
    rw [nI_p]
    rfl
theorem m_next {n a p q : Nat} {f : Nat → Nat} {g : zG} (h : hM n f a g) (hn : 2 ≤ n ∧ n ≤ 48) (hf : ∀ i, i < n → f i ≤ 26) (hv : piv n f p q) : ∃ g', f_X10_goesOn a g = some (1, g') ∧ frm (fun x => x = a + 1) g g' ∧ hM n (nxt n f p q) a g' := by
  have hv0 := hv
  obtain ⟨v1, v2, v3, v4, v5, v6, v7⟩ := hv
  have hz := zw_seq (step := fun s : Int32 => l_X10_goesOn_7 a g s) (fun k => nI (n - 2 - k)) (nI p) (n - 2 - p) (fun k hk => by
    show l_X10_goesOn_7 a g (nI (n - 2 - k)) = _
    rw [m_pturn h hn.2 hf (by omega), if_neg (by have := v3 (n - 2 - k) (by omega) (by omega); omega), show n - 2 - k = n - 2 - (k + 1) + 1 by omega, nI_p]) (by
    show l_X10_goesOn_7 a g (nI (n - 2 - (n - 2 - p))) = _
    rw [show n - 2 - (n - 2 - p) = p by omega, m_pturn h hn.2 hf v1, if_pos v2]) (N := zN) (by have := zN_big; omega)
  have hy := zw_seq (step := fun s : Int32 => l_X10_goesOn_47 a (nI p) g s) (fun k => nI (n - 1 - k)) (nI q) (n - 1 - q) (fun k hk => by
    show l_X10_goesOn_47 a (nI p) g (nI (n - 1 - k)) = _
    rw [m_sec h hn.2 hf hv0 (by omega) (by omega), if_neg (by omega)]
    rfl) (by
    show l_X10_goesOn_47 a (nI p) g (nI (n - 1 - (n - 1 - q))) = _
    rw [show n - 1 - (n - 1 - q) = q by omega, m_sec h hn.2 hf hv0 (by omega) (by omega), if_pos rfl]) (N := zN) (by have := zN_big; omega)
  obtain ⟨g1, q1, q2, q3⟩ := m_swap h hn.2 (show p < n by omega) v5
  obtain ⟨g2, q4, q5, q6⟩ := m_rev hn.2 n zN (p + 1) (n - 1) (swp f p q) g1 q3 (by omega) (by omega) (by omega) (by have := zN_big; omega)
  refine ⟨g2, ?_, q2.trans q5, q6⟩
  rw [Nat.sub_zero] at hz hy
  unfold f_X10_goesOn
  rw [zl_eq, h.2.1, nI_s2 hn.1, hz, zk_some]
  unfold j_X10_goesOn_34
  rw [if_pos (nI_pos0 (by omega)), zl_eq, h.2.1, nI_s1 (by omega), hy, zk_some]
  unfold j_X10_goesOn_68
  rw [q1, zb_some, zl_eq, zl_eq, nI_1, q3.2.1, nI_s1 (by omega), q4, zk_some]
  rfl
-- ===== the letters in their first order =====
theorem c_sort {n a : Nat} {f : Nat → Nat} {g : zG} (h : hC n f a g) (hn : 2 ≤ n ∧ n ≤ 48) (hf : ∀ i, i < n → f i ≤ 26) : ∃ f' g', f_X0_sortLetters a g = some (0, g') ∧ frm (fun x => x = a + 1) g g' ∧ hC n f' a g' ∧ srt n f' ∧ Pm 0 n f f' := by
  let sf : Int32 × zG → Option ((Int32 × zG) ⊕ zG) := fun s => l_X0_sortLetters_2 a s.1 s.2
  let R : Nat → zG → Prop := fun k g' => ∃ f', frm (fun x => x = a + 1) g g' ∧ hC n f' a g' ∧ Pm 0 n f f' ∧ srt (k + 1) f'
  let Inv : Nat → Int32 × zG → Prop := fun k x => ∃ g', x = (nI (k + 1), g') ∧ R k g'
  have hS : ∀ k x, k < n - 1 → Inv k x → (∃ x', sf x = some (.inl x') ∧ Inv (k + 1) x') ∨ ∃ y, sf x = some (.inr y) ∧ R (n - 1) y := by
    intro k x hk hI
    obtain ⟨g1, rfl, f1, q1, q2, q3, q4⟩ := hI
    left
    -- the letter at k + 1 goes down
    let si : Int32 × zG → Option ((Int32 × zG) ⊕ zG) := fun s => l_X0_sortLetters_12 a (nI (k + 1)) s.1 s.2
    let Ii : Nat → Int32 × zG → Prop := fun t x => ∃ g' f', x = (nI (k + 1 - t), g') ∧ frm (fun x => x = a + 1) g g' ∧ hC n f' a g' ∧ Pm 0 n f f' ∧ (∀ u v, u < v → v ≤ k + 1 → u ≠ k + 1 - t → v ≠ k + 1 - t → f' u ≤ f' v) ∧ ∀ v, k + 1 - t < v → v ≤ k + 1 → f' (k + 1 - t) ≤ f' v
    have hSi : ∀ t x, t < k + 1 → Ii t x → (∃ x', si x = some (.inl x') ∧ Ii (t + 1) x') ∨ ∃ y, si x = some (.inr y) ∧ R (k + 1) y := by
      intro t x ht hI
      obtain ⟨g2, f2, rfl, p1, p2, p3, p4, p5⟩ := hI
      obtain ⟨j, hj⟩ : ∃ j, k + 1 - t = j + 1 := ⟨k - t, by omega⟩
      rw [hj] at p4 p5
      have b1 := p3.all (Q := fun v => v ≤ 26) hf j (by omega)
      have b2 := p3.all (Q := fun v => v ≤ 26) hf (j + 1) (by omega)
      show (∃ x', l_X0_sortLetters_12 a (nI (k + 1)) (nI (k + 1 - t)) g2 = some (.inl x') ∧ Ii (t + 1) x') ∨ ∃ y, l_X0_sortLetters_12 a (nI (k + 1)) (nI (k + 1 - t)) g2 = some (.inr y) ∧ R (k + 1) y
      rw [hj]
      unfold l_X0_sortLetters_12
      rw [if_neg (show ¬ nI (j + 1) ≤ (0 : Int32) from fun e => by have := (nle (b := 0) (by omega) (by omega)).mp e; omega), nI_s1 (by omega), show j + 1 - 1 = j by omega, zc_pos (zlit j 48 (by omega) (by omega)), zc_pos (zlit (j + 1) 48 (by omega) (by omega)), nI_cl (by omega), nI_cl (by omega), p2.1, p2.2.2 j (by omega), p2.2.2 (j + 1) (by omega)]
      by_cases e : f2 j ≤ f2 (j + 1)
      · right
        rw [if_pos ((nle (by omega) (by omega)).mpr e)]
        refine ⟨g2, rfl, f2, p1, p2, p3, fun u v h1 h2 => ?_⟩
        by_cases eu : u = j + 1
        · rw [eu]; exact p5 v (by omega) (by omega)
        · by_cases ev : v = j + 1
          · rw [ev]
            by_cases eu2 : u = j
            · rw [eu2]; exact e
            · exact Nat.le_trans (p4 u j (by omega) (by omega) (by omega) (by omega)) e
          · exact p4 u v h1 (by omega) eu ev
      · left
        rw [if_neg (fun z => e ((nle (by omega) (by omega)).mp z))]
        obtain ⟨g3, w1, w2, w3⟩ := c_swap p2 hn.2 (show j < n by omega) (show j + 1 < n by omega)
        rw [w1, zb_some, zl_eq, nI_p]
        refine ⟨_, rfl, g3, swp f2 j (j + 1), by rw [show k + 1 - (t + 1) = j by omega], p1.trans w2, w3, p3.trans (swp_pm (Nat.zero_le _) (Nat.zero_le _) (by omega) (by omega)), ?_, ?_⟩
        · rw [show k + 1 - (t + 1) = j by omega]
          intro u v h1 h2 h3 h4
          by_cases eu : u = j + 1
          · rw [eu, swp_r, swp_o (by omega) (by omega)]
            exact p4 j v (by omega) h2 (by omega) (by omega)
          · by_cases ev : v = j + 1
            · rw [ev, swp_r, swp_o (by omega) (by omega)]
              exact p4 u j (by omega) (by omega) (by omega) (by omega)
            · rw [swp_o h3 eu, swp_o h4 ev]
              exact p4 u v h1 h2 eu ev
        · rw [show k + 1 - (t + 1) = j by omega]
          intro v h1 h2
          rw [swp_l]
          by_cases ev : v = j + 1
          · rw [ev, swp_r]; omega
          · rw [swp_o (by omega) ev]; exact p5 v (by omega) h2
    have hEi : ∀ x, Ii (k + 1) x → ∃ y, si x = some (.inr y) ∧ R (k + 1) y := by
      intro x hI
      obtain ⟨g2, f2, rfl, p1, p2, p3, p4, p5⟩ := hI
      refine ⟨g2, ?_, f2, p1, p2, p3, fun u v h1 h2 => ?_⟩
      · show l_X0_sortLetters_12 a (nI (k + 1)) (nI (k + 1 - (k + 1))) g2 = _
        unfold l_X0_sortLetters_12
        rw [if_pos (show nI (k + 1 - (k + 1)) ≤ (0 : Int32) from (nle (b := 0) (by omega) (by omega)).mpr (by omega))]
      · rw [Nat.sub_self] at p4 p5
        by_cases eu : u = 0
        · rw [eu]; exact p5 v (by omega) (by omega)
        · exact p4 u v h1 (by omega) eu (by omega)
    obtain ⟨g2, e1, e2⟩ := zw_run Ii (R (k + 1)) (k + 1) hSi hEi (k + 1) 0 zN (nI (k + 1), g1) (by omega) (by have := zN_big; omega) ⟨g1, f1, rfl, q1, q2, q3, fun u v h1 h2 h3 h4 => q4 u v h1 (by omega), fun v h1 h2 => by omega⟩
    refine ⟨(nI (k + 1 + 1), g2), ?_, g2, rfl, e2⟩
    show l_X0_sortLetters_2 a (nI (k + 1)) g1 = _
    unfold l_X0_sortLetters_2
    rw [q2.2.1, if_neg (fun e => by have := (nle (by omega) (by omega)).mp e; omega), show zw zN (fun s : Int32 × zG => l_X0_sortLetters_12 a (nI (k + 1)) s.1 s.2) (nI (k + 1), g1) = some g2 from e1, zk_some]
    unfold j_X0_sortLetters_47_2
    rw [zl_eq, nI_1]
  have hE : ∀ x, Inv (n - 1) x → ∃ y, sf x = some (.inr y) ∧ R (n - 1) y := by
    intro x hI
    obtain ⟨g1, rfl, f1, q1, q2, q3, q4⟩ := hI
    refine ⟨g1, ?_, f1, q1, q2, q3, q4⟩
    show l_X0_sortLetters_2 a (nI (n - 1 + 1)) g1 = _
    unfold l_X0_sortLetters_2
    rw [q2.2.1, if_pos ((nle (by omega) (by omega)).mpr (by omega))]
  obtain ⟨g', e1, f', e2, e3, e4, e5⟩ := zw_run Inv (R (n - 1)) (n - 1) hS hE (n - 1) 0 zN (nI (0 + 1), g) (by omega) (by have := zN_big; omega) ⟨g, rfl, f, frm.refl _ _, h, Pm.refl _ _ _, fun u v h1 h2 => by omega⟩
  refine ⟨f', g', ?_, e2, e3, by rw [show n - 1 + 1 = n by omega] at e5; exact e5, e4⟩
  unfold f_X0_sortLetters
  rw [show zw zN (fun s : Int32 × zG => l_X0_sortLetters_2 a s.1 s.2) (1, g) = some g' from e1, zk_some]
  rfl
theorem m_sort {n a : Nat} {f : Nat → Nat} {g : zG} (h : hM n f a g) (hn : 2 ≤ n ∧ n ≤ 48) (hf : ∀ i, i < n → f i ≤ 26) (x1 : Int32) : ∃ f' g', zw zN (fun s : Int32 × zG => l_X10_best_45 a x1 s.1 s.2) (0, g) = some g' ∧ frm (fun x => x = a + 1) g g' ∧ hM n f' a g' ∧ srt n f' ∧ Pm 0 n f f' := by
  let sf : Int32 × zG → Option ((Int32 × zG) ⊕ zG) := fun s => l_X10_best_45 a x1 s.1 s.2
  let low : Nat → (Nat → Nat) → Prop := fun k f' => ∀ u v, u < k → u < v → v < n → f' u ≤ f' v
  let R : Nat → zG → Prop := fun k g' => ∃ f', frm (fun x => x = a + 1) g g' ∧ hM n f' a g' ∧ Pm 0 n f f' ∧ low k f'
  let Inv : Nat → Int32 × zG → Prop := fun k x => ∃ g', x = (nI k, g') ∧ R k g'
  have hS : ∀ k x, k < n → Inv k x → (∃ x', sf x = some (.inl x') ∧ Inv (k + 1) x') ∨ ∃ y, sf x = some (.inr y) ∧ R n y := by
    intro k x hk hI
    obtain ⟨g1, rfl, f1, q1, q2, q3, q4⟩ := hI
    left
    let si : Int32 × zG → Option ((Int32 × zG) ⊕ zG) := fun s => l_X10_best_57 a x1 (nI k) s.1 s.2
    let Ii : Nat → Int32 × zG → Prop := fun t x => ∃ g' f', x = (nI (k + 1 + t), g') ∧ frm (fun x => x = a + 1) g g' ∧ hM n f' a g' ∧ Pm 0 n f f' ∧ low k f' ∧ ∀ v, k < v → v < k + 1 + t → f' k ≤ f' v
    have hSi : ∀ t x, t < n - (k + 1) → Ii t x → (∃ x', si x = some (.inl x') ∧ Ii (t + 1) x') ∨ ∃ y, si x = some (.inr y) ∧ R (k + 1) y := by
      intro t x ht hI
      obtain ⟨g2, f2, rfl, p1, p2, p3, p4, p5⟩ := hI
      left
      have b1 := p3.all (Q := fun v => v ≤ 26) hf k (by omega)
      have b2 := p3.all (Q := fun v => v ≤ 26) hf (k + 1 + t) (by omega)
      show ∃ x', l_X10_best_57 a x1 (nI k) (nI (k + 1 + t)) g2 = some (.inl x') ∧ Ii (t + 1) x'
      unfold l_X10_best_57
      rw [p2.2.1, if_neg (fun e => by have := (nle (by omega) (by omega)).mp e; omega), zc_pos (zlit (k + 1 + t) 49 (by omega) (by omega)), zc_pos (zlit k 49 (by omega) (by omega)), nI_cl (by omega), nI_cl (by omega), p2.1, p2.2.2 k (by omega), p2.2.2 (k + 1 + t) (by omega)]
      by_cases e : f2 k ≤ f2 (k + 1 + t)
      · rw [if_pos ((nle (by omega) (by omega)).mpr e), zl_eq, nI_1]
        refine ⟨_, rfl, g2, f2, rfl, p1, p2, p3, p4, fun v h1 h2 => ?_⟩
        by_cases ev : v = k + 1 + t
        · rw [ev]; exact e
        · exact p5 v h1 (by omega)
      · rw [if_neg (fun z => e ((nle (by omega) (by omega)).mp z))]
        obtain ⟨g3, w1, w2, w3⟩ := m_swap p2 hn.2 (show k < n by omega) (show k + 1 + t < n by omega)
        rw [w1, zb_some, zl_eq, nI_1]
        refine ⟨_, rfl, g3, swp f2 k (k + 1 + t), rfl, p1.trans w2, w3, p3.trans (swp_pm (Nat.zero_le _) (Nat.zero_le _) (by omega) (by omega)), fun u v h1 h2 h3 => ?_, fun v h1 h2 => ?_⟩
        · rw [swp_o (show u ≠ k by omega) (show u ≠ k + 1 + t by omega)]
          by_cases ev : v = k
          · rw [ev, swp_l]; exact p4 u (k + 1 + t) h1 (by omega) (by omega)
          · by_cases ev2 : v = k + 1 + t
            · rw [ev2, swp_r]; exact p4 u k h1 h1 (by omega)
            · rw [swp_o ev ev2]; exact p4 u v h1 h2 h3
        · rw [swp_l]
          by_cases ev : v = k + 1 + t
          · rw [ev, swp_r]; omega
          · rw [swp_o (by omega) ev]
            have := p5 v h1 (by omega)
            omega
    have hEi : ∀ x, Ii (n - (k + 1)) x → ∃ y, si x = some (.inr y) ∧ R (k + 1) y := by
      intro x hI
      obtain ⟨g2, f2, rfl, p1, p2, p3, p4, p5⟩ := hI
      refine ⟨g2, ?_, f2, p1, p2, p3, fun u v h1 h2 h3 => ?_⟩
      · show l_X10_best_57 a x1 (nI k) (nI (k + 1 + (n - (k + 1)))) g2 = _
        unfold l_X10_best_57
        rw [p2.2.1, if_pos ((nle (by omega) (by omega)).mpr (by omega))]
      · by_cases eu : u = k
        · rw [eu]; exact p5 v (by omega) (by omega)
        · exact p4 u v (by omega) h2 h3
    obtain ⟨g2, e1, e2⟩ := zw_run Ii (R (k + 1)) (n - (k + 1)) hSi hEi (n - (k + 1)) 0 zN (nI (k + 1 + 0), g1) (by omega) (by have := zN_big; omega) ⟨g1, f1, rfl, q1, q2, q3, q4, fun v h1 h2 => by omega⟩
    refine ⟨(nI (k + 1), g2), ?_, g2, rfl, e2⟩
    show l_X10_best_45 a x1 (nI k) g1 = _
    unfold l_X10_best_45
    rw [q2.2.1, if_neg (fun e => by have := (nle (by omega) (by omega)).mp e; omega), zl_eq, nI_1, show zw zN (fun s : Int32 × zG => l_X10_best_57 a x1 (nI k) s.1 s.2) (nI (k + 1), g1) = some g2 from e1, zk_some]
    unfold j_X10_best_92_45
    rw [zl_eq, nI_1]
  have hE : ∀ x, Inv n x → ∃ y, sf x = some (.inr y) ∧ R n y := by
    intro x hI
    obtain ⟨g1, rfl, f1, q1, q2, q3, q4⟩ := hI
    refine ⟨g1, ?_, f1, q1, q2, q3, q4⟩
    show l_X10_best_45 a x1 (nI n) g1 = _
    unfold l_X10_best_45
    rw [q2.2.1, if_pos ((nle (by omega) (by omega)).mpr (by omega))]
  obtain ⟨g', e1, f', e2, e3, e4, e5⟩ := zw_run Inv (R n) n hS hE n 0 zN (nI 0, g) (by omega) (by have := zN_big; omega) ⟨g, rfl, f, frm.refl _ _, h, Pm.refl _ _ _, fun u v h1 h2 => by omega⟩
  exact ⟨f', g', e1, e2, e3, fun u v h1 h2 => e5 u v (by omega) h1 h2, e4⟩
end PM
