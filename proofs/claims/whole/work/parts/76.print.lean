-- ===== the printer of both: the real one (b) and that of trials =====
abbrev aJ : Type := (Nat → Nat) × Nat × Nat × Nat × aG × aS × Int32
def pLn (π : aJ) : Nat → Nat := π.1
def pTk (π : aJ) : Nat := π.2.1
def pRw (π : aJ) : Nat := π.2.2.1
def pPs (π : aJ) : Nat := π.2.2.2.1
def pYs (π : aJ) : aG := π.2.2.2.2.1
def pSk (π : aJ) : aS := π.2.2.2.2.2.1
def pLs (π : aJ) : Int32 := π.2.2.2.2.2.2
def adr (b : Bool) (X a r ca : Nat) : Prop := (r = X + 1 ∨ r = X + 12) ∧ ((b = true ∧ a = X + 31 ∧ ca = r + 1) ∨ (b = false ∧ a = X + 42 ∧ ca = X + 40))
/-- the cells that a printer of the class writes -/
def SC (b : Bool) (X a : Nat) (x : Nat) : Prop := (a ≤ x ∧ x ≤ a + 6) ∨ (b = true ∧ (x = X + 29 ∨ x = X + 30))
/-- those of the reference -/
def SM (b : Bool) (M : Nat) (x : Nat) : Prop := x = M ∨ x = M + 21 ∨ (M + 24 ≤ x ∧ x ≤ M + 26) ∨ (b = true ∧ (x = M + 22 ∨ x = M + 23 ∨ (M + 27 ≤ x ∧ x ≤ M + 29)))
theorem SM_t {M x : Nat} (h : x = M ∨ (M + 21 ≤ x ∧ x ≤ M + 29)) : SM true M x := by
  by_cases e : x = M + 22 ∨ x = M + 23 ∨ (M + 27 ≤ x ∧ x ≤ M + 29)
  · exact Or.inr (Or.inr (Or.inr ⟨rfl, e⟩))
  · unfold SM; omega
def PCb (ρ : aR) (n : Nat) (ch : Nat → Nat) (X a r ca : Nat) (g : zG) : Prop := rX X g ∧ (g.2.1 a 7 = r ∧ g.2.1 a 8 = ca) ∧ cR ρ r g ∧ cCh n (aV ρ 1) (aV ρ 2) ch ca g
def PCv (b : Bool) (ρ : aR) (π : aJ) (X a : Nat) (g : zG) : Prop := cLn (pLn π) (g.1 (a + 1)) ∧ (g.1 a 2 = nI (pTk π) ∧ g.1 a 3 = nI (pRw π) ∧ g.1 a 5 = pLs π) ∧ (b = true → g.1 a 4 = nI (pPs π) ∧ cPg (pYs π) (g.1 (X + 29)) (g.1 (X + 30)) ∧ cSk ρ (pSk π) (g.1 (a + 2)) (g.1 (a + 3)) (g.1 (a + 4)) (g.2.2 (a + 2) 5) g)
def mP (ρ : aR) (M : Nat) (g : zG) : Prop := g.1 M 4 = nI (aM ρ) ∧
  (∀ k, k < aM ρ → g.1 (M + 4) k = nI (aA ρ k) ∧ g.1 (M + 5) k = nI (aU ρ k) ∧ g.1 (M + 6) k = nI (aF ρ k) ∧ g.1 (M + 7) k = nI (aY ρ k) ∧ ∀ i, i < aY ρ k → g.1 (M + 8) (aF ρ k + i) = nI (aL ρ (aF ρ k + i))) ∧
  (∀ k, 1 ≤ k → k ≤ 7 → g.1 (M + 2) k = nI (aV ρ k)) ∧ ∀ i, i < 60 → g.1 (M + 3) i = nI (aH ρ i)
def PMb (ρ : aR) (n : Nat) (ch : Nat → Nat) (M : Nat) (g : zG) : Prop := rM M g ∧ mP ρ M g ∧ mCh n (aV ρ 1) (aV ρ 2) ch M g
def PMv (b : Bool) (ρ : aR) (π : aJ) (M : Nat) (g : zG) : Prop := cLn (pLn π) (g.1 (M + 21)) ∧ (g.1 M 34 = nI (pTk π) ∧ g.1 M 35 = nI (pRw π)) ∧ (b = true → g.1 M 36 = nI (pPs π) ∧ cPg (pYs π) (g.1 (M + 22)) (g.1 (M + 23)) ∧ mSk ρ (pSk π) (g.1 M 44) (g.1 M 45) (g.1 M 46) (g.1 M 47) (g.1 (M + 27)) (g.1 (M + 28)) (g.1 (M + 29)))
/-- the fields of the reference that a printer writes -/
def mFd (b : Bool) (j : Nat) : Prop := j = 34 ∨ j = 35 ∨ j = 43 ∨ (b = true ∧ (j = 36 ∨ j = 44 ∨ j = 45 ∨ j = 46 ∨ j = 47))
theorem mFd_t {j : Nat} (h : j = 34 ∨ j = 35 ∨ j = 36 ∨ j = 43 ∨ j = 44 ∨ j = 45 ∨ j = 46 ∨ j = 47) : mFd true j := by
  by_cases e : j = 36 ∨ j = 44 ∨ j = 45 ∨ j = 46 ∨ j = 47
  · exact Or.inr (Or.inr (Or.inr ⟨rfl, e⟩))
  · unfold mFd; omega
def mKp (b : Bool) (M : Nat) (g g' : zG) : Prop := frm (SM b M) g g' ∧ ∀ j, ¬ mFd b j → g'.1 M j = g.1 M j
theorem mKp.refl {b : Bool} (M : Nat) (g : zG) : mKp b M g g := ⟨frm.refl _ _, fun _ _ => rfl⟩
theorem mKp.trans {b : Bool} {M : Nat} {g g1 g2 : zG} (h1 : mKp b M g g1) (h2 : mKp b M g1 g2) : mKp b M g g2 := ⟨h1.1.trans h2.1, fun j hj => (h2.2 j hj).trans (h1.2 j hj)⟩
def vSkb (ρ : aR) (B : Nat) (s : aS) : Prop := s.1 = true → ∀ c, c < aV ρ 3 → (s.2.2.2.2.1 c = -4 ∨ ∃ t, t ≤ B ∧ s.2.2.2.2.1 c = nI t ∧ (c * aV ρ 2 + t) % aV ρ 1 = 0) ∧ (s.2.2.2.2.2 c = -4 ∨ ((∃ l, 1 ≤ l ∧ l ≤ 26 ∧ s.2.2.2.2.2 c = nI l) ∧ s.2.2.2.2.1 c ≠ -4))
def vPgb (B : Nat) (y : aG) : Prop := ∀ j, j < 2400 → (y.1 j ≤ 26 ∧ y.2 j ≤ B) ∧ (y.1 j = 0 ↔ y.2 j = 0)
def vJ (b : Bool) (ρ : aR) (Bt Bp By : Nat) (π : aJ) : Prop := vLn ρ (pLn π) ∧ pRw π < aV ρ 7 ∧ pTk π ≤ Bt ∧ (b = true → pPs π ≤ Bp ∧ vPgb By (pYs π) ∧ vSkb ρ Bt (pSk π))
theorem vSkb.le {ρ : aR} {B B' : Nat} {s : aS} (h : vSkb ρ B s) (hb : B ≤ B') : vSkb ρ B' s := fun hz c hc => ⟨by
  rcases (h hz c hc).1 with e | ⟨t, e1, e2⟩
  · exact Or.inl e
  · exact Or.inr ⟨t, by omega, e2⟩, (h hz c hc).2⟩
theorem vPgb.le {B B' : Nat} {y : aG} (h : vPgb B y) (hb : B ≤ B') : vPgb B' y := fun j hj => ⟨⟨(h j hj).1.1, by have := (h j hj).1.2; omega⟩, (h j hj).2⟩
theorem vJ.le {b : Bool} {ρ : aR} {Bt Bp By Bt' Bp' By' : Nat} {π : aJ} (h : vJ b ρ Bt Bp By π) (h1 : Bt ≤ Bt') (h2 : Bp ≤ Bp') (h3 : By ≤ By') : vJ b ρ Bt' Bp' By' π := ⟨h.1, h.2.1, Nat.le_trans h.2.2.1 h1, fun hb => ⟨Nat.le_trans (h.2.2.2 hb).1 h2, (h.2.2.2 hb).2.1.le h3, (h.2.2.2 hb).2.2.le h1⟩⟩
section PJ
variable {b : Bool} {ρ : aR} {n : Nat} {ch : Nat → Nat} {X a r ca : Nat} {g g' : zG}
theorem PCb.kept (ha : adr b X a r ca) (h : PCb ρ n ch X a r ca g) (hf : frm (SC b X a) g g') : PCb ρ n ch X a r ca g' := by
  obtain ⟨h1, h2, h3, h4⟩ := h
  have e : ∀ x, ¬ SC b X a x → g'.1 x = g.1 x := fun x hx => (hf.2 x hx).1
  unfold SC at e
  have hca : g.2.1 ca 0 = ca + 1 := by
    rcases ha.2 with ⟨-, -, hc⟩ | ⟨-, -, hc⟩
    · rcases ha.1 with hr | hr
      · rw [hc, hr]; exact h1.1.2.2.2.2.1
      · rw [hc, hr]; exact h1.2.1.2.2.2.2.1
    · rw [hc]; unfold rX at h1; simp only [h1]
  have hadr := ha
  unfold adr at hadr
  refine ⟨h1.kept hf.1, by rw [hf.1]; exact h2, h3.kept (fun x x1 x2 => e x (by omega)), ?_⟩
  unfold cCh at *
  rw [hf.1, e ca (by omega), hca, e (ca + 1) (by omega), ← hca]
  exact h4
theorem PMb.kept {M : Nat} (h : PMb ρ n ch M g) (hf : mKp b M g g') : PMb ρ n ch M g' := by
  obtain ⟨h1, h2, h3⟩ := h
  have e : ∀ x, ¬ SM b M x → g'.1 x = g.1 x := fun x hx => (hf.1.2 x hx).1
  unfold SM at e
  unfold PMb mP mCh at *
  rw [e (M + 4) (by omega), e (M + 5) (by omega), e (M + 6) (by omega), e (M + 7) (by omega), e (M + 8) (by omega), e (M + 2) (by omega), e (M + 3) (by omega), e (M + 1) (by omega), hf.2 4 (by unfold mFd; omega), hf.2 0 (by unfold mFd; omega)]
  exact ⟨h1.kept hf.1.1, h2, h3⟩
theorem adr.ru (ha : adr b X a r ca) (h : rX X g) : rR r g := by
  rcases ha.1 with hr | hr
  · rw [hr]; exact h.1
  · rw [hr]; exact h.2.1
theorem adr.p (ha : adr b X a r ca) (h : rX X g) : g.2.1 a 0 = a + 1 ∧ g.2.1 a 1 = a + 2 ∧ g.2.1 (a + 2) 0 = a + 3 ∧ g.2.1 (a + 2) 1 = a + 4 ∧ g.2.1 (a + 2) 6 = a + 5 ∧ g.2.1 (a + 2) 7 = a + 6 ∧ (b = true → g.2.1 a 6 = X + 28) ∧ (b = false → g.2.1 a 6 = 0) := by
  rcases ha.2 with ⟨hb, e, -⟩ | ⟨hb, e, -⟩
  · rw [e, hb]; unfold rX at h; simp [h]
  · rw [e, hb]; unfold rX at h; simp [h]
-- clearing
theorem j_fill {N b1 : Nat} {v : Int32} (hN : N ≤ 5000) : f_J7_fill_53178 N b1 v g = some (0, zfl g b1 0 (fun _ => v) N) := by
  unfold f_J7_fill_53178
  rw [zl_eq]
  have hz := zw_seq (step := fun s : Int32 × zG => l_J7_fill_53178_5 N b1 v (Int32.ofNat N) s.1 s.2) (fun i => (nI i, zfl g b1 0 (fun _ => v) i)) (zfl g b1 0 (fun _ => v) N) N (fun i hi => ?_) ?_ (N := zN) (by have := zN_big; omega)
  · rw [show ((0, g) : Int32 × zG) = (nI 0, zfl g b1 0 (fun _ => v) 0) from rfl, hz, zk_some]
    rfl
  · show l_J7_fill_53178_5 N b1 v (nI N) (nI i) _ = _
    unfold l_J7_fill_53178_5
    rw [if_neg (fun e => by have := (nle (by omega) (by omega)).mp e; omega), zc_pos (zlit i N hi (by omega)), zl_eq, zl_eq, nI_cl (by omega), nI_1]
    rw [show zfl g b1 0 (fun _ => v) (i + 1) = zsi (zfl g b1 0 (fun _ => v) i) b1 (0 + i) v from rfl, Nat.zero_add]
  · show l_J7_fill_53178_5 N b1 v (nI N) (nI N) _ = _
    unfold l_J7_fill_53178_5
    rw [if_pos ((nle (by omega) (by omega)).mpr (Nat.le_refl _))]
theorem q_clear {p1 p2 : Nat} {y : Nat} (h0 : g.2.1 y 0 = p1) (h1 : g.2.1 y 1 = p2) : f_X1_clear y g = some (0, zfl (zfl g p1 0 (fun _ => 0) 2400) p2 0 (fun _ => 0) 2400) := by
  unfold f_X1_clear
  rw [j_fill (by omega), zb_some, j_fill (by omega), zb_some, zfl_r, h0, h1]
/-- both pages blank -/
def blk (g : zG) (p1 p2 : Nat) : Nat → zG
  | 0 => g
  | i + 1 => zsi (zsi (blk g p1 p2 i) p1 i 0) p2 i 0
theorem blk_r (p1 p2 i : Nat) : (blk g p1 p2 i).2 = g.2 := by
  induction i with
  | zero => rfl
  | succ i ih => exact ih
theorem blk_frm (p1 p2 i : Nat) : frm (fun c => c = p1 ∨ c = p2) g (blk g p1 p2 i) := by
  induction i with
  | zero => exact frm.refl _ _
  | succ i ih => exact (ih.trans (frm.si (Or.inl rfl))).trans (frm.si (Or.inr rfl))
theorem blk_get {p1 p2 : Nat} (hne : p1 ≠ p2) (i : Nat) {j : Nat} (hj : j < i) : (blk g p1 p2 i).1 p1 j = 0 ∧ (blk g p1 p2 i).1 p2 j = 0 := by
  induction i with
  | zero => omega
  | succ i ih =>
    rw [show blk g p1 p2 (i + 1) = zsi (zsi (blk g p1 p2 i) p1 i 0) p2 i 0 from rfl, zsi_at hne]
    by_cases e : j = i
    · subst e; rw [zsi_same, zsi_same]; exact ⟨rfl, rfl⟩
    · rw [zsi_get e, zsi_get e, zsi_at (fun z => hne z.symm)]; exact ih (by omega)
theorem m_blank {M : Nat} (hM : rM M g) : f_X10_blankPage M g = some (0, blk g (M + 22) (M + 23) 2400) := by
  unfold f_X10_blankPage
  have hz := zw_seq (step := fun s : Int32 × zG => l_X10_blankPage_2 M s.1 s.2) (fun i => (nI i, blk g (M + 22) (M + 23) i)) (blk g (M + 22) (M + 23) 2400) 2400 (fun i hi => ?_) ?_ (N := zN) (by have := zN_big; omega)
  · rw [show ((0, g) : Int32 × zG) = (nI 0, blk g (M + 22) (M + 23) 0) from rfl, hz, zk_some]
    rfl
  · show l_X10_blankPage_2 M (nI i) _ = _
    unfold l_X10_blankPage_2
    have h2 : (blk g (M + 22) (M + 23) i).2.1 M 38 = M + 22 := by rw [blk_r]; exact hM.pr
    have h3 : (blk g (M + 22) (M + 23) i).2.1 M 39 = M + 23 := by rw [blk_r]; exact hM.ti
    rw [if_neg (show ¬ (2400 : Int32) ≤ nI i from fun e => by have := (nle (a := 2400) (by omega) (by omega)).mp e; omega)]
    simp only [zc_pos (zlit i 2400 hi (by omega)), nI_cl (show i < 2147483648 by omega), nI_1, zl_eq]
    rw [h2, zsi_r, h3]
    rfl
  · show l_X10_blankPage_2 M (nI 2400) _ = _
    unfold l_X10_blankPage_2
    rw [if_pos (show (2400 : Int32) ≤ nI 2400 from (nle (a := 2400) (by omega) (by omega)).mpr (Nat.le_refl _))]
-- ===== the paper moves =====
def noY : aG := (fun _ => 0, fun _ => 0)
def mvJ (ρ : aR) (π : aJ) (k : Nat) : aJ := if k = 0 then π else (pLn π, pTk π + (aV ρ 5 + k * aV ρ 6), (pRw π + k) % aV ρ 7, pPs π + (pRw π + k) / aV ρ 7, (if pRw π + k < aV ρ 7 then pYs π else noY), pSk π, pLs π)
theorem mv_div {R w k : Nat} (hw : w < R) (hk : k ≤ 9 ∨ k ≤ R) : (w + k) / R ≤ 9 := by
  have hR : 0 < R := by omega
  rcases hk with h | h
  · have : w + k < R * 10 := by
      have : R * 10 = R + R * 9 := by omega
      have : 9 ≤ R * 9 := by omega
      omega
    have := Nat.div_lt_of_lt_mul this
    omega
  · have : w + k < R * 2 := by omega
    have := Nat.div_lt_of_lt_mul this
    omega
theorem noY_v (B : Nat) : vPgb B noY := fun j hj => ⟨⟨by show 0 ≤ 26; omega, by show 0 ≤ B; omega⟩, by show (0 = 0 ↔ 0 = 0); omega⟩
theorem mvJ_v {Bt Bp By : Nat} {π : aJ} (hv : vR ρ) (h : vJ b ρ Bt Bp By π) {k : Nat} (hk : k ≤ 60) (hk2 : k ≤ 9 ∨ k ≤ aV ρ 7) : vJ b ρ (Bt + 12740) (Bp + 9) (By + 1) (mvJ ρ π k) := by
  unfold mvJ
  by_cases h0 : k = 0
  · rw [if_pos h0]; exact h.le (by omega) (by omega) (by omega)
  · rw [if_neg h0]
    have b5 := hv.2.2.2.2.2.2.1
    have b6 := hv.2.2.2.2.2.2.2.1
    have b7 := hv.2.2.2.2.2.2.2.2.1
    have hmul : k * aV ρ 6 ≤ 60 * 20 := Nat.mul_le_mul hk b6.2
    obtain ⟨h1, h2, h3, h4⟩ := h
    refine ⟨h1, Nat.mod_lt _ (by omega), ?_, fun hb => ⟨?_, ?_, ?_⟩⟩
    · show pTk π + (aV ρ 5 + k * aV ρ 6) ≤ Bt + 12740
      omega
    · show pPs π + (pRw π + k) / aV ρ 7 ≤ Bp + 9
      have := (h4 hb).1
      have := mv_div h2 hk2
      omega
    · show vPgb (By + 1) (if pRw π + k < aV ρ 7 then pYs π else noY)
      by_cases e : pRw π + k < aV ρ 7
      · rw [if_pos e]; exact (h4 hb).2.1.le (by omega)
      · rw [if_neg e]; exact noY_v _
    · exact (h4 hb).2.2.le (by omega)
theorem q_moveBy (ha : adr b X a r ca) (hv : vR ρ) {Bt Bp By : Nat} {π : aJ} (hJ : vJ b ρ Bt Bp By π) (hBt : Bt < 1900000000) (hBp : Bp < 2000000000) (hB : PCb ρ n ch X a r ca g) (hV : PCv b ρ π X a g) {k : Nat} (hk : k ≤ 60) : ∃ g', f_X2_moveBy a (nI k) g = some (nI (if k = 0 then 0 else aV ρ 5 + k * aV ρ 6), g') ∧ frm (SC b X a) g g' ∧ PCv b ρ (mvJ ρ π k) X a g' := by
  have b5 := hv.2.2.2.2.2.2.1
  have b6 := hv.2.2.2.2.2.2.2.1
  have b7 := hv.2.2.2.2.2.2.2.2.1
  have hr := ha.ru hB.1
  have hmul : k * aV ρ 6 ≤ 60 * 20 := Nat.mul_le_mul hk b6.2
  have hp := ha.p hB.1
  have hadr := ha
  unfold adr at hadr
  obtain ⟨j1, j2, j3, j4⟩ := hJ
  obtain ⟨v1, ⟨v2, v3, v4⟩, v5⟩ := hV
  unfold f_X2_moveBy mvJ
  by_cases h0 : k = 0
  · rw [if_neg (show ¬ (1 : Int32) ≤ nI k from fun e => by have := (nle (a := 1) (by omega) (by omega)).mp e; omega), if_pos h0, if_pos h0]
    exact ⟨g, rfl, frm.refl _ _, v1, ⟨v2, v3, v4⟩, v5⟩
  · rw [if_pos (show (1 : Int32) ≤ nI k from (nle (a := 1) (by omega) (by omega)).mpr (by omega)), if_neg h0, if_neg h0]
    simp only [zc_pos (show zin 7 8 by decide), zc_pos (show zin 5 8 by decide), zc_pos (show zin 6 8 by decide)]
    rw [hB.2.1.1, hr.2.2.1, c7, c5, c6, hB.2.2.1.val (by omega) (by omega), hB.2.2.1.val (by omega) (by omega), hB.2.2.1.val (by omega) (by omega), zl_eq, zl_eq, pk_mul, nI_add, v2, nI_add, zl_eq, zl_eq, zsi_get (by omega), v3, nI_add, zsi_same, if_neg (show ¬ nI (aV ρ 7) < (1 : Int32) from fun e => by have := (nlt (b := 1) (by omega) (by omega)).mp e; omega)]
    have hln : ∀ (g2 : zG), g2.1 (a + 1) = g.1 (a + 1) → cLn (pLn π) (g2.1 (a + 1)) := fun g2 e => by rw [e]; exact v1
    by_cases h7 : pRw π + k < aV ρ 7
    · rw [if_neg (fun e => by have := (nle (by omega) (by omega)).mp e; omega)]
      refine ⟨_, rfl, (frm.si (Or.inl (by omega))).trans (frm.si (Or.inl (by omega))), hln _ (by rw [zsi_at (by omega), zsi_at (by omega)]), ⟨?_, ?_, ?_⟩, fun hb => ?_⟩
      · rw [zsi_get (by omega), zsi_same]; rfl
      · rw [zsi_same]; show nI (pRw π + k) = nI ((pRw π + k) % aV ρ 7); rw [Nat.mod_eq_of_lt h7]
      · rw [zsi_get (by omega), zsi_get (by omega)]; exact v4
      · obtain ⟨w1, w2, w3⟩ := v5 hb
        rw [zsi_get (by omega), zsi_get (by omega), zsi_at (b := X + 29) (by omega), zsi_at (b := X + 29) (by omega), zsi_at (b := X + 30) (by omega), zsi_at (b := X + 30) (by omega), zsi_at (b := a + 2) (by omega), zsi_at (b := a + 2) (by omega), zsi_at (b := a + 3) (by omega), zsi_at (b := a + 3) (by omega), zsi_at (b := a + 4) (by omega), zsi_at (b := a + 4) (by omega)]
        refine ⟨?_, ?_, w3.kept⟩
        · show g.1 a 4 = nI (pPs π + (pRw π + k) / aV ρ 7)
          rw [Nat.div_eq_of_lt h7]; exact w1
        · show cPg (if pRw π + k < aV ρ 7 then pYs π else noY) _ _
          rw [if_pos h7]; exact w2
    · rw [if_pos ((nle (by omega) (by omega)).mpr (by omega)), zc_pos (nz (by omega) (by omega)), zl_eq, zsi_get (by omega), zsi_get (by omega), zdiv_nI (by omega) (by omega) (by omega), zc_pos (nz (by omega) (by omega)), zl_eq, zsi_get (j := 3) (by omega), zsi_same, zrem_nI (by omega) (by omega) (by omega)]
      have hfr : frm (SC b X a) g (zsi (zsi (zsi (zsi g a 2 (nI (pTk π + (aV ρ 5 + k * aV ρ 6)))) a 3 (nI (pRw π + k))) a 4 (g.1 a 4 + nI ((pRw π + k) / aV ρ 7))) a 3 (nI ((pRw π + k) % aV ρ 7))) := (((frm.si (Or.inl (by omega))).trans (frm.si (Or.inl (by omega)))).trans (frm.si (Or.inl (by omega)))).trans (frm.si (Or.inl (by omega)))
      have hq : ∀ j, (zsi (zsi (zsi (zsi g a 2 (nI (pTk π + (aV ρ 5 + k * aV ρ 6)))) a 3 (nI (pRw π + k))) a 4 (g.1 a 4 + nI ((pRw π + k) / aV ρ 7))) a 3 (nI ((pRw π + k) % aV ρ 7))).1 a j = if j = 2 then nI (pTk π + (aV ρ 5 + k * aV ρ 6)) else if j = 3 then nI ((pRw π + k) % aV ρ 7) else if j = 4 then g.1 a 4 + nI ((pRw π + k) / aV ρ 7) else g.1 a j := by
        intro j
        by_cases e3 : j = 3
        · subst e3; rw [zsi_same]; rfl
        · rw [zsi_get e3]
          by_cases e4 : j = 4
          · subst e4; rw [zsi_same]; rfl
          · rw [zsi_get e4, zsi_get e3]
            by_cases e2 : j = 2
            · subst e2; rw [zsi_same]; rfl
            · rw [zsi_get e2, if_neg e2, if_neg e3, if_neg e4]
      have hat : ∀ x, x ≠ a → (zsi (zsi (zsi (zsi g a 2 (nI (pTk π + (aV ρ 5 + k * aV ρ 6)))) a 3 (nI (pRw π + k))) a 4 (g.1 a 4 + nI ((pRw π + k) / aV ρ 7))) a 3 (nI ((pRw π + k) % aV ρ 7))).1 x = g.1 x := by
        intro x hx
        rw [zsi_at hx, zsi_at hx, zsi_at hx, zsi_at hx]
      generalize hG : zsi (zsi (zsi (zsi g a 2 (nI (pTk π + (aV ρ 5 + k * aV ρ 6)))) a 3 (nI (pRw π + k))) a 4 (g.1 a 4 + nI ((pRw π + k) / aV ρ 7))) a 3 (nI ((pRw π + k) % aV ρ 7)) = G at *
      have hGr : G.2 = g.2 := by rw [← hG]; rfl
      cases hb : b with
      | false =>
        rw [hGr, hp.2.2.2.2.2.2.2 hb, if_pos rfl]
        subst hb
        refine ⟨G, rfl, hfr, hln _ (hat _ (by omega)), ⟨?_, ?_, ?_⟩, fun z => by cases z⟩
        · rw [hq]; rfl
        · rw [hq]; rfl
        · rw [hq]; exact v4
      | true =>
        rw [hGr, hp.2.2.2.2.2.2.1 hb, if_neg (by omega), q_clear (p1 := X + 29) (p2 := X + 30) (by rw [hGr]; exact hB.1.pl) (by rw [hGr]; exact hB.1.pt), zb_some]
        subst hb
        obtain ⟨w1, w2, w3⟩ := v5 rfl
        have f2 : frm (fun c => c = X + 29 ∨ c = X + 30) G (zfl (zfl G (X + 29) 0 (fun _ => 0) 2400) (X + 30) 0 (fun _ => 0) 2400) := ((zfl_frm _ _ _ _ _).mono (fun c hc => Or.inl hc)).trans ((zfl_frm _ _ _ _ _).mono (fun c hc => Or.inr hc))
        have ea : ∀ x, ¬ (x = X + 29 ∨ x = X + 30) → (zfl (zfl G (X + 29) 0 (fun _ => 0) 2400) (X + 30) 0 (fun _ => 0) 2400).1 x = G.1 x := fun x hx => (f2.2 x hx).1
        have el : (zfl (zfl G (X + 29) 0 (fun _ => 0) 2400) (X + 30) 0 (fun _ => 0) 2400).2.2 = g.2.2 := by rw [zfl_r, zfl_r, hGr]
        refine ⟨_, rfl, hfr.trans (f2.mono (fun c hc => Or.inr ⟨rfl, hc⟩)), hln _ (by rw [ea _ (by omega)]; exact hat _ (by omega)), ⟨?_, ?_, ?_⟩, fun _ => ⟨?_, ?_, ?_⟩⟩
        · rw [ea a (by omega), hq]; rfl
        · rw [ea a (by omega), hq]; rfl
        · rw [ea a (by omega), hq]; exact v4
        · rw [ea a (by omega), hq]
          show g.1 a 4 + nI ((pRw π + k) / aV ρ 7) = _
          rw [w1, nI_add]; rfl
        · show cPg (if pRw π + k < aV ρ 7 then pYs π else noY) _ _
          rw [if_neg h7]
          intro j hj
          rw [zfl_at _ _ _ _ _ (show X + 29 ≠ X + 30 by omega), zfl_get, zfl_get, if_pos (by omega), if_pos (by omega)]
          exact ⟨rfl, rfl⟩
        · rw [ea (a + 2) (by omega), ea (a + 3) (by omega), ea (a + 4) (by omega), el, hat (a + 2) (by omega), hat (a + 3) (by omega), hat (a + 4) (by omega)]
          exact w3.kept
end PJ
