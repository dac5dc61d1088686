-- ===== tokens of a tape =====
def sb (b : Nat) : Int32 := (nI b).toInt8.toInt32
/-- by a byte: 0 end, 1 name, 2 number, 3 comma, 4 stop, 5 no token, 6 space -/
def kb (b : Nat) : Nat := if 97 ≤ b ∧ b ≤ 122 then 1 else if 48 ≤ b ∧ b ≤ 57 then 2 else if b = 44 then 3 else if b = 59 then 4 else if b = 32 then 6 else if b = 256 then 0 else 5
def byt (t : aT) (i : Nat) : Nat := if i < t.1 then t.2 i else 256
/-- the first place from p on that is not of kind k -/
def rn (k : Nat) (t : aT) : Nat → Nat → Nat
  | 0, p => p
  | d + 1, p => if kb (byt t p) = k then rn k t d (p + 1) else p
def lx (t : aT) (p : Nat) : Nat × Nat × Nat :=
  if kb (byt t (rn 6 t (t.1 - p) p)) = 1 then (1, rn 6 t (t.1 - p) p, rn 1 t (t.1 - rn 6 t (t.1 - p) p) (rn 6 t (t.1 - p) p))
  else if kb (byt t (rn 6 t (t.1 - p) p)) = 2 then (if rn 2 t (t.1 - rn 6 t (t.1 - p) p) (rn 6 t (t.1 - p) p) - rn 6 t (t.1 - p) p ≤ 2 then 2 else 5, rn 6 t (t.1 - p) p, rn 2 t (t.1 - rn 6 t (t.1 - p) p) (rn 6 t (t.1 - p) p))
  else if kb (byt t (rn 6 t (t.1 - p) p)) = 0 then (0, rn 6 t (t.1 - p) p, rn 6 t (t.1 - p) p)
  else (kb (byt t (rn 6 t (t.1 - p) p)), rn 6 t (t.1 - p) p, rn 6 t (t.1 - p) p + 1)
theorem zsi_id {g : zG} {a k : Nat} {x : Int32} (h : g.1 a k = x) : zsi g a k x = g := by
  have : (zsi g a k x).1 = g.1 := by
    funext b j
    rw [zsi_if]
    by_cases e : b = a ∧ j = k
    · rw [if_pos e, e.1, e.2, h]
    · rw [if_neg e]
  exact Prod.ext this rfl
theorem zsi_zsi {g : zG} {a k : Nat} {x y : Int32} : zsi (zsi g a k x) a k y = zsi g a k y := by
  have : (zsi (zsi g a k x) a k y).1 = (zsi g a k y).1 := by
    funext b j
    rw [zsi_if, zsi_if, zsi_if]
    by_cases e : b = a ∧ j = k
    · rw [if_pos e, if_pos e]
    · rw [if_neg e, if_neg e, if_neg e]
  exact Prod.ext this rfl
section LEX
variable {t : aT}
theorem byt_in {i : Nat} (h : i < t.1) : byt t i = t.2 i := if_pos h
theorem byt_out {i : Nat} (h : t.1 ≤ i) : byt t i = 256 := if_neg (by omega)
theorem rn_p {k : Nat} (hk : k ≠ 0) : ∀ (d p : Nat), p + d = t.1 → (p ≤ rn k t d p ∧ rn k t d p ≤ t.1) ∧ (∀ i, p ≤ i → i < rn k t d p → kb (byt t i) = k) ∧ kb (byt t (rn k t d p)) ≠ k := by
  intro d
  induction d with
  | zero =>
    intro p hp
    refine ⟨⟨Nat.le_refl _, by show p ≤ _; omega⟩, fun i i1 i2 => ?_, ?_⟩
    · have : i < p := i2
      omega
    · show kb (byt t p) ≠ k
      rw [byt_out (by omega)]
      show (0 : Nat) ≠ k
      omega
  | succ d ih =>
    intro p hp
    by_cases h : kb (byt t p) = k
    · have e : rn k t (d + 1) p = rn k t d (p + 1) := if_pos h
      obtain ⟨⟨h1, h2⟩, h3, h4⟩ := ih (p + 1) (by omega)
      rw [e]
      refine ⟨⟨by omega, h2⟩, fun i i1 i2 => ?_, h4⟩
      by_cases e2 : i = p
      · rw [e2]; exact h
      · exact h3 i (by omega) i2
    · have e : rn k t (d + 1) p = p := if_neg h
      rw [e]
      exact ⟨⟨Nat.le_refl _, by omega⟩, fun i i1 i2 => by omega, h⟩
theorem kb_le (b : Nat) : kb b ≤ 6 := by
  unfold kb
  repeat' split
  all_goals omega
theorem kb_end {p : Nat} (hv : vTp t) (h : kb (byt t p) = 0) : t.1 ≤ p := by
  apply Classical.byContradiction
  intro hn
  rw [byt_in (by omega)] at h
  have := hv.2 p (by omega)
  unfold kb at h
  repeat' split at h
  all_goals omega
/-- what a token is made of -/
def tok (t : aT) (p k f e : Nat) : Prop := (p ≤ f ∧ f ≤ e ∧ e ≤ t.1) ∧ k ≤ 5 ∧ (k = 0 → f = t.1 ∧ e = f) ∧ (k ≠ 0 → f + 1 ≤ e) ∧ (k = 1 → ∀ i, f ≤ i → i < e → kb (byt t i) = 1) ∧ (k = 2 → e ≤ f + 2 ∧ ∀ i, f ≤ i → i < e → kb (byt t i) = 2)
theorem lx_tok (hv : vTp t) {p : Nat} (hp : p ≤ t.1) : tok t p (lx t p).1 (lx t p).2.1 (lx t p).2.2 := by
  obtain ⟨⟨f1, f2⟩, f3, f4⟩ := rn_p (t := t) (k := 6) (by omega) (t.1 - p) p (by omega)
  unfold lx
  generalize hF : rn 6 t (t.1 - p) p = F at *
  have hl := kb_le (byt t F)
  by_cases c1 : kb (byt t F) = 1
  · rw [if_pos c1]
    obtain ⟨⟨e1, e2⟩, e3, e4⟩ := rn_p (t := t) (k := 1) (by omega) (t.1 - F) F (by omega)
    refine ⟨⟨f1, e1, e2⟩, by show 1 ≤ 5; omega, fun z => (by cases z), fun _ => ?_, fun _ => e3, fun z => (by cases z)⟩
    apply Classical.byContradiction
    intro hn
    have : rn 1 t (t.1 - F) F = F := by
      have hn : ¬ F + 1 ≤ rn 1 t (t.1 - F) F := hn
      omega
    rw [this] at e4
    exact e4 c1
  · rw [if_neg c1]
    by_cases c2 : kb (byt t F) = 2
    · rw [if_pos c2]
      obtain ⟨⟨e1, e2⟩, e3, e4⟩ := rn_p (t := t) (k := 2) (by omega) (t.1 - F) F (by omega)
      have e5 : F + 1 ≤ rn 2 t (t.1 - F) F := by
        apply Classical.byContradiction
        intro hn
        have : rn 2 t (t.1 - F) F = F := by omega
        rw [this] at e4
        exact e4 c2
      refine ⟨⟨f1, e1, e2⟩, ?_, fun z => ?_, fun _ => e5, fun z => ?_, fun z => ?_⟩
      · show (if _ then 2 else 5) ≤ 5
        split <;> omega
      · have z : (if rn 2 t (t.1 - F) F - F ≤ 2 then 2 else 5) = 0 := z
        split at z <;> omega
      · have z : (if rn 2 t (t.1 - F) F - F ≤ 2 then 2 else 5) = 1 := z
        split at z <;> omega
      · have z : (if rn 2 t (t.1 - F) F - F ≤ 2 then 2 else 5) = 2 := z
        have : rn 2 t (t.1 - F) F - F ≤ 2 := by
          apply Classical.byContradiction
          intro hn
          rw [if_neg hn] at z
          omega
        exact ⟨by show rn 2 t (t.1 - F) F ≤ F + 2; omega, e3⟩
    · rw [if_neg c2]
      by_cases c0 : kb (byt t F) = 0
      · rw [if_pos c0]
        have := kb_end hv c0
        exact ⟨⟨f1, Nat.le_refl _, f2⟩, by show 0 ≤ 5; omega, fun _ => ⟨by show F = t.1; omega, rfl⟩, fun z => absurd rfl z, fun z => (by cases z), fun z => (by cases z)⟩
      · rw [if_neg c0]
        have hlt : F < t.1 := by
          apply Classical.byContradiction
          intro hn
          rw [byt_out (by omega)] at c0
          exact c0 rfl
        exact ⟨⟨f1, by show F ≤ F + 1; omega, by show F + 1 ≤ t.1; omega⟩, by show kb (byt t F) ≤ 5; omega, fun z => absurd z c0, fun _ => Nat.le_refl _, fun z => absurd z c1, fun z => absurd z c2⟩
end LEX
-- ===== bytes of the class =====
theorem sb_32 : ∀ b, b < 256 → (sb b = 32 ↔ kb b = 6) := by decide +kernel
def kO (x : Int32) : Int32 := if x < 97 then (if x < 48 then (if x = 59 then x else if x = 44 then x else 3) else (if 57 < x then (if x = 59 then x else if x = 44 then x else 3) else 2)) else (if 122 < x then (if x < 48 then (if x = 59 then x else if x = 44 then x else 3) else (if 57 < x then (if x = 59 then x else if x = 44 then x else 3) else 2)) else 1)
/-- the class's numbers of kinds -/
def ckn (k : Nat) : Int32 := if k = 0 then 0 else if k = 1 then 1 else if k = 2 then 2 else if k = 3 then 44 else if k = 4 then 59 else 3
theorem kO_sb : ∀ b, b < 256 → kO (sb b) = ckn (kb b) := by decide +kernel
theorem q_kindOf (x : Int32) (g : zG) : f_X4_kindOf x g = some (kO x, g) := by
  unfold f_X4_kindOf j_X4_kindOf_14 j_X4_kindOf_28 kO
  repeat' split
  all_goals first | rfl | contradiction
theorem ckn_inj : ∀ a, a < 6 → ∀ b, b < 5 → (ckn a = ckn b ↔ a = b) := by decide +kernel
theorem sb_letter : ∀ b, b < 256 → kb b = 1 → sb b - 97 + 1 = nI (b - 96) := by decide +kernel
theorem sb_digit : ∀ b, b < 256 → kb b = 2 → sb b - 48 = nI (b - 48) := by decide +kernel
theorem kb_letter {b : Nat} (h : kb b = 1) : 97 ≤ b ∧ b ≤ 122 := by
  unfold kb at h
  repeat' split at h
  all_goals omega
theorem kb_digit {b : Nat} (h : kb b = 2) : 48 ≤ b ∧ b ≤ 57 := by
  unfold kb at h
  repeat' split at h
  all_goals omega
theorem kb_space {b : Nat} (h : kb b = 6) : b = 32 := by
  unfold kb at h
  repeat' split at h
  all_goals omega
theorem kb_comma {b : Nat} (h : kb b = 3) : b = 44 := by
  unfold kb at h
  repeat' split at h
  all_goals omega
theorem kb_stop {b : Nat} (h : kb b = 4) : b = 59 := by
  unfold kb at h
  repeat' split at h
  all_goals omega
-- ===== the class reads a token =====
section CLX
variable {t : aT} {X : Nat}
def RD (t : aT) (X : Nat) (g : zG) : Prop := rX X g ∧ g.1 (X + 23) 1 = nI t.1 ∧ ∀ i, i < t.1 → g.1 (X + 24) i = sb (t.2 i)
/-- what reading of tokens may write -/
def tF (X : Nat) (g g' : zG) : Prop := frm (fun x => x = X + 23) g g' ∧ ∀ j, j = 1 ∨ j = 4 ∨ 9 ≤ j → g'.1 (X + 23) j = g.1 (X + 23) j
theorem tF.refl (X : Nat) (g : zG) : tF X g g := ⟨frm.refl _ _, fun _ _ => rfl⟩
theorem tF.trans {g g1 g2 : zG} (h1 : tF X g g1) (h2 : tF X g1 g2) : tF X g g2 := ⟨h1.1.trans h2.1, fun j hj => (h2.2 j hj).trans (h1.2 j hj)⟩
theorem tF.si {g : zG} {j : Nat} {x : Int32} (hj : (2 ≤ j ∧ j ≤ 8) ∧ j ≠ 4) : tF X g (zsi g (X + 23) j x) := ⟨frm.si rfl, fun i hi => zsi_get (by omega)⟩
theorem RD.kept {g g' : zG} (h : RD t X g) (hf : tF X g g') : RD t X g' := ⟨h.1.kept hf.1.1, by rw [hf.2 1 (by omega)]; exact h.2.1, fun i hi => by rw [(hf.1.2 (X + 24) (by omega)).1]; exact h.2.2 i hi⟩
theorem q_sp (hv : vTp t) : ∀ (d p N : Nat) (g : zG), p + d = t.1 → RD t X g → g.1 (X + 23) 7 = nI p → d < N → zw N (fun s => l_X4_nextToken_0 (X + 23) s) g = some (zsi g (X + 23) 7 (nI (rn 6 t d p))) := by
  have hl := hv.1
  intro d
  induction d with
  | zero =>
    intro p N g hp hR h7 hN
    obtain ⟨N, rfl⟩ : ∃ K, N = K + 1 := ⟨N - 1, by omega⟩
    rw [show rn 6 t 0 p = p from rfl, zsi_id h7]
    apply zw_end
    show l_X4_nextToken_0 (X + 23) g = _
    unfold l_X4_nextToken_0
    rw [hR.2.1, h7, if_pos ((nle (by omega) (by omega)).mpr (by omega))]
  | succ d ih =>
    intro p N g hp hR h7 hN
    obtain ⟨N, rfl⟩ : ∃ K, N = K + 1 := ⟨N - 1, by omega⟩
    have hb := hv.2 p (by omega)
    have st : l_X4_nextToken_0 (X + 23) g = if kb (byt t p) = 6 then some (.inl (zsi g (X + 23) 7 (nI (p + 1)))) else some (.inr g) := by
      unfold l_X4_nextToken_0
      rw [hR.2.1, h7, if_neg (fun e => by have := (nle (by omega) (by omega)).mp e; omega), zc_pos (zlit p 240 (by omega) (by omega)), nI_cl (by omega), hR.1.by, hR.2.2 p (by omega), zl_eq, nI_1, byt_in (by omega)]
      by_cases e : kb (t.2 p) = 6
      · rw [if_pos e, if_pos ((sb_32 _ hb).mpr e)]
      · rw [if_neg e, if_neg (fun z => e ((sb_32 _ hb).mp z))]
    by_cases e : kb (byt t p) = 6
    · rw [if_pos e] at st
      rw [zw_step st, ih (p + 1) N _ (by omega) (hR.kept (tF.si (by omega))) zsi_same (by omega), zsi_zsi, show rn 6 t (d + 1) p = rn 6 t d (p + 1) from if_pos e]
    · rw [if_neg e] at st
      rw [zw_end st, show rn 6 t (d + 1) p = p from if_neg e, zsi_id h7]
theorem q_ext (hv : vTp t) {k : Nat} (hk : k = 1 ∨ k = 2) : ∀ (d p N : Nat) (g : zG), p + d = t.1 → RD t X g → g.1 (X + 23) 7 = nI p → g.1 (X + 23) 5 = ckn k → d < N → zw N (fun s => l_X4_nextToken_90 (X + 23) s) g = some (zsi g (X + 23) 7 (nI (rn k t d p))) := by
  have hl := hv.1
  have hin : ∀ g : zG, g.1 (X + 23) 5 = ckn k → l_X4_nextToken_90 (X + 23) g = j_X4_nextToken_106_90 (X + 23) g := by
    intro g h5
    unfold l_X4_nextToken_90
    rcases hk with e | e
    · rw [h5, e, if_pos (by decide)]
    · rw [h5, e, if_neg (by decide), if_pos (by decide)]
  intro d
  induction d with
  | zero =>
    intro p N g hp hR h7 h5 hN
    obtain ⟨N, rfl⟩ : ∃ K, N = K + 1 := ⟨N - 1, by omega⟩
    rw [show rn k t 0 p = p from rfl, zsi_id h7]
    apply zw_end
    show l_X4_nextToken_90 (X + 23) g = _
    rw [hin g h5]
    unfold j_X4_nextToken_106_90
    rw [hR.2.1, h7, if_pos ((nle (by omega) (by omega)).mpr (by omega))]
  | succ d ih =>
    intro p N g hp hR h7 h5 hN
    obtain ⟨N, rfl⟩ : ∃ K, N = K + 1 := ⟨N - 1, by omega⟩
    have hb := hv.2 p (by omega)
    have hkl := kb_le (t.2 p)
    have st : l_X4_nextToken_90 (X + 23) g = if kb (byt t p) = k then some (.inl (zsi g (X + 23) 7 (nI (p + 1)))) else some (.inr g) := by
      rw [hin g h5]
      unfold j_X4_nextToken_106_90
      rw [hR.2.1, h7, if_neg (fun e => by have := (nle (by omega) (by omega)).mp e; omega), zc_pos (zlit p 240 (by omega) (by omega)), nI_cl (by omega), hR.1.by, hR.2.2 p (by omega), q_kindOf, zb_some, h5, h7, zl_eq, nI_1, byt_in (by omega), kO_sb _ hb]
      by_cases e : kb (t.2 p) = k
      · rw [if_pos e, e, if_pos rfl]
      · rw [if_neg e, if_neg]
        intro z
        by_cases e6 : kb (t.2 p) = 6
        · rw [e6] at z
          rcases hk with e2 | e2
          · rw [e2] at z; exact absurd z (by decide)
          · rw [e2] at z; exact absurd z (by decide)
        · exact e ((ckn_inj _ (by omega) k (by omega)).mp z)
    by_cases e : kb (byt t p) = k
    · rw [if_pos e] at st
      rw [zw_step st, ih (p + 1) N _ (by omega) (hR.kept (tF.si (by omega))) zsi_same (by rw [zsi_get (by omega)]; exact h5) (by omega), zsi_zsi, show rn k t (d + 1) p = rn k t d (p + 1) from if_pos e]
    · rw [if_neg e] at st
      rw [zw_end st, show rn k t (d + 1) p = p from if_neg e, zsi_id h7]
theorem rn_s {k f : Nat} (h : kb (byt t f) = k) (hf : f < t.1) : rn k t (t.1 - f) f = rn k t (t.1 - (f + 1)) (f + 1) := by
  rw [show t.1 - f = (t.1 - (f + 1)) + 1 by omega]
  exact if_pos h
/-- a token of the class -/
theorem q_next (hv : vTp t) {p : Nat} (hp : p ≤ t.1) {g : zG} (hR : RD t X g) (h7 : g.1 (X + 23) 7 = nI p) : ∃ g', f_X4_nextToken (X + 23) g = some (if (lx t p).1 = 5 then 0 else 1, g') ∧ tF X g g' ∧ g'.1 (X + 23) 6 = nI (lx t p).2.1 ∧ g'.1 (X + 23) 8 = g.1 (X + 23) 8 ∧ ((lx t p).1 ≠ 5 → g'.1 (X + 23) 5 = ckn (lx t p).1 ∧ g'.1 (X + 23) 7 = nI (lx t p).2.2 ∧ g'.1 (X + 23) 2 = g.1 (X + 23) 2) ∧ ((lx t p).1 = 5 → g'.1 (X + 23) 2 = nI 1 ∧ g'.1 (X + 23) 3 = nI (lx t p).2.1) := by
  have hl := hv.1
  obtain ⟨⟨f1, f2⟩, f3, f4⟩ := rn_p (t := t) (k := 6) (by omega) (t.1 - p) p (by omega)
  unfold f_X4_nextToken
  rw [q_sp hv (t.1 - p) p zN g (by omega) hR h7 (by have := zN_big; omega), zk_some]
  unfold lx
  generalize hF : rn 6 t (t.1 - p) p = F at *
  have hkl := kb_le (byt t F)
  -- the heap where the token begins
  obtain ⟨G, hG⟩ : ∃ G, G = zsi (zsi g (X + 23) 7 (nI F)) (X + 23) 6 (nI F) := ⟨_, rfl⟩
  have fG : tF X g G := by rw [hG]; exact (tF.si (by omega)).trans (tF.si (by omega))
  have hRG := hR.kept fG
  have G7 : G.1 (X + 23) 7 = nI F := by rw [hG, zsi_get (by omega), zsi_same]
  have G6 : G.1 (X + 23) 6 = nI F := by rw [hG, zsi_same]
  have Gj : ∀ j, j ≠ 6 → j ≠ 7 → G.1 (X + 23) j = g.1 (X + 23) j := fun j a b => by rw [hG, zsi_get a, zsi_get b]
  have e0 : ∀ r, j_X4_nextToken_38 (X + 23) (zsi g (X + 23) 7 (nI F)) = r ↔ (if nI F < nI t.1 then (zc (zin (nI F) 240) (zb (f_X4_kindOf (G.1 (X + 24) (nI F).toNatClampNeg) G) (fun v10 g11 => zl (zsi g11 (X + 23) 5 v10) (fun g12 => zl (zsi g12 (X + 23) 7 ((g12.1 (X + 23) 7) + 1)) (fun g13 => zk (zw zN (fun s => l_X4_nextToken_90 (X + 23) s) g13) (fun x => j_X4_nextToken_149 (X + 23) x)))))) else (zl (zsi G (X + 23) 5 0) (fun g22 => some ((1, g22))))) = r := by
    intro r
    unfold j_X4_nextToken_38
    rw [zl_eq, zsi_same, ← hG, G7, hRG.2.1, hRG.1.by]
  by_cases hlt : F < t.1
  · have hb := hv.2 F hlt
    -- the first byte
    obtain ⟨G1, hG1⟩ : ∃ G1, G1 = zsi (zsi G (X + 23) 5 (ckn (kb (byt t F)))) (X + 23) 7 (nI (F + 1)) := ⟨_, rfl⟩
    have f1G : tF X G G1 := by rw [hG1]; exact (tF.si (by omega)).trans (tF.si (by omega))
    have fg1 := fG.trans f1G
    have hR1 := hRG.kept f1G
    have A7 : G1.1 (X + 23) 7 = nI (F + 1) := by rw [hG1, zsi_same]
    have A5 : G1.1 (X + 23) 5 = ckn (kb (byt t F)) := by rw [hG1, zsi_get (by omega), zsi_same]
    have A6 : G1.1 (X + 23) 6 = nI F := by rw [hG1, zsi_get (by omega), zsi_get (by omega)]; exact G6
    have A2 : G1.1 (X + 23) 2 = g.1 (X + 23) 2 := by rw [hG1, zsi_get (by omega), zsi_get (by omega), Gj 2 (by omega) (by omega)]
    have A8 : G1.1 (X + 23) 8 = g.1 (X + 23) 8 := by rw [hG1, zsi_get (by omega), zsi_get (by omega), Gj 8 (by omega) (by omega)]
    have e1 : j_X4_nextToken_38 (X + 23) (zsi g (X + 23) 7 (nI F)) = zk (zw zN (fun s => l_X4_nextToken_90 (X + 23) s) G1) (fun x => j_X4_nextToken_149 (X + 23) x) := by
      rw [e0, if_pos ((nlt (by omega) (by omega)).mpr hlt), zc_pos (zlit F 240 (by omega) (by omega)), nI_cl (by omega), hRG.2.2 F hlt, q_kindOf, zb_some, zl_eq, zl_eq, zsi_get (by omega), G7, nI_1, kO_sb _ hb, ← byt_in hlt, ← hG1]
    rw [e1]
    have fail : ∀ G2 : zG, tF X g G2 → G2.1 (X + 23) 6 = nI F → G2.1 (X + 23) 8 = g.1 (X + 23) 8 → ∃ g', j_X4_nextToken_178 (X + 23) G2 = some (0, g') ∧ tF X g g' ∧ g'.1 (X + 23) 6 = nI F ∧ g'.1 (X + 23) 8 = g.1 (X + 23) 8 ∧ g'.1 (X + 23) 2 = nI 1 ∧ g'.1 (X + 23) 3 = nI F := by
      intro G2 w1 w2 w3
      refine ⟨zsi (zsi G2 (X + 23) 2 1) (X + 23) 3 (nI F), ?_, (w1.trans (tF.si (by omega))).trans (tF.si (by omega)), ?_, ?_, ?_, ?_⟩
      · unfold j_X4_nextToken_178 f_X4_fail
        rw [zl_eq, zl_eq, zb_some, zc_pos (Or.inl rfl), w2]
      · rw [zsi_get (by omega), zsi_get (by omega)]; exact w2
      · rw [zsi_get (by omega), zsi_get (by omega)]; exact w3
      · rw [zsi_get (by omega), zsi_same]; rfl
      · rw [zsi_same]
    by_cases c1 : kb (byt t F) = 1
    · rw [if_pos c1]
      rw [c1] at A5
      rw [q_ext hv (k := 1) (Or.inl rfl) (t.1 - (F + 1)) (F + 1) zN G1 (by omega) hR1 A7 A5 (by have := zN_big; omega), zk_some, ← rn_s c1 hlt]
      refine ⟨_, ?_, fg1.trans (tF.si (by omega)), by rw [zsi_get (by omega)]; exact A6, by rw [zsi_get (by omega)]; exact A8, fun _ => ⟨by rw [zsi_get (by omega)]; exact A5, zsi_same, by rw [zsi_get (by omega)]; exact A2⟩, fun z => (by cases z)⟩
      unfold j_X4_nextToken_149
      rw [zsi_get (by omega), A5, if_neg (by decide), if_neg (by decide)]
      rfl
    · rw [if_neg c1]
      by_cases c2 : kb (byt t F) = 2
      · rw [if_pos c2]
        rw [c2] at A5
        obtain ⟨⟨e1, e2⟩, e3, e4⟩ := rn_p (t := t) (k := 2) (by omega) (t.1 - F) F (by omega)
        rw [q_ext hv (k := 2) (Or.inr rfl) (t.1 - (F + 1)) (F + 1) zN G1 (by omega) hR1 A7 A5 (by have := zN_big; omega), zk_some, ← rn_s c2 hlt]
        generalize hE : rn 2 t (t.1 - F) F = E at *
        have ej : j_X4_nextToken_149 (X + 23) (zsi G1 (X + 23) 7 (nI E)) = if E - F ≤ 2 then some (1, zsi G1 (X + 23) 7 (nI E)) else j_X4_nextToken_178 (X + 23) (zsi G1 (X + 23) 7 (nI E)) := by
          unfold j_X4_nextToken_149
          rw [zsi_get (j := 5) (by omega), A5, if_neg (by decide), if_pos (by decide), zsi_same, zsi_get (j := 6) (by omega), A6, pk_sub e1]
          by_cases h : E - F ≤ 2
          · rw [if_pos h, if_pos (show nI (E - F) ≤ (2 : Int32) from (nle (b := 2) (by omega) (by omega)).mpr h)]
          · rw [if_neg h, if_neg (show ¬ nI (E - F) ≤ (2 : Int32) from fun z => h ((nle (b := 2) (by omega) (by omega)).mp z))]
        rw [ej]
        by_cases h : E - F ≤ 2
        · rw [if_pos h, if_pos h]
          exact ⟨_, rfl, fg1.trans (tF.si (by omega)), by rw [zsi_get (by omega)]; exact A6, by rw [zsi_get (by omega)]; exact A8, fun _ => ⟨by rw [zsi_get (by omega)]; exact A5, zsi_same, by rw [zsi_get (by omega)]; exact A2⟩, fun z => (by cases z)⟩
        · rw [if_neg h, if_neg h]
          obtain ⟨g', z1, z2, z3, z4, z5, z6⟩ := fail (zsi G1 (X + 23) 7 (nI E)) (fg1.trans (tF.si (by omega))) (by rw [zsi_get (by omega)]; exact A6) (by rw [zsi_get (by omega)]; exact A8)
          exact ⟨g', z1, z2, z3, z4, fun z => absurd rfl z, fun _ => ⟨z5, z6⟩⟩
      · rw [if_neg c2]
        have c0 : ¬ kb (byt t F) = 0 := fun z => by have := kb_end hv z; omega
        rw [if_neg c0]
        have h6 : ¬ kb (byt t F) = 6 := f4
        have n1 : ¬ ckn (kb (byt t F)) = ckn 1 := fun z => c1 ((ckn_inj _ (by omega) 1 (by omega)).mp z)
        have n2 : ¬ ckn (kb (byt t F)) = ckn 2 := fun z => c2 ((ckn_inj _ (by omega) 2 (by omega)).mp z)
        have st : zw zN (fun s => l_X4_nextToken_90 (X + 23) s) G1 = some G1 := by
          obtain ⟨K, hK⟩ : ∃ K, zN = K + 1 := ⟨99999, rfl⟩
          rw [hK]
          apply zw_end
          show l_X4_nextToken_90 (X + 23) G1 = _
          unfold l_X4_nextToken_90
          rw [A5, if_neg (show ¬ ckn (kb (byt t F)) = 1 from n1), if_neg (show ¬ ckn (kb (byt t F)) = 2 from n2)]
        rw [st, zk_some]
        unfold j_X4_nextToken_149
        rw [A5, if_neg (show ¬ ckn (kb (byt t F)) = 2 from n2)]
        by_cases c5 : kb (byt t F) = 5
        · rw [c5, if_pos (by decide), if_pos rfl]
          obtain ⟨g', z1, z2, z3, z4, z5, z6⟩ := fail G1 fg1 A6 A8
          exact ⟨g', z1, z2, z3, z4, fun z => absurd rfl z, fun _ => ⟨z5, z6⟩⟩
        · have h34 : kb (byt t F) = 3 ∨ kb (byt t F) = 4 := by omega
          rw [if_neg (show ¬ ckn (kb (byt t F)) = 3 by rcases h34 with e | e <;> rw [e] <;> decide)]
          refine ⟨G1, ?_, fg1, A6, A8, fun _ => ⟨A5, A7, A2⟩, fun z => absurd z c5⟩
          show _ = some (if kb (byt t F) = 5 then (0 : Int32) else 1, G1)
          rw [if_neg c5]
  · have hFe : F = t.1 := by omega
    have c0 : kb (byt t F) = 0 := by rw [byt_out (by omega)]; rfl
    rw [if_neg (show ¬ kb (byt t F) = 1 by omega), if_neg (show ¬ kb (byt t F) = 2 by omega), if_pos c0]
    refine ⟨zsi G (X + 23) 5 0, ?_, fG.trans (tF.si (by omega)), by rw [zsi_get (by omega)]; exact G6, by rw [zsi_get (by omega), Gj 8 (by omega) (by omega)], fun _ => ⟨zsi_same, by rw [zsi_get (by omega)]; exact G7, by rw [zsi_get (by omega), Gj 2 (by omega) (by omega)]⟩, fun z => (by cases z)⟩
    rw [e0, if_neg (fun z => by have := (nlt (by omega) (by omega)).mp z; omega), zl_eq]
    rfl
end CLX
