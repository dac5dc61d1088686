-- ===== the reference reads a token =====
section MLX
variable {t : aT} {M : Nat}
def MD (t : aT) (M : Nat) (g : zG) : Prop := rM M g ∧ g.1 M 27 = nI t.1 ∧ ∀ i, i < t.1 → g.1 (M + 20) i = nI (t.2 i)
def uF (M : Nat) (g g' : zG) : Prop := frm (fun x => x = M) g g' ∧ ∀ j, ¬ (28 ≤ j ∧ j ≤ 33) → g'.1 M j = g.1 M j
theorem uF.refl (M : Nat) (g : zG) : uF M g g := ⟨frm.refl _ _, fun _ _ => rfl⟩
theorem uF.trans {g g1 g2 : zG} (h1 : uF M g g1) (h2 : uF M g1 g2) : uF M g g2 := ⟨h1.1.trans h2.1, fun j hj => (h2.2 j hj).trans (h1.2 j hj)⟩
theorem uF.si {g : zG} {j : Nat} {x : Int32} (hj : 28 ≤ j ∧ j ≤ 33) : uF M g (zsi g M j x) := ⟨frm.si rfl, fun i hi => zsi_get (by omega)⟩
theorem MD.kept {g g' : zG} (h : MD t M g) (hf : uF M g g') : MD t M g' := ⟨h.1.kept hf.1.1, by rw [hf.2 27 (by omega)]; exact h.2.1, fun i hi => by rw [(hf.1.2 (M + 20) (by omega)).1]; exact h.2.2 i hi⟩
def lk (t : aT) (p : Nat) : Int32 := if p < t.1 then nI (t.2 p) else -1
theorem lk_in {p : Nat} (h : p < t.1) : lk t p = nI (t.2 p) := if_pos h
theorem lk_out {p : Nat} (h : ¬ p < t.1) : lk t p = -1 := if_neg h
theorem lk_i (hv : vTp t) (p : Nat) : (p < t.1 ∧ (lk t p).toInt = byt t p ∧ byt t p < 256) ∨ (¬ p < t.1 ∧ (lk t p).toInt = -1 ∧ byt t p = 256) := by
  by_cases h : p < t.1
  · left
    have := hv.2 p h
    refine ⟨h, ?_, ?_⟩
    · rw [lk_in h, byt_in h, i_nI (by omega)]
    · rw [byt_in h]; exact this
  · right
    refine ⟨h, ?_, byt_out (by omega)⟩
    rw [lk_out h]; rfl
theorem m_look (hv : vTp t) {p : Nat} {g : zG} (h : MD t M g) (hp : p < 2147483648) : f_X10_look M (nI p) g = some (lk t p, g) := by
  have hl := hv.1
  unfold f_X10_look
  rw [h.2.1]
  by_cases e : p < t.1
  · rw [if_neg (fun z => by have := (nle (by omega) (by omega)).mp z; omega), zc_pos (zlit p 240 (by omega) (by omega)), nI_cl hp, h.1.ta, h.2.2 p e, lk_in e]
  · rw [if_pos ((nle (by omega) (by omega)).mpr (by omega)), lk_out e]
theorem kb_1 {b : Nat} : kb b = 1 ↔ 97 ≤ b ∧ b ≤ 122 := ⟨kb_letter, fun h => if_pos h⟩
theorem kb_2 {b : Nat} : kb b = 2 ↔ 48 ≤ b ∧ b ≤ 57 := ⟨kb_digit, fun h => by
  unfold kb
  rw [if_neg (by omega), if_pos h]⟩
theorem kb_6 {b : Nat} : kb b = 6 ↔ b = 32 := ⟨kb_space, fun h => by rw [h]; rfl⟩
theorem m_name (hv : vTp t) (p : Nat) (g : zG) : f_X10_in (lk t p).toInt64 97 122 g = some (if kb (byt t p) = 1 then 1 else 0, g) := by
  rw [m_in 97 122 97 122 rfl rfl]
  congr 2
  have h1 := kb_1 (b := byt t p)
  rcases lk_i hv p with ⟨-, h, -⟩ | ⟨-, h, h2⟩
  · by_cases e : kb (byt t p) = 1
    · have := h1.mp e
      rw [if_pos e, if_pos (by omega)]
    · rw [if_neg e, if_neg (fun z => e (h1.mpr (by omega)))]
  · rw [if_neg (by omega), if_neg (fun z => by have := h1.mp z; omega)]
theorem m_digit (hv : vTp t) (p : Nat) (g : zG) : f_X10_in (lk t p).toInt64 48 57 g = some (if kb (byt t p) = 2 then 1 else 0, g) := by
  rw [m_in 48 57 48 57 rfl rfl]
  congr 2
  have h1 := kb_2 (b := byt t p)
  rcases lk_i hv p with ⟨-, h, -⟩ | ⟨-, h, h2⟩
  · by_cases e : kb (byt t p) = 2
    · have := h1.mp e
      rw [if_pos e, if_pos (by omega)]
    · rw [if_neg e, if_neg (fun z => e (h1.mpr (by omega)))]
  · rw [if_neg (by omega), if_neg (fun z => by have := h1.mp z; omega)]
theorem lk_b (hv : vTp t) (p c : Nat) (hc : c < 256) : lk t p = nI c ↔ byt t p = c := by
  rw [i_eq, i_nI (by omega)]
  rcases lk_i hv p with ⟨-, h, -⟩ | ⟨-, h, h2⟩ <;> omega
theorem m_sp (hv : vTp t) : ∀ (d p N : Nat) (g : zG), p + d = t.1 → MD t M g → g.1 M 28 = nI p → d < N → zw N (fun s => l_X10_next_8 M s) g = some (zsi g M 28 (nI (rn 6 t d p))) := by
  have hl := hv.1
  have st : ∀ (p : Nat) (g : zG), p ≤ t.1 → MD t M g → g.1 M 28 = nI p → l_X10_next_8 M g = if kb (byt t p) = 6 then some (.inl (zsi g M 28 (nI (p + 1)))) else some (.inr g) := by
    intro p g hp hD h28
    unfold l_X10_next_8
    rw [h28, m_look hv hD (by omega), zb_some, zl_eq, h28, nI_1]
    have hk := kb_6 (b := byt t p)
    by_cases e : kb (byt t p) = 6
    · rw [if_pos e, if_pos (show lk t p = 32 from (lk_b hv p 32 (by omega)).mpr (hk.mp e))]
    · rw [if_neg e, if_neg (show ¬ lk t p = 32 from fun z => e (hk.mpr ((lk_b hv p 32 (by omega)).mp z)))]
  intro d
  induction d with
  | zero =>
    intro p N g hp hD h28 hN
    obtain ⟨N, rfl⟩ : ∃ K, N = K + 1 := ⟨N - 1, by omega⟩
    have := st p g (by omega) hD h28
    rw [byt_out (by omega), if_neg (by decide)] at this
    rw [zw_end this, show rn 6 t 0 p = p from rfl, zsi_id h28]
  | succ d ih =>
    intro p N g hp hD h28 hN
    obtain ⟨N, rfl⟩ : ∃ K, N = K + 1 := ⟨N - 1, by omega⟩
    have h1 := st p g (by omega) hD h28
    by_cases e : kb (byt t p) = 6
    · rw [if_pos e] at h1
      rw [zw_step h1, ih (p + 1) N _ (by omega) (hD.kept (uF.si (by omega))) zsi_same (by omega), zsi_zsi, show rn 6 t (d + 1) p = rn 6 t d (p + 1) from if_pos e]
    · rw [if_neg e] at h1
      rw [zw_end h1, show rn 6 t (d + 1) p = p from if_neg e, zsi_id h28]
theorem m_nam (hv : vTp t) : ∀ (d p N : Nat) (g : zG), p + d = t.1 → MD t M g → g.1 M 28 = nI p → d < N → zw N (fun s => l_X10_next_82 M s) g = some (zsi g M 28 (nI (rn 1 t d p))) := by
  have hl := hv.1
  have st : ∀ (p : Nat) (g : zG), p ≤ t.1 → MD t M g → g.1 M 28 = nI p → l_X10_next_82 M g = if kb (byt t p) = 1 then some (.inl (zsi g M 28 (nI (p + 1)))) else some (.inr g) := by
    intro p g hp hD h28
    unfold l_X10_next_82
    rw [h28, m_look hv hD (by omega), zb_some, m_name hv, zb_some, h28, zl_eq, nI_1]
    by_cases e : kb (byt t p) = 1
    · rw [if_pos e, if_pos e, b1]
    · rw [if_neg e, if_neg e, b0]
  intro d
  induction d with
  | zero =>
    intro p N g hp hD h28 hN
    obtain ⟨N, rfl⟩ : ∃ K, N = K + 1 := ⟨N - 1, by omega⟩
    have := st p g (by omega) hD h28
    rw [byt_out (by omega), if_neg (by decide)] at this
    rw [zw_end this, show rn 1 t 0 p = p from rfl, zsi_id h28]
  | succ d ih =>
    intro p N g hp hD h28 hN
    obtain ⟨N, rfl⟩ : ∃ K, N = K + 1 := ⟨N - 1, by omega⟩
    have h1 := st p g (by omega) hD h28
    by_cases e : kb (byt t p) = 1
    · rw [if_pos e] at h1
      rw [zw_step h1, ih (p + 1) N _ (by omega) (hD.kept (uF.si (by omega))) zsi_same (by omega), zsi_zsi, show rn 1 t (d + 1) p = rn 1 t d (p + 1) from if_pos e]
    · rw [if_neg e] at h1
      rw [zw_end h1, show rn 1 t (d + 1) p = p from if_neg e, zsi_id h28]
/-- the worth of the first j digits, two at most -/
def vn (t : aT) (f j : Nat) : Nat := if j = 0 then 0 else if j = 1 then byt t f - 48 else 10 * (byt t f - 48) + (byt t (f + 1) - 48)
def vl (t : aT) (f e : Nat) : Nat := vn t f (e - f)
theorem vn_s {f j : Nat} (hj : j < 2) (h : kb (byt t (f + j)) = 2) : 10 * nI (vn t f j) + nI (byt t (f + j)) - 48 = nI (vn t f (j + 1)) := by
  have hd := kb_digit h
  have e48 : (48 : Int32) = nI 48 := rfl
  have e10 : (10 : Int32) = nI 10 := rfl
  rw [e48, e10, pk_mul, nI_add]
  by_cases h0 : j = 0
  · subst h0
    rw [Nat.add_zero] at hd ⊢
    rw [pk_sub (by show 48 ≤ 10 * 0 + byt t f; omega)]
    rw [show vn t f (0 + 1) = byt t f - 48 from rfl, show 10 * vn t f 0 + byt t f - 48 = byt t f - 48 by rw [show vn t f 0 = 0 from rfl]; omega]
  · have h1 : j = 1 := by omega
    subst h1
    have e1 : vn t f 1 = byt t f - 48 := rfl
    have e2 : vn t f (1 + 1) = 10 * (byt t f - 48) + (byt t (f + 1) - 48) := rfl
    rw [e1, e2, pk_sub (by omega), show 10 * (byt t f - 48) + byt t (f + 1) - 48 = 10 * (byt t f - 48) + (byt t (f + 1) - 48) by omega]
theorem m_num (hv : vTp t) {f : Nat} : ∀ (d p N : Nat) (g : zG), p + d = t.1 → f ≤ p → MD t M g → g.1 M 28 = nI p → g.1 M 29 = nI f → g.1 M 31 = nI (vn t f (p - f)) → d < N → ∃ g', zw N (fun s => l_X10_next_140 M s) g = some g' ∧ uF M g g' ∧ g'.1 M 28 = nI (rn 2 t d p) ∧ g'.1 M 29 = nI f ∧ g'.1 M 30 = g.1 M 30 ∧ g'.1 M 32 = g.1 M 32 ∧ g'.1 M 31 = nI (vn t f (rn 2 t d p - f)) := by
  have hl := hv.1
  have st : ∀ (p : Nat) (g : zG), p ≤ t.1 → f ≤ p → MD t M g → g.1 M 28 = nI p → g.1 M 29 = nI f → g.1 M 31 = nI (vn t f (p - f)) → l_X10_next_140 M g = if kb (byt t p) = 2 then some (.inl (zsi (zsi g M 31 (nI (vn t f (p + 1 - f)))) M 28 (nI (p + 1)))) else some (.inr g) := by
    intro p g hp hfp hD h28 h29 h31
    unfold l_X10_next_140
    rw [h28, m_look hv hD (by omega), zb_some, m_digit hv, zb_some, h28, h29, h31, zl_eq, zl_eq, zsi_get (by omega), h28, m_look hv hD (by omega), zb_some, zl_eq, zl_eq, zsi_get (by omega), h28, nI_1, pk_sub hfp]
    by_cases e : kb (byt t p) = 2
    · rw [if_pos e, if_pos e, b1]
      have hlt : p < t.1 := by
        apply Classical.byContradiction
        intro hn
        rw [byt_out (by omega)] at e
        exact absurd e (by decide)
      by_cases h2 : 2 ≤ p - f
      · rw [if_pos (show (2 : Int32) ≤ nI (p - f) from (nle (a := 2) (by omega) (by omega)).mpr h2)]
        have : vn t f (p - f) = vn t f (p + 1 - f) := by
          unfold vn
          rw [if_neg (by omega), if_neg (by omega), if_neg (by omega), if_neg (by omega)]
        rw [this]
      · rw [if_neg (show ¬ (2 : Int32) ≤ nI (p - f) from fun z => h2 ((nle (a := 2) (by omega) (by omega)).mp z))]
        have hb : lk t p = nI (byt t (f + (p - f))) := by rw [show f + (p - f) = p by omega, lk_in hlt, byt_in hlt]
        rw [hb, vn_s (by omega) (by rw [show f + (p - f) = p by omega]; exact e), show p - f + 1 = p + 1 - f by omega]
    · rw [if_neg e, if_neg e, b0]
  intro d
  induction d with
  | zero =>
    intro p N g hp hfp hD h28 h29 h31 hN
    obtain ⟨N, rfl⟩ : ∃ K, N = K + 1 := ⟨N - 1, by omega⟩
    have := st p g (by omega) hfp hD h28 h29 h31
    rw [byt_out (by omega), if_neg (by decide)] at this
    exact ⟨g, zw_end this N, uF.refl _ _, h28, h29, rfl, rfl, h31⟩
  | succ d ih =>
    intro p N g hp hfp hD h28 h29 h31 hN
    obtain ⟨N, rfl⟩ : ∃ K, N = K + 1 := ⟨N - 1, by omega⟩
    have h1 := st p g (by omega) hfp hD h28 h29 h31
    by_cases e : kb (byt t p) = 2
    · rw [if_pos e] at h1
      have fr : uF M g (zsi (zsi g M 31 (nI (vn t f (p + 1 - f)))) M 28 (nI (p + 1))) := (uF.si (by omega)).trans (uF.si (by omega))
      obtain ⟨g', z1, z2, z3, z4, z5, z6, z7⟩ := ih (p + 1) N _ (by omega) (by omega) (hD.kept fr) zsi_same (by rw [zsi_get (by omega), zsi_get (by omega)]; exact h29) (by rw [zsi_get (by omega), zsi_same]) (by omega)
      rw [show rn 2 t (d + 1) p = rn 2 t d (p + 1) from if_pos e]
      exact ⟨g', by rw [zw_step h1]; exact z1, fr.trans z2, z3, z4, by rw [z5, zsi_get (by omega), zsi_get (by omega)], by rw [z6, zsi_get (by omega), zsi_get (by omega)], z7⟩
    · rw [if_neg e] at h1
      rw [show rn 2 t (d + 1) p = p from if_neg e]
      exact ⟨g, zw_end h1 N, uF.refl _ _, h28, h29, rfl, rfl, h31⟩
/-- a fault, told at a place -/
def FS (c x : Nat) (M : Nat) (g : zG) : Prop := g.1 M 32 = nI c ∧ g.1 M 33 = nI x
/-- a token is looked at -/
def LK (t : aT) (k f e : Nat) (M : Nat) (g : zG) : Prop := g.1 M 32 = 0 ∧ g.1 M 30 = nI k ∧ g.1 M 29 = nI f ∧ g.1 M 28 = nI e ∧ (k = 2 → g.1 M 31 = nI (vl t f e))
/-- the token from p on is looked at, or its fault is told -/
def LA (t : aT) (p : Nat) (M : Nat) (g : zG) : Prop := ((lx t p).1 ≠ 5 ∧ LK t (lx t p).1 (lx t p).2.1 (lx t p).2.2 M g) ∨ ((lx t p).1 = 5 ∧ FS 1 (lx t p).2.1 M g)
theorem m_nextF {c x : Nat} {g : zG} (h : FS c x M g) (hc : 1 ≤ c ∧ c ≤ 7) : f_X10_next M g = some (0, g) := by
  unfold f_X10_next
  rw [h.1, if_neg (show ¬ nI c ≤ (0 : Int32) from fun z => by have := (nle (b := 0) (by omega) (by omega)).mp z; omega)]
theorem m_next_t (hv : vTp t) {p : Nat} (hp : p ≤ t.1) {g : zG} (hD : MD t M g) (h28 : g.1 M 28 = nI p) (h32 : g.1 M 32 = 0) : ∃ g', f_X10_next M g = some (0, g') ∧ uF M g g' ∧ LA t p M g' := by
  have hl := hv.1
  obtain ⟨⟨f1, f2⟩, f3, f4⟩ := rn_p (t := t) (k := 6) (by omega) (t.1 - p) p (by omega)
  unfold f_X10_next
  rw [h32, if_pos (Int32.le_refl _), m_sp hv (t.1 - p) p zN g (by omega) hD h28 (by have := zN_big; omega), zk_some]
  unfold LA lx
  generalize hF : rn 6 t (t.1 - p) p = F at *
  have hkl := kb_le (byt t F)
  obtain ⟨G, hG⟩ : ∃ G, G = zsi (zsi g M 28 (nI F)) M 29 (nI F) := ⟨_, rfl⟩
  have fG : uF M g G := by rw [hG]; exact (uF.si (by omega)).trans (uF.si (by omega))
  have hDG := hD.kept fG
  have G28 : G.1 M 28 = nI F := by rw [hG, zsi_get (by omega), zsi_same]
  have G29 : G.1 M 29 = nI F := by rw [hG, zsi_same]
  have G32 : G.1 M 32 = 0 := by rw [hG, zsi_get (by omega), zsi_get (by omega)]; exact h32
  have bad : ∀ G2 : zG, uF M g G2 → G2.1 M 29 = nI F → G2.1 M 32 = 0 → ∃ g', f_X10_wants M 0 1 G2 = some (0, g') ∧ uF M g g' ∧ g'.1 M 28 = G2.1 M 28 ∧ FS 1 F M g' := by
    intro G2 w1 w2 w3
    refine ⟨zsi (zsi G2 M 32 1) M 33 (nI F), ?_, (w1.trans (uF.si (by omega))).trans (uF.si (by omega)), by rw [zsi_get (by omega), zsi_get (by omega)], ⟨by rw [zsi_get (by omega), zsi_same]; rfl, zsi_same⟩⟩
    unfold f_X10_wants
    rw [b0, w3, if_pos rfl, zl_eq, zl_eq, zsi_get (by omega), w2]
  have good : ∀ G2 : zG, f_X10_wants M 1 1 G2 = some (0, G2) := fun G2 => by
    unfold f_X10_wants
    rw [b1]
  unfold j_X10_next_34
  rw [zl_eq, zsi_same, ← hG, G28, m_look hv hDG (by omega), zb_some]
  rcases lk_i hv F with ⟨hlt, hi, hb⟩ | ⟨hge, hi, hb⟩
  · have hle : (0 : Int32) ≤ lk t F := i_le.mpr (by rw [hi]; show (0 : Int) ≤ _; omega)
    have c0 : ¬ kb (byt t F) = 0 := fun z => by have := kb_end hv z; omega
    rw [if_pos hle, m_name hv, zb_some]
    by_cases c1 : kb (byt t F) = 1
    · rw [if_pos c1, b1, zl_eq, if_pos c1]
      rw [m_nam hv (t.1 - F) F zN _ (by omega) (hDG.kept (uF.si (by omega))) (by rw [zsi_get (by omega)]; exact G28) (by have := zN_big; omega), zk_some]
      refine ⟨_, rfl, (fG.trans (uF.si (by omega))).trans (uF.si (by omega)), Or.inl ⟨show 1 ≠ 5 by omega, ?_, ?_, ?_, ?_, fun z => (by cases z)⟩⟩
      · rw [zsi_get (by omega), zsi_get (by omega)]; exact G32
      · rw [zsi_get (by omega), zsi_same]; rfl
      · rw [zsi_get (by omega), zsi_get (by omega)]; exact G29
      · exact zsi_same
    · rw [if_neg c1, b0, m_digit hv, zb_some, if_neg c1]
      by_cases c2 : kb (byt t F) = 2
      · rw [if_pos c2, b1, zl_eq, zl_eq, if_pos c2]
        have fr : uF M G (zsi (zsi G M 30 2) M 31 0) := (uF.si (by omega)).trans (uF.si (by omega))
        obtain ⟨g', z1, z2, z3, z4, z5, z6, z7⟩ := m_num hv (f := F) (t.1 - F) F zN (zsi (zsi G M 30 2) M 31 0) (by omega) (Nat.le_refl _) (hDG.kept fr) (by rw [zsi_get (by omega), zsi_get (by omega)]; exact G28) (by rw [zsi_get (by omega), zsi_get (by omega)]; exact G29) (by rw [zsi_same, Nat.sub_self]; rfl) (by have := zN_big; omega)
        obtain ⟨⟨e1, e2⟩, e3, e4⟩ := rn_p (t := t) (k := 2) (by omega) (t.1 - F) F (by omega)
        rw [z1, zk_some]
        generalize hE : rn 2 t (t.1 - F) F = E at *
        have y30 : g'.1 M 30 = nI 2 := by rw [z5, zsi_get (by omega), zsi_same]; rfl
        have y32 : g'.1 M 32 = 0 := by rw [z6, zsi_get (by omega), zsi_get (by omega)]; exact G32
        unfold j_X10_next_217 j_X10_next_236 j_X10_next_290
        rw [z3, z4, pk_sub e1]
        by_cases h : E - F ≤ 2
        · rw [if_neg (show ¬ (2 : Int32) < nI (E - F) from fun z => by have := (nlt (a := 2) (by omega) (by omega)).mp z; omega), good, zb_some, if_pos h]
          exact ⟨g', rfl, (fG.trans fr).trans z2, Or.inl ⟨show 2 ≠ 5 by omega, y32, y30, z4, z3, fun _ => z7⟩⟩
        · rw [if_pos (show (2 : Int32) < nI (E - F) from (nlt (a := 2) (by omega) (by omega)).mpr (by omega)), if_neg h]
          obtain ⟨g2, w1, w2, w3, w4⟩ := bad g' ((fG.trans fr).trans z2) z4 y32
          rw [w1, zb_some]
          exact ⟨g2, rfl, w2, Or.inr ⟨rfl, w4⟩⟩
      · rw [if_neg c2, b0, if_neg c2, if_neg c0]
        have tail : ∀ s, j_X10_next_255 M (lk t F) M s G = (if byt t F = 44 ∨ byt t F = 59 then j_X10_next_276 M M 1 (zsi G M 30 s) else j_X10_next_276 M M 0 (zsi G M 30 s)) := by
          intro s
          unfold j_X10_next_255 j_X10_next_271
          rw [zl_eq]
          by_cases h4 : byt t F = 44
          · rw [if_pos (show lk t F = 44 from (lk_b hv F 44 (by omega)).mpr h4), if_pos (Or.inl h4)]
          · rw [if_neg (show ¬ lk t F = 44 from fun z => h4 ((lk_b hv F 44 (by omega)).mp z))]
            by_cases h9 : byt t F = 59
            · rw [if_pos (show lk t F = 59 from (lk_b hv F 59 (by omega)).mpr h9), if_pos (Or.inr h9)]
            · rw [if_neg (show ¬ lk t F = 59 from fun z => h9 ((lk_b hv F 59 (by omega)).mp z)), if_neg (by omega)]
        have ok : ∀ (s : Int32) (k : Nat), s = nI k → k ≠ 5 → k ≠ 2 → byt t F = 44 ∨ byt t F = 59 → ∃ g', j_X10_next_255 M (lk t F) M s G = some (0, g') ∧ uF M g g' ∧ ((k ≠ 5 ∧ LK t k F (F + 1) M g') ∨ (k = 5 ∧ FS 1 F M g')) := by
          intro s k hs k5 k2 hb2
          rw [tail s, if_pos hb2]
          unfold j_X10_next_276 j_X10_next_290
          rw [good, zb_some, zl_eq, zsi_get (by omega), G28, nI_1]
          refine ⟨_, rfl, (fG.trans (uF.si (by omega))).trans (uF.si (by omega)), Or.inl ⟨k5, ?_, ?_, ?_, zsi_same, fun z => absurd z k2⟩⟩
          · rw [zsi_get (by omega), zsi_get (by omega)]; exact G32
          · rw [zsi_get (by omega), zsi_same]; exact hs
          · rw [zsi_get (by omega), zsi_get (by omega)]; exact G29
        by_cases c3 : kb (byt t F) = 3
        · have := kb_comma c3
          rw [if_pos (show lk t F = 44 from (lk_b hv F 44 (by omega)).mpr this)]
          show ∃ g', _ ∧ _ ∧ ((kb (byt t F) ≠ 5 ∧ LK t (kb (byt t F)) F (F + 1) M g') ∨ (kb (byt t F) = 5 ∧ FS 1 F M g'))
          rw [c3]
          exact ok 3 3 rfl (by omega) (by omega) (Or.inl this)
        · have n44 : ¬ byt t F = 44 := fun z => c3 (by rw [z]; rfl)
          rw [if_neg (show ¬ lk t F = 44 from fun z => n44 ((lk_b hv F 44 (by omega)).mp z))]
          by_cases c4 : kb (byt t F) = 4
          · have := kb_stop c4
            show ∃ g', _ ∧ _ ∧ ((kb (byt t F) ≠ 5 ∧ LK t (kb (byt t F)) F (F + 1) M g') ∨ (kb (byt t F) = 5 ∧ FS 1 F M g'))
            rw [c4]
            exact ok 4 4 rfl (by omega) (by omega) (Or.inr this)
          · have n59 : ¬ byt t F = 59 := fun z => c4 (by rw [z]; rfl)
            have c5 : kb (byt t F) = 5 := by
              have : ¬ kb (byt t F) = 6 := f4
              omega
            show ∃ g', _ ∧ _ ∧ ((kb (byt t F) ≠ 5 ∧ LK t (kb (byt t F)) F (F + 1) M g') ∨ (kb (byt t F) = 5 ∧ FS 1 F M g'))
            rw [c5, tail 4, if_neg (by omega)]
            unfold j_X10_next_276 j_X10_next_290
            obtain ⟨g2, w1, w2, w3, w4⟩ := bad (zsi G M 30 4) (fG.trans (uF.si (by omega))) (by rw [zsi_get (by omega)]; exact G29) (by rw [zsi_get (by omega)]; exact G32)
            rw [w1, zb_some, zl_eq]
            exact ⟨_, rfl, w2.trans (uF.si (by omega)), Or.inr ⟨rfl, by rw [zsi_get (by omega)]; exact w4.1, by rw [zsi_get (by omega)]; exact w4.2⟩⟩
  · have hle : ¬ (0 : Int32) ≤ lk t F := fun z => by have := i_le.mp z; rw [hi] at this; exact absurd this (by decide)
    have c0 : kb (byt t F) = 0 := by rw [hb]; rfl
    rw [if_neg hle, zl_eq, if_neg (show ¬ kb (byt t F) = 1 by omega), if_neg (show ¬ kb (byt t F) = 2 by omega), if_pos c0]
    refine ⟨_, rfl, fG.trans (uF.si (by omega)), Or.inl ⟨show 0 ≠ 5 by omega, ?_, zsi_same, ?_, ?_, fun z => (by cases z)⟩⟩
    · rw [zsi_get (by omega)]; exact G32
    · rw [zsi_get (by omega)]; exact G29
    · rw [zsi_get (by omega)]; exact G28
end MLX
