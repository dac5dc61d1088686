-- ===== the word that a token is =====
def zWl : List Nat := [99, 104, 97, 105, 110, 32, 32, 112, 105, 116, 99, 104, 32, 32, 103, 97, 112, 32, 32, 32, 32, 99, 111, 108, 117, 109, 110, 115, 112, 111, 119, 101, 114, 32, 32, 115, 116, 97, 114, 116, 32, 32, 115, 116, 101, 112, 32, 32, 32, 114, 111, 119, 115, 32, 32, 32, 104, 111, 108, 101, 32, 32, 32, 112, 117, 116, 32, 32, 32, 32, 103, 111, 32, 32, 32, 32, 32, 115, 112, 97, 99, 101, 32, 32, 115, 107, 105, 112, 32, 32, 32]
def zW (j : Nat) : Nat := zWl.getD j 0
def wnl : List Nat := [5, 5, 3, 7, 5, 5, 4, 4, 4, 3, 2, 5, 4]
def wn (w : Nat) : Nat := wnl.getD w 0
theorem zW_t : ∀ w, w < 13 → (2 ≤ wn w ∧ wn w ≤ 7) ∧ ∀ i, i < 7 → (i < wn w → 97 ≤ zW (w * 7 + i) ∧ zW (w * 7 + i) ≤ 122) ∧ (¬ i < wn w → zW (w * 7 + i) = 32) := by decide +kernel
theorem zW_c : ∀ j, j < 91 → ((zWORDS.getD j 0 &&& 255).toUInt32 % 65536).toInt32 = nI (zW j) ∧ ((nI (zW j)).toUInt32 % 65536).toInt32 = nI (zW j) ∧ zW j < 256 := by decide +kernel
theorem q_charAt {j : Nat} (hj : j < 91) (g : zG) : f_charAt (nI j) g = some (nI (zW j), g) := by
  obtain ⟨h1, h2, h3⟩ := zW_c j hj
  unfold f_charAt f_J0l f_J1 f_J0c f_J3
  rw [zb_some, if_neg (by decide), if_neg (nI_neg (by omega)), if_pos (show nI j < (91 : Int32) from (nlt (b := 91) (by omega) (by omega)).mpr hj), zb_some, zb_some, zc_pos (zlit j 91 hj (by omega)), zb_some, nI_cl (by omega), h1, zc_pos h2]
theorem sb_nI : ∀ b, b < 256 → kb b = 1 → sb b = nI b := by decide +kernel
/-- the token from f to e is the word w -/
abbrev Rw (t : aT) (f e w : Nat) : Prop := e - f = wn w ∧ ∀ i, i < wn w → byt t (f + i) = zW (w * 7 + i)
section WRD
variable {t : aT}
theorem q_isWord (hv : vTp t) {X f e w : Nat} {g : zG} (hR : RD t X g) (h6 : g.1 (X + 23) 6 = nI f) (he : f ≤ e ∧ e ≤ t.1) (hs : e - f ≤ 7) (hk : ∀ i, f ≤ i → i < e → kb (byt t i) = 1) (hw : w < 13) : (Rw t f e w → f_X4_isWord (X + 23) (nI w) (nI (e - f)) g = some (1, g)) ∧ (¬ Rw t f e w → f_X4_isWord (X + 23) (nI w) (nI (e - f)) g = some (0, g)) := by
  have hl := hv.1
  obtain ⟨⟨w1, w2⟩, w3⟩ := zW_t w hw
  -- one place
  let C : Nat → Prop := fun i => (i < e - f ∧ byt t (f + i) = zW (w * 7 + i)) ∨ (¬ i < e - f ∧ zW (w * 7 + i) = 32)
  have st : ∀ i, i < 7 → (C i → l_X4_isWord_2 (X + 23) (nI w) (nI (e - f)) (nI i) g = some (.inl (nI (i + 1), g))) ∧ (¬ C i → l_X4_isWord_2 (X + 23) (nI w) (nI (e - f)) (nI i) g = some (.inr (.inl g))) := by
    intro i hi
    have hc := (zW_c (w * 7 + i) (by omega)).2.2
    have e7 : nI w * 7 + nI i = nI (w * 7 + i) := by rw [show (7 : Int32) = nI 7 from rfl, pk_mul, nI_add]
    unfold l_X4_isWord_2 j_X4_isWord_29_2
    rw [if_neg (show ¬ (7 : Int32) ≤ nI i from fun z => by have := (nle (a := 7) (by omega) (by omega)).mp z; omega), e7, q_charAt (by omega), zb_some, zl_eq, nI_1, zb_some]
    by_cases hi2 : i < e - f
    · have hb := hv.2 (f + i) (by omega)
      have hkk := hk (f + i) (by omega) (by omega)
      rw [byt_in (by omega)] at hkk
      rw [if_neg (fun z => by have := (nle (by omega) (by omega)).mp z; omega), h6, nI_add, zc_pos (zlit (f + i) 240 (by omega) (by omega)), nI_cl (by omega), hR.1.by, hR.2.2 (f + i) (by omega), sb_nI _ hb hkk]
      constructor
      · intro h
        rcases h with ⟨-, h⟩ | ⟨h, -⟩
        · rw [byt_in (by omega)] at h
          exact (if_pos (by rw [h])).trans rfl
        · exact absurd hi2 h
      · intro h
        rw [if_neg (fun z => h (Or.inl ⟨hi2, by rw [byt_in (by omega)]; exact ((nI_inj (by omega) (by omega)).mp z).symm⟩))]
    · rw [if_pos ((nle (by omega) (by omega)).mpr (by omega))]
      constructor
      · intro h
        rcases h with ⟨h, -⟩ | ⟨-, h⟩
        · exact absurd h hi2
        · exact (if_pos (by rw [h]; rfl)).trans rfl
      · intro h
        rw [if_neg (show ¬ nI (zW (w * 7 + i)) = (32 : Int32) from fun z => h (Or.inr ⟨hi2, (nI_inj (b := 32) (by omega) (by omega)).mp z⟩))]
  have hCR : Rw t f e w ↔ ∀ i, i < 7 → C i := by
    constructor
    · intro h i hi
      by_cases hi2 : i < e - f
      · exact Or.inl ⟨hi2, h.2 i (by omega)⟩
      · exact Or.inr ⟨hi2, (w3 i hi).2 (by omega)⟩
    · intro h
      have hlen : e - f = wn w := by
        apply Classical.byContradiction
        intro hn
        rcases Nat.lt_or_ge (e - f) (wn w) with hlt | hge
        · rcases h (e - f) (by omega) with ⟨h1, -⟩ | ⟨-, h1⟩
          · omega
          · have := ((w3 (e - f) (by omega)).1 hlt).1; omega
        · rcases h (wn w) (by omega) with ⟨h0, h1⟩ | ⟨h1, -⟩
          · have := (w3 (wn w) (by omega)).2 (by omega)
            have := kb_letter (hk (f + wn w) (by omega) (by omega))
            omega
          · omega
      refine ⟨hlen, fun i hi => ?_⟩
      rcases h i (by omega) with ⟨-, h1⟩ | ⟨h1, -⟩
      · exact h1
      · omega
  unfold f_X4_isWord
  constructor
  · intro h
    have hC := hCR.mp h
    have hz := zw_seq (step := fun s : Int32 × zG => l_X4_isWord_2 (X + 23) (nI w) (nI (e - f)) s.1 s.2) (fun i => (nI i, g)) (.inr (1, g)) 7 (fun i hi => (st i hi).1 (hC i hi)) (by
      show l_X4_isWord_2 (X + 23) (nI w) (nI (e - f)) (nI 7) g = _
      unfold l_X4_isWord_2
      rw [if_pos (show (7 : Int32) ≤ nI 7 from Int32.le_refl _)]) (N := zN) (by have := zN_big; omega)
    rw [show ((0, g) : Int32 × zG) = (nI 0, g) from rfl, hz, zk2_inr]
  · intro h
    have hex : ∃ i, i < 7 ∧ ¬ C i := Classical.byContradiction (fun hn => h (hCR.mpr (fun i hi => Classical.byContradiction (fun hc => hn ⟨i, hi, hc⟩))))
    obtain ⟨i, ⟨i1, i2⟩, i3⟩ := pk_least _ hex
    have hz := zw_seq (step := fun s : Int32 × zG => l_X4_isWord_2 (X + 23) (nI w) (nI (e - f)) s.1 s.2) (fun i => (nI i, g)) (.inl g) i (fun j hj => (st j (by omega)).1 (Classical.byContradiction (fun hc => i3 j hj ⟨by omega, hc⟩))) ((st i i1).2 i2) (N := zN) (by have := zN_big; omega)
    rw [show ((0, g) : Int32 × zG) = (nI 0, g) from rfl, hz, zk2_inl]
    rfl
theorem q_word (hv : vTp t) {X f e : Nat} {g : zG} (hR : RD t X g) (h5 : g.1 (X + 23) 5 = ckn 1) (h6 : g.1 (X + 23) 6 = nI f) (h7 : g.1 (X + 23) 7 = nI e) (he : f ≤ e ∧ e ≤ t.1) (hk : ∀ i, f ≤ i → i < e → kb (byt t i) = 1) : (∀ w, w < 13 → Rw t f e w → (∀ v, v < w → ¬ Rw t f e v) → f_X4_wordOfToken (X + 23) g = some (nI w, g)) ∧ ((∀ v, v < 13 → ¬ Rw t f e v) → f_X4_wordOfToken (X + 23) g = some (-4, g)) := by
  have hl := hv.1
  unfold f_X4_wordOfToken
  rw [zl_eq, h5, if_pos (show ckn 1 = 1 by decide), h7, h6, pk_sub he.1]
  have run : e - f ≤ 7 → ∀ w, w ≤ 13 → (∀ v, v < w → ¬ Rw t f e v) → ∀ r, l_X4_wordOfToken_29 (X + 23) (nI (e - f)) (nI w) g = some (.inr r) → zw zN (fun s : Int32 × zG => l_X4_wordOfToken_29 (X + 23) (nI (e - f)) s.1 s.2) (nI 0, g) = some r := by
    intro hs w hw hn r hr
    refine zw_seq (step := fun s : Int32 × zG => l_X4_wordOfToken_29 (X + 23) (nI (e - f)) s.1 s.2) (fun i => (nI i, g)) r w (fun i hi => ?_) hr (N := zN) (by have := zN_big; omega)
    show l_X4_wordOfToken_29 (X + 23) (nI (e - f)) (nI i) g = _
    unfold l_X4_wordOfToken_29
    rw [if_neg (show ¬ (13 : Int32) ≤ nI i from fun z => by have := (nle (a := 13) (by omega) (by omega)).mp z; omega), (q_isWord hv hR h6 he hs hk (show i < 13 by omega)).2 (hn i hi), zb_some, b0, zl_eq, nI_1]
  constructor
  · intro w hw hRw hn
    have hs : e - f ≤ 7 := by have := (zW_t w hw).1; have := hRw.1; omega
    rw [if_pos (show nI (e - f) ≤ (7 : Int32) from (nle (b := 7) (by omega) (by omega)).mpr hs), show ((0, g) : Int32 × zG) = (nI 0, g) from rfl, run hs w (by omega) hn (.inl (nI w, g)) (by
      unfold l_X4_wordOfToken_29
      rw [if_neg (show ¬ (13 : Int32) ≤ nI w from fun z => by have := (nle (a := 13) (by omega) (by omega)).mp z; omega), (q_isWord hv hR h6 he hs hk hw).1 hRw, zb_some, b1]), zk2_inl]
    rfl
  · intro hn
    by_cases hs : e - f ≤ 7
    · rw [if_pos (show nI (e - f) ≤ (7 : Int32) from (nle (b := 7) (by omega) (by omega)).mpr hs), show ((0, g) : Int32 × zG) = (nI 0, g) from rfl, run hs 13 (Nat.le_refl _) hn (.inr (-4, g)) (by
        unfold l_X4_wordOfToken_29
        rw [if_pos (show (13 : Int32) ≤ nI 13 from Int32.le_refl _)]), zk2_inr]
    · rw [if_neg (show ¬ nI (e - f) ≤ (7 : Int32) from fun z => hs ((nle (b := 7) (by omega) (by omega)).mp z))]
-- ===== in the reference =====
variable {M f e : Nat} {g : zG}
theorem m_is (hv : vTp t) (hD : MD t M g) (h28 : g.1 M 28 = nI e) (h29 : g.1 M 29 = nI f) (he : f ≤ e ∧ e ≤ t.1) {n a b c d : Nat} (hn : n < 256) (ha : a < 256) (hb : b < 256) (hc : c < 256) (hd : d < 256) : f_X10_is M (nI n) (nI a) (nI b) (nI c) (nI d) g = some (if e - f = n ∧ byt t f = a ∧ byt t (f + 1) = b ∧ (n < 3 ∨ byt t (f + 2) = c) ∧ (n < 4 ∨ byt t (f + 3) = d) then 1 else 0, g) := by
  have hl := hv.1
  have e1 : ∀ p x, p < 300 → x < 256 → ∀ (A B : Option (Int32 × zG)), (if lk t p = nI x then A else B) = if byt t p = x then A else B := by
    intro p x hp hx A B
    by_cases h : byt t p = x
    · rw [if_pos h, if_pos ((lk_b hv p x hx).mpr h)]
    · rw [if_neg h, if_neg (fun z => h ((lk_b hv p x hx).mp z))]
  unfold f_X10_is j_X10_is_59
  have L0 := m_look hv hD (show f < 2147483648 by omega)
  have L1 := m_look hv hD (show f + 1 < 2147483648 by omega)
  have L2 := m_look hv hD (show f + 2 < 2147483648 by omega)
  have L3 := m_look hv hD (show f + 3 < 2147483648 by omega)
  simp only [h28, h29, pk_sub he.1, show nI f + 1 = nI (f + 1) from nI_1 f, show nI f + 2 = nI (f + 2) from nI_add f 2, show nI f + 3 = nI (f + 3) from nI_add f 3, L0, L1, L2, L3, zb_some]
  rw [e1 f a (by omega) ha, e1 (f + 1) b (by omega) hb, e1 (f + 2) c (by omega) hc, e1 (f + 3) d (by omega) hd]
  by_cases h0 : e - f = n
  · rw [if_pos (by rw [h0])]
    by_cases h1 : byt t f = a
    · rw [if_pos h1]
      by_cases h2 : byt t (f + 1) = b
      · rw [if_pos h2]
        have n3 : (nI n < (3 : Int32)) ↔ n < 3 := nlt (b := 3) (by omega) (by omega)
        have n4 : (nI n < (4 : Int32)) ↔ n < 4 := nlt (b := 4) (by omega) (by omega)
        by_cases h3 : n < 3
        · rw [if_pos (n3.mpr h3), if_pos (n4.mpr (by omega)), if_pos ⟨h0, h1, h2, Or.inl h3, Or.inl (by omega)⟩]
        · rw [if_neg (fun z => h3 (n3.mp z))]
          by_cases h4 : byt t (f + 2) = c
          · rw [if_pos h4]
            by_cases h5 : n < 4
            · rw [if_pos (n4.mpr h5), if_pos ⟨h0, h1, h2, Or.inr h4, Or.inl h5⟩]
            · rw [if_neg (fun z => h5 (n4.mp z))]
              by_cases h6 : byt t (f + 3) = d
              · rw [if_pos h6, if_pos ⟨h0, h1, h2, Or.inr h4, Or.inr h6⟩]
              · rw [if_neg h6, if_neg (fun z => by rcases z.2.2.2.2 with q | q; exact h5 q; exact h6 q)]
          · rw [if_neg h4, if_neg (fun z => by rcases z.2.2.2.1 with q | q; exact h3 q; exact h4 q)]
      · rw [if_neg h2, if_neg (fun z => h2 z.2.2.1)]
    · rw [if_neg h1, if_neg (fun z => h1 z.2.1)]
  · rw [if_neg (fun z => h0 ((nI_inj (by omega) (by omega)).mp z)), if_neg (fun z => h0 z.1)]
theorem m_ends (hv : vTp t) (hD : MD t M g) (h29 : g.1 M 29 = nI f) (hf : f ≤ t.1) {a b : Nat} (ha : a < 256) (hb : b < 256) : f_X10_ends2 M (nI a) (nI b) g = some (if byt t (f + 4) = a ∧ (b = 0 ∨ byt t (f + 5) = b) then 1 else 0, g) := by
  have hl := hv.1
  unfold f_X10_ends2
  rw [h29, show nI f + 4 = nI (f + 4) from nI_add f 4, m_look hv hD (by omega), zb_some, h29, show nI f + 5 = nI (f + 5) from nI_add f 5, m_look hv hD (by omega), zb_some]
  by_cases h1 : byt t (f + 4) = a
  · rw [if_pos ((lk_b hv _ a ha).mpr h1)]
    by_cases h2 : b = 0
    · rw [if_pos (by rw [h2]; rfl), if_pos ⟨h1, Or.inl h2⟩]
    · rw [if_neg (fun z => h2 ((nI_zr (by omega)).mp z))]
      by_cases h3 : byt t (f + 5) = b
      · rw [if_pos ((lk_b hv _ b hb).mpr h3), if_pos ⟨h1, Or.inr h3⟩]
      · rw [if_neg (fun z => h3 ((lk_b hv _ b hb).mp z)), if_neg (fun z => by rcases z.2 with q | q; exact h2 q; exact h3 q)]
  · rw [if_neg (fun z => h1 ((lk_b hv _ a ha).mp z)), if_neg (fun z => h1 z.1)]
theorem zif {p : Prop} [Decidable p] {A B : Option (Int32 × zG)} : zb (some ((if p then (1 : Int32) else 0), g)) (fun v _ => if v = 0 then A else B) = if p then B else A := by
  rw [zb_some]
  by_cases h : p
  · rw [if_pos h, if_pos h, b1]
  · rw [if_neg h, if_neg h, b0]
theorem w_0 : ((e - f = 5 ∧ byt t f = 99 ∧ byt t (f + 1) = 104 ∧ (5 < 3 ∨ byt t (f + 2) = 97) ∧ (5 < 4 ∨ byt t (f + 3) = 105)) ∧ (byt t (f + 4) = 110 ∧ (0 = 0 ∨ byt t (f + 5) = 0))) ↔ Rw t f e 0 := by
  constructor
  · intro h
    refine ⟨h.1.1, fun i hi => ?_⟩
    have hi : i < 5 := hi
    have hq : i = 0 ∨ i = 1 ∨ i = 2 ∨ i = 3 ∨ i = 4 := by omega
    rcases hq with rfl | rfl | rfl | rfl | rfl
    · show byt t f = 99; omega
    · show byt t (f + 1) = 104; omega
    · show byt t (f + 2) = 97; omega
    · show byt t (f + 3) = 105; omega
    · show byt t (f + 4) = 110; omega
  · intro h
    have h0 : byt t f = 99 := h.2 0 (by decide)
    have h1 : byt t (f + 1) = 104 := h.2 1 (by decide)
    have h2 : byt t (f + 2) = 97 := h.2 2 (by decide)
    have h3 : byt t (f + 3) = 105 := h.2 3 (by decide)
    have h4 : byt t (f + 4) = 110 := h.2 4 (by decide)
    have hn : e - f = 5 := h.1
    omega
theorem w_1 : ((e - f = 5 ∧ byt t f = 112 ∧ byt t (f + 1) = 105 ∧ (5 < 3 ∨ byt t (f + 2) = 116) ∧ (5 < 4 ∨ byt t (f + 3) = 99)) ∧ (byt t (f + 4) = 104 ∧ (0 = 0 ∨ byt t (f + 5) = 0))) ↔ Rw t f e 1 := by
  constructor
  · intro h
    refine ⟨h.1.1, fun i hi => ?_⟩
    have hi : i < 5 := hi
    have hq : i = 0 ∨ i = 1 ∨ i = 2 ∨ i = 3 ∨ i = 4 := by omega
    rcases hq with rfl | rfl | rfl | rfl | rfl
    · show byt t f = 112; omega
    · show byt t (f + 1) = 105; omega
    · show byt t (f + 2) = 116; omega
    · show byt t (f + 3) = 99; omega
    · show byt t (f + 4) = 104; omega
  · intro h
    have h0 : byt t f = 112 := h.2 0 (by decide)
    have h1 : byt t (f + 1) = 105 := h.2 1 (by decide)
    have h2 : byt t (f + 2) = 116 := h.2 2 (by decide)
    have h3 : byt t (f + 3) = 99 := h.2 3 (by decide)
    have h4 : byt t (f + 4) = 104 := h.2 4 (by decide)
    have hn : e - f = 5 := h.1
    omega
theorem w_2 : ((e - f = 3 ∧ byt t f = 103 ∧ byt t (f + 1) = 97 ∧ (3 < 3 ∨ byt t (f + 2) = 112) ∧ (3 < 4 ∨ byt t (f + 3) = 0))) ↔ Rw t f e 2 := by
  constructor
  · intro h
    refine ⟨h.1, fun i hi => ?_⟩
    have hi : i < 3 := hi
    have hq : i = 0 ∨ i = 1 ∨ i = 2 := by omega
    rcases hq with rfl | rfl | rfl
    · show byt t f = 103; omega
    · show byt t (f + 1) = 97; omega
    · show byt t (f + 2) = 112; omega
  · intro h
    have h0 : byt t f = 103 := h.2 0 (by decide)
    have h1 : byt t (f + 1) = 97 := h.2 1 (by decide)
    have h2 : byt t (f + 2) = 112 := h.2 2 (by decide)
    have hn : e - f = 3 := h.1
    omega
theorem w_3 : ((e - f = 7 ∧ byt t f = 99 ∧ byt t (f + 1) = 111 ∧ (7 < 3 ∨ byt t (f + 2) = 108) ∧ (7 < 4 ∨ byt t (f + 3) = 117)) ∧ (byt t (f + 4) = 109 ∧ (110 = 0 ∨ byt t (f + 5) = 110)) ∧ byt t (f + 6) = 115) ↔ Rw t f e 3 := by
  constructor
  · intro h
    refine ⟨h.1.1, fun i hi => ?_⟩
    have hi : i < 7 := hi
    have hq : i = 0 ∨ i = 1 ∨ i = 2 ∨ i = 3 ∨ i = 4 ∨ i = 5 ∨ i = 6 := by omega
    rcases hq with rfl | rfl | rfl | rfl | rfl | rfl | rfl
    · show byt t f = 99; omega
    · show byt t (f + 1) = 111; omega
    · show byt t (f + 2) = 108; omega
    · show byt t (f + 3) = 117; omega
    · show byt t (f + 4) = 109; omega
    · show byt t (f + 5) = 110; omega
    · show byt t (f + 6) = 115; omega
  · intro h
    have h0 : byt t f = 99 := h.2 0 (by decide)
    have h1 : byt t (f + 1) = 111 := h.2 1 (by decide)
    have h2 : byt t (f + 2) = 108 := h.2 2 (by decide)
    have h3 : byt t (f + 3) = 117 := h.2 3 (by decide)
    have h4 : byt t (f + 4) = 109 := h.2 4 (by decide)
    have h5 : byt t (f + 5) = 110 := h.2 5 (by decide)
    have h6 : byt t (f + 6) = 115 := h.2 6 (by decide)
    have hn : e - f = 7 := h.1
    omega
theorem w_4 : ((e - f = 5 ∧ byt t f = 112 ∧ byt t (f + 1) = 111 ∧ (5 < 3 ∨ byt t (f + 2) = 119) ∧ (5 < 4 ∨ byt t (f + 3) = 101)) ∧ (byt t (f + 4) = 114 ∧ (0 = 0 ∨ byt t (f + 5) = 0))) ↔ Rw t f e 4 := by
  constructor
  · intro h
    refine ⟨h.1.1, fun i hi => ?_⟩
    have hi : i < 5 := hi
    have hq : i = 0 ∨ i = 1 ∨ i = 2 ∨ i = 3 ∨ i = 4 := by omega
    rcases hq with rfl | rfl | rfl | rfl | rfl
    · show byt t f = 112; omega
    · show byt t (f + 1) = 111; omega
    · show byt t (f + 2) = 119; omega
    · show byt t (f + 3) = 101; omega
    · show byt t (f + 4) = 114; omega
  · intro h
    have h0 : byt t f = 112 := h.2 0 (by decide)
    have h1 : byt t (f + 1) = 111 := h.2 1 (by decide)
    have h2 : byt t (f + 2) = 119 := h.2 2 (by decide)
    have h3 : byt t (f + 3) = 101 := h.2 3 (by decide)
    have h4 : byt t (f + 4) = 114 := h.2 4 (by decide)
    have hn : e - f = 5 := h.1
    omega
theorem w_5 : ((e - f = 5 ∧ byt t f = 115 ∧ byt t (f + 1) = 116 ∧ (5 < 3 ∨ byt t (f + 2) = 97) ∧ (5 < 4 ∨ byt t (f + 3) = 114)) ∧ (byt t (f + 4) = 116 ∧ (0 = 0 ∨ byt t (f + 5) = 0))) ↔ Rw t f e 5 := by
  constructor
  · intro h
    refine ⟨h.1.1, fun i hi => ?_⟩
    have hi : i < 5 := hi
    have hq : i = 0 ∨ i = 1 ∨ i = 2 ∨ i = 3 ∨ i = 4 := by omega
    rcases hq with rfl | rfl | rfl | rfl | rfl
    · show byt t f = 115; omega
    · show byt t (f + 1) = 116; omega
    · show byt t (f + 2) = 97; omega
    · show byt t (f + 3) = 114; omega
    · show byt t (f + 4) = 116; omega
  · intro h
    have h0 : byt t f = 115 := h.2 0 (by decide)
    have h1 : byt t (f + 1) = 116 := h.2 1 (by decide)
    have h2 : byt t (f + 2) = 97 := h.2 2 (by decide)
    have h3 : byt t (f + 3) = 114 := h.2 3 (by decide)
    have h4 : byt t (f + 4) = 116 := h.2 4 (by decide)
    have hn : e - f = 5 := h.1
    omega
theorem w_6 : ((e - f = 4 ∧ byt t f = 115 ∧ byt t (f + 1) = 116 ∧ (4 < 3 ∨ byt t (f + 2) = 101) ∧ (4 < 4 ∨ byt t (f + 3) = 112))) ↔ Rw t f e 6 := by
  constructor
  · intro h
    refine ⟨h.1, fun i hi => ?_⟩
    have hi : i < 4 := hi
    have hq : i = 0 ∨ i = 1 ∨ i = 2 ∨ i = 3 := by omega
    rcases hq with rfl | rfl | rfl | rfl
    · show byt t f = 115; omega
    · show byt t (f + 1) = 116; omega
    · show byt t (f + 2) = 101; omega
    · show byt t (f + 3) = 112; omega
  · intro h
    have h0 : byt t f = 115 := h.2 0 (by decide)
    have h1 : byt t (f + 1) = 116 := h.2 1 (by decide)
    have h2 : byt t (f + 2) = 101 := h.2 2 (by decide)
    have h3 : byt t (f + 3) = 112 := h.2 3 (by decide)
    have hn : e - f = 4 := h.1
    omega
theorem w_7 : ((e - f = 4 ∧ byt t f = 114 ∧ byt t (f + 1) = 111 ∧ (4 < 3 ∨ byt t (f + 2) = 119) ∧ (4 < 4 ∨ byt t (f + 3) = 115))) ↔ Rw t f e 7 := by
  constructor
  · intro h
    refine ⟨h.1, fun i hi => ?_⟩
    have hi : i < 4 := hi
    have hq : i = 0 ∨ i = 1 ∨ i = 2 ∨ i = 3 := by omega
    rcases hq with rfl | rfl | rfl | rfl
    · show byt t f = 114; omega
    · show byt t (f + 1) = 111; omega
    · show byt t (f + 2) = 119; omega
    · show byt t (f + 3) = 115; omega
  · intro h
    have h0 : byt t f = 114 := h.2 0 (by decide)
    have h1 : byt t (f + 1) = 111 := h.2 1 (by decide)
    have h2 : byt t (f + 2) = 119 := h.2 2 (by decide)
    have h3 : byt t (f + 3) = 115 := h.2 3 (by decide)
    have hn : e - f = 4 := h.1
    omega
theorem w_8 : ((e - f = 4 ∧ byt t f = 104 ∧ byt t (f + 1) = 111 ∧ (4 < 3 ∨ byt t (f + 2) = 108) ∧ (4 < 4 ∨ byt t (f + 3) = 101))) ↔ Rw t f e 8 := by
  constructor
  · intro h
    refine ⟨h.1, fun i hi => ?_⟩
    have hi : i < 4 := hi
    have hq : i = 0 ∨ i = 1 ∨ i = 2 ∨ i = 3 := by omega
    rcases hq with rfl | rfl | rfl | rfl
    · show byt t f = 104; omega
    · show byt t (f + 1) = 111; omega
    · show byt t (f + 2) = 108; omega
    · show byt t (f + 3) = 101; omega
  · intro h
    have h0 : byt t f = 104 := h.2 0 (by decide)
    have h1 : byt t (f + 1) = 111 := h.2 1 (by decide)
    have h2 : byt t (f + 2) = 108 := h.2 2 (by decide)
    have h3 : byt t (f + 3) = 101 := h.2 3 (by decide)
    have hn : e - f = 4 := h.1
    omega
theorem w_9 : ((e - f = 3 ∧ byt t f = 112 ∧ byt t (f + 1) = 117 ∧ (3 < 3 ∨ byt t (f + 2) = 116) ∧ (3 < 4 ∨ byt t (f + 3) = 0))) ↔ Rw t f e 9 := by
  constructor
  · intro h
    refine ⟨h.1, fun i hi => ?_⟩
    have hi : i < 3 := hi
    have hq : i = 0 ∨ i = 1 ∨ i = 2 := by omega
    rcases hq with rfl | rfl | rfl
    · show byt t f = 112; omega
    · show byt t (f + 1) = 117; omega
    · show byt t (f + 2) = 116; omega
  · intro h
    have h0 : byt t f = 112 := h.2 0 (by decide)
    have h1 : byt t (f + 1) = 117 := h.2 1 (by decide)
    have h2 : byt t (f + 2) = 116 := h.2 2 (by decide)
    have hn : e - f = 3 := h.1
    omega
theorem w_10 : ((e - f = 2 ∧ byt t f = 103 ∧ byt t (f + 1) = 111 ∧ (2 < 3 ∨ byt t (f + 2) = 0) ∧ (2 < 4 ∨ byt t (f + 3) = 0))) ↔ Rw t f e 10 := by
  constructor
  · intro h
    refine ⟨h.1, fun i hi => ?_⟩
    have hi : i < 2 := hi
    have hq : i = 0 ∨ i = 1 := by omega
    rcases hq with rfl | rfl
    · show byt t f = 103; omega
    · show byt t (f + 1) = 111; omega
  · intro h
    have h0 : byt t f = 103 := h.2 0 (by decide)
    have h1 : byt t (f + 1) = 111 := h.2 1 (by decide)
    have hn : e - f = 2 := h.1
    omega
theorem w_11 : ((e - f = 5 ∧ byt t f = 115 ∧ byt t (f + 1) = 112 ∧ (5 < 3 ∨ byt t (f + 2) = 97) ∧ (5 < 4 ∨ byt t (f + 3) = 99)) ∧ (byt t (f + 4) = 101 ∧ (0 = 0 ∨ byt t (f + 5) = 0))) ↔ Rw t f e 11 := by
  constructor
  · intro h
    refine ⟨h.1.1, fun i hi => ?_⟩
    have hi : i < 5 := hi
    have hq : i = 0 ∨ i = 1 ∨ i = 2 ∨ i = 3 ∨ i = 4 := by omega
    rcases hq with rfl | rfl | rfl | rfl | rfl
    · show byt t f = 115; omega
    · show byt t (f + 1) = 112; omega
    · show byt t (f + 2) = 97; omega
    · show byt t (f + 3) = 99; omega
    · show byt t (f + 4) = 101; omega
  · intro h
    have h0 : byt t f = 115 := h.2 0 (by decide)
    have h1 : byt t (f + 1) = 112 := h.2 1 (by decide)
    have h2 : byt t (f + 2) = 97 := h.2 2 (by decide)
    have h3 : byt t (f + 3) = 99 := h.2 3 (by decide)
    have h4 : byt t (f + 4) = 101 := h.2 4 (by decide)
    have hn : e - f = 5 := h.1
    omega
theorem w_12 : ((e - f = 4 ∧ byt t f = 115 ∧ byt t (f + 1) = 107 ∧ (4 < 3 ∨ byt t (f + 2) = 105) ∧ (4 < 4 ∨ byt t (f + 3) = 112))) ↔ Rw t f e 12 := by
  constructor
  · intro h
    refine ⟨h.1, fun i hi => ?_⟩
    have hi : i < 4 := hi
    have hq : i = 0 ∨ i = 1 ∨ i = 2 ∨ i = 3 := by omega
    rcases hq with rfl | rfl | rfl | rfl
    · show byt t f = 115; omega
    · show byt t (f + 1) = 107; omega
    · show byt t (f + 2) = 105; omega
    · show byt t (f + 3) = 112; omega
  · intro h
    have h0 : byt t f = 115 := h.2 0 (by decide)
    have h1 : byt t (f + 1) = 107 := h.2 1 (by decide)
    have h2 : byt t (f + 2) = 105 := h.2 2 (by decide)
    have h3 : byt t (f + 3) = 112 := h.2 3 (by decide)
    have hn : e - f = 4 := h.1
    omega
theorem m_word (hv : vTp t) (hD : MD t M g) (h28 : g.1 M 28 = nI e) (h29 : g.1 M 29 = nI f) (he : f ≤ e ∧ e ≤ t.1) : (∀ w, w < 13 → Rw t f e w → (∀ v, v < w → ¬ Rw t f e v) → f_X10_nameNow M g = some (nI w, g)) ∧ ((∀ v, v < 13 → ¬ Rw t f e v) → f_X10_nameNow M g = some (-4, g)) := by
  have hl := hv.1
  have iS := fun (n a b c d : Nat) (hn : n < 256) (ha : a < 256) (hb : b < 256) (hc : c < 256) (hd : d < 256) => m_is (n := n) (a := a) (b := b) (c := c) (d := d) hv hD h28 h29 he hn ha hb hc hd
  have eN := fun (a b : Nat) (ha : a < 256) (hb : b < 256) => m_ends (a := a) (b := b) hv hD h29 (by omega) ha hb
  have l6 : f_X10_look M (g.1 M 29 + 6) g = some (lk t (f + 6), g) := by rw [h29, show nI f + 6 = nI (f + 6) from nI_add f 6]; exact m_look hv hD (by omega)
  have s0 : ∀ A : zG → Option (Int32 × zG), zb (f_X10_is M 5 99 104 97 105 g) (fun v g1 => if v = 0 then A g1 else zb (f_X10_ends2 M 110 0 g1) (fun v2 g2 => if v2 = 0 then A g2 else some (0, g2))) = if Rw t f e 0 then some (nI 0, g) else A g := by
    intro A
    rw [show f_X10_is M 5 99 104 97 105 g = _ from iS 5 99 104 97 105 (by omega) (by omega) (by omega) (by omega) (by omega), zb_some, show f_X10_ends2 M 110 0 g = _ from eN 110 0 (by omega) (by omega), zb_some]
    by_cases h : Rw t f e 0
    · have h2 := w_0.mpr h
      rw [if_pos h, if_pos h2.1, if_pos h2.2, b1, b1]; rfl
    · rw [if_neg h]
      by_cases h1 : e - f = 5 ∧ byt t f = 99 ∧ byt t (f + 1) = 104 ∧ (5 < 3 ∨ byt t (f + 2) = 97) ∧ (5 < 4 ∨ byt t (f + 3) = 105)
      · rw [if_pos h1, b1, if_neg (fun z => h (w_0.mp ⟨h1, z⟩)), b0]
      · rw [if_neg h1, b0]
  have s1 : ∀ A : zG → Option (Int32 × zG), zb (f_X10_is M 5 112 105 116 99 g) (fun v g1 => if v = 0 then A g1 else zb (f_X10_ends2 M 104 0 g1) (fun v2 g2 => if v2 = 0 then A g2 else some (1, g2))) = if Rw t f e 1 then some (nI 1, g) else A g := by
    intro A
    rw [show f_X10_is M 5 112 105 116 99 g = _ from iS 5 112 105 116 99 (by omega) (by omega) (by omega) (by omega) (by omega), zb_some, show f_X10_ends2 M 104 0 g = _ from eN 104 0 (by omega) (by omega), zb_some]
    by_cases h : Rw t f e 1
    · have h2 := w_1.mpr h
      rw [if_pos h, if_pos h2.1, if_pos h2.2, b1, b1]; rfl
    · rw [if_neg h]
      by_cases h1 : e - f = 5 ∧ byt t f = 112 ∧ byt t (f + 1) = 105 ∧ (5 < 3 ∨ byt t (f + 2) = 116) ∧ (5 < 4 ∨ byt t (f + 3) = 99)
      · rw [if_pos h1, b1, if_neg (fun z => h (w_1.mp ⟨h1, z⟩)), b0]
      · rw [if_neg h1, b0]
  have s2 : ∀ A : zG → Option (Int32 × zG), zb (f_X10_is M 3 103 97 112 0 g) (fun v g1 => if v = 0 then A g1 else some (2, g1)) = if Rw t f e 2 then some (nI 2, g) else A g := by
    intro A
    rw [show f_X10_is M 3 103 97 112 0 g = _ from iS 3 103 97 112 0 (by omega) (by omega) (by omega) (by omega) (by omega), zb_some]
    by_cases h : Rw t f e 2
    · rw [if_pos h, if_pos (w_2.mpr h), b1]; rfl
    · rw [if_neg h, if_neg (fun z => h (w_2.mp z)), b0]
  have s3 : ∀ A : zG → Option (Int32 × zG), zb (f_X10_is M 7 99 111 108 117 g) (fun v g1 => if v = 0 then A g1 else zb (f_X10_ends2 M 109 110 g1) (fun v2 g2 => if v2 = 0 then A g2 else zb (f_X10_look M ((g2.1 M 29) + 6) g2) (fun v3 g3 => if v3 = 115 then some (3, g3) else A g3))) = if Rw t f e 3 then some (nI 3, g) else A g := by
    intro A
    rw [show f_X10_is M 7 99 111 108 117 g = _ from iS 7 99 111 108 117 (by omega) (by omega) (by omega) (by omega) (by omega), zb_some, show f_X10_ends2 M 109 110 g = _ from eN 109 110 (by omega) (by omega), zb_some, l6, zb_some]
    by_cases h : Rw t f e 3
    · have h2 := w_3.mpr h
      rw [if_pos h, if_pos h2.1, if_pos h2.2.1, b1, b1, if_pos (show lk t (f + 6) = 115 from (lk_b hv _ 115 (by omega)).mpr h2.2.2)]; rfl
    · rw [if_neg h]
      by_cases h1 : e - f = 7 ∧ byt t f = 99 ∧ byt t (f + 1) = 111 ∧ (7 < 3 ∨ byt t (f + 2) = 108) ∧ (7 < 4 ∨ byt t (f + 3) = 117)
      · rw [if_pos h1, b1]
        by_cases h2 : byt t (f + 4) = 109 ∧ (110 = 0 ∨ byt t (f + 5) = 110)
        · rw [if_pos h2, b1, if_neg (show ¬ lk t (f + 6) = 115 from fun z => h (w_3.mp ⟨h1, h2, (lk_b hv _ 115 (by omega)).mp z⟩))]
        · rw [if_neg h2, b0]
      · rw [if_neg h1, b0]
  have s4 : ∀ A : zG → Option (Int32 × zG), zb (f_X10_is M 5 112 111 119 101 g) (fun v g1 => if v = 0 then A g1 else zb (f_X10_ends2 M 114 0 g1) (fun v2 g2 => if v2 = 0 then A g2 else some (4, g2))) = if Rw t f e 4 then some (nI 4, g) else A g := by
    intro A
    rw [show f_X10_is M 5 112 111 119 101 g = _ from iS 5 112 111 119 101 (by omega) (by omega) (by omega) (by omega) (by omega), zb_some, show f_X10_ends2 M 114 0 g = _ from eN 114 0 (by omega) (by omega), zb_some]
    by_cases h : Rw t f e 4
    · have h2 := w_4.mpr h
      rw [if_pos h, if_pos h2.1, if_pos h2.2, b1, b1]; rfl
    · rw [if_neg h]
      by_cases h1 : e - f = 5 ∧ byt t f = 112 ∧ byt t (f + 1) = 111 ∧ (5 < 3 ∨ byt t (f + 2) = 119) ∧ (5 < 4 ∨ byt t (f + 3) = 101)
      · rw [if_pos h1, b1, if_neg (fun z => h (w_4.mp ⟨h1, z⟩)), b0]
      · rw [if_neg h1, b0]
  have s5 : ∀ A : zG → Option (Int32 × zG), zb (f_X10_is M 5 115 116 97 114 g) (fun v g1 => if v = 0 then A g1 else zb (f_X10_ends2 M 116 0 g1) (fun v2 g2 => if v2 = 0 then A g2 else some (5, g2))) = if Rw t f e 5 then some (nI 5, g) else A g := by
    intro A
    rw [show f_X10_is M 5 115 116 97 114 g = _ from iS 5 115 116 97 114 (by omega) (by omega) (by omega) (by omega) (by omega), zb_some, show f_X10_ends2 M 116 0 g = _ from eN 116 0 (by omega) (by omega), zb_some]
    by_cases h : Rw t f e 5
    · have h2 := w_5.mpr h
      rw [if_pos h, if_pos h2.1, if_pos h2.2, b1, b1]; rfl
    · rw [if_neg h]
      by_cases h1 : e - f = 5 ∧ byt t f = 115 ∧ byt t (f + 1) = 116 ∧ (5 < 3 ∨ byt t (f + 2) = 97) ∧ (5 < 4 ∨ byt t (f + 3) = 114)
      · rw [if_pos h1, b1, if_neg (fun z => h (w_5.mp ⟨h1, z⟩)), b0]
      · rw [if_neg h1, b0]
  have s6 : ∀ A : zG → Option (Int32 × zG), zb (f_X10_is M 4 115 116 101 112 g) (fun v g1 => if v = 0 then A g1 else some (6, g1)) = if Rw t f e 6 then some (nI 6, g) else A g := by
    intro A
    rw [show f_X10_is M 4 115 116 101 112 g = _ from iS 4 115 116 101 112 (by omega) (by omega) (by omega) (by omega) (by omega), zb_some]
    by_cases h : Rw t f e 6
    · rw [if_pos h, if_pos (w_6.mpr h), b1]; rfl
    · rw [if_neg h, if_neg (fun z => h (w_6.mp z)), b0]
  have s7 : ∀ A : zG → Option (Int32 × zG), zb (f_X10_is M 4 114 111 119 115 g) (fun v g1 => if v = 0 then A g1 else some (7, g1)) = if Rw t f e 7 then some (nI 7, g) else A g := by
    intro A
    rw [show f_X10_is M 4 114 111 119 115 g = _ from iS 4 114 111 119 115 (by omega) (by omega) (by omega) (by omega) (by omega), zb_some]
    by_cases h : Rw t f e 7
    · rw [if_pos h, if_pos (w_7.mpr h), b1]; rfl
    · rw [if_neg h, if_neg (fun z => h (w_7.mp z)), b0]
  have s8 : ∀ A : zG → Option (Int32 × zG), zb (f_X10_is M 4 104 111 108 101 g) (fun v g1 => if v = 0 then A g1 else some (8, g1)) = if Rw t f e 8 then some (nI 8, g) else A g := by
    intro A
    rw [show f_X10_is M 4 104 111 108 101 g = _ from iS 4 104 111 108 101 (by omega) (by omega) (by omega) (by omega) (by omega), zb_some]
    by_cases h : Rw t f e 8
    · rw [if_pos h, if_pos (w_8.mpr h), b1]; rfl
    · rw [if_neg h, if_neg (fun z => h (w_8.mp z)), b0]
  have s9 : ∀ A : zG → Option (Int32 × zG), zb (f_X10_is M 3 112 117 116 0 g) (fun v g1 => if v = 0 then A g1 else some (9, g1)) = if Rw t f e 9 then some (nI 9, g) else A g := by
    intro A
    rw [show f_X10_is M 3 112 117 116 0 g = _ from iS 3 112 117 116 0 (by omega) (by omega) (by omega) (by omega) (by omega), zb_some]
    by_cases h : Rw t f e 9
    · rw [if_pos h, if_pos (w_9.mpr h), b1]; rfl
    · rw [if_neg h, if_neg (fun z => h (w_9.mp z)), b0]
  have s10 : ∀ A : zG → Option (Int32 × zG), zb (f_X10_is M 2 103 111 0 0 g) (fun v g1 => if v = 0 then A g1 else some (10, g1)) = if Rw t f e 10 then some (nI 10, g) else A g := by
    intro A
    rw [show f_X10_is M 2 103 111 0 0 g = _ from iS 2 103 111 0 0 (by omega) (by omega) (by omega) (by omega) (by omega), zb_some]
    by_cases h : Rw t f e 10
    · rw [if_pos h, if_pos (w_10.mpr h), b1]; rfl
    · rw [if_neg h, if_neg (fun z => h (w_10.mp z)), b0]
  have s11 : ∀ A : zG → Option (Int32 × zG), zb (f_X10_is M 5 115 112 97 99 g) (fun v g1 => if v = 0 then A g1 else zb (f_X10_ends2 M 101 0 g1) (fun v2 g2 => if v2 = 0 then A g2 else some (11, g2))) = if Rw t f e 11 then some (nI 11, g) else A g := by
    intro A
    rw [show f_X10_is M 5 115 112 97 99 g = _ from iS 5 115 112 97 99 (by omega) (by omega) (by omega) (by omega) (by omega), zb_some, show f_X10_ends2 M 101 0 g = _ from eN 101 0 (by omega) (by omega), zb_some]
    by_cases h : Rw t f e 11
    · have h2 := w_11.mpr h
      rw [if_pos h, if_pos h2.1, if_pos h2.2, b1, b1]; rfl
    · rw [if_neg h]
      by_cases h1 : e - f = 5 ∧ byt t f = 115 ∧ byt t (f + 1) = 112 ∧ (5 < 3 ∨ byt t (f + 2) = 97) ∧ (5 < 4 ∨ byt t (f + 3) = 99)
      · rw [if_pos h1, b1, if_neg (fun z => h (w_11.mp ⟨h1, z⟩)), b0]
      · rw [if_neg h1, b0]
  have s12 : ∀ A : zG → Option (Int32 × zG), zb (f_X10_is M 4 115 107 105 112 g) (fun v g1 => if v = 0 then A g1 else some (12, g1)) = if Rw t f e 12 then some (nI 12, g) else A g := by
    intro A
    rw [show f_X10_is M 4 115 107 105 112 g = _ from iS 4 115 107 105 112 (by omega) (by omega) (by omega) (by omega) (by omega), zb_some]
    by_cases h : Rw t f e 12
    · rw [if_pos h, if_pos (w_12.mpr h), b1]; rfl
    · rw [if_neg h, if_neg (fun z => h (w_12.mp z)), b0]
  have all : f_X10_nameNow M g = if Rw t f e 0 then some (nI 0, g) else if Rw t f e 1 then some (nI 1, g) else if Rw t f e 2 then some (nI 2, g) else if Rw t f e 3 then some (nI 3, g) else if Rw t f e 4 then some (nI 4, g) else if Rw t f e 5 then some (nI 5, g) else if Rw t f e 6 then some (nI 6, g) else if Rw t f e 7 then some (nI 7, g) else if Rw t f e 8 then some (nI 8, g) else if Rw t f e 9 then some (nI 9, g) else if Rw t f e 10 then some (nI 10, g) else if Rw t f e 11 then some (nI 11, g) else if Rw t f e 12 then some (nI 12, g) else some (-4, g) := by
    unfold f_X10_nameNow
    rw [s0 (fun x => j_X10_nameNow_28 M x)]
    unfold j_X10_nameNow_28
    rw [s1 (fun x => j_X10_nameNow_56 M x)]
    unfold j_X10_nameNow_56
    rw [s2 (fun g38 => zb (f_X10_is M 7 99 111 108 117 g38) (fun v40 g41 => if v40 = 0 then (j_X10_nameNow_119 M g41) else (zb (f_X10_ends2 M 109 110 g41) (fun v43 g44 => if v43 = 0 then (j_X10_nameNow_119 M g44) else (zb (f_X10_look M ((g44.1 M 29) + 6) g44) (fun v46 g47 => if v46 = 115 then (some ((3, g47))) else (j_X10_nameNow_119 M g47)))))))]
    rw [s3 (fun x => j_X10_nameNow_119 M x)]
    unfold j_X10_nameNow_119
    rw [s4 (fun x => j_X10_nameNow_147 M x)]
    unfold j_X10_nameNow_147
    rw [s5 (fun x => j_X10_nameNow_175 M x)]
    unfold j_X10_nameNow_175
    rw [s6 (fun y => zb (f_X10_is M 4 114 111 119 115 y) (fun v7 x7 => if v7 = 0 then (zb (f_X10_is M 4 104 111 108 101 x7) (fun v8 x8 => if v8 = 0 then (zb (f_X10_is M 3 112 117 116 0 x8) (fun v9 x9 => if v9 = 0 then (zb (f_X10_is M 2 103 111 0 0 x9) (fun v10 x10 => if v10 = 0 then (zb (f_X10_is M 5 115 112 97 99 x10) (fun v19 g20 => if v19 = 0 then (j_X10_nameNow_296 M g20) else (zb (f_X10_ends2 M 101 0 g20) (fun v22 g23 => if v22 = 0 then (j_X10_nameNow_296 M g23) else (some ((11, g23))))))) else (some ((10, x10))))) else (some ((9, x9))))) else (some ((8, x8))))) else (some ((7, x7)))))]
    rw [s7 (fun y => zb (f_X10_is M 4 104 111 108 101 y) (fun v8 x8 => if v8 = 0 then (zb (f_X10_is M 3 112 117 116 0 x8) (fun v9 x9 => if v9 = 0 then (zb (f_X10_is M 2 103 111 0 0 x9) (fun v10 x10 => if v10 = 0 then (zb (f_X10_is M 5 115 112 97 99 x10) (fun v19 g20 => if v19 = 0 then (j_X10_nameNow_296 M g20) else (zb (f_X10_ends2 M 101 0 g20) (fun v22 g23 => if v22 = 0 then (j_X10_nameNow_296 M g23) else (some ((11, g23))))))) else (some ((10, x10))))) else (some ((9, x9))))) else (some ((8, x8)))))]
    rw [s8 (fun y => zb (f_X10_is M 3 112 117 116 0 y) (fun v9 x9 => if v9 = 0 then (zb (f_X10_is M 2 103 111 0 0 x9) (fun v10 x10 => if v10 = 0 then (zb (f_X10_is M 5 115 112 97 99 x10) (fun v19 g20 => if v19 = 0 then (j_X10_nameNow_296 M g20) else (zb (f_X10_ends2 M 101 0 g20) (fun v22 g23 => if v22 = 0 then (j_X10_nameNow_296 M g23) else (some ((11, g23))))))) else (some ((10, x10))))) else (some ((9, x9)))))]
    rw [s9 (fun y => zb (f_X10_is M 2 103 111 0 0 y) (fun v10 x10 => if v10 = 0 then (zb (f_X10_is M 5 115 112 97 99 x10) (fun v19 g20 => if v19 = 0 then (j_X10_nameNow_296 M g20) else (zb (f_X10_ends2 M 101 0 g20) (fun v22 g23 => if v22 = 0 then (j_X10_nameNow_296 M g23) else (some ((11, g23))))))) else (some ((10, x10)))))]
    rw [s10 (fun y => zb (f_X10_is M 5 115 112 97 99 y) (fun v19 g20 => if v19 = 0 then (j_X10_nameNow_296 M g20) else (zb (f_X10_ends2 M 101 0 g20) (fun v22 g23 => if v22 = 0 then (j_X10_nameNow_296 M g23) else (some ((11, g23)))))))]
    rw [s11 (fun x => j_X10_nameNow_296 M x)]
    unfold j_X10_nameNow_296
    rw [s12 (fun x => some (-4, x))]
  rw [all]
  constructor
  · intro w hw hR hn
    have hq : w = 0 ∨ w = 1 ∨ w = 2 ∨ w = 3 ∨ w = 4 ∨ w = 5 ∨ w = 6 ∨ w = 7 ∨ w = 8 ∨ w = 9 ∨ w = 10 ∨ w = 11 ∨ w = 12 := by omega
    rcases hq with rfl | rfl | rfl | rfl | rfl | rfl | rfl | rfl | rfl | rfl | rfl | rfl | rfl
    · rw [if_pos hR]
    · rw [if_neg (hn 0 (by omega)), if_pos hR]
    · rw [if_neg (hn 0 (by omega)), if_neg (hn 1 (by omega)), if_pos hR]
    · rw [if_neg (hn 0 (by omega)), if_neg (hn 1 (by omega)), if_neg (hn 2 (by omega)), if_pos hR]
    · rw [if_neg (hn 0 (by omega)), if_neg (hn 1 (by omega)), if_neg (hn 2 (by omega)), if_neg (hn 3 (by omega)), if_pos hR]
    · rw [if_neg (hn 0 (by omega)), if_neg (hn 1 (by omega)), if_neg (hn 2 (by omega)), if_neg (hn 3 (by omega)), if_neg (hn 4 (by omega)), if_pos hR]
    · rw [if_neg (hn 0 (by omega)), if_neg (hn 1 (by omega)), if_neg (hn 2 (by omega)), if_neg (hn 3 (by omega)), if_neg (hn 4 (by omega)), if_neg (hn 5 (by omega)), if_pos hR]
    · rw [if_neg (hn 0 (by omega)), if_neg (hn 1 (by omega)), if_neg (hn 2 (by omega)), if_neg (hn 3 (by omega)), if_neg (hn 4 (by omega)), if_neg (hn 5 (by omega)), if_neg (hn 6 (by omega)), if_pos hR]
    · rw [if_neg (hn 0 (by omega)), if_neg (hn 1 (by omega)), if_neg (hn 2 (by omega)), if_neg (hn 3 (by omega)), if_neg (hn 4 (by omega)), if_neg (hn 5 (by omega)), if_neg (hn 6 (by omega)), if_neg (hn 7 (by omega)), if_pos hR]
    · rw [if_neg (hn 0 (by omega)), if_neg (hn 1 (by omega)), if_neg (hn 2 (by omega)), if_neg (hn 3 (by omega)), if_neg (hn 4 (by omega)), if_neg (hn 5 (by omega)), if_neg (hn 6 (by omega)), if_neg (hn 7 (by omega)), if_neg (hn 8 (by omega)), if_pos hR]
    · rw [if_neg (hn 0 (by omega)), if_neg (hn 1 (by omega)), if_neg (hn 2 (by omega)), if_neg (hn 3 (by omega)), if_neg (hn 4 (by omega)), if_neg (hn 5 (by omega)), if_neg (hn 6 (by omega)), if_neg (hn 7 (by omega)), if_neg (hn 8 (by omega)), if_neg (hn 9 (by omega)), if_pos hR]
    · rw [if_neg (hn 0 (by omega)), if_neg (hn 1 (by omega)), if_neg (hn 2 (by omega)), if_neg (hn 3 (by omega)), if_neg (hn 4 (by omega)), if_neg (hn 5 (by omega)), if_neg (hn 6 (by omega)), if_neg (hn 7 (by omega)), if_neg (hn 8 (by omega)), if_neg (hn 9 (by omega)), if_neg (hn 10 (by omega)), if_pos hR]
    · rw [if_neg (hn 0 (by omega)), if_neg (hn 1 (by omega)), if_neg (hn 2 (by omega)), if_neg (hn 3 (by omega)), if_neg (hn 4 (by omega)), if_neg (hn 5 (by omega)), if_neg (hn 6 (by omega)), if_neg (hn 7 (by omega)), if_neg (hn 8 (by omega)), if_neg (hn 9 (by omega)), if_neg (hn 10 (by omega)), if_neg (hn 11 (by omega)), if_pos hR]
  · intro hn
    rw [if_neg (hn 0 (by omega)), if_neg (hn 1 (by omega)), if_neg (hn 2 (by omega)), if_neg (hn 3 (by omega)), if_neg (hn 4 (by omega)), if_neg (hn 5 (by omega)), if_neg (hn 6 (by omega)), if_neg (hn 7 (by omega)), if_neg (hn 8 (by omega)), if_neg (hn 9 (by omega)), if_neg (hn 10 (by omega)), if_neg (hn 11 (by omega)), if_neg (hn 12 (by omega))]
end WRD
