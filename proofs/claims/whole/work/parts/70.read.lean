-- ===== read and feed =====
/-- cells get numbers: i of them from a place on -/
def zfl (g : zG) (a b : Nat) (f : Nat → Int32) : Nat → zG
  | 0 => g
  | i + 1 => zsi (zfl g a b f i) a (b + i) (f i)
theorem zfl_r (g : zG) (a b : Nat) (f : Nat → Int32) (i : Nat) : (zfl g a b f i).2 = g.2 := by
  induction i with
  | zero => rfl
  | succ i ih => exact ih
theorem zfl_at (g : zG) (a b : Nat) (f : Nat → Int32) (i : Nat) {c : Nat} (h : c ≠ a) : (zfl g a b f i).1 c = g.1 c := by
  induction i with
  | zero => rfl
  | succ i ih => rw [show zfl g a b f (i + 1) = zsi (zfl g a b f i) a (b + i) (f i) from rfl, zsi_at h, ih]
theorem zfl_get (g : zG) (a b : Nat) (f : Nat → Int32) (i j : Nat) : (zfl g a b f i).1 a j = if b ≤ j ∧ j < b + i then f (j - b) else g.1 a j := by
  induction i with
  | zero => rw [if_neg (by omega)]; rfl
  | succ i ih =>
    rw [show zfl g a b f (i + 1) = zsi (zfl g a b f i) a (b + i) (f i) from rfl]
    by_cases e : j = b + i
    · subst e; rw [zsi_same, if_pos (by omega), show b + i - b = i by omega]
    · rw [zsi_get e, ih]
      by_cases h : b ≤ j ∧ j < b + i
      · rw [if_pos h, if_pos (by omega)]
      · rw [if_neg h, if_neg (by omega)]
theorem zfl_frm (g : zG) (a b : Nat) (f : Nat → Int32) (i : Nat) : frm (fun c => c = a) g (zfl g a b f i) := ⟨by rw [zfl_r], fun c hc => ⟨zfl_at g a b f i hc, by rw [zfl_r]⟩⟩
section OKS9
variable {X : Nat}
theorem lgc (a b : Int64) : (lg_cmp a b < 0) ↔ a.toInt < b.toInt := by
  rw [lg_cmp_lt, Int64.lt_iff_toInt_lt]
/-- the tests of read: both go on, or both stop with the same -/
theorem rd_both {σ : aZ} {k r : Nat} {g : zG} (hv : vZ k σ) (hc : CI σ X r g) {i l n : Nat} (hi : i < 4) (hw : (zSh σ).1 i = some (l, n)) (z : Int32) : ((∃ F, F < n ∧ z = nI F ∧ ∀ c, c < aV (zR σ) 3 → F + c < n ∧ ∃ v, v ≤ 26 ∧ (zSh σ).2 (i * 40 + (F + c)) = nI v) ∧ zw zN (fun s => l_X9_read_60 X (nI i) z (nI (aV (zR σ) 3)) s.1 s.2) (0, g) = some (.inl g) ∧ ∀ g1, MI σ (X + 53) g1 → zw zN (fun s => l_X10_read_42 (X + 53) (nI i) z s.1 s.2) (0, g1) = some (.inl g1)) ∨ ∃ v, zw zN (fun s => l_X9_read_60 X (nI i) z (nI (aV (zR σ) 3)) s.1 s.2) (0, g) = some (.inr (v, g)) ∧ ∀ g1, MI σ (X + 53) g1 → zw zN (fun s => l_X10_read_42 (X + 53) (nI i) z s.1 s.2) (0, g1) = some (.inr (v, g1)) := by
  have hX := hc.1
  have b3 := hv.1.2.2.2.2.1
  have hs := hc.2.2.2.2.2.2.2.2.2.2
  obtain ⟨c1, c2⟩ := (hs.1 i hi).2 l n hw
  obtain ⟨d1, d2⟩ := hv.2.2.2.2.2.2 i hi l n hw
  -- one turn of each
  have turnC : ∀ c, c < aV (zR σ) 3 → l_X9_read_60 X (nI i) z (nI (aV (zR σ) 3)) (nI c) g = (if 0 ≤ (z + nI c).toInt ∧ (z + nI c).toInt < n then (if 0 ≤ ((zSh σ).2 (i * 40 + (z + nI c).toInt.toNat)).toInt ∧ ((zSh σ).2 (i * 40 + (z + nI c).toInt.toNat)).toInt ≤ 26 then some (.inl (nI (c + 1), g)) else some (.inr (.inr (-20 - nI c, g)))) else some (.inr (.inr (-12, g)))) := by
    intro c hcc
    unfold l_X9_read_60
    rw [if_neg (fun e => by have := (nle (by omega) (by omega)).mp e; omega), hX.sh, q_hasCell (by rw [hX.sh1]; exact c2) hi d2, zb_some]
    by_cases h1 : 0 ≤ (z + nI c).toInt ∧ (z + nI c).toInt < n
    · rw [if_pos h1, if_pos h1, b1]
      obtain ⟨p, hp, ep⟩ := i_one h1 (by omega)
      rw [ep, hX.sh]
      unfold f_X6_valueOf
      rw [show (40 : Int32) = nI 40 from rfl, pk_mul, nI_add, zc_pos (zlit _ 160 (by omega) (by omega)), nI_cl (by omega), zb_some, i_nI (by omega), hX.sh2, hs.2 _ (by omega), show ((p : Int)).toNat = p from rfl]
      generalize (zSh σ).2 (i * 40 + p) = w
      rw [q_isLetter, zb_some, zl_eq, nI_1]
      by_cases h2 : w = 0
      · rw [if_pos h2, if_pos (by rw [h2]; decide)]
      · rw [if_neg h2]
        have h2' : ¬ w.toInt = 0 := fun e => h2 (i_eq.mpr e)
        by_cases h3 : 1 ≤ w.toInt ∧ w.toInt ≤ 26
        · rw [if_pos h3, b1, if_pos (by omega)]
        · rw [if_neg h3, b0, if_neg (by omega)]
    · rw [if_neg h1, if_neg h1, b0]
  have turnM : ∀ g1, MI σ (X + 53) g1 → ∀ c, c < aV (zR σ) 3 → l_X10_read_42 (X + 53) (nI i) z (nI c) g1 = (if 0 ≤ z.toInt + c ∧ z.toInt + c < n then (if 0 ≤ ((zSh σ).2 (i * 40 + (z.toInt + c).toNat)).toInt ∧ ((zSh σ).2 (i * 40 + (z.toInt + c).toNat)).toInt ≤ 26 then some (.inl (nI (c + 1), g1)) else some (.inr (.inr (-20 - nI c, g1)))) else some (.inr (.inr (-12, g1)))) := by
    intro g1 h5 c hcc
    have hM := h5.1
    have ms := h5.2.2.2.2.2.2.2.2.2
    obtain ⟨m1, m2⟩ := (ms.1 i hi).2 l n hw
    have hr := i_rng z
    have e64 : (z.toInt64 + (nI c).toInt64).toInt = z.toInt + c := by
      rw [Int64.toInt_add, i64, i64, i_nI (by omega)]
      exact Int.bmod_eq_of_le (by omega) (by omega)
    unfold l_X10_read_42
    rw [zc_pos (c := zin 3 8) (by decide), hM.set, c3, h5.2.1.val (by omega) (by omega), if_neg (fun e => by have := (nle (by omega) (by omega)).mp e; omega), zl_eq]
    simp only [zc_pos (zlit i 4 hi (by omega)), nI_cl (show i < 2147483648 by omega), lgc]
    rw [hM.si, m2, hM.ce, e64, i64, i_nI (by omega)]
    show (if z.toInt + c < 0 then _ else _) = _
    by_cases h1 : z.toInt + c < 0
    · rw [if_pos h1, if_neg (show ¬ (0 ≤ z.toInt + ↑c ∧ z.toInt + ↑c < ↑n) by omega)]
    · rw [if_neg h1]
      by_cases h2 : z.toInt + c < n
      · obtain ⟨p, hp⟩ : ∃ p : Nat, z.toInt + c = p := ⟨(z.toInt + c).toNat, by omega⟩
        have e32 : (z.toInt64 + (nI c).toInt64).toInt32 = nI p := by
          apply i_eq.mpr
          rw [Int64.toInt_toInt32, e64, hp, i_nI (by omega)]
          exact Int.bmod_eq_of_le (by omega) (by omega)
        rw [if_pos h2, if_pos (show 0 ≤ z.toInt + ↑c ∧ z.toInt + ↑c < ↑n by omega), e32, hp]
        rw [hp] at h2
        rw [show (40 : Int32) = nI 40 from rfl, pk_mul, nI_add, show 40 * i + p = i * 40 + p by omega, zc_pos (zlit _ 160 (by omega) (by omega)), nI_cl (by omega), ms.2 _ (by omega), m_in 0 26 0 26 rfl rfl, zb_some, zl_eq, nI_1]
        rw [show ((p : Int)).toNat = p from rfl]
        by_cases h3 : 0 ≤ ((zSh σ).2 (i * 40 + p)).toInt ∧ ((zSh σ).2 (i * 40 + p)).toInt ≤ 26
        · rw [if_pos h3, if_pos h3, b1]
        · rw [if_neg h3, if_neg h3, b0]
      · rw [if_neg h2, if_neg (show ¬ (0 ≤ z.toInt + ↑c ∧ z.toInt + ↑c < ↑n) by omega)]
  by_cases hz : 0 ≤ z.toInt ∧ z.toInt < n
  · obtain ⟨F, hF, rfl⟩ := i_one hz (by omega)
    have eC : ∀ c, c < aV (zR σ) 3 → (nI F + nI c).toInt = ((F + c : Nat) : Int) := fun c hcc => by rw [nI_add, i_nI (by omega)]
    have eM : ∀ c, c < aV (zR σ) 3 → (nI F).toInt + (c : Int) = ((F + c : Nat) : Int) := fun c hcc => by rw [i_nI (by omega)]; omega
    let ok : Nat → Prop := fun c => F + c < n ∧ 0 ≤ ((zSh σ).2 (i * 40 + (F + c))).toInt ∧ ((zSh σ).2 (i * 40 + (F + c))).toInt ≤ 26
    have goC : ∀ c, c < aV (zR σ) 3 → ok c → l_X9_read_60 X (nI i) (nI F) (nI (aV (zR σ) 3)) (nI c) g = some (.inl (nI (c + 1), g)) := by
      intro c hcc ho
      rw [turnC c hcc, eC c hcc, if_pos (by have := ho.1; omega), show ((F + c : Nat) : Int).toNat = F + c from rfl, if_pos ho.2]
    have goM : ∀ g1, MI σ (X + 53) g1 → ∀ c, c < aV (zR σ) 3 → ok c → l_X10_read_42 (X + 53) (nI i) (nI F) (nI c) g1 = some (.inl (nI (c + 1), g1)) := by
      intro g1 h5 c hcc ho
      rw [turnM g1 h5 c hcc, eM c hcc, if_pos (by have := ho.1; omega), show ((F + c : Nat) : Int).toNat = F + c from rfl, if_pos ho.2]
    by_cases hall : ∀ c, c < aV (zR σ) 3 → ok c
    · left
      refine ⟨⟨F, hF, rfl, fun c hcc => ⟨(hall c hcc).1, ?_⟩⟩, ?_, fun g1 h5 => ?_⟩
      · obtain ⟨v, hv1, hv2⟩ := i_one (x := (zSh σ).2 (i * 40 + (F + c))) (n := 27) (by have := (hall c hcc).2; omega) (by omega)
        exact ⟨v, by omega, hv2⟩
      · exact zw_seq (step := fun s : Int32 × zG => l_X9_read_60 X (nI i) (nI F) (nI (aV (zR σ) 3)) s.1 s.2) (fun c => (nI c, g)) (.inl g) (aV (zR σ) 3) (fun c hcc => goC c hcc (hall c hcc)) (by
          show l_X9_read_60 X (nI i) (nI F) (nI (aV (zR σ) 3)) (nI (aV (zR σ) 3)) g = _
          unfold l_X9_read_60
          rw [if_pos ((nle (by omega) (by omega)).mpr (Nat.le_refl _))]) (N := zN) (by have := zN_big; omega)
      · exact zw_seq (step := fun s : Int32 × zG => l_X10_read_42 (X + 53) (nI i) (nI F) s.1 s.2) (fun c => (nI c, g1)) (.inl g1) (aV (zR σ) 3) (fun c hcc => goM g1 h5 c hcc (hall c hcc)) (by
          show l_X10_read_42 (X + 53) (nI i) (nI F) (nI (aV (zR σ) 3)) g1 = _
          unfold l_X10_read_42
          rw [zc_pos (c := zin 3 8) (by decide), h5.1.set, c3, h5.2.1.val (by omega) (by omega), if_pos ((nle (by omega) (by omega)).mpr (Nat.le_refl _))]) (N := zN) (by have := zN_big; omega)
    · right
      have hex : ∃ c, c < aV (zR σ) 3 ∧ ¬ ok c := Classical.byContradiction (fun hn => hall (fun c hcc => Classical.byContradiction (fun ho => hn ⟨c, hcc, ho⟩)))
      obtain ⟨c, ⟨hcc, hno⟩, hleast⟩ := pk_least _ hex
      have hb : ∀ j, j < c → ok j := fun j hj => Classical.byContradiction (fun ho => hleast j hj ⟨by omega, ho⟩)
      have stop : ∀ w, l_X9_read_60 X (nI i) (nI F) (nI (aV (zR σ) 3)) (nI c) g = some (.inr (.inr (w, g))) → (∀ g1, MI σ (X + 53) g1 → l_X10_read_42 (X + 53) (nI i) (nI F) (nI c) g1 = some (.inr (.inr (w, g1)))) → ∃ v, zw zN (fun s => l_X9_read_60 X (nI i) (nI F) (nI (aV (zR σ) 3)) s.1 s.2) (0, g) = some (.inr (v, g)) ∧ ∀ g1, MI σ (X + 53) g1 → zw zN (fun s => l_X10_read_42 (X + 53) (nI i) (nI F) s.1 s.2) (0, g1) = some (.inr (v, g1)) := by
        intro w e1 e2
        refine ⟨w, ?_, fun g1 h5 => ?_⟩
        · exact zw_seq (step := fun s : Int32 × zG => l_X9_read_60 X (nI i) (nI F) (nI (aV (zR σ) 3)) s.1 s.2) (fun c => (nI c, g)) (.inr (w, g)) c (fun j hj => goC j (by omega) (hb j hj)) e1 (N := zN) (by have := zN_big; omega)
        · exact zw_seq (step := fun s : Int32 × zG => l_X10_read_42 (X + 53) (nI i) (nI F) s.1 s.2) (fun c => (nI c, g1)) (.inr (w, g1)) c (fun j hj => goM g1 h5 j (by omega) (hb j hj)) (e2 g1 h5) (N := zN) (by have := zN_big; omega)
      by_cases h1 : F + c < n
      · refine stop (-20 - nI c) ?_ (fun g1 h5 => ?_)
        · rw [turnC c hcc, eC c hcc, if_pos (by omega), show ((F + c : Nat) : Int).toNat = F + c from rfl, if_neg (fun e => hno ⟨h1, e⟩)]
        · rw [turnM g1 h5 c hcc, eM c hcc, if_pos (by omega), show ((F + c : Nat) : Int).toNat = F + c from rfl, if_neg (fun e => hno ⟨h1, e⟩)]
      · refine stop (-12) ?_ (fun g1 h5 => ?_)
        · rw [turnC c hcc, eC c hcc, if_neg (by omega)]
        · rw [turnM g1 h5 c hcc, eM c hcc, if_neg (by omega)]
  · right
    have z0 : z + nI 0 = z := by rw [show nI 0 = (0 : Int32) from rfl, Int32.add_zero]
    refine ⟨-12, ?_, fun g1 h5 => ?_⟩
    · exact zw_seq (step := fun s : Int32 × zG => l_X9_read_60 X (nI i) z (nI (aV (zR σ) 3)) s.1 s.2) (fun c => (nI c, g)) (.inr (-12, g)) 0 (fun j hj => by omega) (by
        show l_X9_read_60 X (nI i) z (nI (aV (zR σ) 3)) (nI 0) g = _
        rw [turnC 0 (by omega), z0, if_neg hz]) (N := zN) (by have := zN_big; omega)
    · exact zw_seq (step := fun s : Int32 × zG => l_X10_read_42 (X + 53) (nI i) z s.1 s.2) (fun c => (nI c, g1)) (.inr (-12, g1)) 0 (fun j hj => by omega) (by
        show l_X10_read_42 (X + 53) (nI i) z (nI 0) g1 = _
        rw [turnM g1 h5 0 (by omega), if_neg (by omega)]) (N := zN) (by have := zN_big; omega)
theorem o_read (x y z : Int32) : OKC X (fun g => f_X9_read X x y z g) (fun g => f_X10_read (X + 53) x y z g) := OKC.write (fun k σ r g hk hv hc hm => by
  have hX := hc.1
  have hw' := hc.2.1
  have hr := hX.rules hw'
  have b3 := hv.1.2.2.2.2.1
  have hs := hc.2.2.2.2.2.2.2.2.2.2
  have stay : ∀ v, f_X9_read X x y z g = some (v, g) → (∀ g1, MI σ (X + 53) g1 → f_X10_read (X + 53) x y z g1 = some (v, g1)) → ∃ v g1 σ', f_X9_read X x y z g = some (v, g1) ∧ vZ (k + 1) σ' ∧ zR σ' = zR σ ∧ frm (fun b => b < X + 53 ∧ b ≠ X + 38 ∧ b ≠ X + 39) g g1 ∧ CI σ' X r g1 ∧ (∀ g1, MI σ (X + 53) g1 → ∃ g2, f_X10_read (X + 53) x y z g1 = some (v, g2) ∧ frm (fun b => X + 53 ≤ b) g1 g2 ∧ MI σ' (X + 53) g2) := fun v e1 e2 => ⟨v, g, σ, e1, hv.next, rfl, frm.refl _ _, hc, fun g1 h5 => ⟨g1, e2 g1 h5, frm.refl _ _, h5⟩⟩
  by_cases h1 : (0 ≤ x.toInt ∧ x.toInt < 4) ∧ 0 ≤ y.toInt ∧ y.toInt < 3
  · obtain ⟨i, hi, rfl⟩ := i_one (n := 4) h1.1 (by omega)
    obtain ⟨l', hl', rfl⟩ := i_one (x := y) (n := 3) h1.2 (by omega)
    cases hw : (zSh σ).1 i with
    | none =>
      have c1 := (hs.1 i hi).1 hw
      refine stay (-11) ?_ (fun g1 h5 => ?_)
      · unfold f_X9_read
        rw [q_isSheet, zb_some, if_pos h1.1, b1, q_isLane, zb_some, if_pos h1.2, b1, hX.sh, q_isNothing hi, zb_some, hX.sh1, if_pos c1, b1]
      · have m1 := (h5.2.2.2.2.2.2.2.2.2.1 i hi).1 hw
        unfold f_X10_read
        rw [m_isSheet, zb_some, if_pos h1, b1]
        simp only [zc_pos (zlit i 4 hi (by omega)), nI_cl (show i < 2147483648 by omega)]
        rw [h5.1.la, m1, if_neg (fun e => nm4 (show l' < 2147483648 by omega) e.symm), if_pos rfl]
    | some q =>
      obtain ⟨l, n⟩ := q
      obtain ⟨c1, c2⟩ := (hs.1 i hi).2 l n hw
      obtain ⟨d1, d2⟩ := hv.2.2.2.2.2.2 i hi l n hw
      have eC : f_X9_read X (nI i) (nI l') z g = (if l = l' then zk2 (zw zN (fun s => l_X9_read_60 X (nI i) z (nI (aV (zR σ) 3)) s.1 s.2) (0, g)) (fun x => j_X9_read_124 X (nI i) z (nI (aV (zR σ) 3)) x) else some (-13, g)) := by
        unfold f_X9_read
        rw [q_isSheet, zb_some, if_pos h1.1, b1, q_isLane, zb_some, if_pos h1.2, b1, hX.sh, q_isNothing hi, zb_some, hX.sh1, if_neg (show ¬ g.1 (X + 51) i = -1 by rw [c2]; exact nm1 (by omega)), b0]
        simp only [zc_pos (zlit i 4 hi (by omega)), nI_cl (show i < 2147483648 by omega)]
        rw [hX.sh, hX.sh0, c1, zc_pos (c := zin 3 8) (by decide), hw'.1, hr.2.2.1, c3, hc.2.2.1.val (by omega) (by omega), zl_eq]
        by_cases e : l = l'
        · rw [if_pos e, if_pos (by rw [e])]
        · rw [if_neg e, if_neg (fun h => e ((nI_inj (by omega) (by omega)).mp h))]
      have eM : ∀ g1, MI σ (X + 53) g1 → f_X10_read (X + 53) (nI i) (nI l') z g1 = (if l = l' then zk2 (zw zN (fun s => l_X10_read_42 (X + 53) (nI i) z s.1 s.2) (0, g1)) (fun x => j_X10_read_120 (X + 53) (nI i) z x) else some (-13, g1)) := by
        intro g1 h5
        obtain ⟨m1, m2⟩ := (h5.2.2.2.2.2.2.2.2.2.1 i hi).2 l n hw
        unfold f_X10_read
        rw [m_isSheet, zb_some, if_pos h1, b1]
        simp only [zc_pos (zlit i 4 hi (by omega)), nI_cl (show i < 2147483648 by omega)]
        rw [h5.1.la, m1, if_neg (show ¬ nI l = -4 from nm4 (by omega))]
        by_cases e : l = l'
        · rw [if_pos e, if_pos (by rw [e])]
        · rw [if_neg e, if_neg (fun h => e ((nI_inj (by omega) (by omega)).mp h))]
      by_cases e : l = l'
      · rw [if_pos e] at eC
        rcases rd_both hv hc hi hw z with ⟨⟨F, hF, rfl, hok⟩, z1, z2⟩ | ⟨v, z1, z2⟩
        · let nl : Nat → Nat := fun c => if c < aV (zR σ) 3 then ((zSh σ).2 (i * 40 + (F + c))).toInt.toNat else zLn σ c
          have hnl : ∀ c, c < aV (zR σ) 3 → (zSh σ).2 (i * 40 + (F + c)) = nI (nl c) ∧ nl c ≤ 26 := by
            intro c hcc
            obtain ⟨v, hv1, hv2⟩ := (hok c hcc).2
            have : nl c = v := by
              show (if c < aV (zR σ) 3 then ((zSh σ).2 (i * 40 + (F + c))).toInt.toNat else zLn σ c) = v
              rw [if_pos hcc, hv2, i_nI (by omega)]; rfl
            rw [this]; exact ⟨hv2, hv1⟩
          have hnl2 : ∀ c, aV (zR σ) 3 ≤ c → nl c = zLn σ c := fun c hcc => if_neg (by omega)
          have hcl : ∀ (g2 : zG) (a : Nat), cLn (zLn σ) (g2.1 a) → cLn nl ((zfl g2 a 0 (fun c => nI (nl c)) (aV (zR σ) 3)).1 a) := by
            intro g2 a h j hj
            rw [zfl_get]
            by_cases e : j < aV (zR σ) 3
            · rw [if_pos (by omega), Nat.sub_zero]
            · rw [if_neg (by omega), h j hj, hnl2 j (by omega)]
          have hvl : vLn (zR σ) nl := by
            intro c hcc
            by_cases e : c < aV (zR σ) 3
            · exact ⟨(hnl c e).2, fun h => by omega⟩
            · rw [hnl2 c (by omega)]; exact hv.2.2.1 c hcc
          have hC : CI (zLn' σ nl) X r (zfl g (X + 32) 0 (fun c => nI (nl c)) (aV (zR σ) 3)) := hc.ln (zfl_frm _ _ _ _ _) (hcl g _ hc.2.2.2.2.2.1)
          have hV : vZ (k + 1) (zLn' σ nl) := by
            obtain ⟨v1, v2, v3, v4⟩ := hv.next
            exact ⟨v1, v2, hvl, v4⟩
          refine ⟨nI (cw (fun c => decide (nl c ≠ 0)) 40), zfl g (X + 32) 0 (fun c => nI (nl c)) (aV (zR σ) 3), zLn' σ nl, ?_, hV, rfl, (zfl_frm _ _ _ _ _).mono (fun b hb => by rw [hb]; omega), hC, fun g1 h5 => ?_⟩
          · rw [eC, z1, zk2_inl]
            unfold j_X9_read_124
            have hz := zw_seq (step := fun s : Int32 × zG => l_X9_read_127 X (nI i) (nI F) (nI (aV (zR σ) 3)) s.1 s.2) (fun c => (nI c, zfl g (X + 32) 0 (fun c => nI (nl c)) c)) (zfl g (X + 32) 0 (fun c => nI (nl c)) (aV (zR σ) 3)) (aV (zR σ) 3) (fun c hcc => by
              show l_X9_read_127 X (nI i) (nI F) (nI (aV (zR σ) 3)) (nI c) _ = _
              have := (hok c hcc).1
              unfold l_X9_read_127 f_X6_valueOf
              rw [if_neg (fun e => by have := (nle (by omega) (by omega)).mp e; omega), show (40 : Int32) = nI 40 from rfl, pk_mul, nI_add, nI_add, zc_pos (zlit _ 160 (by omega) (by omega)), zb_some, zc_pos (zlit c 40 (by omega) (by omega)), zl_eq, zl_eq, nI_cl (by omega), nI_cl (by omega), nI_1, zfl_r, hX.sh, hX.sh2, hX.pr, hX.ln, zfl_at _ _ _ _ _ (by omega), hs.2 _ (by omega), (hnl c hcc).1]
              rw [show zfl g (X + 32) 0 (fun c => nI (nl c)) (c + 1) = zsi (zfl g (X + 32) 0 (fun c => nI (nl c)) c) (X + 32) (0 + c) (nI (nl c)) from rfl, Nat.zero_add]) (by
              show l_X9_read_127 X (nI i) (nI F) (nI (aV (zR σ) 3)) (nI (aV (zR σ) 3)) _ = _
              unfold l_X9_read_127
              rw [if_pos ((nle (by omega) (by omega)).mpr (Nat.le_refl _))]) (N := zN) (by have := zN_big; omega)
            rw [show ((0, g) : Int32 × zG) = (nI 0, zfl g (X + 32) 0 (fun c => nI (nl c)) 0) from rfl, hz, zk_some]
            unfold j_X9_read_162
            rw [hC.1.pr, q_lettersInLine hC.1.ln (fun c h => ⟨hC.2.2.2.2.2.1 c h, (hvl c h).1⟩), zb_some]
            rfl
          · have hM := h5.1
            have hMM : MI (zLn' σ nl) (X + 53) (zfl g1 (X + 53 + 21) 0 (fun c => nI (nl c)) (aV (zR σ) 3)) := h5.ln (zfl_frm _ _ _ _ _) (hcl g1 _ h5.2.2.2.2.1)
            refine ⟨zfl g1 (X + 53 + 21) 0 (fun c => nI (nl c)) (aV (zR σ) 3), ?_, (zfl_frm _ _ _ _ _).mono (fun b hb => by rw [hb]; omega), hMM⟩
            rw [eM g1 h5, if_pos e, z2 g1 h5, zk2_inl]
            unfold j_X10_read_120
            have hz := zw_seq (step := fun s : Int32 × zG => l_X10_read_123 (X + 53) (nI i) (nI F) s.1 s.2) (fun c => (nI c, zfl g1 (X + 53 + 21) 0 (fun c => nI (nl c)) c)) (zfl g1 (X + 53 + 21) 0 (fun c => nI (nl c)) (aV (zR σ) 3)) (aV (zR σ) 3) (fun c hcc => by
              show l_X10_read_123 (X + 53) (nI i) (nI F) (nI c) _ = _
              have := (hok c hcc).1
              unfold l_X10_read_123
              rw [zc_pos (c := zin 3 8) (by decide), zfl_r, hM.set, c3, zfl_at _ _ _ _ _ (by omega), h5.2.1.val (by omega) (by omega), if_neg (fun e => by have := (nle (by omega) (by omega)).mp e; omega), show (40 : Int32) = nI 40 from rfl, pk_mul, nI_add, nI_add, show 40 * i + F + c = i * 40 + (F + c) by omega, zc_pos (zlit _ 160 (by omega) (by omega)), zc_pos (zlit c 40 (by omega) (by omega)), zl_eq, zl_eq, nI_cl (by omega), nI_cl (by omega), nI_1, hM.ce, hM.li, zfl_at _ _ _ _ _ (by omega), h5.2.2.2.2.2.2.2.2.2.2 _ (by omega), (hnl c hcc).1]
              rw [show zfl g1 (X + 53 + 21) 0 (fun c => nI (nl c)) (c + 1) = zsi (zfl g1 (X + 53 + 21) 0 (fun c => nI (nl c)) c) (X + 53 + 21) (0 + c) (nI (nl c)) from rfl, Nat.zero_add]) (by
              show l_X10_read_123 (X + 53) (nI i) (nI F) (nI (aV (zR σ) 3)) _ = _
              unfold l_X10_read_123
              rw [zc_pos (c := zin 3 8) (by decide), zfl_r, hM.set, c3, zfl_at _ _ _ _ _ (by omega), h5.2.1.val (by omega) (by omega), if_pos ((nle (by omega) (by omega)).mpr (Nat.le_refl _))]) (N := zN) (by have := zN_big; omega)
            rw [show ((0, g1) : Int32 × zG) = (nI 0, zfl g1 (X + 53 + 21) 0 (fun c => nI (nl c)) 0) from rfl, hz, zk_some]
            unfold j_X10_read_161
            rw [m_lettersNow hMM.1 hv.1 hMM.2.1 (fun c h => ⟨hMM.2.2.2.2.1 c h, hvl c h⟩), zb_some]
            rfl
        · exact stay v (by rw [eC, z1, zk2_inr]) (fun g1 h5 => by rw [eM g1 h5, if_pos e, z2 g1 h5, zk2_inr])
      · rw [if_neg e] at eC
        exact stay (-13) eC (fun g1 h5 => by rw [eM g1 h5, if_neg e])
  · refine stay (-1) ?_ (fun g1 h5 => ?_)
    · unfold f_X9_read
      rw [q_isSheet, zb_some, q_isLane, zb_some]
      by_cases h2 : 0 ≤ x.toInt ∧ x.toInt < 4
      · rw [if_pos h2, b1, if_neg (fun e => h1 ⟨h2, e⟩), b0]
      · rw [if_neg h2, b0]
    · unfold f_X10_read
      rw [m_isSheet, zb_some, if_neg h1, b0])
end OKS9
