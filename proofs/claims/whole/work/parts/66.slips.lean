section OKS6
variable {X : Nat}
/-- how many of the first k -/
def cw (f : Nat → Bool) : Nat → Nat
  | 0 => 0
  | k + 1 => cw f k + (if f k then 1 else 0)
theorem cw_0 (f : Nat → Bool) : cw f 0 = 0 := rfl
theorem cw_t {f : Nat → Bool} {k : Nat} (h : f k = true) : cw f (k + 1) = cw f k + 1 := by rw [cw, h]; rfl
theorem cw_f {f : Nat → Bool} {k : Nat} (h : f k = false) : cw f (k + 1) = cw f k := by rw [cw, h]; rfl
theorem bI_t : bI true = 1 := rfl
theorem bI_f : bI false = 0 := rfl
theorem cw_le (f : Nat → Bool) (k : Nat) : cw f k ≤ k := by
  induction k with
  | zero => exact Nat.le_refl _
  | succ k ih => unfold cw; split <;> omega
theorem cw_same {f h : Nat → Bool} {k : Nat} (e : ∀ i, i < k → f i = h i) : cw f k = cw h k := by
  induction k with
  | zero => rfl
  | succ k ih => unfold cw; rw [ih (fun i hi => e i (by omega)), e k (by omega)]
/-- one slip: does it fit, in both -/
theorem fits {σ : aZ} {k r : Nat} {g : zG} (hk : k < 512) (hv : vZ k σ) (hc : CI σ X r g) (hm : MI σ (X + 53) g) (hz : (zSk σ).1 = true) {d : Nat} (hd : d < aN (zR σ)) (l1 l2 l3 : Int32) : ∃ b : Bool, f_X7_fitsSlip (X + 33) (r + 1) (nI d) (nI (aV (zR σ) 3)) g = some (bI b, g) ∧ zw zN (fun s => l_X10_slips_45 (X + 53) l1 l2 l3 (nI d) s.1 s.2.1 s.2.2) (1, 0, g) = some (bI b, g) := by
  have hX := hc.1
  have hM := hm.1
  have b3 := hv.1.2.2.2.2.1
  obtain ⟨q1, q2, q3, q4⟩ := hc.2.2.2.2.2.2.2.2.1.2 hz
  obtain ⟨p1, p2, p3, p4⟩ := hm.2.2.2.2.2.2.2.1.2 hz
  have H : ∀ c, ∃ v, c < aV (zR σ) 3 → (zSk σ).2.2.2.2.2 c ≠ -4 → f_X7_shownAfterSlip (X + 33) (r + 1) (nI d) (nI c) g = some (v, g) ∧ f_X10_shows (X + 53) (nI d) (nI c) g = some (v, g) := by
    intro c
    by_cases h : c < aV (zR σ) 3 ∧ (zSk σ).2.2.2.2.2 c ≠ -4
    · have := ((hv.2.2.2.2.2.1 hz c h.1).2.resolve_left h.2).2
      obtain ⟨v, hv1⟩ := shown hk hv hc hm hz hd h.1 this
      exact ⟨v, fun _ _ => hv1⟩
    · exact ⟨0, fun a b => absurd ⟨a, b⟩ h⟩
  obtain ⟨sv, hsv⟩ := Classical.skolem.mp H
  let ok : Nat → Prop := fun c => (zSk σ).2.2.2.2.2 c = -4 ∨ (zSk σ).2.2.2.2.2 c = sv c
  have okd : ∀ c, ok c ∨ ¬ ok c := fun c => Classical.em _
  have hall : ∃ b : Bool, b = true ↔ ∀ c, c < aV (zR σ) 3 → ok c := by
    by_cases h : ∀ c, c < aV (zR σ) 3 → ok c
    · exact ⟨true, ⟨fun _ => h, fun _ => rfl⟩⟩
    · exact ⟨false, ⟨fun e => (by cases e), fun e => absurd e h⟩⟩
  obtain ⟨b, hb⟩ := hall
  refine ⟨b, ?_, ?_⟩
  · let sf : Int32 × zG → Option ((Int32 × zG) ⊕ ((zG) ⊕ (Int32 × zG))) := fun s => l_X7_fitsSlip_3 (X + 33) (r + 1) (nI d) (nI (aV (zR σ) 3)) s.1 s.2
    let Inv : Nat → Int32 × zG → Prop := fun c s => s = (nI c, g) ∧ ∀ j, j < c → ok j
    let Q : (zG ⊕ (Int32 × zG)) → Prop := fun x => (x = .inr (1, g) ∧ b = true) ∨ (x = .inl g ∧ b = false)
    have hS : ∀ c s, c < aV (zR σ) 3 → Inv c s → (∃ s', sf s = some (.inl s') ∧ Inv (c + 1) s') ∨ ∃ x, sf s = some (.inr x) ∧ Q x := by
      intro c s hcc hI
      obtain ⟨rfl, hI⟩ := hI
      have e1 : sf (nI c, g) = (if (zSk σ).2.2.2.2.2 c = -4 then some (.inl (nI (c + 1), g)) else zb (f_X7_shownAfterSlip (X + 33) (r + 1) (nI d) (nI c) g) (fun v6 g7 => if (zSk σ).2.2.2.2.2 c = v6 then (zl (nI c + 1) (fun v9 => some (.inl (v9, g7)))) else (some (.inr (.inl g7))))) := by
        show l_X7_fitsSlip_3 (X + 33) (r + 1) (nI d) (nI (aV (zR σ) 3)) (nI c) g = _
        unfold l_X7_fitsSlip_3
        rw [if_neg (fun e => by have := (nle (by omega) (by omega)).mp e; omega)]
        simp only [zc_pos (zlit c 40 (by omega) (by omega)), nI_cl (show c < 2147483648 by omega)]
        rw [hX.s1, (q4 c hcc).2, zl_eq, nI_1]
      by_cases h1 : (zSk σ).2.2.2.2.2 c = -4
      · left
        rw [if_pos h1] at e1
        exact ⟨_, e1, rfl, fun j hj => by
          rcases Nat.lt_or_ge j c with h | h
          · exact hI j h
          · have : j = c := by omega
            rw [this]; exact Or.inl h1⟩
      · rw [if_neg h1, (hsv c hcc h1).1, zb_some] at e1
        by_cases h2 : (zSk σ).2.2.2.2.2 c = sv c
        · left
          rw [if_pos h2, zl_eq, nI_1] at e1
          exact ⟨_, e1, rfl, fun j hj => by
            rcases Nat.lt_or_ge j c with h | h
            · exact hI j h
            · have : j = c := by omega
              rw [this]; exact Or.inr h2⟩
        · right
          rw [if_neg h2] at e1
          refine ⟨_, e1, Or.inr ⟨rfl, ?_⟩⟩
          cases hbb : b with
          | false => rfl
          | true => exact absurd (hb.mp hbb c hcc) (fun z => z.elim h1 h2)
    have hE : ∀ s, Inv (aV (zR σ) 3) s → ∃ x, sf s = some (.inr x) ∧ Q x := by
      intro s hI
      obtain ⟨rfl, hI⟩ := hI
      refine ⟨.inr (1, g), ?_, Or.inl ⟨rfl, hb.mpr hI⟩⟩
      show l_X7_fitsSlip_3 (X + 33) (r + 1) (nI d) (nI (aV (zR σ) 3)) (nI (aV (zR σ) 3)) g = _
      unfold l_X7_fitsSlip_3
      rw [if_pos ((nle (by omega) (by omega)).mpr (Nat.le_refl _))]
    obtain ⟨x, h1, h2⟩ := zw_run Inv Q (aV (zR σ) 3) hS hE (aV (zR σ) 3) 0 zN (nI 0, g) (by omega) (by have := zN_big; omega) ⟨rfl, fun j hj => by omega⟩
    unfold f_X7_fitsSlip
    rw [show zw zN (fun s => l_X7_fitsSlip_3 (X + 33) (r + 1) (nI d) (nI (aV (zR σ) 3)) s.1 s.2) (0, g) = some x from h1]
    rcases h2 with ⟨rfl, hbb⟩ | ⟨rfl, hbb⟩
    · rw [hbb]; rfl
    · rw [hbb]; rfl
  · let sf : Int32 × Int32 × zG → Option ((Int32 × Int32 × zG) ⊕ (Int32 × zG)) := fun s => l_X10_slips_45 (X + 53) l1 l2 l3 (nI d) s.1 s.2.1 s.2.2
    let Inv : Nat → Int32 × Int32 × zG → Prop := fun c s => ∃ b' : Bool, s = (bI b', nI c, g) ∧ (b' = true ↔ ∀ j, j < c → ok j)
    let Q : (Int32 × zG) → Prop := fun x => x = (bI b, g)
    have hS : ∀ c s, c < aV (zR σ) 3 → Inv c s → (∃ s', sf s = some (.inl s') ∧ Inv (c + 1) s') ∨ ∃ x, sf s = some (.inr x) ∧ Q x := by
      intro c s hcc hI
      obtain ⟨b', rfl, hI⟩ := hI
      left
      have e1 : sf (bI b', nI c, g) = (if bI b' = 0 then some (.inl (0, nI (c + 1), g)) else (if (zSk σ).2.2.2.2.2 c = -4 then some (.inl (1, nI (c + 1), g)) else zb (f_X10_shows (X + 53) (nI d) (nI c) g) (fun v6 g7 => if (zSk σ).2.2.2.2.2 c = v6 then (zl (nI c + 1) (fun v9 => some (.inl (1, v9, g7)))) else (zl (nI c + 1) (fun v9 => some (.inl (0, v9, g7))))))) := by
        show l_X10_slips_45 (X + 53) l1 l2 l3 (nI d) (bI b') (nI c) g = _
        unfold l_X10_slips_45
        rw [zc_pos (c := zin 3 8) (by decide), hM.set, c3, hm.2.1.val (by omega) (by omega), if_neg (fun e => by have := (nle (by omega) (by omega)).mp e; omega)]
        simp only [zc_pos (zlit c 40 (by omega) (by omega)), nI_cl (show c < 2147483648 by omega)]
        rw [hM.sSe, (p4 c hcc).2.1, zl_eq, zl_eq, nI_1]
      cases b' with
      | false =>
        rw [bI_f, b0] at e1
        exact ⟨_, e1, false, rfl, ⟨fun h => (by cases h), fun h => hI.mpr (fun j hj => h j (by omega))⟩⟩
      | true =>
        rw [if_neg (by decide)] at e1
        have hI' := hI.mp rfl
        have ext : ok c → ∀ j, j < c + 1 → ok j := fun h j hj => by
          rcases Nat.lt_or_ge j c with h3 | h3
          · exact hI' j h3
          · have : j = c := by omega
            rw [this]; exact h
        by_cases h1 : (zSk σ).2.2.2.2.2 c = -4
        · rw [if_pos h1] at e1
          exact ⟨_, e1, true, rfl, ⟨fun _ => ext (Or.inl h1), fun _ => rfl⟩⟩
        · rw [if_neg h1, (hsv c hcc h1).2, zb_some] at e1
          by_cases h2 : (zSk σ).2.2.2.2.2 c = sv c
          · rw [if_pos h2, zl_eq, nI_1] at e1
            exact ⟨_, e1, true, rfl, ⟨fun _ => ext (Or.inr h2), fun _ => rfl⟩⟩
          · rw [if_neg h2, zl_eq, nI_1] at e1
            exact ⟨_, e1, false, rfl, ⟨fun h => (by cases h), fun h => absurd (h c (by omega)) (fun z => z.elim h1 h2)⟩⟩
    have hE : ∀ s, Inv (aV (zR σ) 3) s → ∃ x, sf s = some (.inr x) ∧ Q x := by
      intro s hI
      obtain ⟨b', rfl, hI⟩ := hI
      have hbb : b' = b := by
        have : b' = true ↔ b = true := hI.trans hb.symm
        cases b' <;> cases b <;> simp_all
      refine ⟨(bI b', g), ?_, by rw [hbb]⟩
      show l_X10_slips_45 (X + 53) l1 l2 l3 (nI d) (bI b') (nI (aV (zR σ) 3)) g = _
      unfold l_X10_slips_45
      rw [zc_pos (c := zin 3 8) (by decide), hM.set, c3, hm.2.1.val (by omega) (by omega), if_pos ((nle (by omega) (by omega)).mpr (Nat.le_refl _))]
    obtain ⟨x, h1, h2⟩ := zw_run Inv Q (aV (zR σ) 3) hS hE (aV (zR σ) 3) 0 zN (1, nI 0, g) (by omega) (by have := zN_big; omega) ⟨true, rfl, ⟨fun _ j hj => by omega, fun _ => rfl⟩⟩
    rw [show zw zN (fun s => l_X10_slips_45 (X + 53) l1 l2 l3 (nI d) s.1 s.2.1 s.2.2) (1, 0, g) = some x from h1, h2]
theorem o_slips (x : Int32) : OKC X (fun g => f_X9_slips X x g) (fun g => f_X10_slips (X + 53) x g) := OKC.read (fun k σ r g hk hv hc hm => by
  have hX := hc.1
  have hw := hc.2.1
  have hr := hX.rules hw
  have hM := hm.1
  have b3 := hv.1.2.2.2.2.1
  have bn := hv.1.1
  have hxx : (x = 0 ∨ x = 1) ↔ 0 ≤ x.toInt ∧ x.toInt ≤ 1 := by
    rw [i_eq, i_eq]
    show (x.toInt = 0 ∨ x.toInt = 1) ↔ _
    omega
  by_cases hx : x = 0 ∨ x = 1
  · have eC : f_X9_slips X x g = j_X9_slips_11 X x g := by
      unfold f_X9_slips
      by_cases h : x = 0
      · rw [if_pos h]
      · rw [if_neg h, if_pos (hx.resolve_left h)]
    rw [eC]
    unfold j_X9_slips_11 f_X10_slips
    rw [m_in 0 1 0 1 rfl rfl, zb_some, if_pos (hxx.mp hx), b1, hX.pr, hX.st]
    rcases sk_made hc hm with ⟨-, e1, e2⟩ | ⟨e0, e1, e2⟩
    · rw [if_pos e1, if_pos e2]; exact ⟨_, rfl, rfl⟩
    · rw [if_neg e1, if_neg e2, hw.1, hr.1, hc.2.2.1.1.1, zl_eq]
      have H : ∀ d, ∃ b : Bool, d < aN (zR σ) → f_X7_fitsSlip (X + 33) (r + 1) (nI d) (nI (aV (zR σ) 3)) g = some (bI b, g) ∧ ∀ l1 l2 l3, zw zN (fun s => l_X10_slips_45 (X + 53) l1 l2 l3 (nI d) s.1 s.2.1 s.2.2) (1, 0, g) = some (bI b, g) := by
        intro d
        by_cases hd : d < aN (zR σ)
        · obtain ⟨b, h1, h2⟩ := fits hk hv hc hm e0 hd 0 0 0
          exact ⟨b, fun _ => ⟨h1, fun l1 l2 l3 => h2⟩⟩
        · exact ⟨true, fun h => absurd h hd⟩
      obtain ⟨fb, hfb⟩ := Classical.skolem.mp H
      have hle := cw_le fb (aN (zR σ))
      -- the class, from the last on
      let IC : Nat → Int32 × Int32 × Int32 × zG → Prop := fun j s => ∃ cn ls, s = (nI cn, ls, nI (aN (zR σ) - j) + (-1), g) ∧ cn + cw fb (aN (zR σ) - j) = cw fb (aN (zR σ)) ∧ ((ls = -4 ∧ ∀ d, aN (zR σ) - j ≤ d → d < aN (zR σ) → fb d = false) ∨ ∃ d, ls = nI d ∧ aN (zR σ) - j ≤ d ∧ d < aN (zR σ) ∧ fb d = true ∧ ∀ e, aN (zR σ) - j ≤ e → e < d → fb e = false)
      let Q : Int32 × Int32 × zG → Prop := fun q => ∃ ls, q = (nI (cw fb (aN (zR σ))), ls, g) ∧ ((ls = -4 ∧ ∀ d, d < aN (zR σ) → fb d = false) ∨ ∃ d, ls = nI d ∧ d < aN (zR σ) ∧ fb d = true ∧ ∀ e, e < d → fb e = false)
      let sc : Int32 × Int32 × Int32 × zG → Option ((Int32 × Int32 × Int32 × zG) ⊕ (Int32 × Int32 × zG)) := fun s => l_X9_slips_46 X x s.1 s.2.1 s.2.2.1 s.2.2.2
      have hS : ∀ j s, j < aN (zR σ) → IC j s → (∃ s', sc s = some (.inl s') ∧ IC (j + 1) s') ∨ ∃ q, sc s = some (.inr q) ∧ Q q := by
        intro j s hj hI
        obtain ⟨cn, ls, rfl, hI1, hI2⟩ := hI
        left
        obtain ⟨m, hm1⟩ : ∃ m, aN (zR σ) - j = m + 1 := ⟨aN (zR σ) - j - 1, by omega⟩
        have hm2 : aN (zR σ) - (j + 1) = m := by omega
        rw [hm1] at hI1 hI2
        have hmn : m < aN (zR σ) := by omega
        have e3 : sc (nI cn, ls, nI (aN (zR σ) - j) + (-1), g) = (if bI (fb m) = 0 then some (.inl (nI cn, ls, nI m + (-1), g)) else some (.inl (nI (cn + 1), nI m, nI m + (-1), g))) := by
          show l_X9_slips_46 X x (nI cn) ls (nI (aN (zR σ) - j) + (-1)) g = _
          rw [hm1, pk_m1]
          unfold l_X9_slips_46
          rw [if_neg (show ¬ nI m < (0 : Int32) from fun e => by have := (nlt (b := 0) (by omega) (by omega)).mp e; omega), zc_pos (c := zin 3 8) (by decide), hX.pr, hX.st, hw.1, hr.1, hr.2.2.1, c3, hc.2.2.1.val (by omega) (by omega), (hfb m hmn).1, zb_some, zl_eq, zl_eq, zl_eq, nI_1]
        cases hf : fb m with
        | false =>
          rw [hf, bI_f, b0] at e3
          rw [cw_f hf] at hI1
          refine ⟨_, e3, cn, ls, by rw [hm2], by rw [hm2]; exact hI1, ?_⟩
          rw [hm2]
          have ext : ∀ u, (∀ e, m + 1 ≤ e → e < u → fb e = false) → ∀ e, m ≤ e → e < u → fb e = false := by
            intro u h e he1 he2
            rcases Nat.lt_or_ge m e with h5 | h5
            · exact h e h5 he2
            · have : e = m := by omega
              rw [this]; exact hf
          rcases hI2 with ⟨h1, h2⟩ | ⟨d, h1, h2, h3, h4, h5⟩
          · exact Or.inl ⟨h1, ext _ h2⟩
          · exact Or.inr ⟨d, h1, by omega, h3, h4, ext _ h5⟩
        | true =>
          rw [hf, if_neg (by decide)] at e3
          rw [cw_t hf] at hI1
          exact ⟨_, e3, cn + 1, nI m, by rw [hm2], by rw [hm2]; omega, Or.inr ⟨m, rfl, by omega, by omega, hf, fun e he1 he2 => by omega⟩⟩
      have hE : ∀ s, IC (aN (zR σ)) s → ∃ q, sc s = some (.inr q) ∧ Q q := by
        intro s hI
        obtain ⟨cn, ls, rfl, hI1, hI2⟩ := hI
        rw [Nat.sub_self] at hI1 hI2
        have hcn : cn = cw fb (aN (zR σ)) := by rw [cw_0] at hI1; exact hI1
        refine ⟨(nI cn, ls, g), ?_, ls, by rw [hcn], ?_⟩
        · show l_X9_slips_46 X x (nI cn) ls (nI (aN (zR σ) - aN (zR σ)) + (-1)) g = _
          rw [Nat.sub_self]
          unfold l_X9_slips_46
          rw [if_pos (by decide)]
        · rcases hI2 with ⟨h1, h2⟩ | ⟨d, h1, h2, h3, h4, h5⟩
          · exact Or.inl ⟨h1, fun d hd => h2 d (by omega) hd⟩
          · exact Or.inr ⟨d, h1, h3, h4, fun e he => h5 e (by omega) he⟩
      obtain ⟨q, hq1, ls, rfl, hq2⟩ := zw_run IC Q (aN (zR σ)) hS hE (aN (zR σ)) 0 zN (nI 0, -4, nI (aN (zR σ)) + (-1), g) (by omega) (by have := zN_big; omega) ⟨0, -4, rfl, by rw [Nat.sub_zero, Nat.zero_add], Or.inl ⟨rfl, fun d h1 h2 => by omega⟩⟩
      -- the reference, from the first on
      let IM : Nat → Int32 × Int32 × Int32 × zG → Prop := fun j s => ∃ ls, s = (nI (cw fb j), ls, nI j, g) ∧ ((ls = -4 ∧ ∀ d, d < j → fb d = false) ∨ ∃ d, ls = nI d ∧ d < j ∧ fb d = true ∧ ∀ e, e < d → fb e = false)
      let sm : Int32 × Int32 × Int32 × zG → Option ((Int32 × Int32 × Int32 × zG) ⊕ (Int32 × Int32 × zG)) := fun s => l_X10_slips_30 (X + 53) x s.1 s.2.1 s.2.2.1 s.2.2.2
      have hS' : ∀ j s, j < aN (zR σ) → IM j s → (∃ s', sm s = some (.inl s') ∧ IM (j + 1) s') ∨ ∃ q, sm s = some (.inr q) ∧ Q q := by
        intro j s hj hI
        obtain ⟨ls, rfl, hI2⟩ := hI
        left
        have e3 : sm (nI (cw fb j), ls, nI j, g) = j_X10_slips_104_30 (X + 53) x (nI (cw fb j)) ls (nI j) (bI (fb j)) g := by
          show l_X10_slips_30 (X + 53) x (nI (cw fb j)) ls (nI j) g = _
          unfold l_X10_slips_30
          rw [hm.2.1.1, if_neg (fun e => by have := (nle (by omega) (by omega)).mp e; omega), (hfb j hj).2, zk_some]
        unfold j_X10_slips_104_30 j_X10_slips_115_30 at e3
        simp only [zl_eq, nI_1] at e3
        cases hf : fb j with
        | false =>
          rw [hf, bI_f, b0, b0] at e3
          refine ⟨_, e3, ls, ?_, ?_⟩
          · rw [cw_f hf, show nI (cw fb j) + 0 = nI (cw fb j) from nI_add _ 0]
          · rcases hI2 with ⟨h1, h2⟩ | ⟨d, h1, h2, h3, h4⟩
            · refine Or.inl ⟨h1, fun d hd => ?_⟩
              rcases Nat.lt_or_ge d j with h5 | h5
              · exact h2 d h5
              · have : d = j := by omega
                rw [this]; exact hf
            · exact Or.inr ⟨d, h1, by omega, h3, h4⟩
        | true =>
          rw [hf, if_neg (by decide), if_neg (by decide)] at e3
          have ecw := cw_t hf
          rcases hI2 with ⟨h1, h2⟩ | ⟨d, h1, h2, h3, h4⟩
          · rw [if_pos h1] at e3
            exact ⟨_, e3, nI j, by rw [ecw], Or.inr ⟨j, rfl, by omega, hf, h2⟩⟩
          · rw [if_neg (show ¬ ls = -4 by rw [h1]; exact nm4 (by omega))] at e3
            exact ⟨_, e3, ls, by rw [ecw], Or.inr ⟨d, h1, by omega, h3, h4⟩⟩
      have hE' : ∀ s, IM (aN (zR σ)) s → ∃ q, sm s = some (.inr q) ∧ Q q := by
        intro s hI
        obtain ⟨ls, rfl, hI2⟩ := hI
        refine ⟨_, ?_, ls, rfl, hI2⟩
        show l_X10_slips_30 (X + 53) x (nI (cw fb (aN (zR σ)))) ls (nI (aN (zR σ))) g = _
        unfold l_X10_slips_30
        rw [hm.2.1.1, if_pos ((nle (by omega) (by omega)).mpr (Nat.le_refl _))]
      obtain ⟨q, hq3, ls', rfl, hq4⟩ := zw_run IM Q (aN (zR σ)) hS' hE' (aN (zR σ)) 0 zN (nI 0, -4, nI 0, g) (by omega) (by have := zN_big; omega) ⟨-4, rfl, Or.inl ⟨rfl, fun d h1 => by omega⟩⟩
      have els : ls' = ls := by
        rcases hq2 with ⟨h1, h2⟩ | ⟨d, h1, h2, h3, h4⟩ <;> rcases hq4 with ⟨h5, h6⟩ | ⟨d', h5, h6, h7, h8⟩
        · rw [h1, h5]
        · rw [h2 d' h6] at h7; cases h7
        · rw [h6 d h2] at h3; cases h3
        · rcases Nat.lt_trichotomy d d' with h | h | h
          · rw [h8 d h] at h3; cases h3
          · rw [h1, h5, h]
          · rw [h4 d' h] at h7; cases h7
      rw [show (nI (aN (zR σ)) - 1 : Int32) = nI (aN (zR σ)) + (-1) from Int32.sub_eq_add_neg _ _]
      rw [show zw zN (fun s => l_X9_slips_46 X x s.1 s.2.1 s.2.2.1 s.2.2.2) (0, -4, nI (aN (zR σ)) + (-1), g) = _ from hq1, show zw zN (fun s => l_X10_slips_30 (X + 53) x s.1 s.2.1 s.2.2.1 s.2.2.2) (0, -4, 0, g) = _ from hq3, zk_some, zk_some, els]
      unfold j_X9_slips_94 j_X10_slips_141
      by_cases h0 : x = 0
      · rw [if_pos h0]; exact ⟨_, rfl, rfl⟩
      · rw [if_neg h0]; exact ⟨_, rfl, rfl⟩
  · unfold f_X9_slips f_X10_slips
    rw [m_in 0 1 0 1 rfl rfl, zb_some, if_neg (fun e => hx (hxx.mpr e)), b0, if_neg (fun e => hx (Or.inl e)), if_neg (fun e => hx (Or.inr e))]
    exact ⟨_, rfl, rfl⟩)
end OKS6
