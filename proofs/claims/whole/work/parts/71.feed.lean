-- ===== feed =====
/-- bytes go onto a tape: j of them -/
def fdg (g : zG) (a o k T : Nat) (f : Nat → Int32) : Nat → zG
  | 0 => g
  | j + 1 => zsi (zsi (fdg g a o k T f j) a (T + j) (f j)) o k (nI (T + (j + 1)))
theorem fdg_r (g : zG) (a o k T : Nat) (f : Nat → Int32) (j : Nat) : (fdg g a o k T f j).2 = g.2 := by
  induction j with
  | zero => rfl
  | succ j ih => exact ih
theorem fdg_frm (g : zG) (a o k T : Nat) (f : Nat → Int32) (j : Nat) : frm (fun b => b = o ∨ b = a) g (fdg g a o k T f j) := by
  induction j with
  | zero => exact frm.refl _ _
  | succ j ih => exact (ih.trans (frm.si (Or.inr rfl))).trans (frm.si (Or.inl rfl))
theorem fdg_o {g : zG} {a o k T : Nat} {f : Nat → Int32} (h : g.1 o k = nI T) (hao : a ≠ o) (j : Nat) : (fdg g a o k T f j).1 o k = nI (T + j) := by
  cases j with
  | zero => exact h
  | succ j => exact zsi_same
theorem fdg_o2 {g : zG} {a o k T : Nat} {f : Nat → Int32} (hao : a ≠ o) {i : Nat} (hi : i ≠ k) (j : Nat) : (fdg g a o k T f j).1 o i = g.1 o i := by
  induction j with
  | zero => rfl
  | succ j ih => rw [show fdg g a o k T f (j + 1) = zsi (zsi (fdg g a o k T f j) a (T + j) (f j)) o k (nI (T + (j + 1))) from rfl, zsi_get hi, zsi_at (fun e => hao e.symm), ih]
theorem fdg_a {g : zG} {a o k T : Nat} {f : Nat → Int32} (hao : a ≠ o) (i j : Nat) : (fdg g a o k T f j).1 a i = if T ≤ i ∧ i < T + j then f (i - T) else g.1 a i := by
  induction j with
  | zero => rw [if_neg (by omega)]; rfl
  | succ j ih =>
    rw [show fdg g a o k T f (j + 1) = zsi (zsi (fdg g a o k T f j) a (T + j) (f j)) o k (nI (T + (j + 1))) from rfl, zsi_at hao]
    by_cases e : i = T + j
    · subst e; rw [zsi_same, if_pos (by omega), show T + j - T = j by omega]
    · rw [zsi_get e, ih]
      by_cases h : T ≤ i ∧ i < T + j
      · rw [if_pos h, if_pos (by omega)]
      · rw [if_neg h, if_neg (by omega)]
def shf (j : Nat) : Int32 := Int32.ofInt (56 - 8 * (j : Int))
theorem shf_s : ∀ j, j < 8 → ¬ shf j < 0 ∧ shf j + (-8) = shf (j + 1) := by decide +kernel
theorem by_m (y : Int64) : (y &&& 255).toInt32 = nI (y.toBitVec.toNat % 256) := by
  apply Int32.toBitVec_inj.mp
  apply BitVec.eq_of_toNat_eq
  show ((y.toBitVec &&& BitVec.ofNat 64 255).signExtend 32).toNat = (BitVec.ofNat 32 (y.toBitVec.toNat % 256)).toNat
  rw [BitVec.signExtend_eq_setWidth_of_le _ (by decide), BitVec.toNat_setWidth, BitVec.toNat_and, BitVec.toNat_ofNat, BitVec.toNat_ofNat, show (255 % 2 ^ 64 : Nat) = 2 ^ 8 - 1 from rfl, Nat.and_two_pow_sub_one_eq_mod]
theorem by_c (y : Int64) : (y.toInt32.toInt8.toInt32).toInt8.toInt32 = (nI (y.toBitVec.toNat % 256)).toInt8.toInt32 := by
  rw [Int8.toInt8_toInt32]
  congr 1
  apply Int8.toBitVec_inj.mp
  apply BitVec.eq_of_toNat_eq
  show ((y.toBitVec.signExtend 32).signExtend 8).toNat = ((BitVec.ofNat 32 (y.toBitVec.toNat % 256)).signExtend 8).toNat
  rw [BitVec.signExtend_eq_setWidth_of_le _ (by decide), BitVec.signExtend_eq_setWidth_of_le _ (by decide), BitVec.signExtend_eq_setWidth_of_le _ (by decide), BitVec.toNat_setWidth, BitVec.toNat_setWidth, BitVec.toNat_setWidth, BitVec.toNat_ofNat]
  omega
section OKS10
variable {X : Nat}
theorem o_feed (x : Int64) : OKC X (fun g => f_X9_feed X x g) (fun g => f_X10_feed (X + 53) x g) := OKC.write (fun k σ r g hk hv hc hm => by
  have hX := hc.1
  have ht := hv.2.1.1
  let B : Nat → Nat := fun j => (zlshr x (shf j)).toBitVec.toNat % 256
  have e8 : nI (zTp σ).1 + 8 = nI ((zTp σ).1 + 8) := nI_add _ 8
  have ele : (nI ((zTp σ).1 + 8) ≤ (240 : Int32)) ↔ (zTp σ).1 + 8 ≤ 240 := nle (b := 240) (by omega) (by omega)
  by_cases h : (zTp σ).1 + 8 ≤ 240
  · have eC : f_X9_feed X x g = some (nI ((zTp σ).1 + 8), fdg g (X + 24) (X + 23) 1 (zTp σ).1 (fun j => (nI (B j)).toInt8.toInt32) 8) := by
      unfold f_X9_feed f_X4_append
      rw [hX.re, hc.2.2.2.1.1, e8, if_pos (ele.mpr h)]
      have hz := zw_seq (step := fun s : Int32 × zG => l_X4_append_18 (X + 23) x s.1 s.2) (fun j => (shf j, fdg g (X + 24) (X + 23) 1 (zTp σ).1 (fun j => (nI (B j)).toInt8.toInt32) j)) (fdg g (X + 24) (X + 23) 1 (zTp σ).1 (fun j => (nI (B j)).toInt8.toInt32) 8) 8 (fun j hj => by
        show l_X4_append_18 (X + 23) x (shf j) _ = _
        unfold l_X4_append_18
        rw [if_neg (shf_s j hj).1, fdg_o hc.2.2.2.1.1 (by omega), zc_pos (zlit _ 240 (by omega) (by omega)), zl_eq, zl_eq, zl_eq, nI_cl (by omega), fdg_r, hX.by, by_c, (shf_s j hj).2, zsi_at (by omega), fdg_o hc.2.2.2.1.1 (by omega), nI_1]
        rfl) (by
        show l_X4_append_18 (X + 23) x (shf 8) _ = _
        unfold l_X4_append_18
        rw [if_pos (by decide)]) (N := zN) (by have := zN_big; omega)
      rw [show ((56, g) : Int32 × zG) = (shf 0, fdg g (X + 24) (X + 23) 1 (zTp σ).1 (fun j => (nI (B j)).toInt8.toInt32) 0) from rfl, hz, zk_some]
      unfold j_X4_append_52
      rw [zb_some, b1, fdg_r, hX.re, fdg_o hc.2.2.2.1.1 (by omega)]
    have eM : ∀ g1, MI σ (X + 53) g1 → f_X10_feed (X + 53) x g1 = some (nI ((zTp σ).1 + 8), fdg g1 (X + 53 + 20) (X + 53) 27 (zTp σ).1 (fun j => nI (B j)) 8) := by
      intro g1 h5
      unfold f_X10_feed
      rw [h5.2.2.1.1, e8, if_pos (ele.mpr h)]
      have hz := zw_seq (step := fun s : Int32 × zG => l_X10_feed_19 (X + 53) x s.1 s.2) (fun j => (shf j, fdg g1 (X + 53 + 20) (X + 53) 27 (zTp σ).1 (fun j => nI (B j)) j)) (fdg g1 (X + 53 + 20) (X + 53) 27 (zTp σ).1 (fun j => nI (B j)) 8) 8 (fun j hj => by
        show l_X10_feed_19 (X + 53) x (shf j) _ = _
        unfold l_X10_feed_19
        rw [if_neg (shf_s j hj).1, fdg_o h5.2.2.1.1 (by omega), zc_pos (zlit _ 240 (by omega) (by omega)), zl_eq, zl_eq, zl_eq, nI_cl (by omega), fdg_r, h5.1.ta, by_m, (shf_s j hj).2, zsi_at (by omega), fdg_o h5.2.2.1.1 (by omega), nI_1]
        rfl) (by
        show l_X10_feed_19 (X + 53) x (shf 8) _ = _
        unfold l_X10_feed_19
        rw [if_pos (by decide)]) (N := zN) (by have := zN_big; omega)
      rw [show ((56, g1) : Int32 × zG) = (shf 0, fdg g1 (X + 53 + 20) (X + 53) 27 (zTp σ).1 (fun j => nI (B j)) 0) from rfl, hz, zk_some]
      unfold j_X10_feed_56
      rw [fdg_o h5.2.2.1.1 (by omega)]
    let t' : aT := ((zTp σ).1 + 8, fun i => if (zTp σ).1 ≤ i then B (i - (zTp σ).1) else (zTp σ).2 i)
    refine ⟨_, _, zTp' σ t', eC, ?_, rfl, (fdg_frm _ _ _ _ _ _ _).mono (fun b hb => by omega), ?_, fun g1 h5 => ⟨_, eM g1 h5, (fdg_frm _ _ _ _ _ _ _).mono (fun b hb => by omega), ?_⟩⟩
    · obtain ⟨v1, v2, v3⟩ := hv.next
      refine ⟨v1, ⟨h, fun i hi => ?_⟩, v3⟩
      have hi : i < (zTp σ).1 + 8 := hi
      show (if (zTp σ).1 ≤ i then B (i - (zTp σ).1) else (zTp σ).2 i) < 256
      by_cases e : (zTp σ).1 ≤ i
      · rw [if_pos e]; exact Nat.mod_lt _ (by omega)
      · rw [if_neg e]; exact v2.2 i (by omega)
    · refine hc.tp (fdg_frm _ _ _ _ _ _ _) (fdg_o2 (by omega) (by omega) _) ⟨fdg_o hc.2.2.2.1.1 (by omega) 8, fun i hi => ?_⟩
      have hi : i < (zTp σ).1 + 8 := hi
      rw [fdg_a (by omega)]
      show _ = (nI (if (zTp σ).1 ≤ i then B (i - (zTp σ).1) else (zTp σ).2 i)).toInt8.toInt32
      by_cases e : (zTp σ).1 ≤ i
      · rw [if_pos (by omega), if_pos e]
      · rw [if_neg (by omega), if_neg e]; exact hc.2.2.2.1.2 i (by omega)
    · refine h5.tp (fdg_frm _ _ _ _ _ _ _) (fun j hj => fdg_o2 (by omega) hj _) ⟨fdg_o h5.2.2.1.1 (by omega) 8, fun i hi => ?_⟩
      have hi : i < (zTp σ).1 + 8 := hi
      rw [fdg_a (by omega)]
      show _ = nI (if (zTp σ).1 ≤ i then B (i - (zTp σ).1) else (zTp σ).2 i)
      by_cases e : (zTp σ).1 ≤ i
      · rw [if_pos (by omega), if_pos e]
      · rw [if_neg (by omega), if_neg e]; exact h5.2.2.1.2 i (by omega)
  · refine ⟨-3, g, σ, ?_, hv.next, rfl, frm.refl _ _, hc, fun g1 h5 => ⟨g1, ?_, frm.refl _ _, h5⟩⟩
    · show f_X9_feed X x g = _
      unfold f_X9_feed f_X4_append
      rw [hX.re, hc.2.2.2.1.1, e8, if_neg (fun e => h (ele.mp e)), zb_some, b0]
    · show f_X10_feed (X + 53) x g1 = _
      unfold f_X10_feed
      rw [h5.2.2.1.1, e8, if_neg (fun e => h (ele.mp e))])
end OKS10
