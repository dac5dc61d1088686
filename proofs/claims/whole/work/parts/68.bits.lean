-- ===== counting bits =====
def rep8 (m : Nat) : Nat → Nat
  | 0 => 0
  | n + 1 => m + 256 * rep8 m n
theorem and_split {a m : Nat} (ha : a < 256) (hm : m < 256) (y M : Nat) : (a + 256 * y) &&& (m + 256 * M) = (a &&& m) + 256 * (y &&& M) := by
  have hlt : a &&& m < 2 ^ 8 := Nat.lt_of_le_of_lt Nat.and_le_left ha
  rw [Nat.add_comm a, Nat.add_comm m, Nat.add_comm (a &&& m)]
  apply Nat.eq_of_testBit_eq
  intro i
  rw [Nat.testBit_and, show (256 : Nat) = 2 ^ 8 from rfl, Nat.testBit_two_pow_mul_add _ (show a < 2 ^ 8 from ha), Nat.testBit_two_pow_mul_add _ (show m < 2 ^ 8 from hm), Nat.testBit_two_pow_mul_add _ hlt]
  by_cases h : i < 8
  · rw [if_pos h, if_pos h, if_pos h, Nat.testBit_and]
  · rw [if_neg h, if_neg h, if_neg h, Nat.testBit_and]
def sw1 (n x : Nat) : Nat := x - ((x / 2) &&& rep8 0x55 n)
def sw2 (n x : Nat) : Nat := (x &&& rep8 0x33 n) + ((x / 4) &&& rep8 0x33 n)
def sw3 (n x : Nat) : Nat := (x + x / 16) &&& rep8 0x0f n
def F1 (b : Nat) : Nat := b - ((b / 2) &&& 0x55)
def F2 (b : Nat) : Nat := (b &&& 0x33) + ((b / 4) &&& 0x33)
def F3 (b : Nat) : Nat := (b + b / 16) &&& 0x0f
theorem f1a : ∀ b, b < 256 → ∀ k, k < 2 → (b / 2 + 128 * k) &&& 0x55 = (b / 2) &&& 0x55 := by decide +kernel
theorem f2a : ∀ b, b < 256 → ∀ k, k < 4 → (b / 4 + 64 * k) &&& 0x33 = (b / 4) &&& 0x33 := by decide +kernel
theorem f3a : ∀ b, b < 69 → ∀ k, k < 5 → (b + b / 16 + 16 * k) &&& 0x0f = (b + b / 16) &&& 0x0f := by decide +kernel
theorem f1b : ∀ b, b < 256 → (b / 2) &&& 0x55 ≤ b := by decide +kernel
theorem f12 : ∀ b, b < 256 → F1 b < 256 ∧ F2 (F1 b) < 69 ∧ F2 (F1 b) % 16 < 5 ∧ F3 (F2 (F1 b)) ≤ 8 := by decide +kernel
theorem f3c : ∀ b, b < 256 → cw (fun k => b.testBit k) 8 = F3 (F2 (F1 b)) := by decide +kernel
theorem f2c : ∀ b, b < 256 → F2 b < 256 := by decide +kernel
theorem sw1_s (n b y : Nat) (hb : b < 256) : sw1 (n + 1) (b + 256 * y) = F1 b + 256 * sw1 n y := by
  unfold sw1 F1
  rw [show rep8 0x55 (n + 1) = 0x55 + 256 * rep8 0x55 n from rfl, show (b + 256 * y) / 2 = (b / 2 + 128 * (y % 2)) + 256 * (y / 2) by omega, and_split (by omega) (by omega), f1a b hb (y % 2) (by omega)]
  have h1 := f1b b hb
  have h2 : (y / 2) &&& rep8 0x55 n ≤ y / 2 := Nat.and_le_left
  omega
theorem sw2_s (n b y : Nat) (hb : b < 256) : sw2 (n + 1) (b + 256 * y) = F2 b + 256 * sw2 n y := by
  unfold sw2 F2
  rw [show rep8 0x33 (n + 1) = 0x33 + 256 * rep8 0x33 n from rfl, show (b + 256 * y) / 4 = (b / 4 + 64 * (y % 4)) + 256 * (y / 4) by omega, and_split (by omega) (by omega), and_split (by omega) (by omega), f2a b hb (y % 4) (by omega)]
  omega
theorem sw3_s (n b y : Nat) (hb : b < 69) (hy : y % 16 < 5) : sw3 (n + 1) (b + 256 * y) = F3 b + 256 * sw3 n y := by
  unfold sw3 F3
  rw [show rep8 0x0f (n + 1) = 0x0f + 256 * rep8 0x0f n from rfl, show b + 256 * y + (b + 256 * y) / 16 = (b + b / 16 + 16 * (y % 16)) + 256 * (y + y / 16) by omega, and_split (by omega) (by omega), f3a b hb (y % 16) hy]
/-- the three first steps, byte by byte -/
theorem sw_s (n b y : Nat) (hb : b < 256) : sw3 (n + 1) (sw2 (n + 1) (sw1 (n + 1) (b + 256 * y))) = F3 (F2 (F1 b)) + 256 * sw3 n (sw2 n (sw1 n y)) ∧ sw2 (n + 1) (sw1 (n + 1) (b + 256 * y)) % 16 < 5 := by
  obtain ⟨h1, h2, h3, h4⟩ := f12 b hb
  rw [sw1_s n b y hb, sw2_s n _ _ h1]
  have hy : sw2 n (sw1 n y) % 16 < 5 := by
    cases n with
    | zero =>
      unfold sw2
      rw [show rep8 0x33 0 = 0 from rfl, Nat.and_zero, Nat.and_zero]; decide
    | succ n =>
      rw [show y = y % 256 + 256 * (y / 256) by omega, sw1_s n _ _ (by omega)]
      obtain ⟨g1, g2, g3, g4⟩ := f12 (y % 256) (by omega)
      rw [sw2_s n _ _ g1]
      omega
  exact ⟨sw3_s n _ _ h2 hy, by omega⟩
theorem cw_add (f : Nat → Bool) (a m : Nat) : cw f (a + m) = cw f a + cw (fun k => f (a + k)) m := by
  induction m with
  | zero => rfl
  | succ m ih => rw [← Nat.add_assoc, cw, cw, ih, Nat.add_assoc]
theorem cw_byte (b y m : Nat) (hb : b < 256) : cw (fun k => (b + 256 * y).testBit k) (8 + m) = F3 (F2 (F1 b)) + cw (fun k => y.testBit k) m := by
  rw [cw_add, ← f3c b hb]
  congr 1
  · apply cw_same
    intro i hi
    rw [Nat.add_comm, show (256 : Nat) = 2 ^ 8 from rfl, Nat.testBit_two_pow_mul_add _ (show b < 2 ^ 8 from hb), if_pos hi]
  · apply cw_same
    intro i hi
    rw [Nat.add_comm, show (256 : Nat) = 2 ^ 8 from rfl, Nat.testBit_two_pow_mul_add _ (show b < 2 ^ 8 from hb), if_neg (by omega), show 8 + i - 8 = i by omega]
theorem sw_four {x : Nat} (hx : x < 4294967296) : ∃ p0 p1 p2 p3, sw3 4 (sw2 4 (sw1 4 x)) = p0 + 256 * (p1 + 256 * (p2 + 256 * p3)) ∧ p0 ≤ 8 ∧ p1 ≤ 8 ∧ p2 ≤ 8 ∧ p3 ≤ 8 ∧ cw (fun k => x.testBit k) 32 = p0 + p1 + p2 + p3 := by
  obtain ⟨b0, y0, h0, e0⟩ : ∃ b y, b < 256 ∧ x = b + 256 * y := ⟨x % 256, x / 256, by omega, by omega⟩
  obtain ⟨b1, y1, h1, e1⟩ : ∃ b y, b < 256 ∧ y0 = b + 256 * y := ⟨y0 % 256, y0 / 256, by omega, by omega⟩
  obtain ⟨b2, y2, h2, e2⟩ : ∃ b y, b < 256 ∧ y1 = b + 256 * y := ⟨y1 % 256, y1 / 256, by omega, by omega⟩
  have h3 : y2 < 256 := by omega
  refine ⟨_, _, _, _, ?_, (f12 b0 h0).2.2.2, (f12 b1 h1).2.2.2, (f12 b2 h2).2.2.2, (f12 y2 h3).2.2.2, ?_⟩
  · rw [e0, (sw_s 3 b0 y0 h0).1, e1, (sw_s 2 b1 y1 h1).1, e2, (sw_s 1 b2 y2 h2).1]
    have := (sw_s 0 y2 0 h3).1
    rw [Nat.mul_zero] at this
    rw [show sw3 1 (sw2 1 (sw1 1 y2)) = F3 (F2 (F1 y2)) + 256 * sw3 0 (sw2 0 (sw1 0 0)) from this]
    rfl
  · rw [e0, cw_byte b0 y0 24 h0, e1, cw_byte b1 y1 16 h1, e2, cw_byte b2 y2 8 h2]
    have := cw_byte y2 0 0 h3
    rw [Nat.mul_zero, Nat.add_zero] at this
    rw [this]
    show _ + (_ + (_ + (_ + 0))) = _
    omega
theorem sw_eight {x : Nat} (hx : x < 18446744073709551616) : ∃ p0 p1 p2 p3 p4 p5 p6 p7, sw3 8 (sw2 8 (sw1 8 x)) = p0 + 256 * (p1 + 256 * (p2 + 256 * (p3 + 256 * (p4 + 256 * (p5 + 256 * (p6 + 256 * p7)))))) ∧ (p0 ≤ 8 ∧ p1 ≤ 8 ∧ p2 ≤ 8 ∧ p3 ≤ 8) ∧ (p4 ≤ 8 ∧ p5 ≤ 8 ∧ p6 ≤ 8 ∧ p7 ≤ 8) ∧ cw (fun k => x.testBit k) 64 = p0 + p1 + p2 + p3 + (p4 + p5 + p6 + p7) := by
  obtain ⟨b0, y0, h0, e0⟩ : ∃ b y, b < 256 ∧ x = b + 256 * y := ⟨x % 256, x / 256, by omega, by omega⟩
  obtain ⟨b1, y1, h1, e1⟩ : ∃ b y, b < 256 ∧ y0 = b + 256 * y := ⟨y0 % 256, y0 / 256, by omega, by omega⟩
  obtain ⟨b2, y2, h2, e2⟩ : ∃ b y, b < 256 ∧ y1 = b + 256 * y := ⟨y1 % 256, y1 / 256, by omega, by omega⟩
  obtain ⟨b3, y3, h3, e3⟩ : ∃ b y, b < 256 ∧ y2 = b + 256 * y := ⟨y2 % 256, y2 / 256, by omega, by omega⟩
  have hy3 : y3 < 4294967296 := by omega
  obtain ⟨p4, p5, p6, p7, k1, k2, k3, k4, k5, k6⟩ := sw_four hy3
  refine ⟨_, _, _, _, p4, p5, p6, p7, ?_, ⟨(f12 b0 h0).2.2.2, (f12 b1 h1).2.2.2, (f12 b2 h2).2.2.2, (f12 b3 h3).2.2.2⟩, ⟨k2, k3, k4, k5⟩, ?_⟩
  · rw [e0, (sw_s 7 b0 y0 h0).1, e1, (sw_s 6 b1 y1 h1).1, e2, (sw_s 5 b2 y2 h2).1, e3, (sw_s 4 b3 y3 h3).1, k1]
  · rw [e0, cw_byte b0 y0 56 h0, e1, cw_byte b1 y1 48 h1, e2, cw_byte b2 y2 40 h2, e3, cw_byte b3 y3 32 h3, k6]
    omega
theorem fold4 {p0 p1 p2 p3 : Nat} (h0 : p0 ≤ 8) (h1 : p1 ≤ 8) (h2 : p2 ≤ 8) (h3 : p3 ≤ 8) (v : Nat) (hv : v = p0 + 256 * (p1 + 256 * (p2 + 256 * p3))) : (v + v / 256 + (v + v / 256) / 65536) % 64 = p0 + p1 + p2 + p3 := by
  have e1 : v / 256 = p1 + 256 * (p2 + 256 * p3) := by omega
  have e2 : (v + v / 256) / 65536 = (p2 + p3) + 256 * p3 := by omega
  have e3 : v + v / 256 + (v + v / 256) / 65536 = (p0 + p1 + p2 + p3) + 64 * (4 * (p1 + 256 * (p2 + 256 * p3)) + 4 * (p2 + 256 * p3) + 4 * p3) := by omega
  rw [e3, Nat.add_mul_mod_self_left, Nat.mod_eq_of_lt (by omega)]
theorem fold8 {p0 p1 p2 p3 p4 p5 p6 p7 : Nat} (h0 : p0 ≤ 8) (h1 : p1 ≤ 8) (h2 : p2 ≤ 8) (h3 : p3 ≤ 8) (h4 : p4 ≤ 8) (h5 : p5 ≤ 8) (h6 : p6 ≤ 8) (h7 : p7 ≤ 8) (v w1 w2 w3 : Nat) (hv : v = p0 + 256 * (p1 + 256 * (p2 + 256 * (p3 + 256 * (p4 + 256 * (p5 + 256 * (p6 + 256 * p7))))))) (e1 : w1 = v + v / 256) (e2 : w2 = w1 + w1 / 65536) (e3 : w3 = w2 + w2 / 4294967296) : w3 % 128 = p0 + p1 + p2 + p3 + (p4 + p5 + p6 + p7) ∧ v < 2000000000000000000 ∧ w1 < 2000000000000000000 ∧ w2 < 2000000000000000000 ∧ w3 < 2000000000000000000 := by
  have q1 : v / 256 = p1 + 256 * (p2 + 256 * (p3 + 256 * (p4 + 256 * (p5 + 256 * (p6 + 256 * p7))))) := by omega
  have w1e : w1 = (p0 + p1) + 256 * ((p1 + p2) + 256 * ((p2 + p3) + 256 * ((p3 + p4) + 256 * ((p4 + p5) + 256 * ((p5 + p6) + 256 * ((p6 + p7) + 256 * p7)))))) := by omega
  clear hv q1
  have q2 : w1 / 65536 = (p2 + p3) + 256 * ((p3 + p4) + 256 * ((p4 + p5) + 256 * ((p5 + p6) + 256 * ((p6 + p7) + 256 * p7)))) := by omega
  have hv' : v ≤ w1 := by omega
  have w2e : w2 = (p0 + p1 + p2 + p3) + 256 * ((p1 + p2 + p3 + p4) + 256 * ((p2 + p3 + p4 + p5) + 256 * ((p3 + p4 + p5 + p6) + 256 * ((p4 + p5 + p6 + p7) + 256 * ((p5 + p6 + p7) + 256 * ((p6 + p7) + 256 * p7)))))) := by omega
  have hw1 : w1 ≤ w2 := by omega
  clear q2 w1e e1 e2
  have q3 : w2 / 4294967296 = (p4 + p5 + p6 + p7) + 256 * ((p5 + p6 + p7) + 256 * ((p6 + p7) + 256 * p7)) := by omega
  refine ⟨?_, by omega, by omega, by omega, by omega⟩
  have w3e : w3 = (p0 + p1 + p2 + p3 + (p4 + p5 + p6 + p7)) + 128 * (2 * ((p1 + p2 + p3 + p4) + 256 * ((p2 + p3 + p4 + p5) + 256 * ((p3 + p4 + p5 + p6) + 256 * ((p4 + p5 + p6 + p7) + 256 * ((p5 + p6 + p7) + 256 * ((p6 + p7) + 256 * p7)))))) + 2 * ((p5 + p6 + p7) + 256 * ((p6 + p7) + 256 * p7))) := by omega
  rw [w3e, Nat.add_mul_mod_self_left, Nat.mod_eq_of_lt (by omega)]
theorem nI_and (a b : Nat) : nI a &&& nI b = nI (a &&& b) := by
  apply Int32.toBitVec_inj.mp
  show BitVec.ofNat 32 a &&& BitVec.ofNat 32 b = BitVec.ofNat 32 (a &&& b)
  rw [BitVec.ofNat_and]
theorem nI_or (a b : Nat) : nI a ||| nI b = nI (a ||| b) := by
  apply Int32.toBitVec_inj.mp
  show BitVec.ofNat 32 a ||| BitVec.ofNat 32 b = BitVec.ofNat 32 (a ||| b)
  rw [BitVec.ofNat_or]
theorem zus {n k : Nat} (hn : n < 4294967296) (s : Int32) (hs : ((s.toUInt32 &&& Int32.toUInt32 31).toBitVec % 32).toNat = k) : zushr (nI n) s = nI (n / 2 ^ k) := pk_ushrN (by simpa using hn) s k hs
theorem j_bits {x : Nat} (hx : x < 4294967296) (g : zG) : f_J6_bitCount_0f7a4 (nI x) g = some (nI (cw (fun k => x.testBit k) 32), g) := by
  obtain ⟨p0, p1, p2, p3, k1, k2, k3, k4, k5, k6⟩ := sw_four hx
  have a1 : sw1 4 x = x - (x / 2 &&& 1431655765) := rfl
  have a2 : ∀ v, sw2 4 v = (v &&& 858993459) + (v / 4 &&& 858993459) := fun v => rfl
  have a3 : ∀ v, sw3 4 v = (v + v / 16) &&& 252645135 := fun v => rfl
  have l1 : x / 2 &&& 1431655765 ≤ x := Nat.le_trans Nat.and_le_left (by omega)
  have b1 : sw1 4 x < 4294967296 := by omega
  have b2 : sw2 4 (sw1 4 x) < 4294967296 := by
    rw [a2]
    have e1 : (sw1 4 x) &&& 858993459 ≤ 858993459 := Nat.and_le_right
    have e2 : (sw1 4 x) / 4 &&& 858993459 ≤ 858993459 := Nat.and_le_right
    omega
  have hf := fold4 k2 k3 k4 k5 _ k1
  unfold f_J6_bitCount_0f7a4
  simp only [zl_eq]
  rw [show (1431655765 : Int32) = nI 1431655765 from rfl, show (858993459 : Int32) = nI 858993459 from rfl, show (252645135 : Int32) = nI 252645135 from rfl, show (63 : Int32) = nI 63 from rfl]
  rw [zus (k := 1) hx 1 (by decide), nI_and, pk_sub (show x / 2 ^ 1 &&& 1431655765 ≤ x from l1), show x - (x / 2 ^ 1 &&& 1431655765) = sw1 4 x from rfl]
  rw [zus (k := 2) b1 2 (by decide), nI_and, nI_and, nI_add, show (sw1 4 x &&& 858993459) + (sw1 4 x / 2 ^ 2 &&& 858993459) = sw2 4 (sw1 4 x) from rfl]
  rw [zus (k := 4) b2 4 (by decide), nI_add, nI_and, show sw2 4 (sw1 4 x) + sw2 4 (sw1 4 x) / 2 ^ 4 &&& 252645135 = sw3 4 (sw2 4 (sw1 4 x)) from rfl]
  rw [k1] at hf ⊢
  generalize hv : p0 + 256 * (p1 + 256 * (p2 + 256 * p3)) = v at *
  have bv : v < 1000000000 := by omega
  rw [zus (k := 8) (by omega) 8 (by decide), nI_add, zus (k := 16) (by omega) 16 (by decide), nI_add, nI_and]
  rw [k6, ← hf]
  congr 3
  exact Nat.and_two_pow_sub_one_eq_mod _ 6
theorem lN_and (a b : Nat) : lN a &&& lN b = lN (a &&& b) := by
  apply Int64.toBitVec_inj.mp
  show BitVec.ofNat 64 a &&& BitVec.ofNat 64 b = BitVec.ofNat 64 (a &&& b)
  rw [BitVec.ofNat_and]
theorem lN_or (a b : Nat) : lN a ||| lN b = lN (a ||| b) := by
  apply Int64.toBitVec_inj.mp
  show BitVec.ofNat 64 a ||| BitVec.ofNat 64 b = BitVec.ofNat 64 (a ||| b)
  rw [BitVec.ofNat_or]
theorem lN_plus (a b : Nat) : lN a + lN b = lN (a + b) := (Int64.ofNat_add a b).symm
theorem lN_minus {a b : Nat} (h : b ≤ a) : lN a - lN b = lN (a - b) := by
  have := lN_plus (a - b) b
  rw [Nat.sub_add_cancel h] at this
  rw [← this, Int64.add_sub_cancel]
theorem zlus {n k : Nat} (hn : n < 18446744073709551616) (s : Int32) (hs : ((s.toInt64.toUInt64 &&& Int64.toUInt64 63).toBitVec % 64).toNat = k) : zlushr (lN n) s = lN (n / 2 ^ k) := by
  apply Int64.toBitVec_inj.mp
  apply BitVec.eq_of_toNat_eq
  unfold zlushr
  show (((lN n).toUInt64 >>> (s.toInt64.toUInt64 &&& Int64.toUInt64 63)).toBitVec).toNat = (BitVec.ofNat 64 (n / 2 ^ k)).toNat
  rw [UInt64.toBitVec_shiftRight, BitVec.toNat_ofNat]
  show ((BitVec.ofNat 64 n) >>> ((s.toInt64.toUInt64 &&& Int64.toUInt64 63).toBitVec % 64)).toNat = _
  rw [BitVec.ushiftRight_eq', hs, BitVec.toNat_ushiftRight, BitVec.toNat_ofNat, Nat.shiftRight_eq_div_pow, Nat.mod_eq_of_lt (a := n) (by simpa using hn), Nat.mod_eq_of_lt]
  exact Nat.lt_of_le_of_lt (Nat.div_le_self _ _) (by simpa using hn)
theorem j_long {x : Nat} (hx : x < 18446744073709551616) (g : zG) : f_J13_bitCount_95d88 (lN x) g = some (nI (cw (fun k => x.testBit k) 64), g) := by
  obtain ⟨p0, p1, p2, p3, p4, p5, p6, p7, k1, ⟨k2, k3, k4, k5⟩, ⟨q2, q3, q4, q5⟩, k6⟩ := sw_eight hx
  have l1 : x / 2 &&& 6148914691236517205 ≤ x := Nat.le_trans Nat.and_le_left (by omega)
  have b1 : sw1 8 x < 18446744073709551616 := by
    rw [show sw1 8 x = x - (x / 2 &&& 6148914691236517205) from rfl]; omega
  have b2 : sw2 8 (sw1 8 x) < 18446744073709551616 := by
    rw [show sw2 8 (sw1 8 x) = (sw1 8 x &&& 3689348814741910323) + (sw1 8 x / 4 &&& 3689348814741910323) from rfl]
    have e1 : (sw1 8 x) &&& 3689348814741910323 ≤ 3689348814741910323 := Nat.and_le_right
    have e2 : (sw1 8 x) / 4 &&& 3689348814741910323 ≤ 3689348814741910323 := Nat.and_le_right
    omega
  unfold f_J13_bitCount_95d88
  simp only [zl_eq]
  rw [show (6148914691236517205 : Int64) = lN 6148914691236517205 from rfl, show (3689348814741910323 : Int64) = lN 3689348814741910323 from rfl, show (1085102592571150095 : Int64) = lN 1085102592571150095 from rfl]
  rw [zlus (k := 1) hx 1 (by decide), lN_and, lN_minus (show x / 2 ^ 1 &&& 6148914691236517205 ≤ x from l1), show x - (x / 2 ^ 1 &&& 6148914691236517205) = sw1 8 x from rfl]
  rw [zlus (k := 2) b1 2 (by decide), lN_and, lN_and, lN_plus, show (sw1 8 x &&& 3689348814741910323) + (sw1 8 x / 2 ^ 2 &&& 3689348814741910323) = sw2 8 (sw1 8 x) from rfl]
  rw [zlus (k := 4) b2 4 (by decide), lN_plus, lN_and, show sw2 8 (sw1 8 x) + sw2 8 (sw1 8 x) / 2 ^ 4 &&& 1085102592571150095 = sw3 8 (sw2 8 (sw1 8 x)) from rfl]
  obtain ⟨h1, h2, h3, h4, h5⟩ := fold8 k2 k3 k4 k5 q2 q3 q4 q5 _ _ _ _ k1 rfl rfl rfl
  generalize sw3 8 (sw2 8 (sw1 8 x)) = v at *
  rw [zlus (k := 8) (by omega) 8 (by decide), lN_plus, show (2 : Nat) ^ 8 = 256 from rfl, zlus (k := 16) (by omega) 16 (by decide), lN_plus, show (2 : Nat) ^ 16 = 65536 from rfl, zlus (k := 32) (by omega) 32 (by decide), lN_plus, show (2 : Nat) ^ 32 = 4294967296 from rfl]
  rw [k6, ← h1]
  generalize v + v / 256 + (v + v / 256) / 65536 + (v + v / 256 + (v + v / 256) / 65536) / 4294967296 = w at *
  rw [show (127 : Int32) = nI 127 from rfl]
  congr 2
  apply Int32.toBitVec_inj.mp
  show ((BitVec.ofNat 64 w).signExtend 32) &&& BitVec.ofNat 32 127 = BitVec.ofNat 32 (w % 128)
  apply BitVec.eq_of_toNat_eq
  rw [BitVec.toNat_and, BitVec.signExtend_eq_setWidth_of_le _ (by decide), BitVec.toNat_setWidth, BitVec.toNat_ofNat, BitVec.toNat_ofNat, BitVec.toNat_ofNat]
  rw [show (127 % 2 ^ 32 : Nat) = 2 ^ 7 - 1 from rfl, Nat.and_two_pow_sub_one_eq_mod]
  omega
