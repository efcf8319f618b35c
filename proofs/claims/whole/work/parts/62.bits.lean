section
/-! bits -/
theorem b_s_l : ∀ n, n < 32 → ((nI n &&& 31).toBitVec.smod 32).toNat = n := by decide +kernel
theorem b_nor (a b : Nat) : nI a ||| nI b = nI (a ||| b) := by
  apply Int32.toBitVec_inj.mp
  rw [Int32.toBitVec_or]
  show BitVec.ofNat 32 a ||| BitVec.ofNat 32 b = BitVec.ofNat 32 (a ||| b)
  exact BitVec.ofNat_or.symm
theorem b_nand (a b : Nat) : nI a &&& nI b = nI (a &&& b) := by
  apply Int32.toBitVec_inj.mp
  rw [Int32.toBitVec_and]
  show BitVec.ofNat 32 a &&& BitVec.ofNat 32 b = BitVec.ofNat 32 (a &&& b)
  exact BitVec.ofNat_and.symm
theorem b_nxor (a b : Nat) : nI a ^^^ nI b = nI (a ^^^ b) := by
  apply Int32.toBitVec_inj.mp
  rw [Int32.toBitVec_xor]
  show BitVec.ofNat 32 a ^^^ BitVec.ofNat 32 b = BitVec.ofNat 32 (a ^^^ b)
  exact BitVec.ofNat_xor.symm
theorem sl1 {w : Nat} (h : w < 31) : sl (nI 1) (nI w) = nI (2 ^ w) := by
  unfold sl
  rw [pk_shlN (nI w &&& 31) w (b_s_l w (by omega)) (by rw [Nat.one_mul]; exact Nat.pow_lt_pow_right (by decide) (by omega)), Nat.one_mul]
theorem srn {a w : Nat} (ha : a < 2 ^ 31) (hw : w < 32) : sr (nI a) (nI w) = nI (a / 2 ^ w) := by
  unfold sr
  exact pk_shrN ha (nI w &&& 31) w (b_s_l w hw)
theorem hasn {a w : Nat} (ha : a < 2 ^ 31) (hw : w < 32) : f_X11_has (nI a) (nI w) = if a.testBit w = true then nI 1 else nI 0 := by
  unfold f_X11_has
  rw [srn ha hw, pk_andN (k := 1) (by have := Nat.div_le_self a (2 ^ w); omega) rfl, Nat.testBit_eq_decide_div_mod_eq]
  rcases (by omega : a / 2 ^ w % 2 = 0 ∨ a / 2 ^ w % 2 = 1) with h | h
  · rw [h]; rfl
  · rw [h]; rfl
/-- a without b -/
def wo (a b : Nat) : Nat := a &&& (b ^^^ 4294967295)
theorem won {a b : Nat} : nI a &&& (nI b ^^^ nI 4294967295) = nI (wo a b) := by
  rw [b_nxor, b_nand]; rfl
theorem wo_le {a b : Nat} : wo a b ≤ a := Nat.and_le_left
theorem wo_bit {a b i : Nat} (hi : i < 32) : (wo a b).testBit i = (a.testBit i && !b.testBit i) := by
  unfold wo
  rw [Nat.testBit_and, Nat.testBit_xor, show (4294967295 : Nat) = 2 ^ 32 - 1 from rfl, Nat.testBit_two_pow_sub_one]
  simp [hi]
theorem or_lt {a b k : Nat} (ha : a < 2 ^ k) (hb : b < 2 ^ k) : a ||| b < 2 ^ k := Nat.or_lt_two_pow ha hb
theorem pw_lt {w k : Nat} (h : w < k) : 2 ^ w < 2 ^ k := Nat.pow_lt_pow_right (by decide) h
theorem pw_31 {w : Nat} (h : w ≤ 30) : 2 ^ w < 2 ^ 31 := Nat.pow_lt_pow_right (by decide) (by omega)
theorem pw_bit {w i : Nat} : (2 ^ w).testBit i = decide (w = i) := Nat.testBit_two_pow
theorem bit_ge {a k i : Nat} (h : a < 2 ^ k) (hi : k ≤ i) : a.testBit i = false := Nat.testBit_lt_two_pow (Nat.lt_of_lt_of_le h (Nat.pow_le_pow_right (by decide) hi))
theorem bits_eq {a b : Nat} (h : ∀ i, a.testBit i = b.testBit i) : a = b := Nat.eq_of_testBit_eq h
end
