section
theorem and_f {k x y a b : Nat} (ha : a < 2 ^ k) (hb : b < 2 ^ k) : (2 ^ k * x + a) &&& (2 ^ k * y + b) = 2 ^ k * (x &&& y) + (a &&& b) := by
  apply bits_eq
  intro i
  have hab : a &&& b < 2 ^ k := Nat.lt_of_le_of_lt Nat.and_le_left ha
  rw [Nat.testBit_and, Nat.testBit_two_pow_mul_add _ ha, Nat.testBit_two_pow_mul_add _ hb, Nat.testBit_two_pow_mul_add _ hab]
  split
  · rw [Nat.testBit_and]
  · rw [Nat.testBit_and]
theorem an6 : ∀ a, a < 6 → ∀ b, b < 6 → 2 ^ a &&& 2 ^ b = if a = b then 2 ^ a else 0 := by decide +kernel
theorem pl_and {a b : Nat} (ha : a < 216) (hb : b < 216) : (2 ^ (a / 36) + 2 ^ (6 + a / 6 % 6) + 2 ^ (12 + a % 6)) &&& (2 ^ (b / 36) + 2 ^ (6 + b / 6 % 6) + 2 ^ (12 + b % 6)) =
    (if a / 36 = b / 36 then 2 ^ (a / 36) else 0) + 64 * (if a / 6 % 6 = b / 6 % 6 then 2 ^ (a / 6 % 6) else 0) + 4096 * (if a % 6 = b % 6 then 2 ^ (a % 6) else 0) := by
  have lt : ∀ i, i < 6 → 2 ^ i < 2 ^ 6 := fun i hi => Nat.pow_lt_pow_right (by decide) hi
  have e : ∀ x y z, 2 ^ x + 2 ^ (6 + y) + 2 ^ (12 + z) = 2 ^ 6 * (2 ^ 6 * 2 ^ z + 2 ^ y) + 2 ^ x := by
    intro x y z
    rw [Nat.pow_add, Nat.pow_add, Nat.mul_add, ← Nat.mul_assoc, ← Nat.pow_add]
    omega
  have x1 : a / 36 < 6 := by omega
  have x2 : a / 6 % 6 < 6 := by omega
  have x3 : a % 6 < 6 := by omega
  have y1 : b / 36 < 6 := by omega
  have y2 : b / 6 % 6 < 6 := by omega
  have y3 : b % 6 < 6 := by omega
  rw [e, e, and_f (lt _ x1) (lt _ y1), and_f (lt _ x2) (lt _ y2), an6 _ x1 _ y1, an6 _ x2 _ y2, an6 _ x3 _ y3]
  omega
theorem bc3 : ∀ p, p < 7 → ∀ q, q < 7 → ∀ r, r < 7 → f_J6_bitCount_0f7a4 (nI ((if p < 6 then 2 ^ p else 0) + 64 * (if q < 6 then 2 ^ q else 0) + 4096 * (if r < 6 then 2 ^ r else 0))) = nI ((if p < 6 then 1 else 0) + (if q < 6 then 1 else 0) + (if r < 6 then 1 else 0)) := by decide +kernel
theorem pl_bc {a b : Nat} (ha : a < 216) (hb : b < 216) : f_J6_bitCount_0f7a4 (plA a &&& plA b) = nI (rtN a b) := by
  unfold plA
  rw [b_nand, pl_and ha hb]
  have s : ∀ x y, x < 6 → (if x = y then 2 ^ x else 0) = (if (if x = y then x else 6) < 6 then 2 ^ (if x = y then x else 6) else 0) ∧ (if x = y then 1 else 0) = (if (if x = y then x else 6) < 6 then 1 else 0) := by
    intro x y hx
    by_cases c : x = y
    · rw [if_pos c, if_pos c, if_pos c, if_pos hx, if_pos hx]; exact ⟨rfl, rfl⟩
    · rw [if_neg c, if_neg c, if_neg c, if_neg (by omega), if_neg (by omega)]; exact ⟨rfl, rfl⟩
  have s1 := s (a / 36) (b / 36) (by omega)
  have s2 := s (a / 6 % 6) (b / 6 % 6) (by omega)
  have s3 := s (a % 6) (b % 6) (by omega)
  unfold rtN
  rw [s1.1, s2.1, s3.1, s1.2, s2.2, s3.2]
  exact bc3 _ (by split <;> omega) _ (by split <;> omega) _ (by split <;> omega)
/-- so many ones, in the field of each -/
def un (c : Nat) : Nat := 2 ^ c - 1
def taN (c0 c1 c2 c3 c4 c5 : Nat) : Nat := 8 * (8 * (8 * (8 * (8 * un c5 + un c4) + un c3) + un c2) + un c1) + un c0
theorem ta_ok : ∀ n, n < 216 → taA n = nI (taN (plC 0 n) (plC 1 n) (plC 2 n) (plC 3 n) (plC 4 n) (plC 5 n)) := by decide +kernel
theorem un_and : ∀ a, a < 4 → ∀ b, b < 4 → un a &&& un b = un (min a b) ∧ un a < 2 ^ 3 := by decide +kernel
theorem ta_and {a0 a1 a2 a3 a4 a5 b0 b1 b2 b3 b4 b5 : Nat} (h0 : a0 < 4) (h1 : a1 < 4) (h2 : a2 < 4) (h3 : a3 < 4) (h4 : a4 < 4) (h5 : a5 < 4) (g0 : b0 < 4) (g1 : b1 < 4) (g2 : b2 < 4) (g3 : b3 < 4) (g4 : b4 < 4) (g5 : b5 < 4) :
    taN a0 a1 a2 a3 a4 a5 &&& taN b0 b1 b2 b3 b4 b5 = taN (min a0 b0) (min a1 b1) (min a2 b2) (min a3 b3) (min a4 b4) (min a5 b5) := by
  unfold taN
  have l : ∀ a, a < 4 → un a < 2 ^ 3 := fun a h => (un_and a h 0 (by omega)).2
  have e : (8 : Nat) = 2 ^ 3 := rfl
  rw [e, and_f (l _ h0) (l _ g0), and_f (l _ h1) (l _ g1), and_f (l _ h2) (l _ g2), and_f (l _ h3) (l _ g3), and_f (l _ h4) (l _ g4), (un_and _ h0 _ g0).1, (un_and _ h1 _ g1).1, (un_and _ h2 _ g2).1, (un_and _ h3 _ g3).1, (un_and _ h4 _ g4).1, (un_and _ h5 _ g5).1]
theorem bcT : ∀ a, a < 4 → ∀ b, b < 4 - a → ∀ c, c < 4 - a - b → ∀ d, d < 4 - a - b - c → ∀ e, e < 4 - a - b - c - d → ∀ f, f < 4 - a - b - c - d - e → f_J6_bitCount_0f7a4 (nI (taN a b c d e f)) = nI (a + b + c + d + e + f) := by decide +kernel
theorem plC_3 : ∀ n, n < 216 → plC 0 n + plC 1 n + plC 2 n + plC 3 n + plC 4 n + plC 5 n = 3 := by decide +kernel
theorem ta_bc {a b : Nat} (ha : a < 216) (hb : b < 216) : f_J6_bitCount_0f7a4 (taA a &&& taA b) = nI (alN a b) := by
  have h1 := plC_3 a ha
  have h2 := plC_3 b hb
  rw [ta_ok a ha, ta_ok b hb, b_nand, ta_and (by omega) (by omega) (by omega) (by omega) (by omega) (by omega) (by omega) (by omega) (by omega) (by omega) (by omega) (by omega)]
  exact bcT _ (by omega) _ (by omega) _ (by omega) _ (by omega) _ (by omega) _ (by omega)
theorem one6 : ∀ x, x < 6 → ∀ y, y < 6 → (if x = y then 1 else 0) = (if x = 0 ∧ y = 0 then 1 else 0) + (if x = 1 ∧ y = 1 then 1 else 0) + (if x = 2 ∧ y = 2 then 1 else 0) + (if x = 3 ∧ y = 3 then 1 else 0) + (if x = 4 ∧ y = 4 then 1 else 0) + (if x = 5 ∧ y = 5 then 1 else 0) := by decide +kernel
theorem two_le {x y d : Nat} : (if x = d ∧ y = d then 1 else 0) ≤ (if x = d then 1 else 0) ∧ (if x = d ∧ y = d then 1 else 0) ≤ (if y = d then 1 else 0) := by
  by_cases h1 : x = d <;> by_cases h2 : y = d <;> simp [h1, h2]
theorem mt_le {a b d : Nat} : (if a / 36 = d ∧ b / 36 = d then 1 else 0) + (if a / 6 % 6 = d ∧ b / 6 % 6 = d then 1 else 0) + (if a % 6 = d ∧ b % 6 = d then 1 else 0) ≤ min (plC d a) (plC d b) := by
  have h1 := two_le (x := a / 36) (y := b / 36) (d := d)
  have h2 := two_le (x := a / 6 % 6) (y := b / 6 % 6) (d := d)
  have h3 := two_le (x := a % 6) (y := b % 6) (d := d)
  unfold plC
  omega
theorem rt_al {a b : Nat} (ha : a < 216) (hb : b < 216) : rtN a b ≤ alN a b ∧ alN a b ≤ 3 := by
  have h1 := plC_3 a ha
  constructor
  · unfold rtN alN
    rw [one6 (a / 36) (by omega) (b / 36) (by omega), one6 (a / 6 % 6) (by omega) (b / 6 % 6) (by omega), one6 (a % 6) (by omega) (b % 6) (by omega)]
    have m0 := mt_le (a := a) (b := b) (d := 0)
    have m1 := mt_le (a := a) (b := b) (d := 1)
    have m2 := mt_le (a := a) (b := b) (d := 2)
    have m3 := mt_le (a := a) (b := b) (d := 3)
    have m4 := mt_le (a := a) (b := b) (d := 4)
    have m5 := mt_le (a := a) (b := b) (d := 5)
    omega
  · unfold alN; omega
theorem told_ok {G a b : Nat} {μ : Mem} (P : ∀ r, r < 216 → μ 106 r = plA r ∧ μ 107 r = taA r) (ha : a < 216) (hb : b < 216) : f_X4_told G μ (nI a) (nI b) = some (nI (t5 a b)) := by
  unfold f_X4_told t5
  rw [chkn ha (by omega), chkn hb (by omega), chkn ha (by omega), chkn hb (by omega), ixn (by omega), ixn (by omega), (P a ha).1, (P b hb).1, (P a ha).2, (P b hb).2, pl_bc ha hb, ta_bc ha hb, show (4 : Int32) = nI 4 from rfl, pk_mul, nI_add]
end
