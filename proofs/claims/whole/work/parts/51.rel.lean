section
/-! THE RELATION of the two memories: μ the class's (church at b: 1, the image's at 112), ρ the reference's -/
/-- a standing at s and a row of 49 from o on; n: how many lines the book has -/
def StR (μ : Mem) (s : Nat) (n : Int32) (r : Nat → Int32) (o : Nat) : Prop :=
  μ s 5 = r o ∧ μ s 8 = r (o + 1) ∧ n = r (o + 2) ∧ μ s 6 = r (o + 3) ∧ μ s 7 = r (o + 4) ∧
  (∀ k, k < 12 → μ (s + 1) k + 1 = r (o + 5 + k)) ∧ (∀ k, k < 8 → μ (s + 2) k + 1 = r (o + 17 + k)) ∧ (∀ k, k < 8 → μ (s + 3) k = r (o + 25 + k)) ∧
  (∀ k, k < 8 → μ (s + 4) k = r (o + 33 + k)) ∧ (∀ k, k < 8 → μ (s + 5) k = r (o + 41 + k))
/-- what such a row holds, with W women and M men -/
def StI (W M : Nat) (r : Nat → Int32) (o : Nat) : Prop :=
  (∃ n, n ≤ 150 ∧ r (o + 2) = nI n) ∧ (∃ c, c < 2 ^ W ∧ r (o + 4) = nI c) ∧ (∀ w, w < 12 → W ≤ w → r (o + 5 + w) = 0) ∧
  (∀ g, g < 8 → ∃ w, w ≤ W ∧ r (o + 17 + g) = nI w ∧ (M ≤ g → w = 0)) ∧ (∀ g, g < 8 → M ≤ g → r (o + 25 + g) = 0) ∧
  (∀ g, g < 8 → ∃ k, k ≤ 20 ∧ r (o + 33 + g) = nI k ∧ (M ≤ g → k = 0)) ∧ (∀ g, g < 8 → M ≤ g → r (o + 41 + g) = 0)
def PpR (b : Nat) (μ ρ : Mem) (W M : Nat) : Prop :=
  μ b 6 = nI W ∧ ρ 0 6 = nI W ∧ W ≤ 12 ∧ μ b 7 = nI M ∧ ρ 0 7 = nI M ∧ M ≤ 8 ∧ (∀ k, k < 12 → μ (b + 7) k = ρ 4 k) ∧ (∀ k, k < 12 → μ (b + 8) k = ρ 5 k) ∧ (∀ k, k < 12 → μ (b + 9) k = ρ 6 k) ∧
  (∀ k, k < 8 → μ (b + 10) k = ρ 7 k) ∧ (∀ k, k < 8 → μ (b + 11) k = ρ 8 k) ∧ (∀ g, g < M → ∃ w, w < W ∧ ρ 8 g = nI w)
/-- a Lines object at a: most, width, and it has n lines -/
def LnR (μ : Mem) (a most width n : Nat) : Prop := μ a 0 = nI most ∧ μ a 1 = nI width ∧ μ a 3 = nI n ∧ n ≤ most
def RcR (b : Nat) (μ ρ : Mem) : Prop := ∃ n, LnR μ (b + 25) 150 4 n ∧ ρ 1 2 = nI n ∧ ∀ k, k < 4 * n → μ (b + 26) k = ρ 9 k
def QuR (b : Nat) (μ ρ : Mem) : Prop := ∃ n, LnR μ (b + 19) 16 1 n ∧ ρ 0 37 = nI n ∧ ∀ k, k < n → μ (b + 20) k = ρ 20 k
/-- a line of YEARS -/
def DeR (m r : Nat → Int32) (W M i j : Nat) : Prop :=
  m i = r j ∧ ∃ e w, e < 3 ∧ r (j + 1) = nI e ∧ m (i + 1) = nI (10020 + e) ∧ r (j + 2) = nI w ∧ m (i + 2) = nI w ∧ (e = 1 → w < W) ∧ (e ≠ 1 → w < M) ∧
    (e = 0 → ∃ x y z, x < W ∧ y < W ∧ z < W ∧ x ≠ y ∧ y ≠ z ∧ x ≠ z ∧ r (j + 3) = nI x ∧ m (i + 3) = nI x ∧ r (j + 4) = nI y ∧ m (i + 4) = nI y ∧ r (j + 5) = nI z ∧ m (i + 5) = nI z)
def CaR (b : Nat) (μ ρ : Mem) (W M : Nat) : Prop := ∃ n, LnR μ (b + 21) 16 6 n ∧ ρ 0 39 = nI n ∧ ∀ i, i < n → DeR (μ (b + 22)) (ρ 21) W M (6 * i) (6 * i)
/-- the sets r of the couples (A i, B i), i below n, either way -/
def SsR (r : Nat → Int32) (n : Nat) (A B : Nat → Nat) : Prop := ∀ w, w < 12 → ∃ m, m < 2 ^ 12 ∧ r w = nI m ∧ ∀ v, m.testBit v = true ↔ ∃ i, i < n ∧ ((A i = w ∧ B i = v) ∨ (B i = w ∧ A i = v))
def SiR (b : Nat) (μ ρ : Mem) (W : Nat) : Prop := ∃ (n : Nat) (A B : Nat → Nat), LnR μ (b + 23) 16 2 n ∧ ρ 0 41 = nI n ∧ (∀ i, i < n → A i < W ∧ B i < W ∧ A i ≠ B i ∧ μ (b + 24) (2 * i) = nI (A i) ∧ μ (b + 24) (2 * i + 1) = nI (B i)) ∧ SsR (ρ 22) n A B
/-- a token of the class's law and what the reference has for it -/
def CdR (t o a : Int32) : Prop :=
  (∃ n, n < 10000 ∧ t = nI n ∧ o = 0 ∧ a = nI n) ∨ (∃ k, k < 11 ∧ t = nI (10007 + k) ∧ o = 1 ∧ a = nI k) ∨ (t = 20043 ∧ o = 2) ∨ (t = 20045 ∧ o = 3) ∨ (t = 20042 ∧ o = 4) ∨ (t = 20047 ∧ o = 5) ∨
  (t = 20060 ∧ o = 6) ∨ (t = 20061 ∧ o = 7) ∨ (t = 20062 ∧ o = 8) ∨ (t = 10006 ∧ o = 9) ∨ (t = 10005 ∧ o = 10) ∨ (t = 10004 ∧ o = 11)
/-- the kinds of what stands on the stack: 0 a number, 1 a truth (0 or 1), 2 a number that is told and not 0 -/
def tst (o a : Int32) (S : List Nat) : Option (List Nat) :=
  if o = 0 then (if S.length < 40 then some ((if a = 0 then 0 else 2) :: S) else none)
  else if o = 1 then (if S.length < 40 then some (0 :: S) else none)
  else if o = 9 then (match S with | 1 :: S' => some (1 :: S') | _ => none)
  else if o = 10 ∨ o = 11 then (match S with | 1 :: 1 :: S' => some (1 :: S') | _ => none)
  else if o = 5 then (match S with | 2 :: x :: S' => (if x = 1 then none else some (0 :: S')) | _ => none)
  else if o = 2 ∨ o = 3 ∨ o = 4 then (match S with | x :: y :: S' => (if x = 1 ∨ y = 1 then none else some (0 :: S')) | _ => none)
  else if o = 6 ∨ o = 7 ∨ o = 8 then (match S with | x :: y :: S' => (if x = 1 ∨ y = 1 then none else some (1 :: S')) | _ => none)
  else none
def trn (op arg : Nat → Int32) : Nat → Nat → List Nat → Option (List Nat)
  | 0, _, S => some S
  | n + 1, i, S => (tst (op i) (arg i) S).bind (fun S' => trn op arg n (i + 1) S')
/-- a line: its codes from f to w are a number, from w to t a truth or none -/
def LlR (op arg : Nat → Int32) (f w t : Nat) : Prop := f ≤ w ∧ w ≤ t ∧ t ≤ 400 ∧ (∃ x, trn op arg (w - f) f [] = some [x] ∧ x ≠ 1) ∧ (w < t → trn op arg (t - w) w [] = some [1])
def LwR (b : Nat) (μ ρ : Mem) : Prop := ∃ n, n ≤ 16 ∧ μ (b + 12) 6 = nI n ∧ ρ 12 0 = nI n ∧ ∀ l, l < n → ∃ e f w t, e < 3 ∧ μ (b + 14) l = nI (10000 + e) ∧ ρ 13 l = nI e ∧ μ (b + 15) l = nI f ∧ ρ 14 l = nI f ∧ μ (b + 16) l = nI w ∧ ρ 15 l = nI w ∧ μ (b + 17) l = nI t ∧ ρ 16 l = nI t ∧ LlR (ρ 17) (ρ 18) f w t ∧ ∀ i, f ≤ i → i < t → CdR (μ (b + 13) i) (ρ 17 i) (ρ 18 i)
def MeR (b : Nat) (μ ρ : Mem) : Prop := ∃ n, LnR μ (b + 27) 10 3 n ∧ ρ 0 47 = nI n ∧ ∀ i, i < n → μ (b + 28) (3 * i) = ρ 27 i ∧ μ (b + 28) (3 * i + 1) = ρ 28 i ∧ μ (b + 28) (3 * i + 2) = ρ 29 i
/-- the digits of the row that is n-th of 216 -/
def dgt (n : Nat) : Nat := n / 36 * 100 + n / 6 % 6 * 10 + n % 6
def GuR (b : Nat) (μ ρ : Mem) : Prop := ∃ n, LnR μ (b + 29) 8 3 n ∧ ρ 0 51 = nI n ∧ ∀ i, i < n → ∃ q r e, q < 216 ∧ r + e ≤ 3 ∧ μ (b + 30) (3 * i) = nI q ∧ ρ 30 i = nI (dgt q) ∧ μ (b + 30) (3 * i + 1) = nI r ∧ μ (b + 30) (3 * i + 2) = nI e ∧ ρ 31 i = nI (4 * r + e)
def OdR (b : Nat) (μ ρ : Mem) : Prop := ∃ n, LnR μ (b + 31) 6 2 n ∧ ρ 0 57 = nI n ∧ ∀ i, i < n → ∃ l v, l < 3 ∧ 101 ≤ v ∧ v ≤ 9999 ∧ μ (b + 32) (2 * i) = nI l ∧ ρ 34 i = nI l ∧ μ (b + 32) (2 * i + 1) = nI v ∧ ρ 35 i = nI v
def RoR (b : Nat) (μ ρ : Mem) : Prop := ∃ (n : Nat) (A B : Nat → Nat), LnR μ (b + 33) 16 2 n ∧ ρ 0 60 = nI n ∧ (∀ i, i < n → A i < 10 ∧ B i < 10 ∧ A i ≠ B i ∧ μ (b + 34) (2 * i) = nI (A i) ∧ μ (b + 34) (2 * i + 1) = nI (B i)) ∧
  ∀ u, u < 10 → ∃ m, m < 2 ^ 10 ∧ ρ 36 u = nI m ∧ ∀ v, m.testBit v = true ↔ ∃ i, i < n ∧ A i = u ∧ B i = v
def SpR (b : Nat) (μ ρ : Mem) : Prop := ∃ n, LnR μ (b + 35) 12 1 n ∧ ρ 0 64 = nI n ∧ ∀ i, i < n → ∃ s, s < 100 ∧ μ (b + 36) i = nI s ∧ ρ 39 i = nI s
def OfR (b : Nat) (μ ρ : Mem) : Prop := ∃ n, LnR μ (b + 37) 7 1 n ∧ ρ 0 68 = nI n ∧ ∀ i, i < n → ∃ s, s < 100 ∧ μ (b + 38) i = nI s ∧ ρ 42 i = nI s
def CgR (b : Nat) (μ ρ : Mem) : Prop := ∀ i, i < 3 → ∃ m t, m < 30 ∧ t ≤ 30 ∧ μ (b + 39) (2 * i) = nI (m + 1) ∧ ρ 40 i = nI m ∧ μ (b + 39) (2 * i + 1) = nI t ∧ ρ 41 i = nI t
/-- the church at b and the reference's numbers -/
def ChR (b : Nat) (μ ρ : Mem) (W M : Nat) : Prop :=
  PpR b μ ρ W M ∧ StR μ (b + 1) (μ (b + 25) 3) (ρ 1) 0 ∧ StI W M (ρ 1) 0 ∧ RcR b μ ρ ∧ QuR b μ ρ ∧ CaR b μ ρ W M ∧ SiR b μ ρ W ∧ LwR b μ ρ ∧
  MeR b μ ρ ∧ GuR b μ ρ ∧ OdR b μ ρ ∧ RoR b μ ρ ∧ SpR b μ ρ ∧ OfR b μ ρ ∧ CgR b μ ρ
def TpR (μ ρ : Mem) : Prop := ∃ n, n ≤ 400 ∧ μ 41 5 = nI n ∧ ρ 0 15 = nI n ∧ ∀ k, k < n → μ 42 k = ρ 10 k ∧ ∃ c, c < 256 ∧ ρ 10 k = nI c
def FaR (μ ρ : Mem) : Prop := μ 41 6 = ρ 0 35 ∧ μ 41 7 = ρ 0 36
def DrR (μ : Mem) : Prop := μ 52 0 = 16 ∧ μ 52 1 = 6
/-- the place of the j-th kept standing, c of them, x the next one's -/
def pst (x c j : Nat) : Nat := (x + 6 - c + j) % 6
def PaR (μ ρ : Mem) (W M : Nat) : Prop := ∃ c x, c ≤ 6 ∧ x < 6 ∧ μ 54 3 = nI c ∧ ρ 0 3 = nI c ∧ μ 54 2 = nI x ∧
  (∀ j, j < c → StR μ (57 + 6 * pst x c j) (μ 56 (pst x c j)) (ρ 2) (49 * j) ∧ StI W M (ρ 2) (49 * j)) ∧
  (∀ j, j + 1 < c → ρ 2 (49 * j + 2) ≤ ρ 2 (49 * (j + 1) + 2)) ∧ (0 < c → ρ 2 (49 * (c - 1) + 2) ≤ ρ 1 2)
/-- what the class's rows of plumes hold -/
def plA (n : Nat) : Int32 := nI (2 ^ (n / 36) + 2 ^ (6 + n / 6 % 6) + 2 ^ (12 + n % 6))
end
