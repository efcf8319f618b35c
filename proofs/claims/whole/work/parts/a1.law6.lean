section
variable {G n : Nat} {c : Nat → Nat} {fq : Int32 → Mem → Option Mem}
def CQ (c : Nat → Nat) (n k z o : Nat) (Q : List Int32) (μ ρ : Mem) : Prop := LR c n k z μ ρ ∧ PnR Q ρ ∧ ρ 0 30 = nI o
theorem CQ_e {k z o w k' z' : Nat} {Q : List Int32} {μ ρ μ' ρ' : Mem} (h : CQ c n k z o Q μ ρ) (H : LR c n k' z' μ' ρ') (he : eF w μ ρ μ' ρ') : CQ c n k' z' o Q μ' ρ' :=
  ⟨H, PnR_o h.2.1 (he.2.2.2.1 32 (by omega) (by omega) (by omega) (by omega)) (he.2.2.1 19 (by omega) (by omega) (by omega)), by rw [he.2.2.2.1 30 (by omega) (by omega) (by omega) (by omega)]; exact h.2.2⟩
theorem putN {M : Nat} (hM : M ≤ 8) : ∀ m j z g μ, j + m = M → μ 45 7 = nI z → z + m ≤ 400 → m < g → ∃ μ', f_X5_clause_L129 G fq g (nI M) (nI j) μ = some μ' ∧ μ' 45 7 = nI (z + m) ∧ (∀ i, i < m → μ' 46 (z + i) = 10006) ∧ (∀ i, i < z → μ' 46 i = μ 46 i) ∧ (∀ x, x ≠ 45 → x ≠ 46 → μ' x = μ x) ∧ ∀ j, j ≠ 7 → μ' 45 j = μ 45 j := by
  intro m
  induction m with
  | zero =>
    intro j z g μ hj h hz hg
    obtain ⟨g, rfl⟩ : ∃ y, g = y + 1 := ⟨g - 1, by omega⟩
    exact ⟨μ, by rw [f_X5_clause_L129, if_pos (nI_le (by omega) (by omega))], h, fun i hi => absurd hi (by omega), fun _ _ => rfl, fun _ _ _ => rfl, fun _ _ => rfl⟩
  | succ m ih =>
    intro j z g μ hj h hz hg
    obtain ⟨g, rfl⟩ : ∃ y, g = y + 1 := ⟨g - 1, by omega⟩
    obtain ⟨μ', f1, f2, f3, f4, f5, f6⟩ := ih (j + 1) (z + 1) g (wr (wr μ 46 z 10006) 45 7 (nI (z + 1))) (by omega) wr_same (by omega) (by omega)
    refine ⟨μ', ?_, by rw [f2]; congr 1; omega, fun i hi => ?_, fun i hi => by rw [f4 i (by omega), wr_cell (by omega), wr_slot (by omega)], fun x a b => by rw [f5 x a b, wr_off a, wr_off b], fun j hj => by rw [f6 j hj, wr_slot hj, wr_cell (by omega)]⟩
    · rw [f_X5_clause_L129, if_neg (nI_ge (by omega) (by omega)), if_neg (show ¬ (8 : Int32) < nI j from nI_nlt (b := j) (a := 8) (by omega) (by omega)), put_g h (by omega), bndV_s, nI_1]
      exact f1
    · by_cases i0 : i = 0
      · rw [i0, Nat.add_zero, f4 z (by omega), wr_cell (by omega), wr_same]
      · have := f3 (i - 1) (by omega)
        rw [show z + 1 + (i - 1) = z + i by omega] at this
        exact this
theorem Ty_nots {ρ : Mem} {S : List Nat} : ∀ m z, (∀ i, i < m → ρ 17 (800 + (z + i)) = 9 ∧ ρ 18 (800 + (z + i)) = 0) → Ty ρ z (z + m) (1 :: S) (1 :: S)
  | 0, z, _ => Ty_rfl
  | m + 1, z, h => by
    have h0 := h 0 (by omega)
    rw [Nat.add_zero] at h0
    have t : Ty ρ z (z + 1) (1 :: S) (1 :: S) := Ty_1 h0.1 h0.2 (by simp [tst])
    have t2 := Ty_nots (S := S) m (z + 1) (fun i hi => by
      have := h (i + 1) (by omega)
      rw [show z + (i + 1) = z + 1 + i by omega] at this
      exact this)
    rw [show z + (m + 1) = z + 1 + m by omega]
    exact Ty_tr t t2
/-- the nots that waited, put behind -/
theorem asm {k k0 z m : Nat} {μ ρ μ2 ρ2 : Mem} (h : LR c n k0 z μ ρ) (hk : k ≤ tK c n) (a1 : AtC c n k μ2) (a2 : μ2 45 7 = nI (z + m)) (a3 : ∀ i, i < z → μ2 46 i = μ 46 i) (a4 : ∀ i, i < m → μ2 46 (z + i) = 10006) (a5 : AtR c n k ρ2) (a6 : ρ2 0 29 = nI (z + m)) (a7 : ∀ i, i < 800 + z → ρ2 17 i = ρ 17 i ∧ ρ2 18 i = ρ 18 i) (a8 : ∀ i, i < m → ρ2 17 (800 + (z + i)) = 9 ∧ ρ2 18 (800 + (z + i)) = 0) : LR c n k (z + m) μ2 ρ2 := by
  refine ⟨hk, a1, a2, a5, a6, fun i hi => ?_⟩
  by_cases e : i < z
  · rw [a3 i e, (a7 (800 + i) (by omega)).1, (a7 (800 + i) (by omega)).2]
    exact h.2.2.2.2.2 i e
  · have b1 := a4 (i - z) (by omega)
    have b2 := a8 (i - z) (by omega)
    rw [show z + (i - z) = i by omega] at b1 b2
    rw [b1, b2.1, b2.2]
    exact Or.inr (Or.inr (Or.inr (Or.inr (Or.inr (Or.inr (Or.inr (Or.inr (Or.inr (Or.inl ⟨rfl, rfl⟩)))))))))
theorem nots_ok {k z o m : Nat} {Q : List Int32} {μ ρ : Mem} {S : List Nat} (hG : 500 ≤ G) (hn : n ≤ 400) (h : CQ c n k z (o + m) (Q ++ List.replicate m 9) μ ρ) (hz : z + Q.length + m ≤ k) (ho : o + m ≤ 8) (hQ : Q.length + m ≤ 40) (hl : ∀ x, Q[Q.length - 1]? = some x → x ≠ 9) :
    ∃ μ' ρ', f_X5_clause_j127 G fq (nI m) μ = some μ' ∧ f_X12_settles G 9 ρ = some ρ' ∧ CQ c n k (z + m) o Q μ' ρ' ∧ cF z μ ρ μ' ρ' ∧ Ty ρ' z (z + m) (1 :: S) (1 :: S) := by
  have hK := tK_le (c := c) (n := n)
  have kK := h.1.1
  obtain ⟨H, P, h30⟩ := h
  obtain ⟨μ', f1, f2, f3, f4, f5, f6⟩ := putN (G := G) (fq := fq) (M := m) (by omega) m 0 z G μ (by omega) H.2.2.1 (by omega) (by omega)
  obtain ⟨ρ', s1, s2, s3, s4, s5, s6, s7, s8⟩ := settles_g (w := 9) hG m z (o + m) G ρ P hl (by simp; omega) H.2.2.2.2.1 (by omega) (by omega) h30 (fun _ => by omega)
  refine ⟨μ', ρ', f1, s1, ⟨asm H kK (AtC_o H.2.1 (f5 41 (by omega) (by omega)) (f5 43 (by omega) (by omega)) (f5 44 (by omega) (by omega))) f2 f4 f3 (AtR_o H.2.2.2.1 (fun j a b => s6 j (by omega) (by omega) (by omega)) (s5 10 (by omega) (by omega) (by omega)) (s5 11 (by omega) (by omega) (by omega))) s3 s7 s8, s2, by rw [s4, if_pos rfl, Nat.add_sub_cancel]⟩, ⟨⟨fun x _ a b => f5 x a b, fun j _ _ _ _ => by rw [f5 41 (by omega) (by omega)], f6⟩, f4, fun x a b d _ => s5 x a b d, fun j _ b => s6 j (by omega) (by omega) (by omega), s7⟩, Ty_nots m z s8⟩
/-- where a condition ends, in the reference -/
def EL (G g : Nat) (v1 : Int32) (m8 : Mem) : Option (Int32 × Mem) := if v1 = 0 then some (0, m8) else if f_X12_isSign m8 41 = 0 then bndE (f_X12_errs G 1 m8) (fun w19 m18 => some (w19, m18)) else bndV (f_X12_settles G 9 (wr (wr m8 0 32 (m8 0 32 - 1)) 0 30 ((wr m8 0 32 (m8 0 32 - 1)) 0 30 - 1))) (fun m14 => bndV (f_X12_reads G m14) (fun m16 => f_X12_readAny_L9 G g (v1 - 1) 0 m16))
def CondP (G : Nat) (c : Nat → Nat) (n : Nat) (F : Int32 → Mem → Option Mem) (o : Nat) : Prop := ∀ k z Q μ ρ b g (S : List Nat), CQ c n k z o Q μ ρ → z + Q.length ≤ k → Q.length ≤ 3 * o → (∀ x, Q[Q.length - 1]? = some x → x = 12) → S.length ≤ 2 * o → tK c n - k < g → b ≤ 90 + o →
  (∃ k' z' μ' ρ' g', F (nI o) μ = some μ' ∧ f_X12_readAny_L9 G g (nI b) 1 ρ = EL G g' (nI b) ρ' ∧ CQ c n k' z' o Q μ' ρ' ∧ cF z μ ρ μ' ρ' ∧ k < k' ∧ z' + Q.length ≤ k' ∧ Ty ρ' z z' S (1 :: S) ∧ tK c n - k' ≤ g') ∨
    ∃ μ' ρ', F (nI o) μ = some μ' ∧ f_X12_readAny_L9 G g (nI b) 1 ρ = some (-1, ρ') ∧ FlC μ ρ μ' ρ'
def ClauP (G : Nat) (c : Nat → Nat) (n : Nat) (F : Int32 → Mem → Option Mem) (o : Nat) : Prop := ∀ k z Q μ ρ b g (S : List Nat), CQ c n k z o Q μ ρ → z + Q.length ≤ k → Q.length ≤ 3 * o + 2 → (∀ x, Q[Q.length - 1]? = some x → x ≠ 9) → S.length ≤ 2 * o + 2 → tK c n - k < g → b ≤ 90 + o →
  (∃ k' z' μ' ρ' g', F (nI o) μ = some μ' ∧ f_X12_readAny_L9 G g (nI b) 1 ρ = f_X12_readAny_L9 G g' (nI b) 0 ρ' ∧ CQ c n k' z' o Q μ' ρ' ∧ cF z μ ρ μ' ρ' ∧ k < k' ∧ z' + Q.length ≤ k' ∧ Ty ρ' z z' S (1 :: S) ∧ tK c n - k' < g') ∨
    ∃ μ' ρ', F (nI o) μ = some μ' ∧ f_X12_readAny_L9 G g (nI b) 1 ρ = some (-1, ρ') ∧ FlC μ ρ μ' ρ'
end
