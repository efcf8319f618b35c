section
/-! standings -/
theorem cpStd {G a b : Nat} {μ : Mem} (hd : a + 5 < b ∨ b + 5 < a) : ∃ μ', f_X8_copyFrom G a b μ = some μ' ∧ (∀ x, (x < a ∨ a + 5 < x) → μ' x = μ x) ∧ (∀ n r o, StR μ b n r o → StR μ' a n r o) := by
  refine ⟨_, rfl, ?_, ?_⟩
  · intro x hx
    funext k
    have e0 : x ≠ a := by omega
    have e1 : x ≠ a + 1 := by omega
    have e2 : x ≠ a + 2 := by omega
    have e3 : x ≠ a + 3 := by omega
    have e4 : x ≠ a + 4 := by omega
    have e5 : x ≠ a + 5 := by omega
    simp [wr, cpy, e0, e1, e2, e3, e4, e5]
  · intro n r o h
    obtain ⟨h1, h2, h3, h4, h5, h6, h7, h8, h9, h10⟩ := h
    have d0 : b ≠ a := by omega
    have d1 : ∀ i, i ≤ 5 → b ≠ a + i := fun i _ => by omega
    have d2 : ∀ i, i ≤ 5 → a ≠ b + i := fun i _ => by omega
    have d3 : ∀ i j, i ≤ 5 → j ≤ 5 → b + i ≠ a + j := fun i j _ _ => by omega
    have d4 : ∀ i j, i ≤ 5 → j ≤ 5 → a + i ≠ b + j := fun i j _ _ => by omega
    have e12 : ix (12 : Int32) = 12 := rfl
    have e8 : ix (8 : Int32) = 8 := rfl
    have e00 : ix (0 : Int32) = 0 := rfl
    refine ⟨?_, ?_, h3, ?_, ?_, ?_, ?_, ?_, ?_, ?_⟩
    · rw [← h1]; simp [wr, cpy, d0, d1]
    · rw [← h2]; simp [wr, cpy, d0, d1]
    · rw [← h4]; simp [wr, cpy, d0, d1]
    · rw [← h5]; simp [wr, cpy, d0, d1]
    · intro k hk; rw [← h6 k hk]; simp [wr, cpy, va_cpy, d0, d1, d2, d3, d4, hk, e12, e8, e00]
    · intro k hk; rw [← h7 k hk]; simp [wr, cpy, va_cpy, d0, d1, d2, d3, d4, hk, e12, e8, e00]
    · intro k hk; rw [← h8 k hk]; simp [wr, cpy, va_cpy, d0, d1, d2, d3, d4, hk, e12, e8, e00]
    · intro k hk; rw [← h9 k hk]; simp [wr, cpy, va_cpy, d0, d1, d2, d3, d4, hk, e12, e8, e00]
    · intro k hk; rw [← h10 k hk]; simp [wr, cpy, va_cpy, d0, d1, d2, d3, d4, hk, e12, e8, e00]
end
