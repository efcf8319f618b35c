section
/-! how many bits -/
def pcn (a : Nat) : Nat → Nat
  | 0 => 0
  | n + 1 => pcn a n + (if a.testBit n then 1 else 0)
theorem pcn_le {a b : Nat} : ∀ {n : Nat}, (∀ i, i < n → a.testBit i = true → b.testBit i = true) → pcn a n ≤ pcn b n := by
  intro n
  induction n with
  | zero => intro _; exact Nat.le_refl _
  | succ n ih =>
    intro h
    have h1 := ih (fun i hi => h i (by omega))
    have h2 := h n (by omega)
    rw [pcn, pcn]
    cases ha : a.testBit n <;> cases hb : b.testBit n <;> simp_all <;> omega
theorem pcn_lt {a b : Nat} : ∀ {n : Nat}, (∀ i, i < n → a.testBit i = true → b.testBit i = true) → (∃ i, i < n ∧ b.testBit i = true ∧ a.testBit i = false) → pcn a n < pcn b n := by
  intro n
  induction n with
  | zero => intro _ ⟨i, hi, _⟩; omega
  | succ n ih =>
    intro h ⟨i, hi, h1, h2⟩
    rw [pcn, pcn]
    by_cases e : i = n
    · subst e
      have h3 := pcn_le (a := a) (b := b) (n := i) (fun j hj => h j (by omega))
      rw [h1, h2]
      simp
      omega
    · have h3 := ih (fun j hj => h j (by omega)) ⟨i, by omega, h1, h2⟩
      have h4 := h n (by omega)
      cases ha : a.testBit n <;> cases hb : b.testBit n <;> simp_all <;> omega
theorem pcn_max {a : Nat} : ∀ {n : Nat}, pcn a n ≤ n := by
  intro n
  induction n with
  | zero => exact Nat.le_refl _
  | succ n ih => rw [pcn]; split <;> omega
theorem two64 {P : Nat → Prop} (h : ∀ a, a < 64 → ∀ b, b < 64 → P (64 * a + b)) : ∀ c, c < 4096 → P c := fun c hc => by
  have := h (c / 64) (by omega) (c % 64) (by omega)
  rw [show 64 * (c / 64) + c % 64 = c by omega] at this
  exact this
theorem bc12 : ∀ c, c < 4096 → f_J6_bitCount_0f7a4 (nI c) = nI (pcn c 12) := two64 (by decide +kernel)
theorem oo12 : ∀ c, c < 4096 → f_X12_onesOf_L4 0 (fun _ _ => 0) 13 0 (nI c) = some (nI (pcn c 12)) := two64 (by decide +kernel)
theorem oo_g {G : Nat} {ρ : Mem} {r : Int32} : ∀ (g : Nat) (a v : Int32) (k : Nat), f_X12_onesOf_L4 0 (fun _ _ => 0) g a v = some r → f_X12_onesOf_L4 G ρ (g + k) a v = some r := by
  intro g
  induction g with
  | zero => intro a v k h; cases h
  | succ g ih =>
    intro a v k h
    rw [show g + 1 + k = (g + k) + 1 by omega]
    rw [f_X12_onesOf_L4] at h ⊢
    by_cases e : v = 0
    · rw [if_pos e] at h ⊢; exact h
    · rw [if_neg e] at h ⊢; exact ih _ _ _ h
theorem ones_ok {G c : Nat} {ρ : Mem} (hG : 500 ≤ G) (hc : c < 4096) : f_X12_onesOf G ρ (nI c) = some (nI (pcn c 12)) := by
  unfold f_X12_onesOf
  have := oo_g (G := G) (ρ := ρ) 13 0 (nI c) (G - 13) (oo12 c hc)
  rw [show 13 + (G - 13) = G by omega] at this
  exact this
end
