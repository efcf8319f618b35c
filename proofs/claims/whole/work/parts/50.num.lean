section
/-! numbers -/
theorem lit (n : Nat) : (OfNat.ofNat n : Int32) = nI n := rfl
theorem neg1 : -(nI 1) = nI 4294967295 := rfl
theorem ixn {k : Nat} (h : k < 2 ^ 31) : ix (nI k) = k := nI_clamp h
theorem chkn {α : Type} {k n : Nat} {X : Option α} (h : k < n) (hn : n < 2 ^ 31) : chk (nI k) n X = X := by
  unfold chk
  rw [if_neg]
  exact nI_in h hn
theorem chkv {α : Type} {i : Int32} {n : Nat} {X : Option α} (h : vp_in i n) : chk i n X = X := by
  unfold chk
  rw [if_neg]
  exact h
theorem dvkn {α : Type} {y : Int32} {X : Option α} (h : y ≠ 0) : dvk y X = X := by
  unfold dvk
  rw [if_neg h]
theorem bkk0 {α : Type} {X : Option α} : bkk 0 X = X := rfl
theorem bkk1 {α : Type} {X : Option α} : bkk 1 X = X := rfl
theorem bndE_s {α : Type} {v : Int32} {m : Mem} {k : Int32 → Mem → Option α} : bndE (some (v, m)) k = k v m := rfl
theorem bndV_s {α : Type} {m : Mem} {k : Mem → Option α} : bndV (some m) k = k m := rfl
theorem bndO_s {α : Type} {v : Int32} {k : Int32 → Option α} : bndO (some v) k = k v := rfl
theorem nI_m1 {a : Nat} (h : a < 2 ^ 31) : ¬ nI a = -1 := by
  intro g
  have := congrArg Int32.toInt g
  rw [nI_toInt h] at this
  simp at this
theorem nI_eqm {a : Nat} (h : a < 2 ^ 31) : nI a = nI 4294967295 ↔ False := ⟨fun g => nI_m1 h g, fun g => g.elim⟩
theorem nI_eq0 {a : Nat} (h : a < 2 ^ 31) : nI a = 0 ↔ a = 0 := nI_eq (b := 0) h (by decide)
theorem nI_lt0 {a : Nat} (h : a < 2 ^ 31) : ¬ nI a < 0 := nI_pos h
theorem in_of {p : Int32} {M : Int32} (n : Nat) (hM : M = nI n) (hn : n < 2 ^ 31) (h : 0 ≤ p) (h2 : p ≤ M) : ∃ k : Nat, k ≤ n ∧ p = nI k := by
  obtain ⟨k, h3, h4⟩ := nI_of2 (M := M) (n := n) (by rw [hM]; exact nI_toInt hn) (by grind) h2
  exact ⟨k, h3, h4⟩
theorem lt_of {p : Int32} {M : Int32} (n : Nat) (hM : M = nI n) (hn : n < 2 ^ 31) (h : 0 ≤ p) (h2 : p < M) : ∃ k : Nat, k < n ∧ p = nI k := by
  obtain ⟨k, h3, h4⟩ := in_of n hM hn h (by grind)
  refine ⟨k, ?_, h4⟩
  subst hM h4
  exact (nI_ltI (by omega) hn).mp h2
theorem wr_same {μ : Mem} {a k : Nat} {v : Int32} : wr μ a k v a k = v := by simp [wr]
theorem wr_cell {μ : Mem} {a k b j : Nat} {v : Int32} (h : b ≠ a) : wr μ a k v b j = μ b j := by simp [wr, h]
theorem wr_slot {μ : Mem} {a k j : Nat} {v : Int32} (h : j ≠ k) : wr μ a k v a j = μ a j := by simp [wr, h]
theorem isB {p n : Int32} : f_X11_isBelow p n = if 0 ≤ p ∧ p < n then 1 else 0 := by
  unfold f_X11_isBelow
  grind
theorem isI {p a b : Int32} : f_X12_isIn p a b = if a ≤ p ∧ p ≤ b then 1 else 0 := by
  unfold f_X12_isIn
  grind
theorem isD {p : Int32} : f_X11_isDigit p = if 0 ≤ p ∧ p ≤ 9 then 1 else 0 := by
  unfold f_X11_isDigit
  grind
theorem hl12 {p a b : Int32} (h : a ≤ b) : f_X12_held p a b = f_X11_held p a b := by
  unfold f_X12_held f_X11_held imax imin
  grind
theorem has12 {a b : Int32} : f_X12_has a b = f_X11_has a b := by
  unfold f_X12_has f_X11_has
  obtain ⟨j, h1, h2⟩ := pk_andE (sr a b) (m := 1) 1 rfl
  rw [h2]
  rcases (show j = 0 ∨ j = 1 by omega) with h | h <;> subst h <;> decide
theorem gr12 {a b : Int32} : f_X12_greater a b = imax a b := by
  unfold f_X12_greater imax
  grind
theorem ls12 {a b : Int32} : f_X12_lesser a b = imin a b := by
  unfold f_X12_lesser imin
  grind
end
