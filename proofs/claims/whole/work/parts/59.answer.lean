section
/-! the running relation: a standing at s, in thought (t = 1) or not -/
theorem PpR_o {b W M : Nat} {μ μ' ρ ρ' : Mem} (h : PpR b μ ρ W M) (h0 : μ' b = μ b) (h1 : ∀ x, b + 7 ≤ x → x ≤ b + 11 → μ' x = μ x) (h2 : ρ' 0 6 = ρ 0 6) (h3 : ρ' 0 7 = ρ 0 7) (h4 : ∀ x, 4 ≤ x → x ≤ 8 → ρ' x = ρ x) : PpR b μ' ρ' W M := by
  unfold PpR at h ⊢
  rw [h0, h2, h3, h1 (b + 7) (by omega) (by omega), h1 (b + 8) (by omega) (by omega), h1 (b + 9) (by omega) (by omega), h1 (b + 10) (by omega) (by omega), h1 (b + 11) (by omega) (by omega), h4 4 (by omega) (by omega), h4 5 (by omega) (by omega), h4 6 (by omega) (by omega), h4 7 (by omega) (by omega), h4 8 (by omega) (by omega)]
  exact h
theorem QuR_o {b : Nat} {μ μ' ρ ρ' : Mem} (h : QuR b μ ρ) (h1 : μ' (b + 19) = μ (b + 19)) (h2 : μ' (b + 20) = μ (b + 20)) (h3 : ρ' 0 37 = ρ 0 37) (h4 : ρ' 20 = ρ 20) : QuR b μ' ρ' := by
  unfold QuR LnR at h ⊢
  rw [h1, h2, h3, h4]
  exact h
theorem RcR_o {b : Nat} {μ μ' ρ ρ' : Mem} (h : RcR b μ ρ) (h1 : μ' (b + 25) = μ (b + 25)) (h2 : μ' (b + 26) = μ (b + 26)) (h3 : ρ' 1 2 = ρ 1 2) (h4 : ρ' 9 = ρ 9) : RcR b μ' ρ' := by
  unfold RcR LnR at h ⊢
  rw [h1, h2, h3, h4]
  exact h
def WR (s : Nat) (t : Int32) (μ ρ : Mem) (W M : Nat) : Prop :=
  PpR 1 μ ρ W M ∧ LwR 1 μ ρ ∧ QuR 1 μ ρ ∧ RcR 1 μ ρ ∧ StR μ s (μ 26 3) (ρ 1) 0 ∧ StI W M (ρ 1) 0 ∧ ρ 0 5 = t ∧ ((t = 0 ∧ s = 2) ∨ (t = 1 ∧ (s = 2 ∨ s = 99)))
/-- what weddings and years leave as it was: the class's, the reference's -/
def Fc (s : Nat) (t : Int32) (μ μ' : Mem) : Prop := (∀ x, (x < s ∨ s + 5 < x) → x ≠ 19 → x ≠ 94 → x ≠ 95 → x ≠ 96 → x ≠ 26 → x ≠ 27 → μ' x = μ x) ∧ (t = 1 → μ' 26 = μ 26 ∧ μ' 27 = μ 27)
def Fr (t : Int32) (ρ ρ' : Mem) : Prop := (∀ x, x ≠ 1 → x ≠ 9 → x ≠ 23 → x ≠ 24 → x ≠ 25 → x ≠ 26 → ρ' x = ρ x) ∧ (t = 1 → ρ' 9 = ρ 9 ∧ ρ' 1 2 = ρ 1 2) ∧ ρ 1 2 ≤ ρ' 1 2
theorem Fc_rfl {s : Nat} {t : Int32} {μ : Mem} : Fc s t μ μ := ⟨fun _ _ _ _ _ _ _ _ => rfl, fun _ => ⟨rfl, rfl⟩⟩
theorem Fr_rfl {t : Int32} {ρ : Mem} : Fr t ρ ρ := ⟨fun _ _ _ _ _ _ _ => rfl, fun _ => ⟨rfl, rfl⟩, Int32.le_refl _⟩
theorem Fc_tr {s : Nat} {t : Int32} {μ μ1 μ2 : Mem} (h : Fc s t μ μ1) (h' : Fc s t μ1 μ2) : Fc s t μ μ2 :=
  ⟨fun x a b c d e f g => by rw [h'.1 x a b c d e f g, h.1 x a b c d e f g], fun ht => ⟨by rw [(h'.2 ht).1, (h.2 ht).1], by rw [(h'.2 ht).2, (h.2 ht).2]⟩⟩
theorem Fr_tr {t : Int32} {ρ ρ1 ρ2 : Mem} (h : Fr t ρ ρ1) (h' : Fr t ρ1 ρ2) : Fr t ρ ρ2 :=
  ⟨fun x a b c d e f => by rw [h'.1 x a b c d e f, h.1 x a b c d e f], fun ht => ⟨by rw [(h'.2.1 ht).1, (h.2.1 ht).1], by rw [(h'.2.1 ht).2, (h.2.1 ht).2]⟩, Int32.le_trans h.2.2 h'.2.2⟩
/-- a change of the scratch rows alone -/
theorem Fc_scr {s : Nat} {t : Int32} {μ μ' : Mem} (h : ∀ x, x ≠ 94 → x ≠ 95 → x ≠ 96 → x ≠ 19 → μ' x = μ x) : Fc s t μ μ' :=
  ⟨fun x _ b c d e _ _ => h x c d e b, fun _ => ⟨h 26 (by omega) (by omega) (by omega) (by omega), h 27 (by omega) (by omega) (by omega) (by omega)⟩⟩
theorem Fr_scr {t : Int32} {ρ ρ' : Mem} (h : ∀ x, x ≠ 23 → x ≠ 24 → x ≠ 25 → x ≠ 26 → ρ' x = ρ x) : Fr t ρ ρ' :=
  ⟨fun x _ _ c d e f => h x c d e f, fun _ => ⟨h 9 (by omega) (by omega) (by omega) (by omega), by rw [h 1 (by omega) (by omega) (by omega) (by omega)]⟩, by rw [h 1 (by omega) (by omega) (by omega) (by omega)]; exact Int32.le_refl _⟩
theorem WR_scr {s W M : Nat} {t : Int32} {μ ρ μ' ρ' : Mem} (h : WR s t μ ρ W M) (h1 : ∀ x, x ≠ 94 → x ≠ 95 → x ≠ 96 → x ≠ 19 → μ' x = μ x) (h2 : ∀ x, x ≠ 23 → x ≠ 24 → x ≠ 25 → x ≠ 26 → ρ' x = ρ x) : WR s t μ' ρ' W M := by
  obtain ⟨a1, a2, a3, a4, a5, a6, a7, a8⟩ := h
  have m : ∀ x, x < 19 → μ' x = μ x := fun x hx => h1 x (by omega) (by omega) (by omega) (by omega)
  have m2 : ∀ x, 19 < x → x < 94 → μ' x = μ x := fun x hx hy => h1 x (by omega) (by omega) (by omega) (by omega)
  have r : ∀ x, x < 23 → ρ' x = ρ x := fun x hx => h2 x (by omega) (by omega) (by omega) (by omega)
  refine ⟨PpR_o a1 (m _ (by omega)) (fun x _ _ => m x (by omega)) (by rw [r 0 (by omega)]) (by rw [r 0 (by omega)]) (fun x _ _ => r x (by omega)), LwR_o a2 (fun x _ _ => m x (by omega)) (fun x _ _ => r x (by omega)), QuR_o a3 (m2 _ (by omega) (by omega)) (m2 _ (by omega) (by omega)) (by rw [r 0 (by omega)]) (r _ (by omega)), RcR_o a4 (m2 _ (by omega) (by omega)) (m2 _ (by omega) (by omega)) (by rw [r 1 (by omega)]) (r _ (by omega)), ?_, by rw [r 1 (by omega)]; exact a6, by rw [r 0 (by omega)]; exact a7, a8⟩
  rw [m2 26 (by omega) (by omega), r 1 (by omega)]
  refine StR_cls (fun x g1 g2 => h1 x ?_ ?_ ?_ ?_) a5 <;> (rcases a8 with ⟨_, e⟩ | ⟨_, e | e⟩ <;> omega)
theorem VR_r {v : Nat → Int32} {ρ ρ' : Mem} {g w : Nat} (h : VR v ρ g w) (h1 : ∀ x, 4 ≤ x → x ≤ 8 → ρ' x = ρ x) (h2 : ∀ j, j = 0 ∨ 5 ≤ j → ρ' 1 j = ρ 1 j) : VR v ρ' g w := by
  unfold VR at h ⊢
  rw [h1 4 (by omega) (by omega), h1 5 (by omega) (by omega), h1 6 (by omega) (by omega), h1 7 (by omega) (by omega), h1 8 (by omega) (by omega), h2 0 (by omega), h2 (33 + g) (by omega), h2 (25 + g) (by omega)]
  exact h
/-- a line of the book, or none in thought -/
theorem write_sim {G s W M : Nat} {t a b c : Int32} {μ ρ : Mem} (hG : 500 ≤ G) (R : WR s t μ ρ W M) :
    ∃ μ' ρ', f_X7_write G s a b c t μ = some μ' ∧ f_X12_notes G a b c ρ = some ρ' ∧ WR s t μ' ρ' W M ∧ Fc s t μ μ' ∧ Fr t ρ ρ' ∧ (∀ x, x ≠ 26 → x ≠ 27 → μ' x = μ x) ∧ (∀ x, x ≠ 1 → x ≠ 9 → ρ' x = ρ x) ∧ (∀ j, j ≠ 2 → ρ' 1 j = ρ 1 j) := by
  obtain ⟨a1, a2, a3, a4, a5, a6, a7, a8⟩ := id R
  rcases a8 with ⟨rfl, rfl⟩ | ⟨rfl, hs⟩
  · obtain ⟨n, b1, b2, b3⟩ := a4
    have b1 : LnR μ 26 150 4 n := b1
    have b3 : ∀ k, k < 4 * n → μ 27 k = ρ 9 k := b3
    have hy : μ 2 5 = ρ 1 0 := a5.1
    have a7' : ρ 0 5 = nI 0 := a7
    by_cases e : n = 150
    · subst e
      refine ⟨μ, ρ, ?_, ?_, R, Fc_rfl, Fr_rfl, fun _ _ _ => rfl, fun _ _ _ => rfl, fun _ _ => rfl⟩
      · simp (disch := omega) only [lit, neg1, nI_1, nI_add, pk_mul, pk_sub, nI_leI, nI_ltI, nI_eq, nI_eqm, chkn, ixn, if_pos, if_neg, bndV_s, bndE_s, bndO_s, reduceIte, irmn, iminn, imaxn, f_X7_write, addF b1 (by omega)]
      · simp (disch := omega) only [lit, neg1, nI_1, nI_add, pk_mul, pk_sub, nI_leI, nI_ltI, nI_eq, nI_eqm, chkn, ixn, if_pos, if_neg, bndV_s, bndE_s, bndO_s, reduceIte, irmn, iminn, imaxn, f_X12_notes, a7', b2]
    · have hn : n < 150 := by have := b1.2.2.2; omega
      obtain ⟨μ', c1, c2, c3, c4, c5⟩ := addn (G := G) (N := 600) (p := μ 2 5) (q := a) (r := b) (s := c) b1 (by omega) (by omega) (by omega) (by omega) (by omega) hn
      obtain ⟨ρ', d0, d1, d2, d3, d4⟩ : ∃ ρ', f_X12_notes G a b c ρ = some ρ' ∧ (∀ x, x ≠ 1 → x ≠ 9 → ρ' x = ρ x) ∧ (∀ j, j ≠ 2 → ρ' 1 j = ρ 1 j) ∧ ρ' 1 2 = nI (n + 1) ∧ (∀ k, ρ' 9 k = if k = 4 * n then ρ 1 0 else if k = 4 * n + 1 then a else if k = 4 * n + 2 then b else if k = 4 * n + 3 then c else ρ 9 k) := by
        refine ⟨wr (wr (wr (wr (wr ρ 9 (4 * n) (ρ 1 0)) 9 (4 * n + 1) a) 9 (4 * n + 2) b) 9 (4 * n + 3) c) 1 2 (nI (n + 1)), ?_, ?_, ?_, wr_same, ?_⟩
        · simp (disch := omega) only [lit, neg1, nI_1, nI_add, pk_mul, pk_sub, nI_leI, nI_ltI, nI_eq, nI_eqm, chkn, ixn, if_pos, if_neg, bndV_s, bndE_s, bndO_s, reduceIte, irmn, iminn, imaxn, f_X12_notes, a7', b2, wr_cell]
        · intro x hx hx9; simp only [wr_off hx, wr_off hx9]
        · intro j hj; rw [wr_slot hj, wr_cell (by omega), wr_cell (by omega), wr_cell (by omega), wr_cell (by omega)]
        · intro k
          simp only [wr]
          grind
      have e0 : ρ' 0 = ρ 0 := d1 0 (by omega) (by omega)
      have m26 : μ' 26 3 = nI (n + 1) := c3.2.2.1
      refine ⟨μ', ρ', ?_, d0, ⟨PpR_o a1 (c2 1 (by omega) (by omega)) (fun x _ _ => c2 x (by omega) (by omega)) (by rw [e0]) (by rw [e0]) (fun x _ _ => d1 x (by omega) (by omega)), LwR_o a2 (fun x _ _ => c2 x (by omega) (by omega)) (fun x _ _ => d1 x (by omega) (by omega)), QuR_o a3 (c2 20 (by omega) (by omega)) (c2 21 (by omega) (by omega)) (by rw [e0]) (d1 20 (by omega) (by omega)), ?_, ?_, ?_, by rw [e0]; exact a7, Or.inl ⟨rfl, rfl⟩⟩, ?_, ?_, ?_, d1, d2⟩
      · simp (disch := omega) only [lit, neg1, nI_1, nI_add, pk_mul, pk_sub, nI_leI, nI_ltI, nI_eq, nI_eqm, chkn, ixn, if_pos, if_neg, bndV_s, bndE_s, bndO_s, reduceIte, irmn, iminn, imaxn, f_X7_write, show f_X2_add G 26 600 (μ 2 5) a b c μ = some (nI (n + 1), μ') from c1]
      · refine ⟨n + 1, c3, d3, ?_⟩
        intro k hk
        show μ' 27 k = ρ' 9 k
        rw [d4 k]
        by_cases e : k < 4 * n
        · rw [c4 k (by omega), if_neg (by omega), if_neg (by omega), if_neg (by omega), if_neg (by omega)]
          exact b3 k e
        · have := c5 (k - 4 * n) (by omega)
          rw [show n * 4 + (k - 4 * n) = k by omega] at this
          rw [this]
          unfold lv4
          rcases (by omega : k = 4 * n ∨ k = 4 * n + 1 ∨ k = 4 * n + 2 ∨ k = 4 * n + 3) with h | h | h | h <;> subst h <;> simp [hy]
      · obtain ⟨s1, s2, s3, s4, s5, s6, s7, s8, s9, s10⟩ := a5
        have q : ∀ x, x < 26 → μ' x = μ x := fun x hx => c2 x (by omega) (by omega)
        refine ⟨?_, ?_, ?_, ?_, ?_, ?_, ?_, ?_, ?_, ?_⟩
        · rw [q 2 (by omega), d2 _ (by omega)]; exact s1
        · rw [q 2 (by omega), d2 _ (by omega)]; exact s2
        · rw [m26]; exact d3.symm
        · rw [q 2 (by omega), d2 _ (by omega)]; exact s4
        · rw [q 2 (by omega), d2 _ (by omega)]; exact s5
        · intro k hk; rw [q (2 + 1) (by omega), d2 _ (by omega)]; exact s6 k hk
        · intro k hk; rw [q (2 + 2) (by omega), d2 _ (by omega)]; exact s7 k hk
        · intro k hk; rw [q (2 + 3) (by omega), d2 _ (by omega)]; exact s8 k hk
        · intro k hk; rw [q (2 + 4) (by omega), d2 _ (by omega)]; exact s9 k hk
        · intro k hk; rw [q (2 + 5) (by omega), d2 _ (by omega)]; exact s10 k hk
      · obtain ⟨i1, i2, i3, i4, i5, i6, i7⟩ := a6
        refine ⟨⟨n + 1, by omega, d3⟩, by rw [d2 _ (by omega)]; exact i2, fun w h1 h2 => by rw [d2 _ (by omega)]; exact i3 w h1 h2, fun w h1 => by rw [d2 _ (by omega)]; exact i4 w h1, fun w h1 h2 => by rw [d2 _ (by omega)]; exact i5 w h1 h2, fun w h1 => by rw [d2 _ (by omega)]; exact i6 w h1, fun w h1 h2 => by rw [d2 _ (by omega)]; exact i7 w h1 h2⟩
      · exact ⟨fun x _ _ _ _ _ g1 g2 => c2 x g1 g2, fun q => absurd q (by decide)⟩
      · exact ⟨fun x g1 g2 _ _ _ _ => d1 x g1 g2, fun q => absurd q (by decide), by rw [b2, d3]; exact nI_le (by omega) (by omega)⟩
      · intro x g1 g2; exact c2 x g1 g2
  · refine ⟨μ, ρ, ?_, ?_, R, Fc_rfl, Fr_rfl, fun _ _ _ => rfl, fun _ _ _ => rfl, fun _ _ => rfl⟩
    · simp (disch := omega) only [lit, neg1, nI_1, nI_add, pk_mul, pk_sub, nI_leI, nI_ltI, nI_eq, nI_eqm, chkn, ixn, if_pos, if_neg, bndV_s, bndE_s, bndO_s, reduceIte, irmn, iminn, imaxn, f_X7_write]
    · have a7' : ρ 0 5 = nI 1 := a7
      simp (disch := omega) only [lit, neg1, nI_1, nI_add, pk_mul, pk_sub, nI_leI, nI_ltI, nI_eq, nI_eqm, chkn, ixn, if_pos, if_neg, bndV_s, bndE_s, bndO_s, reduceIte, irmn, iminn, imaxn, f_X12_notes, a7']
end
