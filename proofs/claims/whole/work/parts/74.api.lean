section
theorem AR_pp {bb : Bool} {W M W' M' : Nat} {μ μ' ρ ρ' : Mem} (h : ChR 1 μ ρ W M ∧ TpR μ ρ ∧ FaR μ ρ ∧ DrR μ ∧ PaR μ ρ W M ∧ PlR μ ∧ ImR bb μ ρ ∧ ThR ρ) (hW : W ≤ W') (hM : M ≤ M')
    (h1 : ∀ x, 13 ≤ x → x ≠ 19 → x ≠ 26 → x ≠ 27 → ¬ (54 ≤ x ∧ x ≤ 92) → ¬ (94 ≤ x ∧ x ≤ 104) → μ' x = μ x) (h2 : ∀ x, 10 ≤ x → ¬ (23 ≤ x ∧ x ≤ 26) → ρ' x = ρ x) (h3 : ∀ j, j ≠ 0 → j ≠ 3 → j ≠ 6 → j ≠ 7 → ρ' 0 j = ρ 0 j)
    (c1 : PpR 1 μ' ρ' W' M') (c2 : StR μ' 2 (μ' 26 3) (ρ' 1) 0) (c3 : StI W' M' (ρ' 1) 0) (c4 : RcR 1 μ' ρ') (c5 : PaR μ' ρ' W' M') : AR bb μ' ρ' := by
  obtain ⟨⟨a1, a2, a3, a4, a5, a6, a7, a8, a9, a10, a11, a12, a13, a14, a15⟩, b2, b3, b4, b5, b6, b7, b8⟩ := h
  have m : ∀ x, 13 ≤ x → x ≤ 53 → x ≠ 19 → x ≠ 26 → x ≠ 27 → μ' x = μ x := fun x g1 g2 g3 g4 g5 => h1 x g1 g3 g4 g5 (by omega) (by omega)
  have r : ∀ x, 10 ≤ x → x ≤ 22 → ρ' x = ρ x := fun x g1 g2 => h2 x g1 (by omega)
  have q : ∀ x, 27 ≤ x → ρ' x = ρ x := fun x g1 => h2 x (by omega) (by omega)
  have z : ∀ j, 8 ≤ j → ρ' 0 j = ρ 0 j := fun j g1 => h3 j (by omega) (by omega) (by omega) (by omega)
  refine ⟨W', M', ⟨c1, c2, c3, c4, QuR_o a5 (m _ (by omega) (by omega) (by omega) (by omega) (by omega)) (m _ (by omega) (by omega) (by omega) (by omega) (by omega)) (z _ (by omega)) (r _ (by omega) (by omega)), ?_, ?_, LwR_o a8 (fun x _ _ => m x (by omega) (by omega) (by omega) (by omega) (by omega)) (fun x _ _ => r x (by omega) (by omega)),
    MeR_o a9 (m _ (by omega) (by omega) (by omega) (by omega) (by omega)) (m _ (by omega) (by omega) (by omega) (by omega) (by omega)) (z _ (by omega)) (fun x _ _ => q x (by omega)), GuR_o a10 (m _ (by omega) (by omega) (by omega) (by omega) (by omega)) (m _ (by omega) (by omega) (by omega) (by omega) (by omega)) (z _ (by omega)) (fun x _ _ => q x (by omega)),
    OdR_o a11 (m _ (by omega) (by omega) (by omega) (by omega) (by omega)) (m _ (by omega) (by omega) (by omega) (by omega) (by omega)) (z _ (by omega)) (fun x _ _ => q x (by omega)), RoR_o a12 (m _ (by omega) (by omega) (by omega) (by omega) (by omega)) (m _ (by omega) (by omega) (by omega) (by omega) (by omega)) (z _ (by omega)) (q _ (by omega)),
    SpR_o a13 (m _ (by omega) (by omega) (by omega) (by omega) (by omega)) (m _ (by omega) (by omega) (by omega) (by omega) (by omega)) (z _ (by omega)) (q _ (by omega)), OfR_o a14 (m _ (by omega) (by omega) (by omega) (by omega) (by omega)) (m _ (by omega) (by omega) (by omega) (by omega) (by omega)) (z _ (by omega)) (q _ (by omega)),
    CgR_o a15 (m _ (by omega) (by omega) (by omega) (by omega) (by omega)) (fun x _ _ => q x (by omega))⟩, TpR_o b2 (by rw [m 41 (by omega) (by omega) (by omega) (by omega) (by omega)]) (m _ (by omega) (by omega) (by omega) (by omega) (by omega)) (z _ (by omega)) (r _ (by omega) (by omega)), ?_, ?_, c5, PlR_o b6 (fun x g => h1 x (by omega) (by omega) (by omega) (by omega) (by omega) (by omega)), ImR_o b7 (fun x g => h1 x (by omega) (by omega) (by omega) (by omega) (by omega) (by omega)) (z _ (by omega)) (q _ (by omega)), ?_⟩
  · have c := CaR_o a6 (m _ (by omega) (by omega) (by omega) (by omega) (by omega)) (m _ (by omega) (by omega) (by omega) (by omega) (by omega)) (z _ (by omega)) (r _ (by omega) (by omega)) (μ' := μ') (ρ' := ρ')
    obtain ⟨n, n1, n2, n3⟩ := c
    refine ⟨n, n1, n2, fun i hi => ?_⟩
    obtain ⟨d0, e, w, d1, d2, d3, d4, d5, d6, d7, d8⟩ := n3 i hi
    refine ⟨d0, e, w, d1, d2, d3, d4, d5, fun g => Nat.lt_of_lt_of_le (d6 g) hW, fun g => Nat.lt_of_lt_of_le (d7 g) hM, fun g => ?_⟩
    obtain ⟨x, y, zz, e1, e2, e3, e4⟩ := d8 g
    exact ⟨x, y, zz, Nat.lt_of_lt_of_le e1 hW, Nat.lt_of_lt_of_le e2 hW, Nat.lt_of_lt_of_le e3 hW, e4⟩
  · have c := SiR_o a7 (m _ (by omega) (by omega) (by omega) (by omega) (by omega)) (m _ (by omega) (by omega) (by omega) (by omega) (by omega)) (z _ (by omega)) (r _ (by omega) (by omega)) (μ' := μ') (ρ' := ρ')
    obtain ⟨n, A, B, n1, n2, n3, n4⟩ := c
    refine ⟨n, A, B, n1, n2, fun i hi => ?_, n4⟩
    obtain ⟨e1, e2, e3⟩ := n3 i hi
    exact ⟨Nat.lt_of_lt_of_le e1 hW, Nat.lt_of_lt_of_le e2 hW, e3⟩
  · unfold FaR at b3 ⊢
    rw [m 41 (by omega) (by omega) (by omega) (by omega) (by omega), z 35 (by omega), z 36 (by omega)]
    exact b3
  · unfold DrR at b4 ⊢
    rw [m 52 (by omega) (by omega) (by omega) (by omega) (by omega)]
    exact b4
  · unfold ThR at b8 ⊢
    rw [h3 5 (by omega) (by omega) (by omega) (by omega), r 11 (by omega) (by omega)]
    exact b8
theorem PaR_0 {W M W' M' : Nat} {μ μ' ρ ρ' : Mem} (h : PaR μ ρ W M) (h1 : μ' 54 3 = nI 0) (h2 : μ' 54 2 = μ 54 2) (h3 : ρ' 0 3 = nI 0) : PaR μ' ρ' W' M' := by
  obtain ⟨c, x, hc, hx, a1, a2, a3, a4, a5, a6⟩ := h
  exact ⟨0, x, by omega, hx, h1, h3, by rw [h2]; exact a3, fun j hj => absurd hj (by omega), fun j hj => absurd hj (by omega), fun hj => absurd hj (by omega)⟩
theorem s_state {G : Nat} {bb : Bool} {μ ρ : Mem} (h : AR bb μ ρ) (v : Int32) : ∃ r μ' ρ', f_X11_state G v μ = some (r, μ') ∧ f_X12_state G v ρ = some (r, ρ') ∧ AR bb μ' ρ' := by
  obtain ⟨W, M, H⟩ := h
  obtain ⟨C, b2, b3, b4, b5, b6, b7, b8⟩ := id H
  obtain ⟨a1, a2, a3, a4, a5, a6, a7, a8, _⟩ := id C
  have e : μ 2 8 = ρ 1 1 := a2.2.1
  refine ⟨ρ 1 1, wr (wr μ 2 8 v) 54 3 (nI 0), wr (wr (wr ρ 0 0 (nI 0)) 1 1 v) 0 3 (nI 0), ?_, ?_, ?_⟩
  · simp (disch := omega) only [lit, neg1, nI_1, nI_add, pk_mul, pk_sub, nI_leI, nI_ltI, nI_eq, nI_eqm, chkn, ixn, if_pos, if_neg, bndV_s, bndE_s, bndO_s, reduceIte, irmn, iminn, imaxn, f_X11_state, f_X3_forget, e]
  · simp (disch := omega) only [lit, neg1, nI_1, nI_add, pk_mul, pk_sub, nI_leI, nI_ltI, nI_eq, nI_eqm, chkn, ixn, if_pos, if_neg, bndV_s, bndE_s, bndO_s, reduceIte, irmn, iminn, imaxn, f_X12_state, wr_cell]
  · have m : ∀ x, x ≠ 2 → x ≠ 54 → (wr (wr μ 2 8 v) 54 3 (nI 0)) x = μ x := fun x g1 g2 => by rw [wr_off g2, wr_off g1]
    have r : ∀ x, x ≠ 0 → x ≠ 1 → (wr (wr (wr ρ 0 0 (nI 0)) 1 1 v) 0 3 (nI 0)) x = ρ x := fun x g1 g2 => by rw [wr_off g1, wr_off g2, wr_off g1]
    have z : ∀ j, j ≠ 0 → j ≠ 3 → (wr (wr (wr ρ 0 0 (nI 0)) 1 1 v) 0 3 (nI 0)) 0 j = ρ 0 j := fun j g1 g2 => by rw [wr_slot g2, wr_cell (by omega), wr_slot g1]
    have y : ∀ j, j ≠ 1 → (wr (wr (wr ρ 0 0 (nI 0)) 1 1 v) 0 3 (nI 0)) 1 j = ρ 1 j := fun j g => by rw [wr_cell (by omega), wr_slot g, wr_cell (by omega)]
    refine AR_pp H (Nat.le_refl _) (Nat.le_refl _) (fun x g1 g2 g3 g4 g5 g6 => m x (by omega) (by omega)) (fun x g1 g2 => r x (by omega) (by omega)) (fun j g1 g2 g3 g4 => z j g1 g2)
      (PpR_o a1 (m _ (by omega) (by omega)) (fun x _ _ => m x (by omega) (by omega)) (z _ (by omega) (by omega)) (z _ (by omega) (by omega)) (fun x _ _ => r x (by omega) (by omega))) ?_ ?_ (RcR_o a4 (m _ (by omega) (by omega)) (m _ (by omega) (by omega)) (y 2 (by omega)) (r _ (by omega) (by omega))) (PaR_0 b5 wr_same (by rw [wr_slot (by omega), wr_cell (by omega)]) wr_same)
    · obtain ⟨s1, s2, s3, s4, s5, s6, s7, s8, s9, s10⟩ := a2
      refine ⟨?_, ?_, ?_, ?_, ?_, ?_, ?_, ?_, ?_, ?_⟩
      · rw [wr_cell (by omega), wr_slot (by omega), y _ (by omega)]; exact s1
      · rw [wr_cell (by omega), wr_same, wr_cell (by omega), wr_same]
      · rw [m 26 (by omega) (by omega), y _ (by omega)]; exact s3
      · rw [wr_cell (by omega), wr_slot (by omega), y _ (by omega)]; exact s4
      · rw [wr_cell (by omega), wr_slot (by omega), y _ (by omega)]; exact s5
      · intro k hk; rw [m _ (by omega) (by omega), y _ (by omega)]; exact s6 k hk
      · intro k hk; rw [m _ (by omega) (by omega), y _ (by omega)]; exact s7 k hk
      · intro k hk; rw [m _ (by omega) (by omega), y _ (by omega)]; exact s8 k hk
      · intro k hk; rw [m _ (by omega) (by omega), y _ (by omega)]; exact s9 k hk
      · intro k hk; rw [m _ (by omega) (by omega), y _ (by omega)]; exact s10 k hk
    · obtain ⟨i1, i2, i3, i4, i5, i6, i7⟩ := a3
      exact ⟨by rw [y _ (by omega)]; exact i1, by rw [y _ (by omega)]; exact i2, fun w h1 h2 => by rw [y _ (by omega)]; exact i3 w h1 h2, fun w h1 => by rw [y _ (by omega)]; exact i4 w h1, fun w h1 h2 => by rw [y _ (by omega)]; exact i5 w h1 h2, fun w h1 => by rw [y _ (by omega)]; exact i6 w h1, fun w h1 h2 => by rw [y _ (by omega)]; exact i7 w h1 h2⟩
theorem wo_id {c W : Nat} (hW : W ≤ 31) (h : c < 2 ^ W) : wo c (2 ^ W) = c := by
  apply bits_eq
  intro i
  by_cases hi : i < 32
  · rw [wo_bit hi, pw_bit]
    by_cases e : W = i
    · subst e; rw [bit_ge h (Nat.le_refl _)]; rfl
    · simp [e]
  · have h32 : c < 2 ^ i := Nat.lt_of_lt_of_le h (Nat.pow_le_pow_right (by decide) (by omega))
    rw [Nat.testBit_lt_two_pow h32, Nat.testBit_lt_two_pow (Nat.lt_of_le_of_lt wo_le h32)]
theorem s_woman {G : Nat} {bb : Bool} {μ ρ : Mem} (h : AR bb μ ρ) (p q t : Int32) : ∃ r μ' ρ', f_X11_woman G p q t μ = some (r, μ') ∧ f_X12_woman G p q t ρ = some (r, ρ') ∧ AR bb μ' ρ' := by
  obtain ⟨W, M, H⟩ := id h
  obtain ⟨C, b2, b3, b4, b5, b6, b7, b8⟩ := id H
  obtain ⟨a1, a2, a3, a4, a5, a6, a7, a8, _⟩ := id C
  obtain ⟨p1, p2, p3, p4, p5, p6, p7, p8, p9, p10, p11, p12⟩ := id a1
  by_cases c : (nI 0 ≤ p ∧ p ≤ nI 9) ∧ (nI 0 ≤ q ∧ q ≤ nI 9) ∧ (nI 0 ≤ t ∧ t ≤ nI 9)
  · obtain ⟨c1, c2, c3⟩ := c
    by_cases e : W = 12
    · subst e
      refine no_st h (r := nI 4294967295) ?_ ?_
      · simp (disch := omega) only [lit, neg1, nI_1, nI_add, pk_mul, pk_sub, nI_leI, nI_ltI, nI_eq, nI_eqm, chkn, ixn, if_pos, if_neg, bndV_s, bndE_s, bndO_s, reduceIte, irmn, iminn, imaxn, and_self, true_and, and_true, false_and, and_false, f_X11_woman, isD, c1, c2, c3, f_X0_addWoman, p1]
      · simp (disch := omega) only [lit, neg1, nI_1, nI_add, pk_mul, pk_sub, nI_leI, nI_ltI, nI_eq, nI_eqm, chkn, ixn, if_pos, if_neg, bndV_s, bndE_s, bndO_s, reduceIte, irmn, iminn, imaxn, and_self, true_and, and_true, false_and, and_false, f_X12_woman, isI, c1, c2, c3, wr_slot, p2]
    · have hW : W < 12 := by omega
      obtain ⟨cc, hcc, ec⟩ := a3.2.1
      have ec : ρ 1 4 = nI cc := ec
      have z5 : ρ 1 (5 + W) = 0 := by have := a3.2.2.1 W hW (Nat.le_refl _); rw [Nat.zero_add] at this; exact this
      refine ⟨nI W, wr (wr (wr (wr (wr μ 8 W p) 9 W q) 10 W t) 1 6 (nI (W + 1))) 54 3 (nI 0), wr (wr (wr (wr (wr (wr (wr (wr ρ 0 0 (nI 0)) 4 W p) 5 W q) 6 W t) 1 (5 + W) (nI 0)) 1 4 (nI cc)) 0 6 (nI (W + 1))) 0 3 (nI 0), ?_, ?_, ?_⟩
      · have ne : ¬ nI W = nI 4294967295 := fun g => nI_m1 (by omega) g
        simp (disch := omega) only [lit, neg1, nI_1, nI_add, pk_mul, pk_sub, nI_leI, nI_ltI, nI_eq, nI_eqm, chkn, ixn, if_pos, if_neg, bndV_s, bndE_s, bndO_s, reduceIte, irmn, iminn, imaxn, and_self, true_and, and_true, false_and, and_false, f_X11_woman, isD, c1, c2, c3, f_X0_addWoman, p1, wr_cell, wr_same, Nat.add_sub_cancel, f_X3_forget, ne]
      · simp (disch := omega) only [lit, neg1, nI_1, nI_add, pk_mul, pk_sub, nI_leI, nI_ltI, nI_eq, nI_eqm, chkn, ixn, if_pos, if_neg, bndV_s, bndE_s, bndO_s, reduceIte, irmn, iminn, imaxn, and_self, true_and, and_true, false_and, and_false, f_X12_woman, isI, c1, c2, c3, wr_slot, wr_cell, p2, wr_same, Nat.add_sub_cancel, ec, sl1, won, wo_id]
      · generalize hμ : wr (wr (wr (wr (wr μ 8 W p) 9 W q) 10 W t) 1 6 (nI (W + 1))) 54 3 (nI 0) = μ'
        generalize hρ : wr (wr (wr (wr (wr (wr (wr (wr ρ 0 0 (nI 0)) 4 W p) 5 W q) 6 W t) 1 (5 + W) (nI 0)) 1 4 (nI cc)) 0 6 (nI (W + 1))) 0 3 (nI 0) = ρ'
        have m : ∀ x, x ≠ 1 → x ≠ 8 → x ≠ 9 → x ≠ 10 → x ≠ 54 → μ' x = μ x := fun x g1 g2 g3 g4 g5 => by rw [← hμ, wr_off g5, wr_off g1, wr_off g4, wr_off g3, wr_off g2]
        have r : ∀ x, x ≠ 0 → x ≠ 1 → x ≠ 4 → x ≠ 5 → x ≠ 6 → ρ' x = ρ x := fun x g1 g2 g3 g4 g5 => by rw [← hρ, wr_off g1, wr_off g1, wr_off g2, wr_off g2, wr_off g5, wr_off g4, wr_off g3, wr_off g1]
        have z : ∀ j, j ≠ 0 → j ≠ 3 → j ≠ 6 → ρ' 0 j = ρ 0 j := fun j g1 g2 g3 => by rw [← hρ, wr_slot g2, wr_slot g3, wr_cell (by omega), wr_cell (by omega), wr_cell (by omega), wr_cell (by omega), wr_cell (by omega), wr_slot g1]
        have y : ρ' 1 = ρ 1 := by
          funext j
          rw [← hρ, wr_cell (by omega), wr_cell (by omega)]
          by_cases e4 : j = 4
          · subst e4; rw [wr_same, ec]
          · rw [wr_slot e4]
            by_cases e5 : j = 5 + W
            · subst e5; rw [wr_same, z5]; rfl
            · rw [wr_slot e5, wr_cell (by omega), wr_cell (by omega), wr_cell (by omega), wr_cell (by omega)]
        have up : ∀ a b : Nat → Int32, ∀ u v : Int32, (∀ k, k < 12 → a k = b k) → u = v → ∀ k, k < 12 → (if k = W then u else a k) = (if k = W then v else b k) := fun a b u v g1 g2 k hk => by rw [g1 k hk, g2]
        refine AR_pp H (W' := W + 1) (Nat.le_succ _) (Nat.le_refl _) (fun x g1 g2 g3 g4 g5 g6 => m x (by omega) (by omega) (by omega) (by omega) (by omega)) (fun x g1 g2 => r x (by omega) (by omega) (by omega) (by omega) (by omega)) (fun j g1 g2 g3 g4 => z j g1 g2 g3)
          ⟨?_, ?_, by omega, ?_, ?_, p6, ?_, ?_, ?_, ?_, ?_, ?_⟩ ?_ ?_ (RcR_o a4 (m _ (by omega) (by omega) (by omega) (by omega) (by omega)) (m _ (by omega) (by omega) (by omega) (by omega) (by omega)) (by rw [y]) (r _ (by omega) (by omega) (by omega) (by omega) (by omega))) (PaR_0 b5 (by rw [← hμ]; exact wr_same) (by rw [← hμ, wr_slot (by omega), wr_cell (by omega), wr_cell (by omega), wr_cell (by omega), wr_cell (by omega)]) (by rw [← hρ]; exact wr_same))
        · rw [← hμ, wr_cell (by omega), wr_same]
        · rw [← hρ, wr_slot (by omega), wr_same]
        · rw [← hμ, wr_cell (by omega), wr_slot (by omega), wr_cell (by omega), wr_cell (by omega), wr_cell (by omega)]; exact p4
        · rw [z 7 (by omega) (by omega) (by omega)]; exact p5
        · intro k hk
          have e8 : μ' (1 + 7) k = if k = W then p else μ 8 k := by rw [← hμ]; simp [wr]
          have e4 : ρ' 4 k = if k = W then p else ρ 4 k := by rw [← hρ]; simp [wr]
          rw [e8, e4]; exact up _ _ _ _ p7 rfl k hk
        · intro k hk
          have e8 : μ' (1 + 8) k = if k = W then q else μ 9 k := by rw [← hμ]; simp [wr]
          have e4 : ρ' 5 k = if k = W then q else ρ 5 k := by rw [← hρ]; simp [wr]
          rw [e8, e4]; exact up _ _ _ _ p8 rfl k hk
        · intro k hk
          have e8 : μ' (1 + 9) k = if k = W then t else μ 10 k := by rw [← hμ]; simp [wr]
          have e4 : ρ' 6 k = if k = W then t else ρ 6 k := by rw [← hρ]; simp [wr]
          rw [e8, e4]; exact up _ _ _ _ p9 rfl k hk
        · intro k hk; rw [m _ (by omega) (by omega) (by omega) (by omega) (by omega), r 7 (by omega) (by omega) (by omega) (by omega) (by omega)]; exact p10 k hk
        · intro k hk; rw [m _ (by omega) (by omega) (by omega) (by omega) (by omega), r 8 (by omega) (by omega) (by omega) (by omega) (by omega)]; exact p11 k hk
        · intro g hg; rw [r 8 (by omega) (by omega) (by omega) (by omega) (by omega)]; obtain ⟨w, w1, w2⟩ := p12 g hg; exact ⟨w, by omega, w2⟩
        · rw [m 26 (by omega) (by omega) (by omega) (by omega) (by omega), y]
          exact StR_cls (fun x g1 g2 => m x (by omega) (by omega) (by omega) (by omega) (by omega)) a2
        · rw [y]
          obtain ⟨i1, i2, i3, i4, i5, i6, i7⟩ := a3
          refine ⟨i1, ?_, fun w g1 g2 => i3 w g1 (by omega), fun g hg => ?_, i5, i6, i7⟩
          · obtain ⟨c', c1', c2'⟩ := i2; exact ⟨c', Nat.lt_of_lt_of_le c1' (Nat.pow_le_pow_right (by decide) (by omega)), c2'⟩
          · obtain ⟨w, w1, w2⟩ := i4 g hg; exact ⟨w, by omega, w2⟩
  · refine no_st h (r := nI 4294967295) ?_ ?_
    · by_cases c1 : nI 0 ≤ p ∧ p ≤ nI 9
      · by_cases c2 : nI 0 ≤ q ∧ q ≤ nI 9
        · have c3 : ¬ (nI 0 ≤ t ∧ t ≤ nI 9) := fun c3 => c ⟨c1, c2, c3⟩
          simp (disch := omega) only [lit, neg1, nI_1, nI_add, pk_mul, pk_sub, nI_leI, nI_ltI, nI_eq, nI_eqm, chkn, ixn, if_pos, if_neg, bndV_s, bndE_s, bndO_s, reduceIte, irmn, iminn, imaxn, and_self, true_and, and_true, false_and, and_false, f_X11_woman, isD, c1, c2, c3]
        · simp (disch := omega) only [lit, neg1, nI_1, nI_add, pk_mul, pk_sub, nI_leI, nI_ltI, nI_eq, nI_eqm, chkn, ixn, if_pos, if_neg, bndV_s, bndE_s, bndO_s, reduceIte, irmn, iminn, imaxn, and_self, true_and, and_true, false_and, and_false, f_X11_woman, isD, c1, c2]
      · simp (disch := omega) only [lit, neg1, nI_1, nI_add, pk_mul, pk_sub, nI_leI, nI_ltI, nI_eq, nI_eqm, chkn, ixn, if_pos, if_neg, bndV_s, bndE_s, bndO_s, reduceIte, irmn, iminn, imaxn, and_self, true_and, and_true, false_and, and_false, f_X11_woman, isD, c1]
    · by_cases c1 : nI 0 ≤ p ∧ p ≤ nI 9
      · by_cases c2 : nI 0 ≤ q ∧ q ≤ nI 9
        · have c3 : ¬ (nI 0 ≤ t ∧ t ≤ nI 9) := fun c3 => c ⟨c1, c2, c3⟩
          simp (disch := omega) only [lit, neg1, nI_1, nI_add, pk_mul, pk_sub, nI_leI, nI_ltI, nI_eq, nI_eqm, chkn, ixn, if_pos, if_neg, bndV_s, bndE_s, bndO_s, reduceIte, irmn, iminn, imaxn, and_self, true_and, and_true, false_and, and_false, f_X12_woman, isI, c1, c2, c3]
        · simp (disch := omega) only [lit, neg1, nI_1, nI_add, pk_mul, pk_sub, nI_leI, nI_ltI, nI_eq, nI_eqm, chkn, ixn, if_pos, if_neg, bndV_s, bndE_s, bndO_s, reduceIte, irmn, iminn, imaxn, and_self, true_and, and_true, false_and, and_false, f_X12_woman, isI, c1, c2]
      · simp (disch := omega) only [lit, neg1, nI_1, nI_add, pk_mul, pk_sub, nI_leI, nI_ltI, nI_eq, nI_eqm, chkn, ixn, if_pos, if_neg, bndV_s, bndE_s, bndO_s, reduceIte, irmn, iminn, imaxn, and_self, true_and, and_true, false_and, and_false, f_X12_woman, isI, c1]
end
