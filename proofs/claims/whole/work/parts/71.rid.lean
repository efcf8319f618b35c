section
theorem AR_rid {bb : Bool} {μ μ' ρ ρ' : Mem} (h : AR bb μ ρ) (h1 : ∀ x, x < 28 ∨ 40 < x → x ≠ 105 → μ' x = μ x) (h2 : ∀ x, x ≠ 0 → x < 27 ∨ 42 < x ∨ x = 32 ∨ x = 33 ∨ x = 37 ∨ x = 38 → ρ' x = ρ x) (h3 : ∀ j, j ≠ 0 → j ≠ 47 → j ≠ 51 → j ≠ 57 → j ≠ 60 → j ≠ 64 → j ≠ 68 → ρ' 0 j = ρ 0 j)
    (c1 : MeR 1 μ' ρ') (c2 : GuR 1 μ' ρ') (c3 : OdR 1 μ' ρ') (c4 : RoR 1 μ' ρ') (c5 : SpR 1 μ' ρ') (c6 : OfR 1 μ' ρ') (c7 : CgR 1 μ' ρ') (c8 : PlR μ') : AR bb μ' ρ' := by
  obtain ⟨W, M, ⟨a1, a2, a3, a4, a5, a6, a7, a8, _, _, _, _, _, _, _⟩, b2, b3, b4, b5, b6, b7, b8⟩ := h
  have m : ∀ x, x < 28 → μ' x = μ x := fun x g => h1 x (by omega) (by omega)
  have r : ∀ x, x ≠ 0 → x < 27 → ρ' x = ρ x := fun x g1 g2 => h2 x g1 (by omega)
  have z : ∀ j, j ≠ 0 → j < 47 → ρ' 0 j = ρ 0 j := fun j g1 g2 => h3 j g1 (by omega) (by omega) (by omega) (by omega) (by omega) (by omega)
  refine ⟨W, M, ⟨PpR_o a1 (m _ (by omega)) (fun x _ _ => m x (by omega)) (z 6 (by omega) (by omega)) (z 7 (by omega) (by omega)) (fun x _ _ => r x (by omega) (by omega)), ?_, by rw [r 1 (by omega) (by omega)]; exact a3, RcR_o a4 (m _ (by omega)) (m _ (by omega)) (by rw [r 1 (by omega) (by omega)]) (r 9 (by omega) (by omega)), QuR_o a5 (m _ (by omega)) (m _ (by omega)) (z 37 (by omega) (by omega)) (r 20 (by omega) (by omega)), CaR_o a6 (m _ (by omega)) (m _ (by omega)) (z 39 (by omega) (by omega)) (r 21 (by omega) (by omega)), SiR_o a7 (m _ (by omega)) (m _ (by omega)) (z 41 (by omega) (by omega)) (r 22 (by omega) (by omega)), LwR_o a8 (fun x _ _ => m x (by omega)) (fun x _ _ => r x (by omega) (by omega)), c1, c2, c3, c4, c5, c6, c7⟩,
    TpR_o b2 (by rw [h1 41 (by omega) (by omega)]) (h1 42 (by omega) (by omega)) (z 15 (by omega) (by omega)) (r 10 (by omega) (by omega)), ?_, ?_, PaR_o b5 (fun x _ _ => h1 x (by omega) (by omega)) (z 3 (by omega) (by omega)) (r 2 (by omega) (by omega)) (by rw [r 1 (by omega) (by omega)]), c8, ImR_o b7 (fun x _ => h1 x (by omega) (by omega)) (h3 73 (by omega) (by omega) (by omega) (by omega) (by omega) (by omega) (by omega)) (h2 45 (by omega) (by omega)), ?_⟩
  · show StR μ' 2 (μ' 26 3) (ρ' 1) 0
    rw [m 26 (by omega), r 1 (by omega) (by omega)]
    exact StR_cls (fun x _ _ => m x (by omega)) a2
  · unfold FaR at b3 ⊢
    rw [h1 41 (by omega) (by omega), z 35 (by omega) (by omega), z 36 (by omega) (by omega)]
    exact b3
  · unfold DrR at b4 ⊢
    rw [h1 52 (by omega) (by omega)]
    exact b4
  · unfold ThR at b8 ⊢
    rw [z 5 (by omega) (by omega), r 11 (by omega) (by omega)]
    exact b8
theorem AR_ch {bb : Bool} {μ ρ : Mem} (h : AR bb μ ρ) : MeR 1 μ ρ ∧ GuR 1 μ ρ ∧ OdR 1 μ ρ ∧ RoR 1 μ ρ ∧ SpR 1 μ ρ ∧ OfR 1 μ ρ ∧ CgR 1 μ ρ ∧ PlR μ := by
  obtain ⟨W, M, ⟨_, _, _, _, _, _, _, _, a1, a2, a3, a4, a5, a6, a7⟩, _, _, _, _, b, _, _⟩ := h
  exact ⟨a1, a2, a3, a4, a5, a6, a7, b⟩
/-- refused, or none is then -/
theorem no_st {bb : Bool} {μ ρ : Mem} {f g : Option (Int32 × Mem)} {r : Int32} (h : AR bb μ ρ) (h1 : f = some (r, μ)) (h2 : g = some (r, wr ρ 0 0 (nI 0))) : ∃ r μ' ρ', f = some (r, μ') ∧ g = some (r, ρ') ∧ AR bb μ' ρ' := ⟨r, μ, _, h1, h2, AR_told h⟩
theorem s_bet {G : Nat} {bb : Bool} {μ ρ : Mem} (hG : 500 ≤ G) (h : AR bb μ ρ) (p q : Int32) : ∃ r μ' ρ', f_X11_bet G p q μ = some (r, μ') ∧ f_X12_bet G p q ρ = some (r, ρ') ∧ AR bb μ' ρ' := by
  obtain ⟨a1, a2, a3, a4, a5, a6, a7, a8⟩ := AR_ch h
  obtain ⟨n, n1, n2, n3⟩ := id a3
  have n1 : LnR μ 32 6 2 n := n1
  have hn : n ≤ 6 := n1.2.2.2
  by_cases e : p = nI 4294967295
  · subst e
    refine ⟨nI 0, wr μ 32 3 (nI 0), wr (wr ρ 0 0 (nI 0)) 0 57 (nI 0), ?_, ?_, ?_⟩
    · simp (disch := omega) only [lit, neg1, nI_1, nI_add, pk_mul, pk_sub, nI_leI, nI_ltI, nI_eq, nI_eqm, chkn, ixn, if_pos, if_neg, bndV_s, bndE_s, bndO_s, reduceIte, irmn, iminn, imaxn, f_X11_bet, f_X2_clear]
    · simp (disch := omega) only [lit, neg1, nI_1, nI_add, pk_mul, pk_sub, nI_leI, nI_ltI, nI_eq, nI_eqm, chkn, ixn, if_pos, if_neg, bndV_s, bndE_s, bndO_s, reduceIte, irmn, iminn, imaxn, f_X12_bet]
    · have m : ∀ x, x ≠ 32 → (wr μ 32 3 (nI 0)) x = μ x := fun x g => wr_off g
      have r : ∀ x, x ≠ 0 → (wr (wr ρ 0 0 (nI 0)) 0 57 (nI 0)) x = ρ x := fun x g => by rw [wr_off g, wr_off g]
      have z : ∀ j, j ≠ 0 → j ≠ 57 → (wr (wr ρ 0 0 (nI 0)) 0 57 (nI 0)) 0 j = ρ 0 j := fun j g1 g2 => by rw [wr_slot g2, wr_slot g1]
      exact AR_rid h (fun x g1 g2 => m x (by omega)) (fun x g1 g2 => r x g1) (fun j g1 _ _ g4 _ _ _ => z j g1 g4)
        (MeR_o a1 (m _ (by omega)) (m _ (by omega)) (z _ (by omega) (by omega)) (fun x _ _ => r x (by omega))) (GuR_o a2 (m _ (by omega)) (m _ (by omega)) (z _ (by omega) (by omega)) (fun x _ _ => r x (by omega)))
        ⟨0, LnR_n n1 (by omega), wr_same, fun i hi => absurd hi (by omega)⟩
        (RoR_o a4 (m _ (by omega)) (m _ (by omega)) (z _ (by omega) (by omega)) (r _ (by omega))) (SpR_o a5 (m _ (by omega)) (m _ (by omega)) (z _ (by omega) (by omega)) (r _ (by omega))) (OfR_o a6 (m _ (by omega)) (m _ (by omega)) (z _ (by omega) (by omega)) (r _ (by omega))) (CgR_o a7 (m _ (by omega)) (fun x _ _ => r x (by omega))) (PlR_o a8 (fun x g => m x (by omega)))
  by_cases c1 : nI 0 ≤ p ∧ p < nI 3
  · obtain ⟨k, hk, rfl⟩ := lt_of 3 rfl (by omega) c1.1 c1.2
    by_cases c2 : nI 101 ≤ q ∧ q ≤ nI 9999
    · have c3 : (0 : Int32) ≤ q := by have := c2.1; have h101 : nI 101 = (101 : Int32) := rfl; grind
      obtain ⟨v, hv, rfl⟩ := in_of 9999 rfl (by omega) c3 c2.2
      have hv2 : 101 ≤ v := by have := (nI_leI (by omega) (by omega)).mp c2.1; omega
      by_cases c4 : n = 6
      · subst c4
        refine no_st h (r := nI 4294967295) ?_ ?_
        · simp (disch := omega) only [lit, neg1, nI_1, nI_add, pk_mul, pk_sub, nI_leI, nI_ltI, nI_eq, nI_eqm, chkn, ixn, if_pos, if_neg, bndV_s, bndE_s, bndO_s, reduceIte, irmn, iminn, imaxn, f_X11_bet, isB, show f_X2_add G 32 12 (nI k) (nI v) (nI 0) (nI 0) μ = some (nI 4294967295, μ) from addF n1 (by omega)]
        · simp (disch := omega) only [lit, neg1, nI_1, nI_add, pk_mul, pk_sub, nI_leI, nI_ltI, nI_eq, nI_eqm, chkn, ixn, if_pos, if_neg, bndV_s, bndE_s, bndO_s, reduceIte, irmn, iminn, imaxn, f_X12_bet, isI, wr_slot, n2]
      · obtain ⟨μ', b1, b2, b3, b4, b5⟩ := addn (G := G) (N := 12) (p := nI k) (q := nI v) (r := nI 0) (s := nI 0) n1 (by omega) (by omega) (by omega) (by omega) (by omega) (show n < 6 by omega)
        refine ⟨nI (n + 1), μ', wr (wr (wr (wr ρ 0 0 (nI 0)) 34 n (nI k)) 35 n (nI v)) 0 57 (nI (n + 1)), ?_, ?_, ?_⟩
        · simp (disch := omega) only [lit, neg1, nI_1, nI_add, pk_mul, pk_sub, nI_leI, nI_ltI, nI_eq, nI_eqm, chkn, ixn, if_pos, if_neg, bndV_s, bndE_s, bndO_s, reduceIte, irmn, iminn, imaxn, f_X11_bet, isB, b1]
        · simp (disch := omega) only [lit, neg1, nI_1, nI_add, pk_mul, pk_sub, nI_leI, nI_ltI, nI_eq, nI_eqm, chkn, ixn, if_pos, if_neg, bndV_s, bndE_s, bndO_s, reduceIte, irmn, iminn, imaxn, f_X12_bet, isI, wr_slot, wr_cell, n2, wr_same]
        · have m : ∀ x, x ≠ 32 → x ≠ 33 → μ' x = μ x := fun x g1 g2 => b2 x g1 g2
          have r : ∀ x, x ≠ 0 → x ≠ 34 → x ≠ 35 → (wr (wr (wr (wr ρ 0 0 (nI 0)) 34 n (nI k)) 35 n (nI v)) 0 57 (nI (n + 1))) x = ρ x := fun x g1 g2 g3 => by rw [wr_off g1, wr_off g3, wr_off g2, wr_off g1]
          have z : ∀ j, j ≠ 0 → j ≠ 57 → (wr (wr (wr (wr ρ 0 0 (nI 0)) 34 n (nI k)) 35 n (nI v)) 0 57 (nI (n + 1))) 0 j = ρ 0 j := fun j g1 g2 => by rw [wr_slot g2, wr_cell (by omega), wr_cell (by omega), wr_slot g1]
          refine AR_rid h (fun x g1 g2 => m x (by omega) (by omega)) (fun x g1 g2 => r x g1 (by omega) (by omega)) (fun j g1 _ _ g4 _ _ _ => z j g1 g4)
            (MeR_o a1 (m _ (by omega) (by omega)) (m _ (by omega) (by omega)) (z _ (by omega) (by omega)) (fun x _ _ => r x (by omega) (by omega) (by omega))) (GuR_o a2 (m _ (by omega) (by omega)) (m _ (by omega) (by omega)) (z _ (by omega) (by omega)) (fun x _ _ => r x (by omega) (by omega) (by omega)))
            ⟨n + 1, b3, wr_same, fun i hi => ?_⟩
            (RoR_o a4 (m _ (by omega) (by omega)) (m _ (by omega) (by omega)) (z _ (by omega) (by omega)) (r _ (by omega) (by omega) (by omega))) (SpR_o a5 (m _ (by omega) (by omega)) (m _ (by omega) (by omega)) (z _ (by omega) (by omega)) (r _ (by omega) (by omega) (by omega))) (OfR_o a6 (m _ (by omega) (by omega)) (m _ (by omega) (by omega)) (z _ (by omega) (by omega)) (r _ (by omega) (by omega) (by omega))) (CgR_o a7 (m _ (by omega) (by omega)) (fun x _ _ => r x (by omega) (by omega) (by omega))) (PlR_o a8 (fun x g => m x (by omega) (by omega)))
          by_cases ei : i = n
          · subst ei
            refine ⟨k, v, hk, hv2, hv, ?_, ?_, ?_, ?_⟩
            · have := b5 0 (by omega); rw [Nat.mul_comm] at this; exact this
            · rw [wr_cell (by omega), wr_cell (by omega), wr_same]
            · have := b5 1 (by omega); rw [Nat.mul_comm] at this; exact this
            · rw [wr_cell (by omega), wr_same]
          · obtain ⟨l, w, w1, w2, w3, w4, w5, w6, w7⟩ := n3 i (by omega)
            refine ⟨l, w, w1, w2, w3, ?_, ?_, ?_, ?_⟩
            · rw [← w4]; exact b4 _ (by omega)
            · rw [wr_cell (by omega), wr_cell (by omega), wr_slot ei, wr_cell (by omega)]; exact w5
            · rw [← w6]; exact b4 _ (by omega)
            · rw [wr_cell (by omega), wr_slot ei, wr_cell (by omega), wr_cell (by omega)]; exact w7
    · refine no_st h (r := nI 4294967295) ?_ ?_
      · by_cases c3 : q < nI 101
        · simp (disch := omega) only [lit, neg1, nI_1, nI_add, pk_mul, pk_sub, nI_leI, nI_ltI, nI_eq, nI_eqm, chkn, ixn, if_pos, if_neg, bndV_s, bndE_s, bndO_s, reduceIte, irmn, iminn, imaxn, f_X11_bet, isB, c3]
        · have c4 : ¬ q ≤ nI 9999 := fun c4 => c2 ⟨by have h101 : nI 101 = (101 : Int32) := rfl; grind, c4⟩
          simp (disch := omega) only [lit, neg1, nI_1, nI_add, pk_mul, pk_sub, nI_leI, nI_ltI, nI_eq, nI_eqm, chkn, ixn, if_pos, if_neg, bndV_s, bndE_s, bndO_s, reduceIte, irmn, iminn, imaxn, f_X11_bet, isB, c3, c4]
      · simp (disch := omega) only [lit, neg1, nI_1, nI_add, pk_mul, pk_sub, nI_leI, nI_ltI, nI_eq, nI_eqm, chkn, ixn, if_pos, if_neg, bndV_s, bndE_s, bndO_s, reduceIte, irmn, iminn, imaxn, f_X12_bet, isI, c2]
  · refine no_st h (r := nI 4294967295) ?_ ?_
    · simp (disch := omega) only [lit, neg1, nI_1, nI_add, pk_mul, pk_sub, nI_leI, nI_ltI, nI_eq, nI_eqm, chkn, ixn, if_pos, if_neg, bndV_s, bndE_s, bndO_s, reduceIte, irmn, iminn, imaxn, f_X11_bet, isB, c1, e]
    · have c2 : ¬ (nI 0 ≤ p ∧ p ≤ nI 2) := by have h2 : nI 2 = (2 : Int32) := rfl; have h3 : nI 3 = (3 : Int32) := rfl; grind
      simp (disch := omega) only [lit, neg1, nI_1, nI_add, pk_mul, pk_sub, nI_leI, nI_ltI, nI_eq, nI_eqm, chkn, ixn, if_pos, if_neg, bndV_s, bndE_s, bndO_s, reduceIte, irmn, iminn, imaxn, f_X12_bet, isI, c2, e]
end
