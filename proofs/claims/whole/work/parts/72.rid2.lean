section
theorem s_man {G : Nat} {bb : Bool} {μ ρ : Mem} (hG : 500 ≤ G) (h : AR bb μ ρ) (p q t : Int32) : ∃ r μ' ρ', f_X11_man G p q t μ = some (r, μ') ∧ f_X12_man G p q t ρ = some (r, ρ') ∧ AR bb μ' ρ' := by
  obtain ⟨a1, a2, a3, a4, a5, a6, a7, a8⟩ := AR_ch h
  obtain ⟨n, n1, n2, n3⟩ := id a1
  have n1 : LnR μ 28 10 3 n := n1
  have hn : n ≤ 10 := n1.2.2.2
  by_cases e : p = nI 4294967295
  · subst e
    refine ⟨nI 0, wr μ 28 3 (nI 0), wr (wr ρ 0 0 (nI 0)) 0 47 (nI 0), ?_, ?_, ?_⟩
    · simp (disch := omega) only [lit, neg1, nI_1, nI_add, pk_mul, pk_sub, nI_leI, nI_ltI, nI_eq, nI_eqm, chkn, ixn, if_pos, if_neg, bndV_s, bndE_s, bndO_s, reduceIte, irmn, iminn, imaxn, f_X11_man, f_X2_clear]
    · simp (disch := omega) only [lit, neg1, nI_1, nI_add, pk_mul, pk_sub, nI_leI, nI_ltI, nI_eq, nI_eqm, chkn, ixn, if_pos, if_neg, bndV_s, bndE_s, bndO_s, reduceIte, irmn, iminn, imaxn, f_X12_man]
    · have m : ∀ x, x ≠ 28 → (wr μ 28 3 (nI 0)) x = μ x := fun x g => wr_off g
      have r : ∀ x, x ≠ 0 → (wr (wr ρ 0 0 (nI 0)) 0 47 (nI 0)) x = ρ x := fun x g => by rw [wr_off g, wr_off g]
      have z : ∀ j, j ≠ 0 → j ≠ 47 → (wr (wr ρ 0 0 (nI 0)) 0 47 (nI 0)) 0 j = ρ 0 j := fun j g1 g2 => by rw [wr_slot g2, wr_slot g1]
      refine AR_rid h (fun x g1 g2 => m x (by omega)) (fun x g1 g2 => r x g1) (fun j g1 g _ _ _ _ _ => z j g1 g) ⟨0, LnR_n n1 (by omega), wr_same, fun i hi => absurd hi (by omega)⟩ (GuR_o a2 (m _ (by omega)) (m _ (by omega)) (z _ (by omega) (by omega)) (fun x _ _ => r x (by omega))) (OdR_o a3 (m _ (by omega)) (m _ (by omega)) (z _ (by omega) (by omega)) (fun x _ _ => r x (by omega))) (RoR_o a4 (m _ (by omega)) (m _ (by omega)) (z _ (by omega) (by omega)) (r _ (by omega))) (SpR_o a5 (m _ (by omega)) (m _ (by omega)) (z _ (by omega) (by omega)) (r _ (by omega))) (OfR_o a6 (m _ (by omega)) (m _ (by omega)) (z _ (by omega) (by omega)) (r _ (by omega))) (CgR_o a7 (m _ (by omega)) (fun x _ _ => r x (by omega))) (PlR_o a8 (fun x g => m x (by omega)))
  by_cases c1 : nI 0 ≤ p ∧ p < nI 6
  · obtain ⟨k, hk, rfl⟩ := lt_of 6 rfl (by omega) c1.1 c1.2
    by_cases c2 : nI 0 ≤ q ∧ q < nI 6
    · obtain ⟨v, hv, rfl⟩ := lt_of 6 rfl (by omega) c2.1 c2.2
      by_cases c4 : n = 10
      · subst c4
        refine no_st h (r := nI 4294967295) ?_ ?_
        · by_cases ht : t = nI 0
          · simp (disch := omega) only [lit, neg1, nI_1, nI_add, pk_mul, pk_sub, nI_leI, nI_ltI, nI_eq, nI_eqm, chkn, ixn, if_pos, if_neg, bndV_s, bndE_s, bndO_s, reduceIte, irmn, iminn, imaxn, f_X11_man, isB, ht, show f_X2_add G 28 30 (nI k) (nI v) (nI 0) (nI 0) μ = some (nI 4294967295, μ) from addF n1 (by omega)]
          · simp (disch := omega) only [lit, neg1, nI_1, nI_add, pk_mul, pk_sub, nI_leI, nI_ltI, nI_eq, nI_eqm, chkn, ixn, if_pos, if_neg, bndV_s, bndE_s, bndO_s, reduceIte, irmn, iminn, imaxn, f_X11_man, isB, ht, show f_X2_add G 28 30 (nI k) (nI v) (nI 1) (nI 0) μ = some (nI 4294967295, μ) from addF n1 (by omega)]
        · simp (disch := omega) only [lit, neg1, nI_1, nI_add, pk_mul, pk_sub, nI_leI, nI_ltI, nI_eq, nI_eqm, chkn, ixn, if_pos, if_neg, bndV_s, bndE_s, bndO_s, reduceIte, irmn, iminn, imaxn, f_X12_man, isI, wr_slot, n2]
      · have key : ∀ b : Int32, (t = nI 0 → b = nI 0) → (¬ t = nI 0 → b = nI 1) → ∃ r μ' ρ', f_X11_man G (nI k) (nI v) t μ = some (r, μ') ∧ f_X12_man G (nI k) (nI v) t ρ = some (r, ρ') ∧ AR bb μ' ρ' := by
          intro b hb0 hb1
          obtain ⟨μ', b1, b2, b3, b4, b5⟩ := addn (G := G) (N := 30) (p := nI k) (q := nI v) (r := b) (s := nI 0) n1 (by omega) (by omega) (by omega) (by omega) (by omega) (show n < 10 by omega)
          refine ⟨nI (n + 1), μ', wr (wr (wr (wr (wr ρ 0 0 (nI 0)) 27 n (nI k)) 28 n (nI v)) 29 n b) 0 47 (nI (n + 1)), ?_, ?_, ?_⟩
          · by_cases ht : t = nI 0
            · rw [hb0 ht] at b1
              simp (disch := omega) only [lit, neg1, nI_1, nI_add, pk_mul, pk_sub, nI_leI, nI_ltI, nI_eq, nI_eqm, chkn, ixn, if_pos, if_neg, bndV_s, bndE_s, bndO_s, reduceIte, irmn, iminn, imaxn, f_X11_man, isB, b1, ht]
            · rw [hb1 ht] at b1
              simp (disch := omega) only [lit, neg1, nI_1, nI_add, pk_mul, pk_sub, nI_leI, nI_ltI, nI_eq, nI_eqm, chkn, ixn, if_pos, if_neg, bndV_s, bndE_s, bndO_s, reduceIte, irmn, iminn, imaxn, f_X11_man, isB, b1, ht]
          · by_cases ht : t = nI 0
            · rw [hb0 ht]
              simp (disch := omega) only [lit, neg1, nI_1, nI_add, pk_mul, pk_sub, nI_leI, nI_ltI, nI_eq, nI_eqm, chkn, ixn, if_pos, if_neg, bndV_s, bndE_s, bndO_s, reduceIte, irmn, iminn, imaxn, f_X12_man, isI, wr_slot, wr_cell, n2, wr_same, ht, f_X12_man_j85]
            · rw [hb1 ht]
              simp (disch := omega) only [lit, neg1, nI_1, nI_add, pk_mul, pk_sub, nI_leI, nI_ltI, nI_eq, nI_eqm, chkn, ixn, if_pos, if_neg, bndV_s, bndE_s, bndO_s, reduceIte, irmn, iminn, imaxn, f_X12_man, isI, wr_slot, wr_cell, n2, wr_same, ht, f_X12_man_j85]
          · have m : ∀ x, x ≠ 28 → x ≠ 29 → μ' x = μ x := fun x g1 g2 => b2 x g1 g2
            have r : ∀ x, x ≠ 0 → x ≠ 27 → x ≠ 28 → x ≠ 29 → (wr (wr (wr (wr (wr ρ 0 0 (nI 0)) 27 n (nI k)) 28 n (nI v)) 29 n b) 0 47 (nI (n + 1))) x = ρ x := fun x g1 g2 g3 g4 => by rw [wr_off g1, wr_off g4, wr_off g3, wr_off g2, wr_off g1]
            have z : ∀ j, j ≠ 0 → j ≠ 47 → (wr (wr (wr (wr (wr ρ 0 0 (nI 0)) 27 n (nI k)) 28 n (nI v)) 29 n b) 0 47 (nI (n + 1))) 0 j = ρ 0 j := fun j g1 g2 => by rw [wr_slot g2, wr_cell (by omega), wr_cell (by omega), wr_cell (by omega), wr_slot g1]
            refine AR_rid h (fun x g1 g2 => m x (by omega) (by omega)) (fun x g1 g2 => r x g1 (by omega) (by omega) (by omega)) (fun j g1 g _ _ _ _ _ => z j g1 g) ⟨n + 1, b3, wr_same, fun i hi => ?_⟩ (GuR_o a2 (m _ (by omega) (by omega)) (m _ (by omega) (by omega)) (z _ (by omega) (by omega)) (fun x _ _ => r x (by omega) (by omega) (by omega) (by omega))) (OdR_o a3 (m _ (by omega) (by omega)) (m _ (by omega) (by omega)) (z _ (by omega) (by omega)) (fun x _ _ => r x (by omega) (by omega) (by omega) (by omega))) (RoR_o a4 (m _ (by omega) (by omega)) (m _ (by omega) (by omega)) (z _ (by omega) (by omega)) (r _ (by omega) (by omega) (by omega) (by omega))) (SpR_o a5 (m _ (by omega) (by omega)) (m _ (by omega) (by omega)) (z _ (by omega) (by omega)) (r _ (by omega) (by omega) (by omega) (by omega))) (OfR_o a6 (m _ (by omega) (by omega)) (m _ (by omega) (by omega)) (z _ (by omega) (by omega)) (r _ (by omega) (by omega) (by omega) (by omega))) (CgR_o a7 (m _ (by omega) (by omega)) (fun x _ _ => r x (by omega) (by omega) (by omega) (by omega))) (PlR_o a8 (fun x g => m x (by omega) (by omega)))
            by_cases ei : i = n
            · subst ei
              refine ⟨?_, ?_, ?_⟩
              · have := b5 0 (by omega); rw [Nat.mul_comm] at this; rw [wr_cell (by omega), wr_cell (by omega), wr_cell (by omega), wr_same]; exact this
              · have := b5 1 (by omega); rw [Nat.mul_comm] at this; rw [wr_cell (by omega), wr_cell (by omega), wr_same]; exact this
              · have := b5 2 (by omega); rw [Nat.mul_comm] at this; rw [wr_cell (by omega), wr_same]; exact this
            · obtain ⟨w1, w2, w3⟩ := n3 i (by omega)
              refine ⟨?_, ?_, ?_⟩
              · rw [wr_cell (by omega), wr_cell (by omega), wr_cell (by omega), wr_slot ei, wr_cell (by omega), ← w1]; exact b4 _ (by omega)
              · rw [wr_cell (by omega), wr_cell (by omega), wr_slot ei, wr_cell (by omega), wr_cell (by omega), ← w2]; exact b4 _ (by omega)
              · rw [wr_cell (by omega), wr_slot ei, wr_cell (by omega), wr_cell (by omega), wr_cell (by omega), ← w3]; exact b4 _ (by omega)
        by_cases ht : t = nI 0
        · exact key (nI 0) (fun _ => rfl) (fun q => absurd ht q)
        · exact key (nI 1) (fun q => absurd q ht) (fun _ => rfl)
    · refine no_st h (r := nI 4294967295) ?_ ?_
      · simp (disch := omega) only [lit, neg1, nI_1, nI_add, pk_mul, pk_sub, nI_leI, nI_ltI, nI_eq, nI_eqm, chkn, ixn, if_pos, if_neg, bndV_s, bndE_s, bndO_s, reduceIte, irmn, iminn, imaxn, f_X11_man, isB, c2]
      · have c3 : ¬ (nI 0 ≤ q ∧ q ≤ nI 5) := by have h2 : nI 5 = (5 : Int32) := rfl; have h3 : nI 6 = (6 : Int32) := rfl; grind
        simp (disch := omega) only [lit, neg1, nI_1, nI_add, pk_mul, pk_sub, nI_leI, nI_ltI, nI_eq, nI_eqm, chkn, ixn, if_pos, if_neg, bndV_s, bndE_s, bndO_s, reduceIte, irmn, iminn, imaxn, f_X12_man, isI, c3]
  · refine no_st h (r := nI 4294967295) ?_ ?_
    · simp (disch := omega) only [lit, neg1, nI_1, nI_add, pk_mul, pk_sub, nI_leI, nI_ltI, nI_eq, nI_eqm, chkn, ixn, if_pos, if_neg, bndV_s, bndE_s, bndO_s, reduceIte, irmn, iminn, imaxn, f_X11_man, isB, c1, e]
    · have c2 : ¬ (nI 0 ≤ p ∧ p ≤ nI 5) := by have h2 : nI 5 = (5 : Int32) := rfl; have h3 : nI 6 = (6 : Int32) := rfl; grind
      simp (disch := omega) only [lit, neg1, nI_1, nI_add, pk_mul, pk_sub, nI_leI, nI_ltI, nI_eq, nI_eqm, chkn, ixn, if_pos, if_neg, bndV_s, bndE_s, bndO_s, reduceIte, irmn, iminn, imaxn, f_X12_man, isI, c2, e]

theorem s_step {G : Nat} {bb : Bool} {μ ρ : Mem} (hG : 500 ≤ G) (h : AR bb μ ρ) (p : Int32) : ∃ r μ' ρ', f_X11_step G p μ = some (r, μ') ∧ f_X12_step G p ρ = some (r, ρ') ∧ AR bb μ' ρ' := by
  obtain ⟨a1, a2, a3, a4, a5, a6, a7, a8⟩ := AR_ch h
  obtain ⟨n, n1, n2, n3⟩ := id a5
  have n1 : LnR μ 36 12 1 n := n1
  have hn : n ≤ 12 := n1.2.2.2
  by_cases e : p = nI 4294967295
  · subst e
    refine ⟨nI 0, wr μ 36 3 (nI 0), wr (wr ρ 0 0 (nI 0)) 0 64 (nI 0), ?_, ?_, ?_⟩
    · simp (disch := omega) only [lit, neg1, nI_1, nI_add, pk_mul, pk_sub, nI_leI, nI_ltI, nI_eq, nI_eqm, chkn, ixn, if_pos, if_neg, bndV_s, bndE_s, bndO_s, reduceIte, irmn, iminn, imaxn, f_X11_step, f_X2_clear]
    · simp (disch := omega) only [lit, neg1, nI_1, nI_add, pk_mul, pk_sub, nI_leI, nI_ltI, nI_eq, nI_eqm, chkn, ixn, if_pos, if_neg, bndV_s, bndE_s, bndO_s, reduceIte, irmn, iminn, imaxn, f_X12_step]
    · have m : ∀ x, x ≠ 36 → (wr μ 36 3 (nI 0)) x = μ x := fun x g => wr_off g
      have r : ∀ x, x ≠ 0 → (wr (wr ρ 0 0 (nI 0)) 0 64 (nI 0)) x = ρ x := fun x g => by rw [wr_off g, wr_off g]
      have z : ∀ j, j ≠ 0 → j ≠ 64 → (wr (wr ρ 0 0 (nI 0)) 0 64 (nI 0)) 0 j = ρ 0 j := fun j g1 g2 => by rw [wr_slot g2, wr_slot g1]
      refine AR_rid h (fun x g1 g2 => m x (by omega)) (fun x g1 g2 => r x g1) (fun j g1 _ _ _ _ g _ => z j g1 g) (MeR_o a1 (m _ (by omega)) (m _ (by omega)) (z _ (by omega) (by omega)) (fun x _ _ => r x (by omega))) (GuR_o a2 (m _ (by omega)) (m _ (by omega)) (z _ (by omega) (by omega)) (fun x _ _ => r x (by omega))) (OdR_o a3 (m _ (by omega)) (m _ (by omega)) (z _ (by omega) (by omega)) (fun x _ _ => r x (by omega))) (RoR_o a4 (m _ (by omega)) (m _ (by omega)) (z _ (by omega) (by omega)) (r _ (by omega))) ⟨0, LnR_n n1 (by omega), wr_same, fun i hi => absurd hi (by omega)⟩ (OfR_o a6 (m _ (by omega)) (m _ (by omega)) (z _ (by omega) (by omega)) (r _ (by omega))) (CgR_o a7 (m _ (by omega)) (fun x _ _ => r x (by omega))) (PlR_o a8 (fun x g => m x (by omega)))
  by_cases c1 : nI 0 ≤ p ∧ p < nI 100
  · obtain ⟨k, hk, rfl⟩ := lt_of 100 rfl (by omega) c1.1 c1.2
    by_cases c4 : n = 12
    · subst c4
      refine no_st h (r := nI 4294967295) ?_ ?_
      · simp (disch := omega) only [lit, neg1, nI_1, nI_add, pk_mul, pk_sub, nI_leI, nI_ltI, nI_eq, nI_eqm, chkn, ixn, if_pos, if_neg, bndV_s, bndE_s, bndO_s, reduceIte, irmn, iminn, imaxn, f_X11_step, isB, show f_X2_add G 36 12 (nI k) (nI 0) (nI 0) (nI 0) μ = some (nI 4294967295, μ) from addF n1 (by omega)]
      · simp (disch := omega) only [lit, neg1, nI_1, nI_add, pk_mul, pk_sub, nI_leI, nI_ltI, nI_eq, nI_eqm, chkn, ixn, if_pos, if_neg, bndV_s, bndE_s, bndO_s, reduceIte, irmn, iminn, imaxn, f_X12_step, isI, wr_slot, n2]
    · obtain ⟨μ', b1, b2, b3, b4, b5⟩ := addn (G := G) (N := 12) (p := nI k) (q := nI 0) (r := nI 0) (s := nI 0) n1 (by omega) (by omega) (by omega) (by omega) (by omega) (show n < 12 by omega)
      refine ⟨nI (n + 1), μ', wr (wr (wr ρ 0 0 (nI 0)) 39 n (nI k)) 0 64 (nI (n + 1)), ?_, ?_, ?_⟩
      · simp (disch := omega) only [lit, neg1, nI_1, nI_add, pk_mul, pk_sub, nI_leI, nI_ltI, nI_eq, nI_eqm, chkn, ixn, if_pos, if_neg, bndV_s, bndE_s, bndO_s, reduceIte, irmn, iminn, imaxn, f_X11_step, isB, b1]
      · simp (disch := omega) only [lit, neg1, nI_1, nI_add, pk_mul, pk_sub, nI_leI, nI_ltI, nI_eq, nI_eqm, chkn, ixn, if_pos, if_neg, bndV_s, bndE_s, bndO_s, reduceIte, irmn, iminn, imaxn, f_X12_step, isI, wr_slot, wr_cell, n2, wr_same]
      · have m : ∀ x, x ≠ 36 → x ≠ 37 → μ' x = μ x := fun x g1 g2 => b2 x g1 g2
        have r : ∀ x, x ≠ 0 → x ≠ 39 → (wr (wr (wr ρ 0 0 (nI 0)) 39 n (nI k)) 0 64 (nI (n + 1))) x = ρ x := fun x g1 g2 => by rw [wr_off g1, wr_off g2, wr_off g1]
        have z : ∀ j, j ≠ 0 → j ≠ 64 → (wr (wr (wr ρ 0 0 (nI 0)) 39 n (nI k)) 0 64 (nI (n + 1))) 0 j = ρ 0 j := fun j g1 g2 => by rw [wr_slot g2, wr_cell (by omega), wr_slot g1]
        refine AR_rid h (fun x g1 g2 => m x (by omega) (by omega)) (fun x g1 g2 => r x g1 (by omega)) (fun j g1 _ _ _ _ g _ => z j g1 g) (MeR_o a1 (m _ (by omega) (by omega)) (m _ (by omega) (by omega)) (z _ (by omega) (by omega)) (fun x _ _ => r x (by omega) (by omega))) (GuR_o a2 (m _ (by omega) (by omega)) (m _ (by omega) (by omega)) (z _ (by omega) (by omega)) (fun x _ _ => r x (by omega) (by omega))) (OdR_o a3 (m _ (by omega) (by omega)) (m _ (by omega) (by omega)) (z _ (by omega) (by omega)) (fun x _ _ => r x (by omega) (by omega))) (RoR_o a4 (m _ (by omega) (by omega)) (m _ (by omega) (by omega)) (z _ (by omega) (by omega)) (r _ (by omega) (by omega))) ⟨n + 1, b3, wr_same, fun i hi => ?_⟩ (OfR_o a6 (m _ (by omega) (by omega)) (m _ (by omega) (by omega)) (z _ (by omega) (by omega)) (r _ (by omega) (by omega))) (CgR_o a7 (m _ (by omega) (by omega)) (fun x _ _ => r x (by omega) (by omega))) (PlR_o a8 (fun x g => m x (by omega) (by omega)))
        by_cases ei : i = n
        · subst ei
          refine ⟨k, hk, ?_, ?_⟩
          · have := b5 0 (by omega); rw [Nat.mul_one, Nat.add_zero] at this; exact this
          · rw [wr_cell (by omega), wr_same]
        · obtain ⟨s, w1, w2, w3⟩ := n3 i (by omega)
          refine ⟨s, w1, ?_, ?_⟩
          · rw [← w2]; exact b4 _ (by omega)
          · rw [wr_cell (by omega), wr_slot ei, wr_cell (by omega)]; exact w3
  · refine no_st h (r := nI 4294967295) ?_ ?_
    · simp (disch := omega) only [lit, neg1, nI_1, nI_add, pk_mul, pk_sub, nI_leI, nI_ltI, nI_eq, nI_eqm, chkn, ixn, if_pos, if_neg, bndV_s, bndE_s, bndO_s, reduceIte, irmn, iminn, imaxn, f_X11_step, isB, c1, e]
    · have c2 : ¬ (nI 0 ≤ p ∧ p ≤ nI 99) := by have h2 : nI 99 = (99 : Int32) := rfl; have h3 : nI 100 = (100 : Int32) := rfl; grind
      simp (disch := omega) only [lit, neg1, nI_1, nI_add, pk_mul, pk_sub, nI_leI, nI_ltI, nI_eq, nI_eqm, chkn, ixn, if_pos, if_neg, bndV_s, bndE_s, bndO_s, reduceIte, irmn, iminn, imaxn, f_X12_step, isI, c2, e]

theorem s_offer {G : Nat} {bb : Bool} {μ ρ : Mem} (hG : 500 ≤ G) (h : AR bb μ ρ) (p : Int32) : ∃ r μ' ρ', f_X11_offer G p μ = some (r, μ') ∧ f_X12_offer G p ρ = some (r, ρ') ∧ AR bb μ' ρ' := by
  obtain ⟨a1, a2, a3, a4, a5, a6, a7, a8⟩ := AR_ch h
  obtain ⟨n, n1, n2, n3⟩ := id a6
  have n1 : LnR μ 38 7 1 n := n1
  have hn : n ≤ 7 := n1.2.2.2
  by_cases e : p = nI 4294967295
  · subst e
    refine ⟨nI 0, wr μ 38 3 (nI 0), wr (wr ρ 0 0 (nI 0)) 0 68 (nI 0), ?_, ?_, ?_⟩
    · simp (disch := omega) only [lit, neg1, nI_1, nI_add, pk_mul, pk_sub, nI_leI, nI_ltI, nI_eq, nI_eqm, chkn, ixn, if_pos, if_neg, bndV_s, bndE_s, bndO_s, reduceIte, irmn, iminn, imaxn, f_X11_offer, f_X2_clear]
    · simp (disch := omega) only [lit, neg1, nI_1, nI_add, pk_mul, pk_sub, nI_leI, nI_ltI, nI_eq, nI_eqm, chkn, ixn, if_pos, if_neg, bndV_s, bndE_s, bndO_s, reduceIte, irmn, iminn, imaxn, f_X12_offer]
    · have m : ∀ x, x ≠ 38 → (wr μ 38 3 (nI 0)) x = μ x := fun x g => wr_off g
      have r : ∀ x, x ≠ 0 → (wr (wr ρ 0 0 (nI 0)) 0 68 (nI 0)) x = ρ x := fun x g => by rw [wr_off g, wr_off g]
      have z : ∀ j, j ≠ 0 → j ≠ 68 → (wr (wr ρ 0 0 (nI 0)) 0 68 (nI 0)) 0 j = ρ 0 j := fun j g1 g2 => by rw [wr_slot g2, wr_slot g1]
      refine AR_rid h (fun x g1 g2 => m x (by omega)) (fun x g1 g2 => r x g1) (fun j g1 _ _ _ _ _ g => z j g1 g) (MeR_o a1 (m _ (by omega)) (m _ (by omega)) (z _ (by omega) (by omega)) (fun x _ _ => r x (by omega))) (GuR_o a2 (m _ (by omega)) (m _ (by omega)) (z _ (by omega) (by omega)) (fun x _ _ => r x (by omega))) (OdR_o a3 (m _ (by omega)) (m _ (by omega)) (z _ (by omega) (by omega)) (fun x _ _ => r x (by omega))) (RoR_o a4 (m _ (by omega)) (m _ (by omega)) (z _ (by omega) (by omega)) (r _ (by omega))) (SpR_o a5 (m _ (by omega)) (m _ (by omega)) (z _ (by omega) (by omega)) (r _ (by omega))) ⟨0, LnR_n n1 (by omega), wr_same, fun i hi => absurd hi (by omega)⟩ (CgR_o a7 (m _ (by omega)) (fun x _ _ => r x (by omega))) (PlR_o a8 (fun x g => m x (by omega)))
  by_cases c1 : nI 0 ≤ p ∧ p < nI 100
  · obtain ⟨k, hk, rfl⟩ := lt_of 100 rfl (by omega) c1.1 c1.2
    by_cases c4 : n = 7
    · subst c4
      refine no_st h (r := nI 4294967295) ?_ ?_
      · simp (disch := omega) only [lit, neg1, nI_1, nI_add, pk_mul, pk_sub, nI_leI, nI_ltI, nI_eq, nI_eqm, chkn, ixn, if_pos, if_neg, bndV_s, bndE_s, bndO_s, reduceIte, irmn, iminn, imaxn, f_X11_offer, isB, show f_X2_add G 38 7 (nI k) (nI 0) (nI 0) (nI 0) μ = some (nI 4294967295, μ) from addF n1 (by omega)]
      · simp (disch := omega) only [lit, neg1, nI_1, nI_add, pk_mul, pk_sub, nI_leI, nI_ltI, nI_eq, nI_eqm, chkn, ixn, if_pos, if_neg, bndV_s, bndE_s, bndO_s, reduceIte, irmn, iminn, imaxn, f_X12_offer, isI, wr_slot, n2]
    · obtain ⟨μ', b1, b2, b3, b4, b5⟩ := addn (G := G) (N := 7) (p := nI k) (q := nI 0) (r := nI 0) (s := nI 0) n1 (by omega) (by omega) (by omega) (by omega) (by omega) (show n < 7 by omega)
      refine ⟨nI (n + 1), μ', wr (wr (wr ρ 0 0 (nI 0)) 42 n (nI k)) 0 68 (nI (n + 1)), ?_, ?_, ?_⟩
      · simp (disch := omega) only [lit, neg1, nI_1, nI_add, pk_mul, pk_sub, nI_leI, nI_ltI, nI_eq, nI_eqm, chkn, ixn, if_pos, if_neg, bndV_s, bndE_s, bndO_s, reduceIte, irmn, iminn, imaxn, f_X11_offer, isB, b1]
      · simp (disch := omega) only [lit, neg1, nI_1, nI_add, pk_mul, pk_sub, nI_leI, nI_ltI, nI_eq, nI_eqm, chkn, ixn, if_pos, if_neg, bndV_s, bndE_s, bndO_s, reduceIte, irmn, iminn, imaxn, f_X12_offer, isI, wr_slot, wr_cell, n2, wr_same]
      · have m : ∀ x, x ≠ 38 → x ≠ 39 → μ' x = μ x := fun x g1 g2 => b2 x g1 g2
        have r : ∀ x, x ≠ 0 → x ≠ 42 → (wr (wr (wr ρ 0 0 (nI 0)) 42 n (nI k)) 0 68 (nI (n + 1))) x = ρ x := fun x g1 g2 => by rw [wr_off g1, wr_off g2, wr_off g1]
        have z : ∀ j, j ≠ 0 → j ≠ 68 → (wr (wr (wr ρ 0 0 (nI 0)) 42 n (nI k)) 0 68 (nI (n + 1))) 0 j = ρ 0 j := fun j g1 g2 => by rw [wr_slot g2, wr_cell (by omega), wr_slot g1]
        refine AR_rid h (fun x g1 g2 => m x (by omega) (by omega)) (fun x g1 g2 => r x g1 (by omega)) (fun j g1 _ _ _ _ _ g => z j g1 g) (MeR_o a1 (m _ (by omega) (by omega)) (m _ (by omega) (by omega)) (z _ (by omega) (by omega)) (fun x _ _ => r x (by omega) (by omega))) (GuR_o a2 (m _ (by omega) (by omega)) (m _ (by omega) (by omega)) (z _ (by omega) (by omega)) (fun x _ _ => r x (by omega) (by omega))) (OdR_o a3 (m _ (by omega) (by omega)) (m _ (by omega) (by omega)) (z _ (by omega) (by omega)) (fun x _ _ => r x (by omega) (by omega))) (RoR_o a4 (m _ (by omega) (by omega)) (m _ (by omega) (by omega)) (z _ (by omega) (by omega)) (r _ (by omega) (by omega))) (SpR_o a5 (m _ (by omega) (by omega)) (m _ (by omega) (by omega)) (z _ (by omega) (by omega)) (r _ (by omega) (by omega))) ⟨n + 1, b3, wr_same, fun i hi => ?_⟩ (CgR_o a7 (m _ (by omega) (by omega)) (fun x _ _ => r x (by omega) (by omega))) (PlR_o a8 (fun x g => m x (by omega) (by omega)))
        by_cases ei : i = n
        · subst ei
          refine ⟨k, hk, ?_, ?_⟩
          · have := b5 0 (by omega); rw [Nat.mul_one, Nat.add_zero] at this; exact this
          · rw [wr_cell (by omega), wr_same]
        · obtain ⟨s, w1, w2, w3⟩ := n3 i (by omega)
          refine ⟨s, w1, ?_, ?_⟩
          · rw [← w2]; exact b4 _ (by omega)
          · rw [wr_cell (by omega), wr_slot ei, wr_cell (by omega)]; exact w3
  · refine no_st h (r := nI 4294967295) ?_ ?_
    · simp (disch := omega) only [lit, neg1, nI_1, nI_add, pk_mul, pk_sub, nI_leI, nI_ltI, nI_eq, nI_eqm, chkn, ixn, if_pos, if_neg, bndV_s, bndE_s, bndO_s, reduceIte, irmn, iminn, imaxn, f_X11_offer, isB, c1, e]
    · have c2 : ¬ (nI 0 ≤ p ∧ p ≤ nI 99) := by have h2 : nI 99 = (99 : Int32) := rfl; have h3 : nI 100 = (100 : Int32) := rfl; grind
      simp (disch := omega) only [lit, neg1, nI_1, nI_add, pk_mul, pk_sub, nI_leI, nI_ltI, nI_eq, nI_eqm, chkn, ixn, if_pos, if_neg, bndV_s, bndE_s, bndO_s, reduceIte, irmn, iminn, imaxn, f_X12_offer, isI, c2, e]

theorem num_row : ∀ k, k < 556 → (f_X4_numberOf (nI k) = nI 4294967295 ∧ f_X12_isRow (nI k) = nI 0) ∨ (k / 10 % 10 < 6 ∧ k % 10 < 6 ∧ k / 100 < 6 ∧ f_X4_numberOf (nI k) = nI (k / 100 * 36 + k / 10 % 10 * 6 + k % 10) ∧ f_X12_isRow (nI k) = nI 1) := by decide +kernel
theorem num_of {p : Int32} : (f_X4_numberOf p = nI 4294967295 ∧ f_X12_isRow p = nI 0) ∨ ∃ q, q < 216 ∧ p = nI (dgt q) ∧ f_X4_numberOf p = nI q ∧ f_X12_isRow p = nI 1 := by
  by_cases c : nI 0 ≤ p ∧ p ≤ nI 555
  · obtain ⟨k, hk, rfl⟩ := in_of 555 rfl (by omega) c.1 c.2
    rcases num_row k (by omega) with h | ⟨h1, h2, h3, h4, h5⟩
    · exact Or.inl h
    · refine Or.inr ⟨_, ?_, ?_, h4, h5⟩
      · omega
      · rw [show dgt (k / 100 * 36 + k / 10 % 10 * 6 + k % 10) = k by unfold dgt; omega]
  · refine Or.inl ⟨?_, ?_⟩
    · unfold f_X4_numberOf
      by_cases c2 : p < 0
      · rw [if_pos c2]; rfl
      · rw [if_neg c2, if_pos (by have h2 : nI 555 = (555 : Int32) := rfl; have h3 : nI 0 = (0 : Int32) := rfl; grind)]; rfl
    · simp (disch := omega) only [lit, neg1, nI_1, nI_add, pk_mul, pk_sub, nI_leI, nI_ltI, nI_eq, nI_eqm, chkn, ixn, if_pos, if_neg, bndV_s, bndE_s, bndO_s, reduceIte, irmn, iminn, imaxn, f_X12_isRow, isI, c]

theorem s_guess {G : Nat} {bb : Bool} {μ ρ : Mem} (hG : 500 ≤ G) (h : AR bb μ ρ) (p q t : Int32) : ∃ r μ' ρ', f_X11_guess G p q t μ = some (r, μ') ∧ f_X12_guess G p q t ρ = some (r, ρ') ∧ AR bb μ' ρ' := by
  obtain ⟨a1, a2, a3, a4, a5, a6, a7, a8⟩ := AR_ch h
  obtain ⟨n, n1, n2, n3⟩ := id a2
  have n1 : LnR μ 30 8 3 n := n1
  have hn : n ≤ 8 := n1.2.2.2
  by_cases e : p = nI 4294967295
  · subst e
    refine ⟨nI 0, wr (wr (wr μ 105 4 (nI 4294967294)) 105 5 (nI 4294967294)) 30 3 (nI 0), wr (wr ρ 0 0 (nI 0)) 0 51 (nI 0), ?_, ?_, ?_⟩
    · unfold f_X11_guess f_X4_forget f_X2_clear
      rfl
    · simp (disch := omega) only [lit, neg1, nI_1, nI_add, pk_mul, pk_sub, nI_leI, nI_ltI, nI_eq, nI_eqm, chkn, ixn, if_pos, if_neg, bndV_s, bndE_s, bndO_s, reduceIte, irmn, iminn, imaxn, f_X12_guess]
    · have m : ∀ x, x ≠ 30 → x ≠ 105 → (wr (wr (wr μ 105 4 (nI 4294967294)) 105 5 (nI 4294967294)) 30 3 (nI 0)) x = μ x := fun x g1 g2 => by rw [wr_off g1, wr_off g2, wr_off g2]
      have r : ∀ x, x ≠ 0 → (wr (wr ρ 0 0 (nI 0)) 0 51 (nI 0)) x = ρ x := fun x g => by rw [wr_off g, wr_off g]
      have z : ∀ j, j ≠ 0 → j ≠ 51 → (wr (wr ρ 0 0 (nI 0)) 0 51 (nI 0)) 0 j = ρ 0 j := fun j g1 g2 => by rw [wr_slot g2, wr_slot g1]
      refine AR_rid h (fun x g1 g2 => m x (by omega) (by omega)) (fun x g1 g2 => r x g1) (fun j g1 _ g _ _ _ _ => z j g1 g) (MeR_o a1 (m _ (by omega) (by omega)) (m _ (by omega) (by omega)) (z _ (by omega) (by omega)) (fun x _ _ => r x (by omega))) ⟨0, ⟨by rw [wr_slot (by omega), wr_cell (by omega), wr_cell (by omega)]; exact n1.1, by rw [wr_slot (by omega), wr_cell (by omega), wr_cell (by omega)]; exact n1.2.1, wr_same, by omega⟩, wr_same, fun i hi => absurd hi (by omega)⟩ (OdR_o a3 (m _ (by omega) (by omega)) (m _ (by omega) (by omega)) (z _ (by omega) (by omega)) (fun x _ _ => r x (by omega))) (RoR_o a4 (m _ (by omega) (by omega)) (m _ (by omega) (by omega)) (z _ (by omega) (by omega)) (r _ (by omega))) (SpR_o a5 (m _ (by omega) (by omega)) (m _ (by omega) (by omega)) (z _ (by omega) (by omega)) (r _ (by omega))) (OfR_o a6 (m _ (by omega) (by omega)) (m _ (by omega) (by omega)) (z _ (by omega) (by omega)) (r _ (by omega))) (CgR_o a7 (m _ (by omega) (by omega)) (fun x _ _ => r x (by omega))) ⟨fun r hr => by rw [m 106 (by omega) (by omega), m 107 (by omega) (by omega)]; exact a8.1 r hr, Or.inl ⟨by rw [wr_cell (by omega), wr_slot (by omega), wr_same]; rfl, by rw [wr_cell (by omega), wr_same]; rfl⟩⟩
  rcases num_of (p := p) with ⟨f1, f2⟩ | ⟨k, hk, rfl, f1, f2⟩
  · refine no_st h (r := nI 4294967295) ?_ ?_
    · simp (disch := omega) only [lit, neg1, nI_1, nI_add, pk_mul, pk_sub, nI_leI, nI_ltI, nI_eq, nI_eqm, chkn, ixn, if_pos, if_neg, bndV_s, bndE_s, bndO_s, reduceIte, irmn, iminn, imaxn, f_X11_guess, f1, e]
    · simp (disch := omega) only [lit, neg1, nI_1, nI_add, pk_mul, pk_sub, nI_leI, nI_ltI, nI_eq, nI_eqm, chkn, ixn, if_pos, if_neg, bndV_s, bndE_s, bndO_s, reduceIte, irmn, iminn, imaxn, f_X12_guess, f2, e]
  · by_cases c1 : nI 0 ≤ q ∧ q < nI 4
    · obtain ⟨u, hu, rfl⟩ := lt_of 4 rfl (by omega) c1.1 c1.2
      by_cases c2 : nI 0 ≤ t ∧ t < nI 4
      · obtain ⟨v, hv, rfl⟩ := lt_of 4 rfl (by omega) c2.1 c2.2
        have hnk : ¬ nI k = nI 4294967295 := fun q => nI_m1 (by omega) q
        by_cases c3 : u + v ≤ 3
        · have LR : LnR (wr (wr μ 105 4 (nI 4294967294)) 105 5 (nI 4294967294)) 30 8 3 n := LnR_w (LnR_w n1 (by omega)) (by omega)
          have fg : f_X4_forget G μ = some (wr (wr μ 105 4 (nI 4294967294)) 105 5 (nI 4294967294)) := rfl
          have hd : dgt k < 600 := by unfold dgt; omega
          by_cases c4 : n = 8
          · subst c4
            refine ⟨nI 4294967295, wr (wr μ 105 4 (nI 4294967294)) 105 5 (nI 4294967294), wr ρ 0 0 (nI 0), ?_, ?_, ?_⟩
            · simp (disch := omega) only [lit, neg1, nI_1, nI_add, pk_mul, pk_sub, nI_leI, nI_ltI, nI_eq, nI_eqm, chkn, ixn, if_pos, if_neg, bndV_s, bndE_s, bndO_s, reduceIte, irmn, iminn, imaxn, f_X11_guess, isB, f1, hnk, fg, show f_X2_add G 30 24 (nI k) (nI u) (nI v) (nI 0) (wr (wr μ 105 4 (nI 4294967294)) 105 5 (nI 4294967294)) = some (nI 4294967295, _) from addF LR (by omega)]
            · simp (disch := omega) only [lit, neg1, nI_1, nI_add, pk_mul, pk_sub, nI_leI, nI_ltI, nI_eq, nI_eqm, chkn, ixn, if_pos, if_neg, bndV_s, bndE_s, bndO_s, reduceIte, irmn, iminn, imaxn, f_X12_guess, isI, f2, wr_slot, n2]
            · have m : ∀ x, x ≠ 105 → (wr (wr μ 105 4 (nI 4294967294)) 105 5 (nI 4294967294)) x = μ x := fun x g2 => by rw [wr_off g2, wr_off g2]
              have r : ∀ x, x ≠ 0 → (wr ρ 0 0 (nI 0)) x = ρ x := fun x g => wr_off g
              have z : ∀ j, j ≠ 0 → 0 ≤ j → (wr ρ 0 0 (nI 0)) 0 j = ρ 0 j := fun j g1 _ => wr_slot g1
              refine AR_rid h (fun x g1 g2 => m x (by omega)) (fun x g1 g2 => r x g1) (fun j g1 _ _ _ _ _ _ => z j g1 (by omega)) (MeR_o a1 (m _ (by omega)) (m _ (by omega)) (z _ (by omega) (by omega)) (fun x _ _ => r x (by omega))) (GuR_o a2 (m _ (by omega)) (m _ (by omega)) (z _ (by omega) (by omega)) (fun x _ _ => r x (by omega))) (OdR_o a3 (m _ (by omega)) (m _ (by omega)) (z _ (by omega) (by omega)) (fun x _ _ => r x (by omega))) (RoR_o a4 (m _ (by omega)) (m _ (by omega)) (z _ (by omega) (by omega)) (r _ (by omega))) (SpR_o a5 (m _ (by omega)) (m _ (by omega)) (z _ (by omega) (by omega)) (r _ (by omega))) (OfR_o a6 (m _ (by omega)) (m _ (by omega)) (z _ (by omega) (by omega)) (r _ (by omega))) (CgR_o a7 (m _ (by omega)) (fun x _ _ => r x (by omega))) ⟨fun r hr => by rw [m 106 (by omega), m 107 (by omega)]; exact a8.1 r hr, Or.inl ⟨by rw [wr_slot (by omega), wr_same]; rfl, by rw [wr_same]; rfl⟩⟩
          · obtain ⟨μ', b1, b2, b3, b4, b5⟩ := addn (G := G) (N := 24) (p := nI k) (q := nI u) (r := nI v) (s := nI 0) LR (by omega) (by omega) (by omega) (by omega) (by omega) (show n < 8 by omega)
            refine ⟨nI (n + 1), μ', wr (wr (wr (wr ρ 0 0 (nI 0)) 30 n (nI (dgt k))) 31 n (nI (4 * u + v))) 0 51 (nI (n + 1)), ?_, ?_, ?_⟩
            · simp (disch := omega) only [lit, neg1, nI_1, nI_add, pk_mul, pk_sub, nI_leI, nI_ltI, nI_eq, nI_eqm, chkn, ixn, if_pos, if_neg, bndV_s, bndE_s, bndO_s, reduceIte, irmn, iminn, imaxn, f_X11_guess, isB, f1, hnk, fg, b1]
            · simp (disch := omega) only [lit, neg1, nI_1, nI_add, pk_mul, pk_sub, nI_leI, nI_ltI, nI_eq, nI_eqm, chkn, ixn, if_pos, if_neg, bndV_s, bndE_s, bndO_s, reduceIte, irmn, iminn, imaxn, f_X12_guess, isI, f2, wr_slot, wr_cell, n2, wr_same]
            · have m : ∀ x, x ≠ 30 → x ≠ 31 → x ≠ 105 → μ' x = μ x := fun x g1 g2 g3 => by rw [b2 x g1 g2, wr_off g3, wr_off g3]
              have r : ∀ x, x ≠ 0 → x ≠ 30 → x ≠ 31 → (wr (wr (wr (wr ρ 0 0 (nI 0)) 30 n (nI (dgt k))) 31 n (nI (4 * u + v))) 0 51 (nI (n + 1))) x = ρ x := fun x g1 g2 g3 => by rw [wr_off g1, wr_off g3, wr_off g2, wr_off g1]
              have z : ∀ j, j ≠ 0 → j ≠ 51 → (wr (wr (wr (wr ρ 0 0 (nI 0)) 30 n (nI (dgt k))) 31 n (nI (4 * u + v))) 0 51 (nI (n + 1))) 0 j = ρ 0 j := fun j g1 g2 => by rw [wr_slot g2, wr_cell (by omega), wr_cell (by omega), wr_slot g1]
              refine AR_rid h (fun x g1 g2 => m x (by omega) (by omega) (by omega)) (fun x g1 g2 => r x g1 (by omega) (by omega)) (fun j g1 _ g _ _ _ _ => z j g1 g) (MeR_o a1 (m _ (by omega) (by omega) (by omega)) (m _ (by omega) (by omega) (by omega)) (z _ (by omega) (by omega)) (fun x _ _ => r x (by omega) (by omega) (by omega))) ⟨n + 1, b3, wr_same, fun i hi => ?_⟩ (OdR_o a3 (m _ (by omega) (by omega) (by omega)) (m _ (by omega) (by omega) (by omega)) (z _ (by omega) (by omega)) (fun x _ _ => r x (by omega) (by omega) (by omega))) (RoR_o a4 (m _ (by omega) (by omega) (by omega)) (m _ (by omega) (by omega) (by omega)) (z _ (by omega) (by omega)) (r _ (by omega) (by omega) (by omega))) (SpR_o a5 (m _ (by omega) (by omega) (by omega)) (m _ (by omega) (by omega) (by omega)) (z _ (by omega) (by omega)) (r _ (by omega) (by omega) (by omega))) (OfR_o a6 (m _ (by omega) (by omega) (by omega)) (m _ (by omega) (by omega) (by omega)) (z _ (by omega) (by omega)) (r _ (by omega) (by omega) (by omega))) (CgR_o a7 (m _ (by omega) (by omega) (by omega)) (fun x _ _ => r x (by omega) (by omega) (by omega))) ⟨fun r hr => by rw [m 106 (by omega) (by omega) (by omega), m 107 (by omega) (by omega) (by omega)]; exact a8.1 r hr, Or.inl ⟨by rw [b2 105 (by omega) (by omega), wr_slot (by omega), wr_same]; rfl, by rw [b2 105 (by omega) (by omega), wr_same]; rfl⟩⟩
              by_cases ei : i = n
              · subst ei
                refine ⟨k, u, v, hk, c3, ?_, ?_, ?_, ?_, ?_⟩
                · have := b5 0 (by omega); rw [Nat.mul_comm] at this; exact this
                · rw [wr_cell (by omega), wr_cell (by omega), wr_same]
                · have := b5 1 (by omega); rw [Nat.mul_comm] at this; exact this
                · have := b5 2 (by omega); rw [Nat.mul_comm] at this; exact this
                · rw [wr_cell (by omega), wr_same]
              · obtain ⟨k', u', v', w1, w2, w3, w4, w5, w6, w7⟩ := n3 i (by omega)
                have o31 : ∀ j, (wr (wr μ 105 4 (nI 4294967294)) 105 5 (nI 4294967294)) 31 j = μ 31 j := fun j => by rw [wr_cell (by omega), wr_cell (by omega)]
                refine ⟨k', u', v', w1, w2, ?_, ?_, ?_, ?_, ?_⟩
                · rw [← w3]; refine Eq.trans (b4 _ (by omega)) (o31 _)
                · rw [wr_cell (by omega), wr_cell (by omega), wr_slot ei, wr_cell (by omega)]; exact w4
                · rw [← w5]; refine Eq.trans (b4 _ (by omega)) (o31 _)
                · rw [← w6]; refine Eq.trans (b4 _ (by omega)) (o31 _)
                · rw [wr_cell (by omega), wr_slot ei, wr_cell (by omega), wr_cell (by omega)]; exact w7
        · refine no_st h (r := nI 4294967295) ?_ ?_
          · simp (disch := omega) only [lit, neg1, nI_1, nI_add, pk_mul, pk_sub, nI_leI, nI_ltI, nI_eq, nI_eqm, chkn, ixn, if_pos, if_neg, bndV_s, bndE_s, bndO_s, reduceIte, irmn, iminn, imaxn, f_X11_guess, isB, f1, hnk]
          · simp (disch := omega) only [lit, neg1, nI_1, nI_add, pk_mul, pk_sub, nI_leI, nI_ltI, nI_eq, nI_eqm, chkn, ixn, if_pos, if_neg, bndV_s, bndE_s, bndO_s, reduceIte, irmn, iminn, imaxn, f_X12_guess, isI, f2]
      · refine no_st h (r := nI 4294967295) ?_ ?_
        · have hnk : ¬ nI k = nI 4294967295 := fun q => nI_m1 (by omega) q
          simp (disch := omega) only [lit, neg1, nI_1, nI_add, pk_mul, pk_sub, nI_leI, nI_ltI, nI_eq, nI_eqm, chkn, ixn, if_pos, if_neg, bndV_s, bndE_s, bndO_s, reduceIte, irmn, iminn, imaxn, f_X11_guess, isB, f1, hnk, e, c2]
        · have c3 : ¬ (nI 0 ≤ t ∧ t ≤ nI 3) := by have h2 : nI 3 = (3 : Int32) := rfl; have h3 : nI 4 = (4 : Int32) := rfl; grind
          simp (disch := omega) only [lit, neg1, nI_1, nI_add, pk_mul, pk_sub, nI_leI, nI_ltI, nI_eq, nI_eqm, chkn, ixn, if_pos, if_neg, bndV_s, bndE_s, bndO_s, reduceIte, irmn, iminn, imaxn, f_X12_guess, isI, f2, e, c3]
    · refine no_st h (r := nI 4294967295) ?_ ?_
      · have hnk : ¬ nI k = nI 4294967295 := fun q => nI_m1 (by omega) q
        simp (disch := omega) only [lit, neg1, nI_1, nI_add, pk_mul, pk_sub, nI_leI, nI_ltI, nI_eq, nI_eqm, chkn, ixn, if_pos, if_neg, bndV_s, bndE_s, bndO_s, reduceIte, irmn, iminn, imaxn, f_X11_guess, isB, f1, hnk, e, c1]
      · have c3 : ¬ (nI 0 ≤ q ∧ q ≤ nI 3) := by have h2 : nI 3 = (3 : Int32) := rfl; have h3 : nI 4 = (4 : Int32) := rfl; grind
        simp (disch := omega) only [lit, neg1, nI_1, nI_add, pk_mul, pk_sub, nI_leI, nI_ltI, nI_eq, nI_eqm, chkn, ixn, if_pos, if_neg, bndV_s, bndE_s, bndO_s, reduceIte, irmn, iminn, imaxn, f_X12_guess, isI, f2, e, c3]

end
