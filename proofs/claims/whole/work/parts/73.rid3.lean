section
theorem st17 {G : Nat} (hG : 500 ≤ G) {ρ : Mem} : ∃ ρ', f_X12_street_L17 G G (nI 0) ρ = some (nI 0, ρ') ∧ (∀ x, x ≠ 36 → ρ' x = ρ x) ∧ ∀ k, k < 10 → ρ' 36 k = nI 0 := by
  obtain ⟨g', s', h1, h2, h3⟩ := loopZ (f_X12_street_L17 G) 10 (fun k s => (∀ x, x ≠ 36 → s x = ρ x) ∧ ∀ j, j < k → s 36 j = nI 0) (by
    intro g k s hk ⟨i1, i2⟩
    refine ⟨wr s 36 k (nI 0), ?_, ?_, ?_⟩
    · simp (disch := omega) only [lit, neg1, nI_1, nI_add, pk_mul, pk_sub, nI_leI, nI_ltI, nI_eq, nI_eqm, chkn, ixn, if_pos, if_neg, bndV_s, bndE_s, bndO_s, reduceIte, irmn, iminn, imaxn, f_X12_street_L17]
    · intro x hx; rw [wr_off hx]; exact i1 x hx
    · intro j hj
      by_cases e : j = k
      · subst e; exact wr_same
      · rw [wr_slot e]; exact i2 j (by omega)) (by omega : 10 < G) (s := ρ) ⟨fun _ _ => rfl, fun j hj => absurd hj (by omega)⟩
  refine ⟨s', ?_, h2, h3⟩
  refine Eq.trans h1 ?_
  simp (disch := omega) only [lit, neg1, nI_1, nI_add, pk_mul, pk_sub, nI_leI, nI_ltI, nI_eq, nI_eqm, chkn, ixn, if_pos, if_neg, bndV_s, bndE_s, bndO_s, reduceIte, irmn, iminn, imaxn, f_X12_street_L17]
theorem s_street {G : Nat} {bb : Bool} {μ ρ : Mem} (hG : 500 ≤ G) (h : AR bb μ ρ) (p q : Int32) : ∃ r μ' ρ', f_X11_street G p q μ = some (r, μ') ∧ f_X12_street G p q ρ = some (r, ρ') ∧ AR bb μ' ρ' := by
  obtain ⟨a1, a2, a3, a4, a5, a6, a7, a8⟩ := AR_ch h
  obtain ⟨n, A, B, n1, n2, n3, n4⟩ := id a4
  have n1 : LnR μ 34 16 2 n := n1
  have hn : n ≤ 16 := n1.2.2.2
  by_cases e : p = nI 4294967295
  · subst e
    obtain ⟨ρ', k1, k2, k3⟩ := st17 hG (ρ := wr (wr ρ 0 0 (nI 0)) 0 60 (nI 0))
    refine ⟨nI 0, wr μ 34 3 (nI 0), ρ', ?_, ?_, ?_⟩
    · simp (disch := omega) only [lit, neg1, nI_1, nI_add, pk_mul, pk_sub, nI_leI, nI_ltI, nI_eq, nI_eqm, chkn, ixn, if_pos, if_neg, bndV_s, bndE_s, bndO_s, reduceIte, irmn, iminn, imaxn, f_X11_street, f_X2_clear]
    · simp (disch := omega) only [lit, neg1, nI_1, nI_add, pk_mul, pk_sub, nI_leI, nI_ltI, nI_eq, nI_eqm, chkn, ixn, if_pos, if_neg, bndV_s, bndE_s, bndO_s, reduceIte, irmn, iminn, imaxn, f_X12_street, k1]
    · have m : ∀ x, x ≠ 34 → (wr μ 34 3 (nI 0)) x = μ x := fun x g => wr_off g
      have r : ∀ x, x ≠ 0 → x ≠ 36 → ρ' x = ρ x := fun x g g2 => by rw [k2 x g2, wr_off g, wr_off g]
      have z : ∀ j, j ≠ 0 → j ≠ 60 → ρ' 0 j = ρ 0 j := fun j g1 g2 => by rw [k2 0 (by omega), wr_slot g2, wr_slot g1]
      refine AR_rid h (fun x g1 g2 => m x (by omega)) (fun x g1 g2 => r x g1 (by omega)) (fun j g1 _ _ _ g _ _ => z j g1 g) (MeR_o a1 (m _ (by omega)) (m _ (by omega)) (z _ (by omega) (by omega)) (fun x _ _ => r x (by omega) (by omega))) (GuR_o a2 (m _ (by omega)) (m _ (by omega)) (z _ (by omega) (by omega)) (fun x _ _ => r x (by omega) (by omega))) (OdR_o a3 (m _ (by omega)) (m _ (by omega)) (z _ (by omega) (by omega)) (fun x _ _ => r x (by omega) (by omega))) ⟨0, A, B, LnR_n n1 (by omega), by rw [k2 0 (by omega)]; exact wr_same, fun i hi => absurd hi (by omega), fun u hu => ⟨0, by decide, k3 u hu, fun v => by simp⟩⟩ (SpR_o a5 (m _ (by omega)) (m _ (by omega)) (z _ (by omega) (by omega)) (r _ (by omega) (by omega))) (OfR_o a6 (m _ (by omega)) (m _ (by omega)) (z _ (by omega) (by omega)) (r _ (by omega) (by omega))) (CgR_o a7 (m _ (by omega)) (fun x _ _ => r x (by omega) (by omega))) (PlR_o a8 (fun x g => m x (by omega)))
  by_cases c1 : nI 0 ≤ p ∧ p < nI 10
  · obtain ⟨k, hk, rfl⟩ := lt_of 10 rfl (by omega) c1.1 c1.2
    by_cases c2 : nI 0 ≤ q ∧ q < nI 10
    · obtain ⟨v, hv, rfl⟩ := lt_of 10 rfl (by omega) c2.1 c2.2
      by_cases c3 : k = v
      · refine no_st h (r := nI 4294967295) ?_ ?_
        · simp (disch := omega) only [lit, neg1, nI_1, nI_add, pk_mul, pk_sub, nI_leI, nI_ltI, nI_eq, nI_eqm, chkn, ixn, if_pos, if_neg, bndV_s, bndE_s, bndO_s, reduceIte, irmn, iminn, imaxn, f_X11_street, isB]
        · simp (disch := omega) only [lit, neg1, nI_1, nI_add, pk_mul, pk_sub, nI_leI, nI_ltI, nI_eq, nI_eqm, chkn, ixn, if_pos, if_neg, bndV_s, bndE_s, bndO_s, reduceIte, irmn, iminn, imaxn, f_X12_street, isI]
      · by_cases c4 : n = 16
        · subst c4
          refine no_st h (r := nI 4294967295) ?_ ?_
          · simp (disch := omega) only [lit, neg1, nI_1, nI_add, pk_mul, pk_sub, nI_leI, nI_ltI, nI_eq, nI_eqm, chkn, ixn, if_pos, if_neg, bndV_s, bndE_s, bndO_s, reduceIte, irmn, iminn, imaxn, f_X11_street, isB, show f_X2_add G 34 32 (nI k) (nI v) (nI 0) (nI 0) μ = some (nI 4294967295, μ) from addF n1 (by omega)]
          · simp (disch := omega) only [lit, neg1, nI_1, nI_add, pk_mul, pk_sub, nI_leI, nI_ltI, nI_eq, nI_eqm, chkn, ixn, if_pos, if_neg, bndV_s, bndE_s, bndO_s, reduceIte, irmn, iminn, imaxn, f_X12_street, isI, wr_slot, n2]
        · obtain ⟨μ', b1, b2, b3, b4, b5⟩ := addn (G := G) (N := 32) (p := nI k) (q := nI v) (r := nI 0) (s := nI 0) n1 (by omega) (by omega) (by omega) (by omega) (by omega) (show n < 16 by omega)
          obtain ⟨mk, hmk, e36, tb⟩ := n4 k hk
          refine ⟨nI (n + 1), μ', wr (wr (wr ρ 0 0 (nI 0)) 36 k (nI (mk ||| 2 ^ v))) 0 60 (nI (n + 1)), ?_, ?_, ?_⟩
          · simp (disch := omega) only [lit, neg1, nI_1, nI_add, pk_mul, pk_sub, nI_leI, nI_ltI, nI_eq, nI_eqm, chkn, ixn, if_pos, if_neg, bndV_s, bndE_s, bndO_s, reduceIte, irmn, iminn, imaxn, f_X11_street, isB, b1]
          · simp (disch := omega) only [lit, neg1, nI_1, nI_add, pk_mul, pk_sub, nI_leI, nI_ltI, nI_eq, nI_eqm, chkn, ixn, if_pos, if_neg, bndV_s, bndE_s, bndO_s, reduceIte, irmn, iminn, imaxn, f_X12_street, isI, wr_slot, wr_cell, n2, wr_same, e36, sl1, b_nor]
          · have m : ∀ x, x ≠ 34 → x ≠ 35 → μ' x = μ x := fun x g1 g2 => b2 x g1 g2
            have r : ∀ x, x ≠ 0 → x ≠ 36 → (wr (wr (wr ρ 0 0 (nI 0)) 36 k (nI (mk ||| 2 ^ v))) 0 60 (nI (n + 1))) x = ρ x := fun x g1 g2 => by rw [wr_off g1, wr_off g2, wr_off g1]
            have z : ∀ j, j ≠ 0 → j ≠ 60 → (wr (wr (wr ρ 0 0 (nI 0)) 36 k (nI (mk ||| 2 ^ v))) 0 60 (nI (n + 1))) 0 j = ρ 0 j := fun j g1 g2 => by rw [wr_slot g2, wr_cell (by omega), wr_slot g1]
            refine AR_rid h (fun x g1 g2 => m x (by omega) (by omega)) (fun x g1 g2 => r x g1 (by omega)) (fun j g1 _ _ _ g _ _ => z j g1 g) (MeR_o a1 (m _ (by omega) (by omega)) (m _ (by omega) (by omega)) (z _ (by omega) (by omega)) (fun x _ _ => r x (by omega) (by omega))) (GuR_o a2 (m _ (by omega) (by omega)) (m _ (by omega) (by omega)) (z _ (by omega) (by omega)) (fun x _ _ => r x (by omega) (by omega))) (OdR_o a3 (m _ (by omega) (by omega)) (m _ (by omega) (by omega)) (z _ (by omega) (by omega)) (fun x _ _ => r x (by omega) (by omega))) ⟨n + 1, fun i => if i = n then k else A i, fun i => if i = n then v else B i, b3, wr_same, fun i hi => ?_, fun u hu => ?_⟩ (SpR_o a5 (m _ (by omega) (by omega)) (m _ (by omega) (by omega)) (z _ (by omega) (by omega)) (r _ (by omega) (by omega))) (OfR_o a6 (m _ (by omega) (by omega)) (m _ (by omega) (by omega)) (z _ (by omega) (by omega)) (r _ (by omega) (by omega))) (CgR_o a7 (m _ (by omega) (by omega)) (fun x _ _ => r x (by omega) (by omega))) (PlR_o a8 (fun x g => m x (by omega) (by omega)))
            · dsimp only
              by_cases ei : i = n
              · subst ei
                rw [if_pos rfl, if_pos rfl]
                refine ⟨hk, hv, c3, ?_, ?_⟩
                · have := b5 0 (by omega); rw [Nat.mul_comm] at this; exact this
                · have := b5 1 (by omega); rw [Nat.mul_comm] at this; exact this
              · rw [if_neg ei, if_neg ei]
                obtain ⟨w1, w2, w3, w4, w5⟩ := n3 i (by omega)
                refine ⟨w1, w2, w3, ?_, ?_⟩
                · rw [← w4]; exact b4 _ (by omega)
                · rw [← w5]; exact b4 _ (by omega)
            · by_cases eu : u = k
              · subst eu
                refine ⟨mk ||| 2 ^ v, or_lt hmk (pw_lt hv), by rw [wr_cell (by omega)]; exact wr_same, fun x => ?_⟩
                rw [Nat.testBit_or, pw_bit, Bool.or_eq_true, tb x, decide_eq_true_iff]
                constructor
                · rintro (⟨i, i1, i2, i3⟩ | rfl)
                  · exact ⟨i, by omega, (if_neg (by omega)).trans i2, (if_neg (by omega)).trans i3⟩
                  · exact ⟨n, by omega, if_pos rfl, if_pos rfl⟩
                · rintro ⟨i, i1, i2, i3⟩
                  dsimp only at i2 i3
                  by_cases ei : i = n
                  · subst ei
                    rw [if_pos rfl] at i3
                    exact Or.inr i3
                  · rw [if_neg ei] at i2 i3
                    exact Or.inl ⟨i, by omega, i2, i3⟩
              · obtain ⟨m2, hm2, e2, tb2⟩ := n4 u hu
                refine ⟨m2, hm2, by rw [wr_cell (by omega), wr_slot eu, wr_cell (by omega)]; exact e2, fun x => ?_⟩
                rw [tb2 x]
                constructor
                · rintro ⟨i, i1, i2, i3⟩
                  exact ⟨i, by omega, (if_neg (by omega)).trans i2, (if_neg (by omega)).trans i3⟩
                · rintro ⟨i, i1, i2, i3⟩
                  dsimp only at i2 i3
                  by_cases ei : i = n
                  · subst ei
                    rw [if_pos rfl] at i2
                    exact absurd i2.symm eu
                  · rw [if_neg ei] at i2 i3
                    exact ⟨i, by omega, i2, i3⟩
    · refine no_st h (r := nI 4294967295) ?_ ?_
      · simp (disch := omega) only [lit, neg1, nI_1, nI_add, pk_mul, pk_sub, nI_leI, nI_ltI, nI_eq, nI_eqm, chkn, ixn, if_pos, if_neg, bndV_s, bndE_s, bndO_s, reduceIte, irmn, iminn, imaxn, f_X11_street, isB, c2]
      · have c3 : ¬ (nI 0 ≤ q ∧ q ≤ nI 9) := by have h2 : nI 9 = (9 : Int32) := rfl; have h3 : nI 10 = (10 : Int32) := rfl; grind
        simp (disch := omega) only [lit, neg1, nI_1, nI_add, pk_mul, pk_sub, nI_leI, nI_ltI, nI_eq, nI_eqm, chkn, ixn, if_pos, if_neg, bndV_s, bndE_s, bndO_s, reduceIte, irmn, iminn, imaxn, f_X12_street, isI, c3]
  · refine no_st h (r := nI 4294967295) ?_ ?_
    · simp (disch := omega) only [lit, neg1, nI_1, nI_add, pk_mul, pk_sub, nI_leI, nI_ltI, nI_eq, nI_eqm, chkn, ixn, if_pos, if_neg, bndV_s, bndE_s, bndO_s, reduceIte, irmn, iminn, imaxn, f_X11_street, isB, c1, e]
    · have c2 : ¬ (nI 0 ≤ p ∧ p ≤ nI 9) := by have h2 : nI 9 = (9 : Int32) := rfl; have h3 : nI 10 = (10 : Int32) := rfl; grind
      simp (disch := omega) only [lit, neg1, nI_1, nI_add, pk_mul, pk_sub, nI_leI, nI_ltI, nI_eq, nI_eqm, chkn, ixn, if_pos, if_neg, bndV_s, bndE_s, bndO_s, reduceIte, irmn, iminn, imaxn, f_X12_street, isI, c2, e]
theorem s_carriage {G : Nat} {bb : Bool} {μ ρ : Mem} (h : AR bb μ ρ) (p q t : Int32) : ∃ r μ' ρ', f_X11_carriage G p q t μ = some (r, μ') ∧ f_X12_carriage G p q t ρ = some (r, ρ') ∧ AR bb μ' ρ' := by
  obtain ⟨a1, a2, a3, a4, a5, a6, a7, a8⟩ := AR_ch h
  have h1 : nI 1 = (1 : Int32) := rfl
  have h0 : nI 0 = (0 : Int32) := rfl
  have h30 : nI 30 = (30 : Int32) := rfl
  have h2 : nI 2 = (2 : Int32) := rfl
  have h3 : nI 3 = (3 : Int32) := rfl
  by_cases c1 : nI 0 ≤ p ∧ p < nI 3
  · obtain ⟨k, hk, rfl⟩ := lt_of 3 rfl (by omega) c1.1 c1.2
    by_cases c2 : nI 1 ≤ q ∧ q ≤ nI 30
    · obtain ⟨u, hu, rfl⟩ := in_of 30 rfl (by omega) (show 0 ≤ q by have := c2.1; grind) c2.2
      have hu1 : 1 ≤ u := (nI_leI (by omega) (by omega)).mp c2.1
      by_cases c3 : nI 0 ≤ t ∧ t ≤ nI 30
      · obtain ⟨v, hv, rfl⟩ := in_of 30 rfl (by omega) c3.1 c3.2
        refine ⟨nI 1, wr (wr μ 40 (2 * k) (nI u)) 40 (2 * k + 1) (nI v), wr (wr (wr ρ 0 0 (nI 0)) 40 k (nI (u - 1))) 41 k (nI v), ?_, ?_, ?_⟩
        · simp (disch := omega) only [lit, neg1, nI_1, nI_add, pk_mul, pk_sub, nI_leI, nI_ltI, nI_eq, nI_eqm, chkn, ixn, if_pos, if_neg, bndV_s, bndE_s, bndO_s, reduceIte, irmn, iminn, imaxn, f_X11_carriage, isB]
        · simp (disch := omega) only [lit, neg1, nI_1, nI_add, pk_mul, pk_sub, nI_leI, nI_ltI, nI_eq, nI_eqm, chkn, ixn, if_pos, if_neg, bndV_s, bndE_s, bndO_s, reduceIte, irmn, iminn, imaxn, f_X12_carriage, isI]
        · have m : ∀ x, x ≠ 40 → (wr (wr μ 40 (2 * k) (nI u)) 40 (2 * k + 1) (nI v)) x = μ x := fun x g => by rw [wr_off g, wr_off g]
          have r : ∀ x, x ≠ 0 → x ≠ 40 → x ≠ 41 → (wr (wr (wr ρ 0 0 (nI 0)) 40 k (nI (u - 1))) 41 k (nI v)) x = ρ x := fun x g1 g2 g3 => by rw [wr_off g3, wr_off g2, wr_off g1]
          have z : ∀ j, j ≠ 0 → 0 ≤ j → (wr (wr (wr ρ 0 0 (nI 0)) 40 k (nI (u - 1))) 41 k (nI v)) 0 j = ρ 0 j := fun j g1 g2 => by rw [wr_cell (by omega), wr_cell (by omega), wr_slot g1]
          refine AR_rid h (fun x g1 g2 => m x (by omega)) (fun x g1 g2 => r x g1 (by omega) (by omega)) (fun j g1 _ _ _ _ _ _ => z j g1 (by omega)) (MeR_o a1 (m _ (by omega)) (m _ (by omega)) (z _ (by omega) (by omega)) (fun x _ _ => r x (by omega) (by omega) (by omega))) (GuR_o a2 (m _ (by omega)) (m _ (by omega)) (z _ (by omega) (by omega)) (fun x _ _ => r x (by omega) (by omega) (by omega))) (OdR_o a3 (m _ (by omega)) (m _ (by omega)) (z _ (by omega) (by omega)) (fun x _ _ => r x (by omega) (by omega) (by omega))) (RoR_o a4 (m _ (by omega)) (m _ (by omega)) (z _ (by omega) (by omega)) (r _ (by omega) (by omega) (by omega))) (SpR_o a5 (m _ (by omega)) (m _ (by omega)) (z _ (by omega) (by omega)) (r _ (by omega) (by omega) (by omega))) (OfR_o a6 (m _ (by omega)) (m _ (by omega)) (z _ (by omega) (by omega)) (r _ (by omega) (by omega) (by omega))) (fun i hi => ?_) (PlR_o a8 (fun x g => m x (by omega)))
          by_cases ei : i = k
          · subst ei
            refine ⟨u - 1, v, by omega, hv, ?_, ?_, ?_, ?_⟩
            · rw [wr_slot (by omega), wr_same, show u - 1 + 1 = u by omega]
            · rw [wr_cell (by omega), wr_same]
            · exact wr_same
            · exact wr_same
          · obtain ⟨m', t', w1, w2, w3, w4, w5, w6⟩ := a7 i hi
            refine ⟨m', t', w1, w2, ?_, ?_, ?_, ?_⟩
            · rw [wr_slot (by omega), wr_slot (by omega)]; exact w3
            · rw [wr_cell (by omega), wr_slot ei, wr_cell (by omega)]; exact w4
            · rw [wr_slot (by omega), wr_slot (by omega)]; exact w5
            · rw [wr_slot ei, wr_cell (by omega), wr_cell (by omega)]; exact w6
      · refine no_st h (r := nI 0) ?_ ?_
        · by_cases c4 : t < nI 0
          · simp (disch := omega) only [lit, neg1, nI_1, nI_add, pk_mul, pk_sub, nI_leI, nI_ltI, nI_eq, nI_eqm, chkn, ixn, if_pos, if_neg, bndV_s, bndE_s, bndO_s, reduceIte, irmn, iminn, imaxn, f_X11_carriage, isB, c4]
          · have c5 : ¬ t ≤ nI 30 := by grind
            simp (disch := omega) only [lit, neg1, nI_1, nI_add, pk_mul, pk_sub, nI_leI, nI_ltI, nI_eq, nI_eqm, chkn, ixn, if_pos, if_neg, bndV_s, bndE_s, bndO_s, reduceIte, irmn, iminn, imaxn, f_X11_carriage, isB, c4, c5]
        · simp (disch := omega) only [lit, neg1, nI_1, nI_add, pk_mul, pk_sub, nI_leI, nI_ltI, nI_eq, nI_eqm, chkn, ixn, if_pos, if_neg, bndV_s, bndE_s, bndO_s, reduceIte, irmn, iminn, imaxn, f_X12_carriage, isI, c3]
    · refine no_st h (r := nI 0) ?_ ?_
      · by_cases c4 : q < nI 1
        · simp (disch := omega) only [lit, neg1, nI_1, nI_add, pk_mul, pk_sub, nI_leI, nI_ltI, nI_eq, nI_eqm, chkn, ixn, if_pos, if_neg, bndV_s, bndE_s, bndO_s, reduceIte, irmn, iminn, imaxn, f_X11_carriage, isB, c4]
        · have c5 : nI 30 < q := by grind
          simp (disch := omega) only [lit, neg1, nI_1, nI_add, pk_mul, pk_sub, nI_leI, nI_ltI, nI_eq, nI_eqm, chkn, ixn, if_pos, if_neg, bndV_s, bndE_s, bndO_s, reduceIte, irmn, iminn, imaxn, f_X11_carriage, isB, c4, c5]
      · simp (disch := omega) only [lit, neg1, nI_1, nI_add, pk_mul, pk_sub, nI_leI, nI_ltI, nI_eq, nI_eqm, chkn, ixn, if_pos, if_neg, bndV_s, bndE_s, bndO_s, reduceIte, irmn, iminn, imaxn, f_X12_carriage, isI, c2]
  · refine no_st h (r := nI 0) ?_ ?_
    · simp (disch := omega) only [lit, neg1, nI_1, nI_add, pk_mul, pk_sub, nI_leI, nI_ltI, nI_eq, nI_eqm, chkn, ixn, if_pos, if_neg, bndV_s, bndE_s, bndO_s, reduceIte, irmn, iminn, imaxn, f_X11_carriage, isB, c1]
    · have c2 : ¬ (nI 0 ≤ p ∧ p ≤ nI 2) := by grind
      simp (disch := omega) only [lit, neg1, nI_1, nI_add, pk_mul, pk_sub, nI_leI, nI_ltI, nI_eq, nI_eqm, chkn, ixn, if_pos, if_neg, bndV_s, bndE_s, bndO_s, reduceIte, irmn, iminn, imaxn, f_X12_carriage, isI, c2]

end
