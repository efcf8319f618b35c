section
theorem s_groom {G : Nat} {bb : Bool} {μ ρ : Mem} (h : AR bb μ ρ) (p q : Int32) : ∃ r μ' ρ', f_X11_groom G p q μ = some (r, μ') ∧ f_X12_groom G p q ρ = some (r, ρ') ∧ AR bb μ' ρ' := by
  obtain ⟨W, M, H⟩ := id h
  have H0 : AT bb W M μ (wr ρ 0 0 (nI 0)) := told0 H
  have R := WR_of H0
  obtain ⟨hW, hM⟩ := WR_W R
  obtain ⟨C, b2, b3, b4, b5, b6, b7, b8⟩ := id H
  obtain ⟨a1, a2, a3, a4, a5, a6, a7, a8, _⟩ := id C
  obtain ⟨p1, p2, p3, p4, p5, p6, p7, p8, p9, p10, p11, p12⟩ := id a1
  by_cases c : nI 0 ≤ p ∧ p ≤ nI 9
  · rcases woman_of R.1 q with ⟨g1, g2⟩ | ⟨w, hw, rfl, g1, g2⟩
    · exact no_st h (r := nI 4294967295) (by simp (disch := omega) only [lit, neg1, nI_1, nI_add, pk_mul, pk_sub, nI_leI, nI_ltI, nI_eq, nI_eqm, chkn, ixn, if_pos, if_neg, bndV_s, bndE_s, bndO_s, reduceIte, irmn, iminn, imaxn, and_self, true_and, and_true, false_and, and_false, f_X11_groom, isD, c, g1]) (by simp (disch := omega) only [lit, neg1, nI_1, nI_add, pk_mul, pk_sub, nI_leI, nI_ltI, nI_eq, nI_eqm, chkn, ixn, if_pos, if_neg, bndV_s, bndE_s, bndO_s, reduceIte, irmn, iminn, imaxn, and_self, true_and, and_true, false_and, and_false, f_X12_groom, isI, c, g2])
    by_cases e : M = 8
    · subst e
      refine no_st h (r := nI 4294967295) ?_ ?_
      · simp (disch := omega) only [lit, neg1, nI_1, nI_add, pk_mul, pk_sub, nI_leI, nI_ltI, nI_eq, nI_eqm, chkn, ixn, if_pos, if_neg, bndV_s, bndE_s, bndO_s, reduceIte, irmn, iminn, imaxn, and_self, true_and, and_true, false_and, and_false, f_X11_groom, isD, c, g1, f_X0_addGroom, p4]
      · simp (disch := omega) only [lit, neg1, nI_1, nI_add, pk_mul, pk_sub, nI_leI, nI_ltI, nI_eq, nI_eqm, chkn, ixn, if_pos, if_neg, bndV_s, bndE_s, bndO_s, reduceIte, irmn, iminn, imaxn, and_self, true_and, and_true, false_and, and_false, f_X12_groom, isI, c, g2, wr_slot, p5]
    · have hM8 : M < 8 := by omega
      obtain ⟨i1, i2, i3, i4, i5, i6, i7⟩ := id a3
      have z17 : ρ 1 (17 + M) = 0 := by
        obtain ⟨v, v1, v2, v3⟩ := i4 M hM8
        rw [Nat.zero_add] at v2
        rw [v2, v3 (Nat.le_refl _)]; rfl
      have z25 : ρ 1 (25 + M) = 0 := by have := i5 M hM8 (Nat.le_refl _); rw [Nat.zero_add] at this; exact this
      have z33 : ρ 1 (33 + M) = 0 := by
        obtain ⟨v, v1, v2, v3⟩ := i6 M hM8
        rw [Nat.zero_add] at v2
        rw [v2, v3 (Nat.le_refl _)]; rfl
      have z41 : ρ 1 (41 + M) = 0 := by have := i7 M hM8 (Nat.le_refl _); rw [Nat.zero_add] at this; exact this
      refine ⟨nI M, wr (wr (wr (wr μ 11 M p) 12 M (nI w)) 1 7 (nI (M + 1))) 54 3 (nI 0), wr (wr (wr (wr (wr (wr (wr (wr (wr ρ 0 0 (nI 0)) 7 M p) 8 M (nI w)) 1 (17 + M) (nI 0)) 1 (25 + M) (nI 0)) 1 (33 + M) (nI 0)) 1 (41 + M) (nI 0)) 0 7 (nI (M + 1))) 0 3 (nI 0), ?_, ?_, ?_⟩
      · have ne : ¬ nI M = nI 4294967295 := fun g => nI_m1 (by omega) g
        simp (disch := omega) only [lit, neg1, nI_1, nI_add, pk_mul, pk_sub, nI_leI, nI_ltI, nI_eq, nI_eqm, chkn, ixn, if_pos, if_neg, bndV_s, bndE_s, bndO_s, reduceIte, irmn, iminn, imaxn, and_self, true_and, and_true, false_and, and_false, f_X11_groom, isD, c, g1, f_X0_addGroom, p4, wr_cell, wr_same, Nat.add_sub_cancel, f_X3_forget, ne]
      · simp (disch := omega) only [lit, neg1, nI_1, nI_add, pk_mul, pk_sub, nI_leI, nI_ltI, nI_eq, nI_eqm, chkn, ixn, if_pos, if_neg, bndV_s, bndE_s, bndO_s, reduceIte, irmn, iminn, imaxn, and_self, true_and, and_true, false_and, and_false, f_X12_groom, isI, c, g2, wr_slot, wr_cell, p5, wr_same, Nat.add_sub_cancel]
      · generalize hμ : wr (wr (wr (wr μ 11 M p) 12 M (nI w)) 1 7 (nI (M + 1))) 54 3 (nI 0) = μ'
        generalize hρ : wr (wr (wr (wr (wr (wr (wr (wr (wr ρ 0 0 (nI 0)) 7 M p) 8 M (nI w)) 1 (17 + M) (nI 0)) 1 (25 + M) (nI 0)) 1 (33 + M) (nI 0)) 1 (41 + M) (nI 0)) 0 7 (nI (M + 1))) 0 3 (nI 0) = ρ'
        have m : ∀ x, x ≠ 1 → x ≠ 11 → x ≠ 12 → x ≠ 54 → μ' x = μ x := fun x g1 g2 g3 g5 => by rw [← hμ, wr_off g5, wr_off g1, wr_off g3, wr_off g2]
        have r : ∀ x, x ≠ 0 → x ≠ 1 → x ≠ 7 → x ≠ 8 → ρ' x = ρ x := fun x g1 g2 g3 g4 => by rw [← hρ, wr_off g1, wr_off g1, wr_off g2, wr_off g2, wr_off g2, wr_off g2, wr_off g4, wr_off g3, wr_off g1]
        have z : ∀ j, j ≠ 0 → j ≠ 3 → j ≠ 7 → ρ' 0 j = ρ 0 j := fun j g1 g2 g3 => by rw [← hρ, wr_slot g2, wr_slot g3, wr_cell (by omega), wr_cell (by omega), wr_cell (by omega), wr_cell (by omega), wr_cell (by omega), wr_cell (by omega), wr_slot g1]
        have n0 : nI 0 = (0 : Int32) := rfl
        have y : ρ' 1 = ρ 1 := by
          funext j
          rw [← hρ, wr_cell (by omega), wr_cell (by omega)]
          simp only [wr]
          grind
        have up : ∀ a b : Nat → Int32, ∀ u v : Int32, (∀ k, k < 8 → a k = b k) → u = v → ∀ k, k < 8 → (if k = M then u else a k) = (if k = M then v else b k) := fun a b u v g1 g2 k hk => by rw [g1 k hk, g2]
        refine AR_pp H (M' := M + 1) (Nat.le_refl _) (Nat.le_succ _) (fun x g1 g2 g3 g4 g5 g6 => m x (by omega) (by omega) (by omega) (by omega)) (fun x g1 g2 => r x (by omega) (by omega) (by omega) (by omega)) (fun j g1 g2 g3 g4 => z j g1 g2 g4)
          ⟨?_, ?_, p3, ?_, ?_, by omega, ?_, ?_, ?_, ?_, ?_, ?_⟩ ?_ ?_ (RcR_o a4 (m _ (by omega) (by omega) (by omega) (by omega)) (m _ (by omega) (by omega) (by omega) (by omega)) (by rw [y]) (r _ (by omega) (by omega) (by omega) (by omega))) (PaR_0 b5 (by rw [← hμ]; exact wr_same) (by rw [← hμ, wr_slot (by omega), wr_cell (by omega), wr_cell (by omega), wr_cell (by omega)]) (by rw [← hρ]; exact wr_same))
        · rw [← hμ, wr_cell (by omega), wr_slot (by omega), wr_cell (by omega), wr_cell (by omega)]; exact p1
        · rw [z 6 (by omega) (by omega) (by omega)]; exact p2
        · rw [← hμ, wr_cell (by omega), wr_same]
        · rw [← hρ, wr_slot (by omega), wr_same]
        · intro k hk; rw [m _ (by omega) (by omega) (by omega) (by omega), r 4 (by omega) (by omega) (by omega) (by omega)]; exact p7 k hk
        · intro k hk; rw [m _ (by omega) (by omega) (by omega) (by omega), r 5 (by omega) (by omega) (by omega) (by omega)]; exact p8 k hk
        · intro k hk; rw [m _ (by omega) (by omega) (by omega) (by omega), r 6 (by omega) (by omega) (by omega) (by omega)]; exact p9 k hk
        · intro k hk
          have e8 : μ' (1 + 10) k = if k = M then p else μ 11 k := by rw [← hμ]; simp [wr]
          have e4 : ρ' 7 k = if k = M then p else ρ 7 k := by rw [← hρ]; simp [wr]
          rw [e8, e4]; exact up _ _ _ _ p10 rfl k hk
        · intro k hk
          have e8 : μ' (1 + 11) k = if k = M then nI w else μ 12 k := by rw [← hμ]; simp [wr]
          have e4 : ρ' 8 k = if k = M then nI w else ρ 8 k := by rw [← hρ]; simp [wr]
          rw [e8, e4]; exact up _ _ _ _ p11 rfl k hk
        · intro g hg
          have e4 : ρ' 8 g = if g = M then nI w else ρ 8 g := by rw [← hρ]; simp [wr]
          rw [e4]
          by_cases eg : g = M
          · rw [if_pos eg]; exact ⟨w, hw, rfl⟩
          · rw [if_neg eg]; exact p12 g (by omega)
        · rw [m 26 (by omega) (by omega) (by omega) (by omega), y]
          exact StR_cls (fun x g1 g2 => m x (by omega) (by omega) (by omega) (by omega)) a2
        · rw [y]
          exact ⟨i1, i2, i3, fun g hg => by obtain ⟨v, v1, v2, v3⟩ := i4 g hg; exact ⟨v, v1, v2, fun q => v3 (by omega)⟩, fun g hg q => i5 g hg (by omega), fun g hg => by obtain ⟨v, v1, v2, v3⟩ := i6 g hg; exact ⟨v, v1, v2, fun q => v3 (by omega)⟩, fun g hg q => i7 g hg (by omega)⟩
  · exact no_st h (r := nI 4294967295) (by simp (disch := omega) only [lit, neg1, nI_1, nI_add, pk_mul, pk_sub, nI_leI, nI_ltI, nI_eq, nI_eqm, chkn, ixn, if_pos, if_neg, bndV_s, bndE_s, bndO_s, reduceIte, irmn, iminn, imaxn, and_self, true_and, and_true, false_and, and_false, f_X11_groom, isD, c]) (by simp (disch := omega) only [lit, neg1, nI_1, nI_add, pk_mul, pk_sub, nI_leI, nI_ltI, nI_eq, nI_eqm, chkn, ixn, if_pos, if_neg, bndV_s, bndE_s, bndO_s, reduceIte, irmn, iminn, imaxn, and_self, true_and, and_true, false_and, and_false, f_X12_groom, isI, c])
theorem s_end {G : Nat} {bb : Bool} {μ ρ : Mem} (h : AR bb μ ρ) (p : Int32) : ∃ r μ' ρ', f_X11_end G p μ = some (r, μ') ∧ f_X12_end G p ρ = some (r, ρ') ∧ AR bb μ' ρ' := by
  obtain ⟨W, M, H⟩ := id h
  obtain ⟨C, ⟨n, n1, n2, n3, n4⟩, b3, b4, b5, b6, b7, b8⟩ := id H
  have h0 : nI 0 = (0 : Int32) := rfl
  by_cases c : nI 0 ≤ p ∧ p ≤ nI n
  · obtain ⟨k, hk, rfl⟩ := in_of n rfl (by omega) c.1 c.2
    refine ⟨nI 1, wr μ 41 5 (nI k), wr (wr ρ 0 0 (nI 0)) 0 15 (nI k), ?_, ?_, ?_⟩
    · simp (disch := omega) only [lit, neg1, nI_1, nI_add, pk_mul, pk_sub, nI_leI, nI_ltI, nI_eq, nI_eqm, chkn, ixn, if_pos, if_neg, bndV_s, bndE_s, bndO_s, reduceIte, irmn, iminn, imaxn, and_self, true_and, and_true, false_and, and_false, f_X11_end, n2]
    · simp (disch := omega) only [lit, neg1, nI_1, nI_add, pk_mul, pk_sub, nI_leI, nI_ltI, nI_eq, nI_eqm, chkn, ixn, if_pos, if_neg, bndV_s, bndE_s, bndO_s, reduceIte, irmn, iminn, imaxn, and_self, true_and, and_true, false_and, and_false, f_X12_end, isI, wr_slot, n3]
    · have m : ∀ x, x ≠ 41 → (wr μ 41 5 (nI k)) x = μ x := fun x g => wr_off g
      have r : ∀ x, x ≠ 0 → (wr (wr ρ 0 0 (nI 0)) 0 15 (nI k)) x = ρ x := fun x g => by rw [wr_off g, wr_off g]
      have z : ∀ j, j ≠ 0 → j ≠ 15 → (wr (wr ρ 0 0 (nI 0)) 0 15 (nI k)) 0 j = ρ 0 j := fun j g1 g2 => by rw [wr_slot g2, wr_slot g1]
      refine ⟨W, M, ChR_o C (fun x g1 g2 g3 g4 => m x (by omega)) (fun x g1 g2 _ _ _ _ _ _ _ _ _ _ _ _ => r x (by omega)) (fun j hj => z j (by intro e; subst e; exact absurd hj (by decide)) (by intro e; subst e; exact absurd hj (by decide))) ?_ ?_ (RcR_o C.2.2.2.1 (m _ (by omega)) (m _ (by omega)) (by rw [r 1 (by omega)]) (r _ (by omega))), ⟨k, by omega, wr_same, wr_same, fun j hj => ?_⟩, ?_, ?_, PaR_o b5 (fun x g1 g2 => m x (by omega)) (z _ (by omega) (by omega)) (r _ (by omega)) (by rw [r 1 (by omega)]), PlR_o b6 (fun x g => m x (by omega)), ImR_o b7 (fun x g => m x (by omega)) (z _ (by omega) (by omega)) (r _ (by omega)), ?_⟩
      · rw [m _ (by omega), r 1 (by omega)]
        exact StR_cls (fun x g1 g2 => m x (by omega)) C.2.1
      · rw [r 1 (by omega)]; exact C.2.2.1
      · rw [m 42 (by omega), r 10 (by omega)]; exact n4 j (by omega)
      · unfold FaR at b3 ⊢
        exact ⟨by rw [wr_slot (by omega), z 35 (by omega) (by omega)]; exact b3.1, by rw [wr_slot (by omega), z 36 (by omega) (by omega)]; exact b3.2⟩
      · unfold DrR at b4 ⊢
        rw [m 52 (by omega)]
        exact b4
      · unfold ThR at b8 ⊢
        rw [z 5 (by omega) (by omega), r 11 (by omega)]
        exact b8
  · refine no_st h (r := nI 0) ?_ ?_
    · by_cases d1 : p < nI 0
      · simp (disch := omega) only [lit, neg1, nI_1, nI_add, pk_mul, pk_sub, nI_leI, nI_ltI, nI_eq, nI_eqm, chkn, ixn, if_pos, if_neg, bndV_s, bndE_s, bndO_s, reduceIte, irmn, iminn, imaxn, and_self, true_and, and_true, false_and, and_false, f_X11_end, d1]
      · have d2 : ¬ p ≤ nI n := by grind
        simp (disch := omega) only [lit, neg1, nI_1, nI_add, pk_mul, pk_sub, nI_leI, nI_ltI, nI_eq, nI_eqm, chkn, ixn, if_pos, if_neg, bndV_s, bndE_s, bndO_s, reduceIte, irmn, iminn, imaxn, and_self, true_and, and_true, false_and, and_false, f_X11_end, n2, d1, d2]
    · simp (disch := omega) only [lit, neg1, nI_1, nI_add, pk_mul, pk_sub, nI_leI, nI_ltI, nI_eq, nI_eqm, chkn, ixn, if_pos, if_neg, bndV_s, bndE_s, bndO_s, reduceIte, irmn, iminn, imaxn, and_self, true_and, and_true, false_and, and_false, f_X12_end, isI, wr_slot, n3, c]
end
