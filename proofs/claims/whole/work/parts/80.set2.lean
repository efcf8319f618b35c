section
/-- a change of one row of the people -/
theorem AR_set {bb : Bool} {W M : Nat} {μ ρ μ' ρ' : Mem} (H : AT bb W M μ ρ) (h1 : ∀ x, 13 ≤ x → x ≠ 54 → μ' x = μ x) (h2 : ∀ x, 9 ≤ x → ρ' x = ρ x) (h3 : ∀ j, j ≠ 0 → j ≠ 3 → ρ' 0 j = ρ 0 j) (e1 : μ' 54 3 = nI 0) (e2 : μ' 54 2 = μ 54 2) (e3 : ρ' 0 3 = nI 0) (e4 : μ' 1 = μ 1)
    (c1 : ∀ k, k < 12 → μ' 8 k = ρ' 4 k) (c2 : ∀ k, k < 12 → μ' 9 k = ρ' 5 k) (c3 : ∀ k, k < 12 → μ' 10 k = ρ' 6 k) (c4 : ∀ k, k < 8 → μ' 11 k = ρ' 7 k) (c5 : ∀ k, k < 8 → μ' 12 k = ρ' 8 k) (c6 : ∀ g, g < M → ∃ w, w < W ∧ ρ' 8 g = nI w)
    (c7 : StR μ' 2 (μ 26 3) (ρ' 1) 0) (c8 : StI W M (ρ' 1) 0) (c9 : ρ' 1 2 = ρ 1 2) : AR bb μ' ρ' := by
  obtain ⟨a1, a2, a3, a4, _⟩ := id H.1
  obtain ⟨p1, p2, p3, p4, p5, p6, _⟩ := id a1
  refine AR_pp H (Nat.le_refl _) (Nat.le_refl _) (fun x g1 g2 g3 g4 g5 g6 => h1 x g1 (by omega)) (fun x g1 g2 => h2 x (by omega)) (fun j g1 g2 g3 g4 => h3 j g1 g2) ⟨by rw [e4]; exact p1, by rw [h3 6 (by omega) (by omega)]; exact p2, p3, by rw [e4]; exact p4, by rw [h3 7 (by omega) (by omega)]; exact p5, p6, c1, c2, c3, c4, c5, c6⟩ ?_ c8
    (RcR_o a4 (h1 _ (by omega) (by omega)) (h1 _ (by omega) (by omega)) c9 (h2 9 (by omega))) (PaR_0 H.2.2.2.2.1 e1 e2 e3)
  rw [h1 26 (by omega) (by omega)]
  exact c7
theorem upq {a b a' b' : Nat → Int32} {n k : Nat} {v : Int32} (h : ∀ j, j < n → a j = b j) (ha : ∀ j, a' j = if j = k then v else a j) (hb : ∀ j, b' j = if j = k then v else b j) : ∀ j, j < n → a' j = b' j := fun j hj => by rw [ha, hb, h j hj]
theorem s_set {G : Nat} {bb : Bool} {μ ρ : Mem} (h : AR bb μ ρ) (p q t : Int32) : ∃ r μ' ρ', f_X11_set G p q t μ = some (r, μ') ∧ f_X12_set G p q t ρ = some (r, ρ') ∧ AR bb μ' ρ' := by
  obtain ⟨W, M, H⟩ := id h
  have H0 : AT bb W M μ (wr ρ 0 0 (nI 0)) := told0 H
  have R := WR_of H0
  obtain ⟨hW, hM⟩ := WR_W R
  obtain ⟨a1, a2, a3, a4, _⟩ := id H.1
  obtain ⟨p1, p2, p3, p4, p5, p6, p7, p8, p9, p10, p11, p12⟩ := id a1
  have r0 : ∀ (m : Mem), (wr m 0 3 (nI 0)) 0 3 = nI 0 := fun m => wr_same
  by_cases q0 : p = nI 0
  · subst q0
    rcases woman_of R.1 q with ⟨g1, g2⟩ | ⟨w, hw, rfl, g1, g2⟩
    · exact no_st h (r := nI 0) (by simp (disch := omega) only [lit, neg1, nI_1, nI_add, pk_mul, pk_sub, nI_leI, nI_ltI, nI_eq, nI_eqm, chkn, ixn, if_pos, if_neg, bndV_s, bndE_s, bndO_s, reduceIte, irmn, iminn, imaxn, and_self, true_and, and_true, false_and, and_false, f_X11_set, f_X0_change, f_X0_change_j40, g1, f_X0_change_j59, f_X0_change_j60, f_X0_change_j149]) (by simp (disch := omega) only [lit, neg1, nI_1, nI_add, pk_mul, pk_sub, nI_leI, nI_ltI, nI_eq, nI_eqm, chkn, ixn, if_pos, if_neg, bndV_s, bndE_s, bndO_s, reduceIte, irmn, iminn, imaxn, and_self, true_and, and_true, false_and, and_false, f_X12_set, f_X12_canSet, isI, g2])
    by_cases c : nI 0 ≤ t ∧ t ≤ nI 9
    · refine ⟨nI 1, wr (wr μ 8 w t) 54 3 (nI 0), wr (wr (wr ρ 0 0 (nI 0)) 4 w t) 0 3 (nI 0), ?_, ?_, ?_⟩
      · simp (disch := omega) only [lit, neg1, nI_1, nI_add, pk_mul, pk_sub, nI_leI, nI_ltI, nI_eq, nI_eqm, chkn, ixn, if_pos, if_neg, bndV_s, bndE_s, bndO_s, reduceIte, irmn, iminn, imaxn, and_self, true_and, and_true, false_and, and_false, f_X11_set, f_X0_change, f_X0_change_j40, g1, isD, c, f_X0_change_j59, f_X0_change_j60, f_X0_change_j149, f_X3_forget]
      · simp (disch := omega) only [lit, neg1, nI_1, nI_add, pk_mul, pk_sub, nI_leI, nI_ltI, nI_eq, nI_eqm, chkn, ixn, if_pos, if_neg, bndV_s, bndE_s, bndO_s, reduceIte, irmn, iminn, imaxn, and_self, true_and, and_true, false_and, and_false, f_X12_set, f_X12_canSet, isI, g2, c, f_X12_set_j28, f_X12_set_j40, f_X12_set_j52, f_X12_set_j64, f_X12_set_j76]
      · refine AR_set H (fun x g1 g2 => by rw [wr_off g2, wr_off (by omega)]) (fun x g1 => by rw [wr_off (by omega), wr_off (by omega), wr_off (by omega)]) (fun j g1 g2 => by rw [wr_slot g2, wr_cell (by omega), wr_slot g1]) wr_same (by rw [wr_slot (by omega), wr_cell (by omega)]) wr_same (by rw [wr_off (by omega), wr_off (by omega)]) ?_ ?_ ?_ ?_ ?_ ?_ ?_ ?_ ?_
        · exact upq (v := t) (k := w) p7 (fun j => by simp [wr]) (fun j => by simp [wr])
        · intro k hk; simp only [wr]; simp; exact p8 k hk
        · intro k hk; simp only [wr]; simp; exact p9 k hk
        · intro k hk; simp only [wr]; simp; exact p10 k hk
        · intro k hk; simp only [wr]; simp; exact p11 k hk
        · intro g hg; simp only [wr]; simp; exact p12 g hg
        · rw [wr_off (by omega), wr_off (by omega), wr_off (by omega)]; exact StR_cls (fun x g1 g2 => by rw [wr_off (by omega), wr_off (by omega)]) a2
        · rw [wr_off (by omega), wr_off (by omega), wr_off (by omega)]; exact a3
        · rw [wr_off (by omega), wr_off (by omega), wr_off (by omega)]
    · exact no_st h (r := nI 0) (by simp (disch := omega) only [lit, neg1, nI_1, nI_add, pk_mul, pk_sub, nI_leI, nI_ltI, nI_eq, nI_eqm, chkn, ixn, if_pos, if_neg, bndV_s, bndE_s, bndO_s, reduceIte, irmn, iminn, imaxn, and_self, true_and, and_true, false_and, and_false, f_X11_set, f_X0_change, f_X0_change_j40, g1, isD, c, f_X0_change_j59, f_X0_change_j60, f_X0_change_j149]) (by simp (disch := omega) only [lit, neg1, nI_1, nI_add, pk_mul, pk_sub, nI_leI, nI_ltI, nI_eq, nI_eqm, chkn, ixn, if_pos, if_neg, bndV_s, bndE_s, bndO_s, reduceIte, irmn, iminn, imaxn, and_self, true_and, and_true, false_and, and_false, f_X12_set, f_X12_canSet, isI, g2, c])
  by_cases q1 : p = nI 1
  · subst q1
    rcases woman_of R.1 q with ⟨g1, g2⟩ | ⟨w, hw, rfl, g1, g2⟩
    · exact no_st h (r := nI 0) (by simp (disch := omega) only [lit, neg1, nI_1, nI_add, pk_mul, pk_sub, nI_leI, nI_ltI, nI_eq, nI_eqm, chkn, ixn, if_pos, if_neg, bndV_s, bndE_s, bndO_s, reduceIte, irmn, iminn, imaxn, and_self, true_and, and_true, false_and, and_false, f_X11_set, f_X0_change, f_X0_change_j40, g1, f_X0_change_j59, f_X0_change_j60, f_X0_change_j149]) (by simp (disch := omega) only [lit, neg1, nI_1, nI_add, pk_mul, pk_sub, nI_leI, nI_ltI, nI_eq, nI_eqm, chkn, ixn, if_pos, if_neg, bndV_s, bndE_s, bndO_s, reduceIte, irmn, iminn, imaxn, and_self, true_and, and_true, false_and, and_false, f_X12_set, f_X12_canSet, isI, g2])
    by_cases c : nI 0 ≤ t ∧ t ≤ nI 9
    · refine ⟨nI 1, wr (wr μ 9 w t) 54 3 (nI 0), wr (wr (wr ρ 0 0 (nI 0)) 5 w t) 0 3 (nI 0), ?_, ?_, ?_⟩
      · simp (disch := omega) only [lit, neg1, nI_1, nI_add, pk_mul, pk_sub, nI_leI, nI_ltI, nI_eq, nI_eqm, chkn, ixn, if_pos, if_neg, bndV_s, bndE_s, bndO_s, reduceIte, irmn, iminn, imaxn, and_self, true_and, and_true, false_and, and_false, f_X11_set, f_X0_change, f_X0_change_j40, g1, isD, c, f_X0_change_j59, f_X0_change_j60, f_X0_change_j149, f_X3_forget]
      · simp (disch := omega) only [lit, neg1, nI_1, nI_add, pk_mul, pk_sub, nI_leI, nI_ltI, nI_eq, nI_eqm, chkn, ixn, if_pos, if_neg, bndV_s, bndE_s, bndO_s, reduceIte, irmn, iminn, imaxn, and_self, true_and, and_true, false_and, and_false, f_X12_set, f_X12_canSet, isI, g2, c, f_X12_set_j28, f_X12_set_j40, f_X12_set_j52, f_X12_set_j64, f_X12_set_j76]
      · refine AR_set H (fun x g1 g2 => by rw [wr_off g2, wr_off (by omega)]) (fun x g1 => by rw [wr_off (by omega), wr_off (by omega), wr_off (by omega)]) (fun j g1 g2 => by rw [wr_slot g2, wr_cell (by omega), wr_slot g1]) wr_same (by rw [wr_slot (by omega), wr_cell (by omega)]) wr_same (by rw [wr_off (by omega), wr_off (by omega)]) ?_ ?_ ?_ ?_ ?_ ?_ ?_ ?_ ?_
        · intro k hk; simp only [wr]; simp; exact p7 k hk
        · exact upq (v := t) (k := w) p8 (fun j => by simp [wr]) (fun j => by simp [wr])
        · intro k hk; simp only [wr]; simp; exact p9 k hk
        · intro k hk; simp only [wr]; simp; exact p10 k hk
        · intro k hk; simp only [wr]; simp; exact p11 k hk
        · intro g hg; simp only [wr]; simp; exact p12 g hg
        · rw [wr_off (by omega), wr_off (by omega), wr_off (by omega)]; exact StR_cls (fun x g1 g2 => by rw [wr_off (by omega), wr_off (by omega)]) a2
        · rw [wr_off (by omega), wr_off (by omega), wr_off (by omega)]; exact a3
        · rw [wr_off (by omega), wr_off (by omega), wr_off (by omega)]
    · exact no_st h (r := nI 0) (by simp (disch := omega) only [lit, neg1, nI_1, nI_add, pk_mul, pk_sub, nI_leI, nI_ltI, nI_eq, nI_eqm, chkn, ixn, if_pos, if_neg, bndV_s, bndE_s, bndO_s, reduceIte, irmn, iminn, imaxn, and_self, true_and, and_true, false_and, and_false, f_X11_set, f_X0_change, f_X0_change_j40, g1, isD, c, f_X0_change_j59, f_X0_change_j60, f_X0_change_j149]) (by simp (disch := omega) only [lit, neg1, nI_1, nI_add, pk_mul, pk_sub, nI_leI, nI_ltI, nI_eq, nI_eqm, chkn, ixn, if_pos, if_neg, bndV_s, bndE_s, bndO_s, reduceIte, irmn, iminn, imaxn, and_self, true_and, and_true, false_and, and_false, f_X12_set, f_X12_canSet, isI, g2, c])
  by_cases q2 : p = nI 2
  · subst q2
    rcases woman_of R.1 q with ⟨g1, g2⟩ | ⟨w, hw, rfl, g1, g2⟩
    · exact no_st h (r := nI 0) (by simp (disch := omega) only [lit, neg1, nI_1, nI_add, pk_mul, pk_sub, nI_leI, nI_ltI, nI_eq, nI_eqm, chkn, ixn, if_pos, if_neg, bndV_s, bndE_s, bndO_s, reduceIte, irmn, iminn, imaxn, and_self, true_and, and_true, false_and, and_false, f_X11_set, f_X0_change, f_X0_change_j40, g1, f_X0_change_j59, f_X0_change_j60, f_X0_change_j149]) (by simp (disch := omega) only [lit, neg1, nI_1, nI_add, pk_mul, pk_sub, nI_leI, nI_ltI, nI_eq, nI_eqm, chkn, ixn, if_pos, if_neg, bndV_s, bndE_s, bndO_s, reduceIte, irmn, iminn, imaxn, and_self, true_and, and_true, false_and, and_false, f_X12_set, f_X12_canSet, isI, g2])
    by_cases c : nI 0 ≤ t ∧ t ≤ nI 9
    · refine ⟨nI 1, wr (wr μ 10 w t) 54 3 (nI 0), wr (wr (wr ρ 0 0 (nI 0)) 6 w t) 0 3 (nI 0), ?_, ?_, ?_⟩
      · simp (disch := omega) only [lit, neg1, nI_1, nI_add, pk_mul, pk_sub, nI_leI, nI_ltI, nI_eq, nI_eqm, chkn, ixn, if_pos, if_neg, bndV_s, bndE_s, bndO_s, reduceIte, irmn, iminn, imaxn, and_self, true_and, and_true, false_and, and_false, f_X11_set, f_X0_change, f_X0_change_j40, g1, isD, c, f_X0_change_j59, f_X0_change_j60, f_X0_change_j149, f_X3_forget]
      · simp (disch := omega) only [lit, neg1, nI_1, nI_add, pk_mul, pk_sub, nI_leI, nI_ltI, nI_eq, nI_eqm, chkn, ixn, if_pos, if_neg, bndV_s, bndE_s, bndO_s, reduceIte, irmn, iminn, imaxn, and_self, true_and, and_true, false_and, and_false, f_X12_set, f_X12_canSet, isI, g2, c, f_X12_set_j28, f_X12_set_j40, f_X12_set_j52, f_X12_set_j64, f_X12_set_j76]
      · refine AR_set H (fun x g1 g2 => by rw [wr_off g2, wr_off (by omega)]) (fun x g1 => by rw [wr_off (by omega), wr_off (by omega), wr_off (by omega)]) (fun j g1 g2 => by rw [wr_slot g2, wr_cell (by omega), wr_slot g1]) wr_same (by rw [wr_slot (by omega), wr_cell (by omega)]) wr_same (by rw [wr_off (by omega), wr_off (by omega)]) ?_ ?_ ?_ ?_ ?_ ?_ ?_ ?_ ?_
        · intro k hk; simp only [wr]; simp; exact p7 k hk
        · intro k hk; simp only [wr]; simp; exact p8 k hk
        · exact upq (v := t) (k := w) p9 (fun j => by simp [wr]) (fun j => by simp [wr])
        · intro k hk; simp only [wr]; simp; exact p10 k hk
        · intro k hk; simp only [wr]; simp; exact p11 k hk
        · intro g hg; simp only [wr]; simp; exact p12 g hg
        · rw [wr_off (by omega), wr_off (by omega), wr_off (by omega)]; exact StR_cls (fun x g1 g2 => by rw [wr_off (by omega), wr_off (by omega)]) a2
        · rw [wr_off (by omega), wr_off (by omega), wr_off (by omega)]; exact a3
        · rw [wr_off (by omega), wr_off (by omega), wr_off (by omega)]
    · exact no_st h (r := nI 0) (by simp (disch := omega) only [lit, neg1, nI_1, nI_add, pk_mul, pk_sub, nI_leI, nI_ltI, nI_eq, nI_eqm, chkn, ixn, if_pos, if_neg, bndV_s, bndE_s, bndO_s, reduceIte, irmn, iminn, imaxn, and_self, true_and, and_true, false_and, and_false, f_X11_set, f_X0_change, f_X0_change_j40, g1, isD, c, f_X0_change_j59, f_X0_change_j60, f_X0_change_j149]) (by simp (disch := omega) only [lit, neg1, nI_1, nI_add, pk_mul, pk_sub, nI_leI, nI_ltI, nI_eq, nI_eqm, chkn, ixn, if_pos, if_neg, bndV_s, bndE_s, bndO_s, reduceIte, irmn, iminn, imaxn, and_self, true_and, and_true, false_and, and_false, f_X12_set, f_X12_canSet, isI, g2, c])
  have hp : ¬ (nI 0 ≤ p ∧ p ≤ nI 2) := by
    have n0 : nI 0 = (0 : Int32) := rfl
    have n2 : nI 2 = (2 : Int32) := rfl
    rintro ⟨c1, c2⟩
    obtain ⟨k, hk, rfl⟩ := in_of 2 rfl (by omega) c1 c2
    rcases (by omega : k = 0 ∨ k = 1 ∨ k = 2) with e | e | e <;> subst e <;> contradiction
  by_cases q3 : p = nI 3
  · subst q3
    rcases groom_of R.1 q with ⟨g1, g2⟩ | ⟨g, hg, rfl, g1, g2⟩
    · exact no_st h (r := nI 0) (by simp (disch := omega) only [lit, neg1, nI_1, nI_add, pk_mul, pk_sub, nI_leI, nI_ltI, nI_eq, nI_eqm, chkn, ixn, if_pos, if_neg, bndV_s, bndE_s, bndO_s, reduceIte, irmn, iminn, imaxn, and_self, true_and, and_true, false_and, and_false, f_X11_set, f_X0_change, g1, f_X0_change_j84, f_X0_change_j85, f_X0_change_j149]) (by simp (disch := omega) only [lit, neg1, nI_1, nI_add, pk_mul, pk_sub, nI_leI, nI_ltI, nI_eq, nI_eqm, chkn, ixn, if_pos, if_neg, bndV_s, bndE_s, bndO_s, reduceIte, irmn, iminn, imaxn, and_self, true_and, and_true, false_and, and_false, f_X12_set, f_X12_canSet, isI, g2])
    by_cases c : nI 0 ≤ t ∧ t ≤ nI 9
    · refine ⟨nI 1, wr (wr μ 11 g t) 54 3 (nI 0), wr (wr (wr ρ 0 0 (nI 0)) 7 g t) 0 3 (nI 0), ?_, ?_, ?_⟩
      · simp (disch := omega) only [lit, neg1, nI_1, nI_add, pk_mul, pk_sub, nI_leI, nI_ltI, nI_eq, nI_eqm, chkn, ixn, if_pos, if_neg, bndV_s, bndE_s, bndO_s, reduceIte, irmn, iminn, imaxn, and_self, true_and, and_true, false_and, and_false, f_X11_set, f_X0_change, g1, isD, c, f_X0_change_j84, f_X0_change_j85, f_X0_change_j149, f_X3_forget]
      · simp (disch := omega) only [lit, neg1, nI_1, nI_add, pk_mul, pk_sub, nI_leI, nI_ltI, nI_eq, nI_eqm, chkn, ixn, if_pos, if_neg, bndV_s, bndE_s, bndO_s, reduceIte, irmn, iminn, imaxn, and_self, true_and, and_true, false_and, and_false, f_X12_set, f_X12_canSet, isI, g2, c, f_X12_set_j28, f_X12_set_j40, f_X12_set_j52, f_X12_set_j64, f_X12_set_j76]
      · refine AR_set H (fun x g1 g2 => by rw [wr_off g2, wr_off (by omega)]) (fun x g1 => by rw [wr_off (by omega), wr_off (by omega), wr_off (by omega)]) (fun j g1 g2 => by rw [wr_slot g2, wr_cell (by omega), wr_slot g1]) wr_same (by rw [wr_slot (by omega), wr_cell (by omega)]) wr_same (by rw [wr_off (by omega), wr_off (by omega)]) ?_ ?_ ?_ ?_ ?_ ?_ ?_ ?_ ?_
        · intro k hk; simp only [wr]; simp; exact p7 k hk
        · intro k hk; simp only [wr]; simp; exact p8 k hk
        · intro k hk; simp only [wr]; simp; exact p9 k hk
        · exact upq (v := t) (k := g) p10 (fun j => by simp [wr]) (fun j => by simp [wr])
        · intro k hk; simp only [wr]; simp; exact p11 k hk
        · intro g hg; simp only [wr]; simp; exact p12 g hg
        · rw [wr_off (by omega), wr_off (by omega), wr_off (by omega)]; exact StR_cls (fun x g1 g2 => by rw [wr_off (by omega), wr_off (by omega)]) a2
        · rw [wr_off (by omega), wr_off (by omega), wr_off (by omega)]; exact a3
        · rw [wr_off (by omega), wr_off (by omega), wr_off (by omega)]
    · exact no_st h (r := nI 0) (by simp (disch := omega) only [lit, neg1, nI_1, nI_add, pk_mul, pk_sub, nI_leI, nI_ltI, nI_eq, nI_eqm, chkn, ixn, if_pos, if_neg, bndV_s, bndE_s, bndO_s, reduceIte, irmn, iminn, imaxn, and_self, true_and, and_true, false_and, and_false, f_X11_set, f_X0_change, g1, isD, c, f_X0_change_j84, f_X0_change_j85, f_X0_change_j149]) (by simp (disch := omega) only [lit, neg1, nI_1, nI_add, pk_mul, pk_sub, nI_leI, nI_ltI, nI_eq, nI_eqm, chkn, ixn, if_pos, if_neg, bndV_s, bndE_s, bndO_s, reduceIte, irmn, iminn, imaxn, and_self, true_and, and_true, false_and, and_false, f_X12_set, f_X12_canSet, isI, g2, c, f_X12_canSet_j61, f_X12_canSet_j74])
  by_cases q4 : p = nI 4
  · subst q4
    rcases groom_of R.1 q with ⟨g1, g2⟩ | ⟨g, hg, rfl, g1, g2⟩
    · exact no_st h (r := nI 0) (by simp (disch := omega) only [lit, neg1, nI_1, nI_add, pk_mul, pk_sub, nI_leI, nI_ltI, nI_eq, nI_eqm, chkn, ixn, if_pos, if_neg, bndV_s, bndE_s, bndO_s, reduceIte, irmn, iminn, imaxn, and_self, true_and, and_true, false_and, and_false, f_X11_set, f_X0_change, g1, f_X0_change_j110, f_X0_change_j111, f_X0_change_j149]) (by simp (disch := omega) only [lit, neg1, nI_1, nI_add, pk_mul, pk_sub, nI_leI, nI_ltI, nI_eq, nI_eqm, chkn, ixn, if_pos, if_neg, bndV_s, bndE_s, bndO_s, reduceIte, irmn, iminn, imaxn, and_self, true_and, and_true, false_and, and_false, f_X12_set, f_X12_canSet, isI, g2])
    rcases woman_of R.1 t with ⟨w1, w2⟩ | ⟨w, hw, rfl, w1, w2⟩
    · exact no_st h (r := nI 0) (by simp (disch := omega) only [lit, neg1, nI_1, nI_add, pk_mul, pk_sub, nI_leI, nI_ltI, nI_eq, nI_eqm, chkn, ixn, if_pos, if_neg, bndV_s, bndE_s, bndO_s, reduceIte, irmn, iminn, imaxn, and_self, true_and, and_true, false_and, and_false, f_X11_set, f_X0_change, g1, w1, f_X0_change_j110, f_X0_change_j111, f_X0_change_j149]) (by simp (disch := omega) only [lit, neg1, nI_1, nI_add, pk_mul, pk_sub, nI_leI, nI_ltI, nI_eq, nI_eqm, chkn, ixn, if_pos, if_neg, bndV_s, bndE_s, bndO_s, reduceIte, irmn, iminn, imaxn, and_self, true_and, and_true, false_and, and_false, f_X12_set, f_X12_canSet, isI, g2, w2, f_X12_canSet_j61, f_X12_canSet_j74])
    · refine ⟨nI 1, wr (wr μ 12 g (nI w)) 54 3 (nI 0), wr (wr (wr ρ 0 0 (nI 0)) 8 g (nI w)) 0 3 (nI 0), ?_, ?_, ?_⟩
      · simp (disch := omega) only [lit, neg1, nI_1, nI_add, pk_mul, pk_sub, nI_leI, nI_ltI, nI_eq, nI_eqm, chkn, ixn, if_pos, if_neg, bndV_s, bndE_s, bndO_s, reduceIte, irmn, iminn, imaxn, and_self, true_and, and_true, false_and, and_false, f_X11_set, f_X0_change, g1, w1, f_X0_change_j110, f_X0_change_j111, f_X0_change_j149, f_X3_forget]
      · simp (disch := omega) only [lit, neg1, nI_1, nI_add, pk_mul, pk_sub, nI_leI, nI_ltI, nI_eq, nI_eqm, chkn, ixn, if_pos, if_neg, bndV_s, bndE_s, bndO_s, reduceIte, irmn, iminn, imaxn, and_self, true_and, and_true, false_and, and_false, f_X12_set, f_X12_canSet, isI, g2, w2, f_X12_canSet_j61, f_X12_canSet_j74, f_X12_set_j28, f_X12_set_j40, f_X12_set_j52, f_X12_set_j64, f_X12_set_j76]
      · refine AR_set H (fun x g1 g2 => by rw [wr_off g2, wr_off (by omega)]) (fun x g1 => by rw [wr_off (by omega), wr_off (by omega), wr_off (by omega)]) (fun j g1 g2 => by rw [wr_slot g2, wr_cell (by omega), wr_slot g1]) wr_same (by rw [wr_slot (by omega), wr_cell (by omega)]) wr_same (by rw [wr_off (by omega), wr_off (by omega)]) ?_ ?_ ?_ ?_ ?_ ?_ ?_ ?_ ?_
        · intro k hk; simp only [wr]; simp; exact p7 k hk
        · intro k hk; simp only [wr]; simp; exact p8 k hk
        · intro k hk; simp only [wr]; simp; exact p9 k hk
        · intro k hk; simp only [wr]; simp; exact p10 k hk
        · exact upq (v := nI w) (k := g) p11 (fun j => by simp [wr]) (fun j => by simp [wr])
        · intro g' hg'
          have e8 : (wr (wr (wr ρ 0 0 (nI 0)) 8 g (nI w)) 0 3 (nI 0)) 8 g' = if g' = g then nI w else ρ 8 g' := by simp [wr]
          rw [e8]
          by_cases e : g' = g
          · rw [if_pos e]; exact ⟨w, hw, rfl⟩
          · rw [if_neg e]; exact p12 g' hg'
        · rw [wr_off (by omega), wr_off (by omega), wr_off (by omega)]; exact StR_cls (fun x g1 g2 => by rw [wr_off (by omega), wr_off (by omega)]) a2
        · rw [wr_off (by omega), wr_off (by omega), wr_off (by omega)]; exact a3
        · rw [wr_off (by omega), wr_off (by omega), wr_off (by omega)]
  by_cases q5 : p = nI 5
  · subst q5
    rcases groom_of R.1 q with ⟨g1, g2⟩ | ⟨g, hg, rfl, g1, g2⟩
    · exact no_st h (r := nI 0) (by simp (disch := omega) only [lit, neg1, nI_1, nI_add, pk_mul, pk_sub, nI_leI, nI_ltI, nI_eq, nI_eqm, chkn, ixn, if_pos, if_neg, bndV_s, bndE_s, bndO_s, reduceIte, irmn, iminn, imaxn, and_self, true_and, and_true, false_and, and_false, f_X11_set, f_X0_change, g1, f_X0_change_j140, f_X0_change_j141, f_X0_change_j149]) (by simp (disch := omega) only [lit, neg1, nI_1, nI_add, pk_mul, pk_sub, nI_leI, nI_ltI, nI_eq, nI_eqm, chkn, ixn, if_pos, if_neg, bndV_s, bndE_s, bndO_s, reduceIte, irmn, iminn, imaxn, and_self, true_and, and_true, false_and, and_false, f_X12_set, f_X12_canSet, isI, g2])
    have n99 : nI 99 = (99 : Int32) := rfl
    by_cases c : -nI 99 ≤ t ∧ t ≤ nI 99
    · have c1 : ¬ t < -nI 99 := by grind
      have c2 : ¬ nI 99 < t := by grind
      refine ⟨nI 1, wr (wr μ 5 g t) 54 3 (nI 0), wr (wr (wr ρ 0 0 (nI 0)) 1 (25 + g) t) 0 3 (nI 0), ?_, ?_, ?_⟩
      · simp (disch := omega) only [lit, neg1, nI_1, nI_add, pk_mul, pk_sub, nI_leI, nI_ltI, nI_eq, nI_eqm, chkn, ixn, if_pos, if_neg, bndV_s, bndE_s, bndO_s, reduceIte, irmn, iminn, imaxn, and_self, true_and, and_true, false_and, and_false, f_X11_set, f_X0_change, g1, c1, c2, f_X0_change_j140, f_X0_change_j141, f_X0_change_j149, f_X3_forget]
      · simp (disch := omega) only [lit, neg1, nI_1, nI_add, pk_mul, pk_sub, nI_leI, nI_ltI, nI_eq, nI_eqm, chkn, ixn, if_pos, if_neg, bndV_s, bndE_s, bndO_s, reduceIte, irmn, iminn, imaxn, and_self, true_and, and_true, false_and, and_false, f_X12_set, f_X12_canSet, isI, g2, c, f_X12_canSet_j61, f_X12_canSet_j74, f_X12_set_j28, f_X12_set_j40, f_X12_set_j52, f_X12_set_j64, f_X12_set_j76]
      · have y1 : (wr (wr (wr ρ 0 0 (nI 0)) 1 (25 + g) t) 0 3 (nI 0)) 1 = (wr ρ 1 (25 + g) t) 1 := by funext j; simp [wr]
        have RG := WR_glad (x := t) (WR_of H) hg
        refine AR_set H (fun x g1 g2 => by rw [wr_off g2, wr_off (by omega)]) (fun x g1 => by rw [wr_off (by omega), wr_off (by omega), wr_off (by omega)]) (fun j g1 g2 => by rw [wr_slot g2, wr_cell (by omega), wr_slot g1]) wr_same (by rw [wr_slot (by omega), wr_cell (by omega)]) wr_same (by rw [wr_off (by omega), wr_off (by omega)]) ?_ ?_ ?_ ?_ ?_ ?_ ?_ ?_ ?_
        · intro k hk; simp only [wr]; simp; exact p7 k hk
        · intro k hk; simp only [wr]; simp; exact p8 k hk
        · intro k hk; simp only [wr]; simp; exact p9 k hk
        · intro k hk; simp only [wr]; simp; exact p10 k hk
        · intro k hk; simp only [wr]; simp; exact p11 k hk
        · intro g hg; simp only [wr]; simp; exact p12 g hg
        · rw [y1]
          have := RG.2.2.2.2.1
          rw [wr_cell (by omega)] at this
          exact StR_cls (fun x g1 g2 => by rw [wr_off (by omega)]) this
        · rw [y1]; exact RG.2.2.2.2.2.1
        · rw [y1, wr_slot (by omega)]
    · refine no_st h (r := nI 0) ?_ ?_
      · by_cases c1 : t < -nI 99
        · simp (disch := omega) only [lit, neg1, nI_1, nI_add, pk_mul, pk_sub, nI_leI, nI_ltI, nI_eq, nI_eqm, chkn, ixn, if_pos, if_neg, bndV_s, bndE_s, bndO_s, reduceIte, irmn, iminn, imaxn, and_self, true_and, and_true, false_and, and_false, f_X11_set, f_X0_change, g1, c1, f_X0_change_j140, f_X0_change_j141, f_X0_change_j149]
        · have c2 : nI 99 < t := by grind
          simp (disch := omega) only [lit, neg1, nI_1, nI_add, pk_mul, pk_sub, nI_leI, nI_ltI, nI_eq, nI_eqm, chkn, ixn, if_pos, if_neg, bndV_s, bndE_s, bndO_s, reduceIte, irmn, iminn, imaxn, and_self, true_and, and_true, false_and, and_false, f_X11_set, f_X0_change, g1, c1, c2, f_X0_change_j140, f_X0_change_j141, f_X0_change_j149]
      · simp (disch := omega) only [lit, neg1, nI_1, nI_add, pk_mul, pk_sub, nI_leI, nI_ltI, nI_eq, nI_eqm, chkn, ixn, if_pos, if_neg, bndV_s, bndE_s, bndO_s, reduceIte, irmn, iminn, imaxn, and_self, true_and, and_true, false_and, and_false, f_X12_set, f_X12_canSet, isI, g2, c, f_X12_canSet_j61, f_X12_canSet_j74]
  refine no_st h (r := nI 0) ?_ ?_
  · simp (disch := omega) only [lit, neg1, nI_1, nI_add, pk_mul, pk_sub, nI_leI, nI_ltI, nI_eq, nI_eqm, chkn, ixn, if_pos, if_neg, bndV_s, bndE_s, bndO_s, reduceIte, irmn, iminn, imaxn, and_self, true_and, and_true, false_and, and_false, f_X11_set, f_X0_change, q0, q1, q2, q3, q4, q5, f_X0_change_j149]
  · rcases groom_of R.1 q with ⟨g1, g2⟩ | ⟨g, hg, rfl, g1, g2⟩
    · simp (disch := omega) only [lit, neg1, nI_1, nI_add, pk_mul, pk_sub, nI_leI, nI_ltI, nI_eq, nI_eqm, chkn, ixn, if_pos, if_neg, bndV_s, bndE_s, bndO_s, reduceIte, irmn, iminn, imaxn, and_self, true_and, and_true, false_and, and_false, f_X12_set, f_X12_canSet, isI, hp, g2]
    · simp (disch := omega) only [lit, neg1, nI_1, nI_add, pk_mul, pk_sub, nI_leI, nI_ltI, nI_eq, nI_eqm, chkn, ixn, if_pos, if_neg, bndV_s, bndE_s, bndO_s, reduceIte, irmn, iminn, imaxn, and_self, true_and, and_true, false_and, and_false, f_X12_set, f_X12_canSet, isI, hp, g2, q3, q4, q5, f_X12_canSet_j61, f_X12_canSet_j74]
end
