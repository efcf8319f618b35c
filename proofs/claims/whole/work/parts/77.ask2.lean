section
theorem AR_W {bb : Bool} {W M : Nat} {μ ρ μ' ρ' : Mem} (H : AT bb W M μ ρ) (h1 : ∀ x, x ≠ 94 → x ≠ 95 → x ≠ 96 → x ≠ 97 → x ≠ 98 → x ≠ 19 → μ' x = μ x) (h2 : ∀ x, x ≠ 0 → x ≠ 23 → x ≠ 24 → x ≠ 25 → x ≠ 26 → ρ' x = ρ x) (h3 : ∀ j, j ≠ 0 → ρ' 0 j = ρ 0 j) : AR bb μ' ρ' :=
  AR_scr ⟨W, M, H⟩ (fun x g1 g2 g3 g4 => h1 x (by omega) (by omega) (by omega) (by omega) (by omega) g1) (fun x g1 g2 g3 g4 g5 g6 g7 g8 g9 g10 => h2 x g1 (by omega) (by omega) (by omega) (by omega)) (fun j g1 _ => h3 j g1) (fun k _ => by rw [h2 1 (by omega) (by omega) (by omega) (by omega) (by omega)])
theorem can_of {W M : Nat} {μ ρ : Mem} {nq : Nat} (P : PpR 1 μ ρ W M) (e1 : μ 20 3 = nI nq) (e2 : ρ 0 37 = nI nq) (hq : nq ≤ 16) (g w q l : Int32) : (f_X11_canAnswer μ g w q l = nI 0 ∧ f_X12_canAskOf ρ g w q l = nI 0) ∨
    ∃ g' w' q' l', g' < M ∧ w' < W ∧ q' < nq ∧ l' < 3 ∧ g = nI g' ∧ w = nI w' ∧ q = nI q' ∧ l = nI l' ∧ f_X11_canAnswer μ g w q l = nI 1 ∧ f_X12_canAskOf ρ g w q l = nI 1 := by
  have hW := P.2.2.1
  have hM := P.2.2.2.2.2.1
  have n2 : nI 2 = (2 : Int32) := rfl
  have n3 : nI 3 = (3 : Int32) := rfl
  rcases groom_of P g with ⟨a1, a2⟩ | ⟨g', hg, rfl, a1, a2⟩
  · exact Or.inl ⟨by simp (disch := omega) only [lit, neg1, nI_1, nI_add, pk_mul, pk_sub, nI_leI, nI_ltI, nI_eq, nI_eqm, chkn, ixn, if_pos, if_neg, bndV_s, bndE_s, bndO_s, reduceIte, irmn, iminn, imaxn, and_self, true_and, and_true, false_and, and_false, f_X11_canAnswer, a1], by simp (disch := omega) only [lit, neg1, nI_1, nI_add, pk_mul, pk_sub, nI_leI, nI_ltI, nI_eq, nI_eqm, chkn, ixn, if_pos, if_neg, bndV_s, bndE_s, bndO_s, reduceIte, irmn, iminn, imaxn, and_self, true_and, and_true, false_and, and_false, f_X12_canAskOf, a2]⟩
  rcases woman_of P w with ⟨b1, b2⟩ | ⟨w', hw, rfl, b1, b2⟩
  · exact Or.inl ⟨by simp (disch := omega) only [lit, neg1, nI_1, nI_add, pk_mul, pk_sub, nI_leI, nI_ltI, nI_eq, nI_eqm, chkn, ixn, if_pos, if_neg, bndV_s, bndE_s, bndO_s, reduceIte, irmn, iminn, imaxn, and_self, true_and, and_true, false_and, and_false, f_X11_canAnswer, a1, b1], by simp (disch := omega) only [lit, neg1, nI_1, nI_add, pk_mul, pk_sub, nI_leI, nI_ltI, nI_eq, nI_eqm, chkn, ixn, if_pos, if_neg, bndV_s, bndE_s, bndO_s, reduceIte, irmn, iminn, imaxn, and_self, true_and, and_true, false_and, and_false, f_X12_canAskOf, a2, b2]⟩
  by_cases c : nI 0 ≤ q ∧ q < nI nq
  · obtain ⟨q', hq', rfl⟩ := lt_of nq rfl (by omega) c.1 c.2
    by_cases d : nI 0 ≤ l ∧ l < nI 3
    · obtain ⟨l', hl', rfl⟩ := lt_of 3 rfl (by omega) d.1 d.2
      exact Or.inr ⟨g', w', q', l', hg, hw, hq', hl', rfl, rfl, rfl, rfl, by simp (disch := omega) only [lit, neg1, nI_1, nI_add, pk_mul, pk_sub, nI_leI, nI_ltI, nI_eq, nI_eqm, chkn, ixn, if_pos, if_neg, bndV_s, bndE_s, bndO_s, reduceIte, irmn, iminn, imaxn, and_self, true_and, and_true, false_and, and_false, f_X11_canAnswer, a1, b1, e1, isB], by simp (disch := omega) only [lit, neg1, nI_1, nI_add, pk_mul, pk_sub, nI_leI, nI_ltI, nI_eq, nI_eqm, chkn, ixn, if_pos, if_neg, bndV_s, bndE_s, bndO_s, reduceIte, irmn, iminn, imaxn, and_self, true_and, and_true, false_and, and_false, f_X12_canAskOf, a2, b2, e2, isI]⟩
    · have d2 : ¬ (nI 0 ≤ l ∧ l ≤ nI 2) := by grind
      exact Or.inl ⟨by simp (disch := omega) only [lit, neg1, nI_1, nI_add, pk_mul, pk_sub, nI_leI, nI_ltI, nI_eq, nI_eqm, chkn, ixn, if_pos, if_neg, bndV_s, bndE_s, bndO_s, reduceIte, irmn, iminn, imaxn, and_self, true_and, and_true, false_and, and_false, f_X11_canAnswer, a1, b1, e1, isB, d], by simp (disch := omega) only [lit, neg1, nI_1, nI_add, pk_mul, pk_sub, nI_leI, nI_ltI, nI_eq, nI_eqm, chkn, ixn, if_pos, if_neg, bndV_s, bndE_s, bndO_s, reduceIte, irmn, iminn, imaxn, and_self, true_and, and_true, false_and, and_false, f_X12_canAskOf, a2, b2, e2, isI, d2]⟩
  · have c2 : ¬ (nI 0 ≤ q ∧ q ≤ nI nq - nI 1) := by
      have n1 : nI 1 = (1 : Int32) := rfl
      have n0 : nI 0 = (0 : Int32) := rfl
      have n17 : nI nq ≤ 16 := nI_le (b := 16) hq (by omega)
      have n18 : (0 : Int32) ≤ nI nq := nI_pos' (by omega)
      grind
    exact Or.inl ⟨by simp (disch := omega) only [lit, neg1, nI_1, nI_add, pk_mul, pk_sub, nI_leI, nI_ltI, nI_eq, nI_eqm, chkn, ixn, if_pos, if_neg, bndV_s, bndE_s, bndO_s, reduceIte, irmn, iminn, imaxn, and_self, true_and, and_true, false_and, and_false, f_X11_canAnswer, a1, b1, e1, isB, c], by simp (disch := omega) only [lit, neg1, nI_1, nI_add, pk_mul, pk_sub, nI_leI, nI_ltI, nI_eq, nI_eqm, chkn, ixn, if_pos, if_neg, bndV_s, bndE_s, bndO_s, reduceIte, irmn, iminn, imaxn, and_self, true_and, and_true, false_and, and_false, f_X12_canAskOf, a2, b2, e2, isI, c2]⟩
theorem s_yes {G : Nat} {bb : Bool} {μ ρ : Mem} (hG : 500 ≤ G) (h : AR bb μ ρ) (p a q l : Int32) : ∃ r μ' ρ', f_X11_yes G p a q l μ = some (r, μ') ∧ f_X12_yes G p a q l ρ = some (r, ρ') ∧ AR bb μ' ρ' := by
  obtain ⟨W, M, H⟩ := id h
  have H0 : AT bb W M μ (wr ρ 0 0 (nI 0)) := told0 H
  have R := WR_of H0
  obtain ⟨nq, n1, n2, n3, n4⟩ := WR_q R
  rcases can_of R.1 n2 n3 n1 p a q l with ⟨c1, c2⟩ | ⟨g, w, qq, ll, hg, hw, hq, hl, rfl, rfl, rfl, rfl, c1, c2⟩
  · exact no_st h (r := nI 4294967295) (by simp (disch := omega) only [lit, neg1, nI_1, nI_add, pk_mul, pk_sub, nI_leI, nI_ltI, nI_eq, nI_eqm, chkn, ixn, if_pos, if_neg, bndV_s, bndE_s, bndO_s, reduceIte, irmn, iminn, imaxn, and_self, true_and, and_true, false_and, and_false, f_X11_yes, c1]) (by simp (disch := omega) only [lit, neg1, nI_1, nI_add, pk_mul, pk_sub, nI_leI, nI_ltI, nI_eq, nI_eqm, chkn, ixn, if_pos, if_neg, bndV_s, bndE_s, bndO_s, reduceIte, irmn, iminn, imaxn, and_self, true_and, and_true, false_and, and_false, f_X12_yes, c2])
  obtain ⟨μ1, a1, a2, a3⟩ := meet_ok (G := G) (Or.inl rfl) R.1 R.2.2.2.2.1 hg hw
  have R1 : WR 2 0 μ1 (wr ρ 0 0 (nI 0)) W M := WR_scr R (fun x h1 _ _ _ => a2 x h1) (fun _ _ _ _ _ => rfl)
  obtain ⟨_, _, n2', n3', n4'⟩ := WR_q R1
  have eat := n4' G qq (by have := n3'.symm.trans n3; have := (nI_eq (by omega) (by omega)).mp this; omega)
  obtain ⟨v, μ2, ρ2, b1, b2, b3, b4, b5, b6, b7⟩ := yes_sim (l := nI ll) hG R1.1 R1.2.1 a3 hg hw (show qq < 32 by omega)
  refine ⟨v, μ2, ρ2, ?_, ?_, AR_W H (fun x g1 g2 g3 g4 g5 g6 => by rw [b3 x g1 g6, a2 x g1]) (fun x g0 g1 g2 g3 g4 => by rw [b4 x g1 g2, wr_off g0]) (fun j g => by rw [b4 0 (by omega) (by omega), wr_slot g])⟩
  · simp (disch := omega) only [lit, neg1, nI_1, nI_add, pk_mul, pk_sub, nI_leI, nI_ltI, nI_eq, nI_eqm, chkn, ixn, if_pos, if_neg, bndV_s, bndE_s, bndO_s, reduceIte, irmn, iminn, imaxn, and_self, true_and, and_true, false_and, and_false, f_X11_yes, c1, a1, eat, b1]
  · simp (disch := omega) only [lit, neg1, nI_1, nI_add, pk_mul, pk_sub, nI_leI, nI_ltI, nI_eq, nI_eqm, chkn, ixn, if_pos, if_neg, bndV_s, bndE_s, bndO_s, reduceIte, irmn, iminn, imaxn, and_self, true_and, and_true, false_and, and_false, f_X12_yes, c2, b2]
theorem s_counts {G : Nat} {bb : Bool} {μ ρ : Mem} (hG : 500 ≤ G) (h : AR bb μ ρ) (p a q l s : Int32) (hs : s = 0 ∨ s = 1) : ∃ r μ' ρ', f_X11_counts G p a q l s μ = some (r, μ') ∧ f_X12_counts G p a q l s ρ = some (r, ρ') ∧ AR bb μ' ρ' := by
  obtain ⟨W, M, H⟩ := id h
  have H0 : AT bb W M μ (wr ρ 0 0 (nI 0)) := told0 H
  have R := WR_of H0
  obtain ⟨nq, n1, n2, n3, n4⟩ := WR_q R
  rcases can_of R.1 n2 n3 n1 p a q l with ⟨c1, c2⟩ | ⟨g, w, qq, ll, hg, hw, hq, hl, rfl, rfl, rfl, rfl, c1, c2⟩
  · refine no_st h (r := -100) ?_ ?_
    · unfold f_X11_counts; rw [c1]; exact if_pos rfl
    · unfold f_X12_counts; show (if f_X12_canAskOf (wr ρ 0 0 (nI 0)) p a q l = 0 then _ else _) = _; rw [c2]; exact if_pos rfl
  obtain ⟨μ1, a1, a2, a3⟩ := meet_ok (G := G) (Or.inl rfl) R.1 R.2.2.2.2.1 hg hw
  have R1 : WR 2 0 μ1 (wr ρ 0 0 (nI 0)) W M := WR_scr R (fun x h1 _ _ _ => a2 x h1) (fun _ _ _ _ _ => rfl)
  obtain ⟨_, _, n2', n3', n4'⟩ := WR_q R1
  have eat := n4' G qq (by have := n3'.symm.trans n3; have := (nI_eq (by omega) (by omega)).mp this; omega)
  obtain ⟨v, μ2, ρ2, b1, b2, b3, b4, b5, b6, b7⟩ := counts_sim (l := nI ll) (s := s) hG R1.1 R1.2.1 a3 hg hw (show qq < 32 by omega) hs
  refine ⟨v, μ2, ρ2, ?_, ?_, AR_W H (fun x g1 g2 g3 g4 g5 g6 => by rw [b3 x g1 g6, a2 x g1]) (fun x g0 g1 g2 g3 g4 => by rw [b4 x g1 g2, wr_off g0]) (fun j g => by rw [b4 0 (by omega) (by omega), wr_slot g])⟩
  · simp (disch := omega) only [lit, neg1, nI_1, nI_add, pk_mul, pk_sub, nI_leI, nI_ltI, nI_eq, nI_eqm, chkn, ixn, if_pos, if_neg, bndV_s, bndE_s, bndO_s, reduceIte, irmn, iminn, imaxn, and_self, true_and, and_true, false_and, and_false, f_X11_counts, c1, a1, eat, b1]
  · rcases hs with rfl | rfl
    · have b2' : f_X12_countsOf G (nI g) (nI w) (nI qq) (nI ll) (nI 0) (wr ρ 0 0 (nI 0)) = some (v, ρ2) := b2
      simp (disch := omega) only [lit, neg1, nI_1, nI_add, pk_mul, pk_sub, nI_leI, nI_ltI, nI_eq, nI_eqm, chkn, ixn, if_pos, if_neg, bndV_s, bndE_s, bndO_s, reduceIte, irmn, iminn, imaxn, and_self, true_and, and_true, false_and, and_false, f_X12_counts, c2, b2']
    · have b2' : f_X12_countsOf G (nI g) (nI w) (nI qq) (nI ll) (nI 1) (wr ρ 0 0 (nI 0)) = some (v, ρ2) := b2
      simp (disch := omega) only [lit, neg1, nI_1, nI_add, pk_mul, pk_sub, nI_leI, nI_ltI, nI_eq, nI_eqm, chkn, ixn, if_pos, if_neg, bndV_s, bndE_s, bndO_s, reduceIte, irmn, iminn, imaxn, and_self, true_and, and_true, false_and, and_false, f_X12_counts, c2, b2']
theorem s_who {G : Nat} {bb : Bool} {μ ρ : Mem} (hG : 500 ≤ G) (h : AR bb μ ρ) (p q : Int32) : ∃ r μ' ρ', f_X11_who G p q μ = some (r, μ') ∧ f_X12_who G p q ρ = some (r, ρ') ∧ AR bb μ' ρ' := by
  obtain ⟨W, M, H⟩ := id h
  have H0 : AT bb W M μ (wr ρ 0 0 (nI 0)) := told0 H
  have R := WR_of H0
  obtain ⟨hW, hM⟩ := WR_W R
  have h100 : ∀ {f g : Option (Int32 × Mem)}, f = some (-100, μ) → g = some (-100, wr ρ 0 0 (nI 0)) → ∃ r μ' ρ', f = some (r, μ') ∧ g = some (r, ρ') ∧ AR bb μ' ρ' := fun h1 h2 => no_st h h1 h2
  rcases groom_of R.1 p with ⟨g1, g2⟩ | ⟨g, hg, rfl, g1, g2⟩
  · refine h100 ?_ ?_
    · unfold f_X11_who; rw [g1]; exact if_pos rfl
    · unfold f_X12_who; show (if f_X12_isGroom (wr ρ 0 0 (nI 0)) p = 0 then _ else _) = _; rw [g2]; exact if_pos rfl
  have p7 : μ 11 g = (wr ρ 0 0 (nI 0)) 7 g := R.1.2.2.2.2.2.2.2.2.2.1 g (by omega)
  have p8 : μ 12 g = (wr ρ 0 0 (nI 0)) 8 g := R.1.2.2.2.2.2.2.2.2.2.2.1 g (by omega)
  obtain ⟨s1, s2, s3, s4, s5, s6, s7, s8, s9, s10⟩ := R.2.2.2.2.1
  have e8 := s8 g (by omega)
  have e9 := s9 g (by omega)
  have e10 := s10 g (by omega)
  simp only [Nat.zero_add, Nat.reduceAdd] at e8 e9 e10
  by_cases q0 : q = nI 0
  · subst q0
    exact no_st h (r := (wr ρ 0 0 (nI 0)) 7 g) (by simp (disch := omega) only [lit, neg1, nI_1, nI_add, pk_mul, pk_sub, nI_leI, nI_ltI, nI_eq, nI_eqm, chkn, ixn, if_pos, if_neg, bndV_s, bndE_s, bndO_s, reduceIte, irmn, iminn, imaxn, and_self, true_and, and_true, false_and, and_false, f_X11_who, g1, p7]) (by simp (disch := omega) only [lit, neg1, nI_1, nI_add, pk_mul, pk_sub, nI_leI, nI_ltI, nI_eq, nI_eqm, chkn, ixn, if_pos, if_neg, bndV_s, bndE_s, bndO_s, reduceIte, irmn, iminn, imaxn, and_self, true_and, and_true, false_and, and_false, f_X12_who, g2])
  by_cases q1 : q = nI 1
  · subst q1
    exact no_st h (r := (wr ρ 0 0 (nI 0)) 8 g) (by simp (disch := omega) only [lit, neg1, nI_1, nI_add, pk_mul, pk_sub, nI_leI, nI_ltI, nI_eq, nI_eqm, chkn, ixn, if_pos, if_neg, bndV_s, bndE_s, bndO_s, reduceIte, irmn, iminn, imaxn, and_self, true_and, and_true, false_and, and_false, f_X11_who, g1, p8]) (by simp (disch := omega) only [lit, neg1, nI_1, nI_add, pk_mul, pk_sub, nI_leI, nI_ltI, nI_eq, nI_eqm, chkn, ixn, if_pos, if_neg, bndV_s, bndE_s, bndO_s, reduceIte, irmn, iminn, imaxn, and_self, true_and, and_true, false_and, and_false, f_X12_who, g2])
  by_cases q2 : q = nI 2
  · subst q2
    rcases wife_of (G := G) R hg with ⟨_, m, w⟩ | ⟨wf, hw, w0, m, w⟩
    · have m' : μ 4 g = nI 4294967295 := m
      exact no_st h (r := nI 4294967295) (by simp (disch := omega) only [lit, neg1, nI_1, nI_add, pk_mul, pk_sub, nI_leI, nI_ltI, nI_eq, nI_eqm, chkn, ixn, if_pos, if_neg, bndV_s, bndE_s, bndO_s, reduceIte, irmn, iminn, imaxn, and_self, true_and, and_true, false_and, and_false, f_X11_who, g1, m']) (by simp (disch := omega) only [lit, neg1, nI_1, nI_add, pk_mul, pk_sub, nI_leI, nI_ltI, nI_eq, nI_eqm, chkn, ixn, if_pos, if_neg, bndV_s, bndE_s, bndO_s, reduceIte, irmn, iminn, imaxn, and_self, true_and, and_true, false_and, and_false, f_X12_who, g2, w])
    · have m' : μ 4 g = nI wf := m
      exact no_st h (r := nI wf) (by simp (disch := omega) only [lit, neg1, nI_1, nI_add, pk_mul, pk_sub, nI_leI, nI_ltI, nI_eq, nI_eqm, chkn, ixn, if_pos, if_neg, bndV_s, bndE_s, bndO_s, reduceIte, irmn, iminn, imaxn, and_self, true_and, and_true, false_and, and_false, f_X11_who, g1, m']) (by simp (disch := omega) only [lit, neg1, nI_1, nI_add, pk_mul, pk_sub, nI_leI, nI_ltI, nI_eq, nI_eqm, chkn, ixn, if_pos, if_neg, bndV_s, bndE_s, bndO_s, reduceIte, irmn, iminn, imaxn, and_self, true_and, and_true, false_and, and_false, f_X12_who, g2, w])
  by_cases q3 : q = nI 3
  · subst q3
    exact no_st h (r := (wr ρ 0 0 (nI 0)) 1 (25 + g)) (by simp (disch := omega) only [lit, neg1, nI_1, nI_add, pk_mul, pk_sub, nI_leI, nI_ltI, nI_eq, nI_eqm, chkn, ixn, if_pos, if_neg, bndV_s, bndE_s, bndO_s, reduceIte, irmn, iminn, imaxn, and_self, true_and, and_true, false_and, and_false, f_X11_who, g1, e8]) (by simp (disch := omega) only [lit, neg1, nI_1, nI_add, pk_mul, pk_sub, nI_leI, nI_ltI, nI_eq, nI_eqm, chkn, ixn, if_pos, if_neg, bndV_s, bndE_s, bndO_s, reduceIte, irmn, iminn, imaxn, and_self, true_and, and_true, false_and, and_false, f_X12_who, g2])
  by_cases q4 : q = nI 4
  · subst q4
    exact no_st h (r := (wr ρ 0 0 (nI 0)) 1 (33 + g)) (by simp (disch := omega) only [lit, neg1, nI_1, nI_add, pk_mul, pk_sub, nI_leI, nI_ltI, nI_eq, nI_eqm, chkn, ixn, if_pos, if_neg, bndV_s, bndE_s, bndO_s, reduceIte, irmn, iminn, imaxn, and_self, true_and, and_true, false_and, and_false, f_X11_who, g1, e9]) (by simp (disch := omega) only [lit, neg1, nI_1, nI_add, pk_mul, pk_sub, nI_leI, nI_ltI, nI_eq, nI_eqm, chkn, ixn, if_pos, if_neg, bndV_s, bndE_s, bndO_s, reduceIte, irmn, iminn, imaxn, and_self, true_and, and_true, false_and, and_false, f_X12_who, g2])
  by_cases q5 : q = nI 5
  · subst q5
    exact no_st h (r := (wr ρ 0 0 (nI 0)) 1 (41 + g)) (by simp (disch := omega) only [lit, neg1, nI_1, nI_add, pk_mul, pk_sub, nI_leI, nI_ltI, nI_eq, nI_eqm, chkn, ixn, if_pos, if_neg, bndV_s, bndE_s, bndO_s, reduceIte, irmn, iminn, imaxn, and_self, true_and, and_true, false_and, and_false, f_X11_who, g1, e10]) (by simp (disch := omega) only [lit, neg1, nI_1, nI_add, pk_mul, pk_sub, nI_leI, nI_ltI, nI_eq, nI_eqm, chkn, ixn, if_pos, if_neg, bndV_s, bndE_s, bndO_s, reduceIte, irmn, iminn, imaxn, and_self, true_and, and_true, false_and, and_false, f_X12_who, g2])
  have w6 : (wr ρ 0 0 (nI 0)) 0 6 = nI W := R.1.2.1
  have n10 : nI 10 = (10 : Int32) := rfl
  have n9 : nI 9 = (9 : Int32) := rfl
  by_cases c : nI 10 ≤ q ∧ q ≤ nI (9 + W)
  · obtain ⟨k, hk, rfl⟩ := in_of (9 + W) rfl (by omega) (show 0 ≤ q by have := c.1; grind) c.2
    have hk1 : 10 ≤ k := (nI_leI (by omega) (by omega)).mp c.1
    have iw := isW1 (w := k - 10) R.1.1 hW (by omega)
    obtain ⟨μ1, a1, a2, a3⟩ := meet_ok (G := G) (Or.inl rfl) R.1 R.2.2.2.2.1 hg (show k - 10 < W by omega)
    have R1 : WR 2 0 μ1 (wr ρ 0 0 (nI 0)) W M := WR_scr R (fun x h1 _ _ _ => a2 x h1) (fun _ _ _ _ _ => rfl)
    obtain ⟨v, μ2, ρ2, b1, b2, b3, b4, b5, b6, b7⟩ := joy_sim hG R1.1 R1.2.1 a3 hg (show k - 10 < W by omega)
    refine ⟨v, μ2, ρ2, ?_, ?_, AR_W H (fun x g1 g2 g3 g4 g5 g6 => by rw [b3 x g1 g6, a2 x g1]) (fun x g0 g1 g2 g3 g4 => by rw [b4 x g1 g2, wr_off g0]) (fun j g => by rw [b4 0 (by omega) (by omega), wr_slot g])⟩
    · simp (disch := omega) only [lit, neg1, nI_1, nI_add, pk_mul, pk_sub, nI_leI, nI_ltI, nI_eq, nI_eqm, chkn, ixn, if_pos, if_neg, bndV_s, bndE_s, bndO_s, reduceIte, irmn, iminn, imaxn, and_self, true_and, and_true, false_and, and_false, f_X11_who, g1, q0, q1, q2, q3, q4, q5, iw, a1, b1]
    · simp (disch := omega) only [lit, neg1, nI_1, nI_add, pk_mul, pk_sub, nI_leI, nI_ltI, nI_eq, nI_eqm, chkn, ixn, if_pos, if_neg, bndV_s, bndE_s, bndO_s, reduceIte, irmn, iminn, imaxn, and_self, true_and, and_true, false_and, and_false, f_X12_who, g2, q0, q1, q2, q3, q4, q5, isI, w6, b2]
  · refine h100 ?_ ?_
    · by_cases c1 : q < nI 10
      · simp (disch := omega) only [lit, neg1, nI_1, nI_add, pk_mul, pk_sub, nI_leI, nI_ltI, nI_eq, nI_eqm, chkn, ixn, if_pos, if_neg, bndV_s, bndE_s, bndO_s, reduceIte, irmn, iminn, imaxn, and_self, true_and, and_true, false_and, and_false, f_X11_who, g1, q0, q1, q2, q3, q4, q5, c1]
      · have iw : f_X0_isWoman μ (q - nI 10) = nI 0 := by
          rcases woman_of R.1 (q - nI 10) with ⟨x, _⟩ | ⟨w, hw, e, _, _⟩
          · exact x
          · exfalso
            apply c
            have : q = nI (w + 10) := by rw [← nI_add]; grind
            rw [this]
            exact ⟨nI_le (by omega) (by omega), nI_le (by omega) (by omega)⟩
        simp (disch := omega) only [lit, neg1, nI_1, nI_add, pk_mul, pk_sub, nI_leI, nI_ltI, nI_eq, nI_eqm, chkn, ixn, if_pos, if_neg, bndV_s, bndE_s, bndO_s, reduceIte, irmn, iminn, imaxn, and_self, true_and, and_true, false_and, and_false, f_X11_who, g1, q0, q1, q2, q3, q4, q5, c1, iw]
    · simp (disch := omega) only [lit, neg1, nI_1, nI_add, pk_mul, pk_sub, nI_leI, nI_ltI, nI_eq, nI_eqm, chkn, ixn, if_pos, if_neg, bndV_s, bndE_s, bndO_s, reduceIte, irmn, iminn, imaxn, and_self, true_and, and_true, false_and, and_false, f_X12_who, g2, q0, q1, q2, q3, q4, q5, isI, w6, c]
end
