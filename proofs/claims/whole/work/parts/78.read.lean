section
/-- an answer that leaves the class's cells -/
theorem no_r {bb : Bool} {μ ρ : Mem} {f : Option Int32} {g : Option (Int32 × Mem)} {r : Int32} (h : AR bb μ ρ) (h1 : f = some r) (h2 : g = some (r, wr ρ 0 0 (nI 0))) : ∃ r ρ', f = some r ∧ g = some (r, ρ') ∧ AR bb μ ρ' := ⟨r, _, h1, h2, AR_told h⟩
theorem sis_ok {G W n c : Nat} {A B : Nat → Nat} {μ : Mem} (hG : 500 ≤ G) (n1 : LnR μ 24 16 2 n) (n3 : ∀ i, i < n → A i < W ∧ B i < W ∧ A i ≠ B i ∧ μ 25 (2 * i) = nI (A i) ∧ μ 25 (2 * i + 1) = nI (B i)) (hW : W ≤ 12) (hc : c < 2 ^ 31) :
    ∃ r, r < 2 ^ 12 ∧ f_X0_sistersOf G μ (nI c) = some (nI r) ∧ ∀ v, r.testBit v = true ↔ ∃ i, i < n ∧ ((c.testBit (A i) = true ∧ B i = v) ∨ (c.testBit (B i) = true ∧ A i = v)) := by
  have hn : n ≤ 16 := n1.2.2.2
  have hcnt : μ 24 3 = nI n := n1.2.2.1
  obtain ⟨g', s', h1, ⟨r, hr, rfl, hb⟩⟩ := loopZ (fun g v x => f_X0_sistersOf_L4 G μ g (nI c) x v) n (fun k s => ∃ r, r < 2 ^ 12 ∧ s = nI r ∧ ∀ v, r.testBit v = true ↔ ∃ i, i < k ∧ ((c.testBit (A i) = true ∧ B i = v) ∨ (c.testBit (B i) = true ∧ A i = v))) (by
    rintro g i s hi ⟨r, hr, rfl, hb⟩
    obtain ⟨wa, wb, wn, ea, eb⟩ := n3 i hi
    have a0 := atn (G := G) (N := 32) (i := i) (j := 0) n1 (by omega) (by omega) (by omega) (by omega) hi (by omega)
    have a1 := atn (G := G) (N := 32) (i := i) (j := 1) n1 (by omega) (by omega) (by omega) (by omega) hi (by omega)
    rw [Nat.mul_comm i 2] at a0 a1
    have a0 : f_X2_at G 24 32 μ (nI i) (nI 0) = some (nI (A i)) := by rw [a0]; exact congrArg some ea
    have a1 : f_X2_at G 24 32 μ (nI i) (nI 1) = some (nI (B i)) := by rw [a1]; exact congrArg some eb
    have ha := hasn (a := c) (w := A i) hc (by omega)
    have hbb := hasn (a := c) (w := B i) hc (by omega)
    have step : ∀ t, (∀ v, t.testBit v = true ↔ (r.testBit v = true ∨ (c.testBit (A i) = true ∧ B i = v) ∨ (c.testBit (B i) = true ∧ A i = v))) → t < 2 ^ 12 → ∃ r, r < 2 ^ 12 ∧ nI t = nI r ∧ ∀ v, r.testBit v = true ↔ ∃ j, j < i + 1 ∧ ((c.testBit (A j) = true ∧ B j = v) ∨ (c.testBit (B j) = true ∧ A j = v)) := by
      intro t ht htl
      refine ⟨t, htl, rfl, fun v => ?_⟩
      rw [ht v, hb v]
      constructor
      · rintro (⟨j, j1, j2⟩ | j2)
        · exact ⟨j, by omega, j2⟩
        · exact ⟨i, by omega, j2⟩
      · rintro ⟨j, j1, j2⟩
        by_cases e : j = i
        · subst e; exact Or.inr j2
        · exact Or.inl ⟨j, by omega, j2⟩
    by_cases ba : c.testBit (A i) = true
    · rw [if_pos ba] at ha
      by_cases bbb : c.testBit (B i) = true
      · rw [if_pos bbb] at hbb
        refine ⟨nI ((r ||| 2 ^ B i) ||| 2 ^ A i), ?_, step _ (fun v => ?_) (or_lt (or_lt hr (pw_lt (by omega))) (pw_lt (by omega)))⟩
        · show f_X0_sistersOf_L4 G μ (g + 1) (nI c) (nI r) (nI i) = f_X0_sistersOf_L4 G μ g (nI c) _ (nI (i + 1))
          simp (disch := omega) only [lit, neg1, nI_1, nI_add, pk_mul, pk_sub, nI_leI, nI_ltI, nI_eq, nI_eqm, chkn, ixn, if_pos, if_neg, bndV_s, bndE_s, bndO_s, reduceIte, irmn, iminn, imaxn, and_self, true_and, and_true, false_and, and_false, f_X0_sistersOf_L4, hcnt, a0, a1, ha, hbb, f_X0_sistersOf_j53, f_X0_sistersOf_j69, sl1, b_nor]
        · simp only [Nat.testBit_or, pw_bit, Bool.or_eq_true, decide_eq_true_iff, ba, bbb, true_and]
          grind
      · rw [if_neg bbb] at hbb
        refine ⟨nI (r ||| 2 ^ B i), ?_, step _ (fun v => ?_) (or_lt hr (pw_lt (by omega)))⟩
        · show f_X0_sistersOf_L4 G μ (g + 1) (nI c) (nI r) (nI i) = f_X0_sistersOf_L4 G μ g (nI c) _ (nI (i + 1))
          simp (disch := omega) only [lit, neg1, nI_1, nI_add, pk_mul, pk_sub, nI_leI, nI_ltI, nI_eq, nI_eqm, chkn, ixn, if_pos, if_neg, bndV_s, bndE_s, bndO_s, reduceIte, irmn, iminn, imaxn, and_self, true_and, and_true, false_and, and_false, f_X0_sistersOf_L4, hcnt, a0, a1, ha, hbb, f_X0_sistersOf_j53, f_X0_sistersOf_j69, sl1, b_nor]
        · simp only [Nat.testBit_or, pw_bit, Bool.or_eq_true, decide_eq_true_iff, ba, true_and]
          grind
    · rw [if_neg ba] at ha
      by_cases bbb : c.testBit (B i) = true
      · rw [if_pos bbb] at hbb
        refine ⟨nI (r ||| 2 ^ A i), ?_, step _ (fun v => ?_) (or_lt hr (pw_lt (by omega)))⟩
        · show f_X0_sistersOf_L4 G μ (g + 1) (nI c) (nI r) (nI i) = f_X0_sistersOf_L4 G μ g (nI c) _ (nI (i + 1))
          simp (disch := omega) only [lit, neg1, nI_1, nI_add, pk_mul, pk_sub, nI_leI, nI_ltI, nI_eq, nI_eqm, chkn, ixn, if_pos, if_neg, bndV_s, bndE_s, bndO_s, reduceIte, irmn, iminn, imaxn, and_self, true_and, and_true, false_and, and_false, f_X0_sistersOf_L4, hcnt, a0, a1, ha, hbb, f_X0_sistersOf_j53, f_X0_sistersOf_j69, sl1, b_nor]
        · simp only [Nat.testBit_or, pw_bit, Bool.or_eq_true, decide_eq_true_iff, bbb, true_and]
          grind
      · rw [if_neg bbb] at hbb
        refine ⟨nI r, ?_, step _ (fun v => ?_) hr⟩
        · show f_X0_sistersOf_L4 G μ (g + 1) (nI c) (nI r) (nI i) = f_X0_sistersOf_L4 G μ g (nI c) _ (nI (i + 1))
          simp (disch := omega) only [lit, neg1, nI_1, nI_add, pk_mul, pk_sub, nI_leI, nI_ltI, nI_eq, nI_eqm, chkn, ixn, if_pos, if_neg, bndV_s, bndE_s, bndO_s, reduceIte, irmn, iminn, imaxn, and_self, true_and, and_true, false_and, and_false, f_X0_sistersOf_L4, hcnt, a0, a1, ha, hbb, f_X0_sistersOf_j53, f_X0_sistersOf_j69]
        · grind) (by omega : n < G) (s := nI 0) ⟨0, by decide, rfl, fun v => by simp⟩
  refine ⟨r, hr, ?_, hb⟩
  refine Eq.trans h1 ?_
  show f_X0_sistersOf_L4 G μ (g' + 1) (nI c) (nI r) (nI n) = _
  simp (disch := omega) only [lit, neg1, nI_1, nI_add, pk_mul, pk_sub, nI_leI, nI_ltI, nI_eq, nI_eqm, chkn, ixn, if_pos, if_neg, bndV_s, bndE_s, bndO_s, reduceIte, irmn, iminn, imaxn, and_self, true_and, and_true, false_and, and_false, f_X0_sistersOf_L4, hcnt]
theorem s_of {G : Nat} {bb : Bool} {μ ρ : Mem} (hG : 500 ≤ G) (h : AR bb μ ρ) (p q : Int32) : ∃ r ρ', f_X11_of G μ p q = some r ∧ f_X12_of G p q ρ = some (r, ρ') ∧ AR bb μ ρ' := by
  obtain ⟨W, M, H⟩ := id h
  have H0 : AT bb W M μ (wr ρ 0 0 (nI 0)) := told0 H
  have R := WR_of H0
  obtain ⟨hW, hM⟩ := WR_W R
  have h2 : ∀ {f : Option Int32} {g : Option (Int32 × Mem)}, f = some (-2) → g = some (-2, wr ρ 0 0 (nI 0)) → ∃ r ρ', f = some r ∧ g = some (r, ρ') ∧ AR bb μ ρ' := fun h1 h2 => no_r h h1 h2
  rcases woman_of R.1 p with ⟨g1, g2⟩ | ⟨w, hw, rfl, g1, g2⟩
  · refine h2 ?_ ?_
    · unfold f_X11_of; rw [g1]; exact if_pos rfl
    · unfold f_X12_of; show (if f_X12_isWoman (wr ρ 0 0 (nI 0)) p = 0 then _ else _) = _; rw [g2]; exact if_pos rfl
  have p7 : μ 8 w = (wr ρ 0 0 (nI 0)) 4 w := R.1.2.2.2.2.2.2.1 w (by omega)
  have p8 : μ 9 w = (wr ρ 0 0 (nI 0)) 5 w := R.1.2.2.2.2.2.2.2.1 w (by omega)
  have p9 : μ 10 w = (wr ρ 0 0 (nI 0)) 6 w := R.1.2.2.2.2.2.2.2.2.1 w (by omega)
  by_cases q0 : q = nI 0
  · subst q0
    exact no_r h (r := (wr ρ 0 0 (nI 0)) 4 w) (by simp (disch := omega) only [lit, neg1, nI_1, nI_add, pk_mul, pk_sub, nI_leI, nI_ltI, nI_eq, nI_eqm, chkn, ixn, if_pos, if_neg, bndV_s, bndE_s, bndO_s, reduceIte, irmn, iminn, imaxn, and_self, true_and, and_true, false_and, and_false, f_X11_of, g1, p7]) (by simp (disch := omega) only [lit, neg1, nI_1, nI_add, pk_mul, pk_sub, nI_leI, nI_ltI, nI_eq, nI_eqm, chkn, ixn, if_pos, if_neg, bndV_s, bndE_s, bndO_s, reduceIte, irmn, iminn, imaxn, and_self, true_and, and_true, false_and, and_false, f_X12_of, g2])
  by_cases q1 : q = nI 1
  · subst q1
    exact no_r h (r := (wr ρ 0 0 (nI 0)) 5 w) (by simp (disch := omega) only [lit, neg1, nI_1, nI_add, pk_mul, pk_sub, nI_leI, nI_ltI, nI_eq, nI_eqm, chkn, ixn, if_pos, if_neg, bndV_s, bndE_s, bndO_s, reduceIte, irmn, iminn, imaxn, and_self, true_and, and_true, false_and, and_false, f_X11_of, g1, p8]) (by simp (disch := omega) only [lit, neg1, nI_1, nI_add, pk_mul, pk_sub, nI_leI, nI_ltI, nI_eq, nI_eqm, chkn, ixn, if_pos, if_neg, bndV_s, bndE_s, bndO_s, reduceIte, irmn, iminn, imaxn, and_self, true_and, and_true, false_and, and_false, f_X12_of, g2])
  by_cases q2 : q = nI 2
  · subst q2
    exact no_r h (r := (wr ρ 0 0 (nI 0)) 6 w) (by simp (disch := omega) only [lit, neg1, nI_1, nI_add, pk_mul, pk_sub, nI_leI, nI_ltI, nI_eq, nI_eqm, chkn, ixn, if_pos, if_neg, bndV_s, bndE_s, bndO_s, reduceIte, irmn, iminn, imaxn, and_self, true_and, and_true, false_and, and_false, f_X11_of, g1, p9]) (by simp (disch := omega) only [lit, neg1, nI_1, nI_add, pk_mul, pk_sub, nI_leI, nI_ltI, nI_eq, nI_eqm, chkn, ixn, if_pos, if_neg, bndV_s, bndE_s, bndO_s, reduceIte, irmn, iminn, imaxn, and_self, true_and, and_true, false_and, and_false, f_X12_of, g2])
  by_cases q3 : q = nI 3
  · subst q3
    have e : μ 3 w = (wr ρ 0 0 (nI 0)) 1 (5 + w) - nI 1 := by
      have := R.2.2.2.2.1.2.2.2.2.2.1 w (by omega)
      rw [Nat.zero_add] at this
      have h1 : nI 1 = (1 : Int32) := rfl
      grind
    exact no_r h (r := (wr ρ 0 0 (nI 0)) 1 (5 + w) - nI 1) (by simp (disch := omega) only [lit, neg1, nI_1, nI_add, pk_mul, pk_sub, nI_leI, nI_ltI, nI_eq, nI_eqm, chkn, ixn, if_pos, if_neg, bndV_s, bndE_s, bndO_s, reduceIte, irmn, iminn, imaxn, and_self, true_and, and_true, false_and, and_false, f_X11_of, g1, e]) (by simp (disch := omega) only [lit, neg1, nI_1, nI_add, pk_mul, pk_sub, nI_leI, nI_ltI, nI_eq, nI_eqm, chkn, ixn, if_pos, if_neg, bndV_s, bndE_s, bndO_s, reduceIte, irmn, iminn, imaxn, and_self, true_and, and_true, false_and, and_false, f_X12_of, g2])
  by_cases q4 : q = nI 4
  · subst q4
    obtain ⟨n, A, B, n1, n2, n3, n4⟩ := H0.1.2.2.2.2.2.2.1
    obtain ⟨r, hr, er, hb⟩ := sis_ok (c := 2 ^ w) hG n1 n3 hW (pw_31 (by omega))
    obtain ⟨m, hm, em, tb⟩ := n4 w (by omega)
    have e : m = r := by
      apply bits_eq
      intro v
      have : (m.testBit v = true) ↔ (r.testBit v = true) := by
        rw [tb v, hb v]
        simp only [pw_bit, decide_eq_true_iff]
        grind
      cases hx : m.testBit v <;> cases hy : r.testBit v <;> simp_all
    subst e
    exact no_r h (r := nI m) (by simp (disch := omega) only [lit, neg1, nI_1, nI_add, pk_mul, pk_sub, nI_leI, nI_ltI, nI_eq, nI_eqm, chkn, ixn, if_pos, if_neg, bndV_s, bndE_s, bndO_s, reduceIte, irmn, iminn, imaxn, and_self, true_and, and_true, false_and, and_false, f_X11_of, g1, sl1, er]) (by simp (disch := omega) only [lit, neg1, nI_1, nI_add, pk_mul, pk_sub, nI_leI, nI_ltI, nI_eq, nI_eqm, chkn, ixn, if_pos, if_neg, bndV_s, bndE_s, bndO_s, reduceIte, irmn, iminn, imaxn, and_self, true_and, and_true, false_and, and_false, f_X12_of, g2, em])
  by_cases q5 : q = nI 5
  · subst q5
    obtain ⟨c, c1, c2, c3, c4, c5⟩ := toCough (G := G) R hw
    have hc := pw12 hW c1
    have e6 : sr (nI c) (nI w) &&& nI 1 = if c.testBit w = true then nI 1 else nI 0 := by
      rw [srn (by omega) (by omega), show nI 1 = (1 : Int32) from rfl, pk_andN (k := 1) (by have := Nat.div_le_self c (2 ^ w); omega) rfl, Nat.testBit_eq_decide_div_mod_eq]
      rcases (by omega : c / 2 ^ w % 2 = 0 ∨ c / 2 ^ w % 2 = 1) with h | h
      · rw [h]; rfl
      · rw [h]; rfl
    by_cases hb : c.testBit w = true
    · rw [if_pos hb] at c4 e6
      exact no_r h (r := nI 1) (by simp (disch := omega) only [lit, neg1, nI_1, nI_add, pk_mul, pk_sub, nI_leI, nI_ltI, nI_eq, nI_eqm, chkn, ixn, if_pos, if_neg, bndV_s, bndE_s, bndO_s, reduceIte, irmn, iminn, imaxn, and_self, true_and, and_true, false_and, and_false, f_X11_of, g1, c4]) (by simp (disch := omega) only [lit, neg1, nI_1, nI_add, pk_mul, pk_sub, nI_leI, nI_ltI, nI_eq, nI_eqm, chkn, ixn, if_pos, if_neg, bndV_s, bndE_s, bndO_s, reduceIte, irmn, iminn, imaxn, and_self, true_and, and_true, false_and, and_false, f_X12_of, g2, c3, e6])
    · rw [if_neg hb] at c4 e6
      exact no_r h (r := nI 0) (by simp (disch := omega) only [lit, neg1, nI_1, nI_add, pk_mul, pk_sub, nI_leI, nI_ltI, nI_eq, nI_eqm, chkn, ixn, if_pos, if_neg, bndV_s, bndE_s, bndO_s, reduceIte, irmn, iminn, imaxn, and_self, true_and, and_true, false_and, and_false, f_X11_of, g1, c4]) (by simp (disch := omega) only [lit, neg1, nI_1, nI_add, pk_mul, pk_sub, nI_leI, nI_ltI, nI_eq, nI_eqm, chkn, ixn, if_pos, if_neg, bndV_s, bndE_s, bndO_s, reduceIte, irmn, iminn, imaxn, and_self, true_and, and_true, false_and, and_false, f_X12_of, g2, c3, e6])
  refine h2 ?_ ?_
  · simp (disch := omega) only [lit, neg1, nI_1, nI_add, pk_mul, pk_sub, nI_leI, nI_ltI, nI_eq, nI_eqm, chkn, ixn, if_pos, if_neg, bndV_s, bndE_s, bndO_s, reduceIte, irmn, iminn, imaxn, and_self, true_and, and_true, false_and, and_false, f_X11_of, g1, q0, q1, q2, q3, q4, q5]
  · simp (disch := omega) only [lit, neg1, nI_1, nI_add, pk_mul, pk_sub, nI_leI, nI_ltI, nI_eq, nI_eqm, chkn, ixn, if_pos, if_neg, bndV_s, bndE_s, bndO_s, reduceIte, irmn, iminn, imaxn, and_self, true_and, and_true, false_and, and_false, f_X12_of, g2, q0, q1, q2, q3, q4, q5]
theorem s_fault {G : Nat} {bb : Bool} {μ ρ : Mem} (h : AR bb μ ρ) (p : Int32) : ∃ ρ', f_X12_fault G p ρ = some (f_X11_fault μ p, ρ') ∧ AR bb μ ρ' := by
  obtain ⟨W, M, H⟩ := id h
  have H0 : AT bb W M μ (wr ρ 0 0 (nI 0)) := told0 H
  obtain ⟨e1, e2⟩ := H0.2.2.1
  refine ⟨_, ?_, AR_told h⟩
  unfold f_X12_fault f_X11_fault
  by_cases q0 : p = nI 0
  · subst q0; simp (disch := omega) only [lit, neg1, nI_1, nI_add, pk_mul, pk_sub, nI_leI, nI_ltI, nI_eq, nI_eqm, chkn, ixn, if_pos, if_neg, bndV_s, bndE_s, bndO_s, reduceIte, irmn, iminn, imaxn, and_self, true_and, and_true, false_and, and_false, e1]
  by_cases q1 : p = nI 1
  · subst q1; simp (disch := omega) only [lit, neg1, nI_1, nI_add, pk_mul, pk_sub, nI_leI, nI_ltI, nI_eq, nI_eqm, chkn, ixn, if_pos, if_neg, bndV_s, bndE_s, bndO_s, reduceIte, irmn, iminn, imaxn, and_self, true_and, and_true, false_and, and_false, e2]
  simp (disch := omega) only [lit, neg1, nI_1, nI_add, pk_mul, pk_sub, nI_leI, nI_ltI, nI_eq, nI_eqm, chkn, ixn, if_pos, if_neg, bndV_s, bndE_s, bndO_s, reduceIte, irmn, iminn, imaxn, and_self, true_and, and_true, false_and, and_false, q0, q1]
theorem s_book {G : Nat} {bb : Bool} {μ ρ : Mem} (h : AR bb μ ρ) (p q : Int32) : ∃ r ρ', f_X11_book G μ p q = some r ∧ f_X12_book G p q ρ = some (r, ρ') ∧ AR bb μ ρ' := by
  obtain ⟨W, M, H⟩ := id h
  have H0 : AT bb W M μ (wr ρ 0 0 (nI 0)) := told0 H
  obtain ⟨n, n1, n2, n3⟩ := (WR_of H0).2.2.2.1
  have n1 : LnR μ 26 150 4 n := n1
  have hn := n1.2.2.2
  have n3 : ∀ k, k < 4 * n → μ 27 k = (wr ρ 0 0 (nI 0)) 9 k := n3
  have e3 : μ 26 3 = nI n := n1.2.2.1
  have h0 : nI 0 = (0 : Int32) := rfl
  have h1 : nI 1 = (1 : Int32) := rfl
  have h3 : nI 3 = (3 : Int32) := rfl
  by_cases c : nI 0 ≤ p ∧ p < nI n
  · obtain ⟨i, hi, rfl⟩ := lt_of n rfl (by omega) c.1 c.2
    by_cases d : nI 0 ≤ q ∧ q ≤ nI 3
    · obtain ⟨j, hj, rfl⟩ := in_of 3 rfl (by omega) d.1 d.2
      have a := atn (G := G) (N := 600) (i := i) (j := j) n1 (by omega) (by omega) (by omega) (by omega) hi (by omega)
      rw [Nat.mul_comm, show μ (26 + 1) (4 * i + j) = (wr ρ 0 0 (nI 0)) 9 (4 * i + j) from n3 _ (by omega)] at a
      exact no_r h (r := (wr ρ 0 0 (nI 0)) 9 (4 * i + j)) (by simp (disch := omega) only [lit, neg1, nI_1, nI_add, pk_mul, pk_sub, nI_leI, nI_ltI, nI_eq, nI_eqm, chkn, ixn, if_pos, if_neg, bndV_s, bndE_s, bndO_s, reduceIte, irmn, iminn, imaxn, and_self, true_and, and_true, false_and, and_false, f_X11_book, e3, a]) (by simp (disch := omega) only [lit, neg1, nI_1, nI_add, pk_mul, pk_sub, nI_leI, nI_ltI, nI_eq, nI_eqm, chkn, ixn, if_pos, if_neg, bndV_s, bndE_s, bndO_s, reduceIte, irmn, iminn, imaxn, and_self, true_and, and_true, false_and, and_false, f_X12_book, isI, n2])
    · refine no_r h (r := -nI 10000) ?_ ?_
      · by_cases d1 : q < nI 0
        · simp (disch := omega) only [lit, neg1, nI_1, nI_add, pk_mul, pk_sub, nI_leI, nI_ltI, nI_eq, nI_eqm, chkn, ixn, if_pos, if_neg, bndV_s, bndE_s, bndO_s, reduceIte, irmn, iminn, imaxn, and_self, true_and, and_true, false_and, and_false, f_X11_book, e3, d1]
        · have d2 : ¬ q ≤ nI 3 := by grind
          simp (disch := omega) only [lit, neg1, nI_1, nI_add, pk_mul, pk_sub, nI_leI, nI_ltI, nI_eq, nI_eqm, chkn, ixn, if_pos, if_neg, bndV_s, bndE_s, bndO_s, reduceIte, irmn, iminn, imaxn, and_self, true_and, and_true, false_and, and_false, f_X11_book, e3, d1, d2]
      · simp (disch := omega) only [lit, neg1, nI_1, nI_add, pk_mul, pk_sub, nI_leI, nI_ltI, nI_eq, nI_eqm, chkn, ixn, if_pos, if_neg, bndV_s, bndE_s, bndO_s, reduceIte, irmn, iminn, imaxn, and_self, true_and, and_true, false_and, and_false, f_X12_book, isI, n2, d]
  · refine no_r h (r := -nI 10000) ?_ ?_
    · by_cases d1 : p < nI 0
      · simp (disch := omega) only [lit, neg1, nI_1, nI_add, pk_mul, pk_sub, nI_leI, nI_ltI, nI_eq, nI_eqm, chkn, ixn, if_pos, if_neg, bndV_s, bndE_s, bndO_s, reduceIte, irmn, iminn, imaxn, and_self, true_and, and_true, false_and, and_false, f_X11_book, d1]
      · have d2 : nI n ≤ p := by grind
        simp (disch := omega) only [lit, neg1, nI_1, nI_add, pk_mul, pk_sub, nI_leI, nI_ltI, nI_eq, nI_eqm, chkn, ixn, if_pos, if_neg, bndV_s, bndE_s, bndO_s, reduceIte, irmn, iminn, imaxn, and_self, true_and, and_true, false_and, and_false, f_X11_book, e3, d1, d2]
    · have c2 : ¬ (nI 0 ≤ p ∧ p ≤ nI n - nI 1) := by
        have n17 : nI n ≤ 150 := nI_le (b := 150) hn (by omega)
        have n18 : (0 : Int32) ≤ nI n := nI_pos' (by omega)
        grind
      simp (disch := omega) only [lit, neg1, nI_1, nI_add, pk_mul, pk_sub, nI_leI, nI_ltI, nI_eq, nI_eqm, chkn, ixn, if_pos, if_neg, bndV_s, bndE_s, bndO_s, reduceIte, irmn, iminn, imaxn, and_self, true_and, and_true, false_and, and_false, f_X12_book, isI, n2, c2]
end
