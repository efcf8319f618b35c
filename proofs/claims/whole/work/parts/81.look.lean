section
theorem free_ok {G W M : Nat} {μ ρ : Mem} (hG : 500 ≤ G) (R : WR 2 0 μ ρ W M) : ∃ r, r < 2 ^ W ∧ f_X0_freeWomen G μ = some (nI r) ∧ f_X12_freeSet G ρ = some (nI r) ∧ ∀ v, r.testBit v = true ↔ v < W ∧ ρ 1 (5 + v) = nI 0 := by
  obtain ⟨hW, hM⟩ := WR_W R
  have e1 : μ 1 6 = nI W := R.1.1
  have e2 : ρ 0 6 = nI W := R.1.2.1
  obtain ⟨g', f', s', t', k1, k2, ⟨r, r1, rfl, rfl, r2⟩⟩ := loop2Z (fun g v x => f_X0_freeWomen_L4 G μ g x v) (fun g v x => f_X12_freeSet_L4 G ρ g x v) W (fun k a b => ∃ r, r < 2 ^ W ∧ a = nI r ∧ b = nI r ∧ ∀ v, r.testBit v = true ↔ v < k ∧ ρ 1 (5 + v) = nI 0) (by
    rintro g f i a b hi ⟨r, r1, rfl, rfl, r2⟩
    have e := R.2.2.2.2.1.2.2.2.2.2.1 i (by omega)
    rw [Nat.zero_add] at e
    have n0 : nI 4294967295 + 1 = nI 0 := rfl
    rcases free_of (G := G) R (show i < 12 by omega) with ⟨ma, fa⟩ | ⟨ma, fa⟩
    · have ma' : μ 3 i = nI 4294967295 := ma
      refine ⟨nI (r ||| 2 ^ i), nI (r ||| 2 ^ i), ?_, ?_, _, or_lt r1 (pw_lt hi), rfl, rfl, fun v => ?_⟩
      · show f_X0_freeWomen_L4 G μ (g + 1) (nI r) (nI i) = f_X0_freeWomen_L4 G μ g _ (nI (i + 1))
        simp (disch := omega) only [lit, neg1, nI_1, nI_add, pk_mul, pk_sub, nI_leI, nI_ltI, nI_eq, nI_eqm, chkn, ixn, if_pos, if_neg, bndV_s, bndE_s, bndO_s, reduceIte, irmn, iminn, imaxn, and_self, true_and, and_true, false_and, and_false, f_X0_freeWomen_L4, e1, ma', sl1, b_nor, f_X0_freeWomen_j37]
      · show f_X12_freeSet_L4 G ρ (f + 1) (nI r) (nI i) = f_X12_freeSet_L4 G ρ f _ (nI (i + 1))
        simp (disch := omega) only [lit, neg1, nI_1, nI_add, pk_mul, pk_sub, nI_leI, nI_ltI, nI_eq, nI_eqm, chkn, ixn, if_pos, if_neg, bndV_s, bndE_s, bndO_s, reduceIte, irmn, iminn, imaxn, and_self, true_and, and_true, false_and, and_false, f_X12_freeSet_L4, e2, fa, sl1, b_nor, f_X12_freeSet_j26]
      · have ez : ρ 1 (5 + i) = nI 0 := by rw [← e, ma]; rfl
        rw [Nat.testBit_or, pw_bit, Bool.or_eq_true, r2 v, decide_eq_true_iff]
        constructor
        · rintro (⟨h1, h2⟩ | rfl)
          · exact ⟨by omega, h2⟩
          · exact ⟨by omega, ez⟩
        · rintro ⟨h1, h2⟩
          by_cases ev : i = v
          · exact Or.inr ev
          · exact Or.inl ⟨by omega, h2⟩
    · have ma' : ¬ μ 3 i = nI 4294967295 := ma
      refine ⟨nI r, nI r, ?_, ?_, r, r1, rfl, rfl, fun v => ?_⟩
      · show f_X0_freeWomen_L4 G μ (g + 1) (nI r) (nI i) = f_X0_freeWomen_L4 G μ g _ (nI (i + 1))
        simp (disch := omega) only [lit, neg1, nI_1, nI_add, pk_mul, pk_sub, nI_leI, nI_ltI, nI_eq, nI_eqm, chkn, ixn, if_pos, if_neg, bndV_s, bndE_s, bndO_s, reduceIte, irmn, iminn, imaxn, and_self, true_and, and_true, false_and, and_false, f_X0_freeWomen_L4, e1, ma', f_X0_freeWomen_j37]
      · show f_X12_freeSet_L4 G ρ (f + 1) (nI r) (nI i) = f_X12_freeSet_L4 G ρ f _ (nI (i + 1))
        simp (disch := omega) only [lit, neg1, nI_1, nI_add, pk_mul, pk_sub, nI_leI, nI_ltI, nI_eq, nI_eqm, chkn, ixn, if_pos, if_neg, bndV_s, bndE_s, bndO_s, reduceIte, irmn, iminn, imaxn, and_self, true_and, and_true, false_and, and_false, f_X12_freeSet_L4, e2, fa, f_X12_freeSet_j26]
      · have ez : ¬ ρ 1 (5 + i) = nI 0 := by rw [← e]; intro q; apply ma; grind
        rw [r2 v]
        constructor
        · rintro ⟨h1, h2⟩; exact ⟨by omega, h2⟩
        · rintro ⟨h1, h2⟩
          by_cases ev : i = v
          · subst ev; exact absurd h2 ez
          · exact ⟨by omega, h2⟩) (by omega : W < G) (by omega : W < G) (s := nI 0) (t := nI 0) ⟨0, Nat.two_pow_pos W, rfl, rfl, fun v => by simp⟩
  refine ⟨r, r1, ?_, ?_, r2⟩
  · refine Eq.trans k1 ?_
    show f_X0_freeWomen_L4 G μ (g' + 1) (nI r) (nI W) = _
    simp (disch := omega) only [lit, neg1, nI_1, nI_add, pk_mul, pk_sub, nI_leI, nI_ltI, nI_eq, nI_eqm, chkn, ixn, if_pos, if_neg, bndV_s, bndE_s, bndO_s, reduceIte, irmn, iminn, imaxn, and_self, true_and, and_true, false_and, and_false, f_X0_freeWomen_L4, e1]
  · refine Eq.trans k2 ?_
    show f_X12_freeSet_L4 G ρ (f' + 1) (nI r) (nI W) = _
    simp (disch := omega) only [lit, neg1, nI_1, nI_add, pk_mul, pk_sub, nI_leI, nI_ltI, nI_eq, nI_eqm, chkn, ixn, if_pos, if_neg, bndV_s, bndE_s, bndO_s, reduceIte, irmn, iminn, imaxn, and_self, true_and, and_true, false_and, and_false, f_X12_freeSet_L4, e2]
theorem s_look {G : Nat} {bb : Bool} {μ ρ : Mem} (hG : 500 ≤ G) (h : AR bb μ ρ) (p : Int32) : ∃ r ρ', f_X11_look G μ p = some r ∧ f_X12_look G p ρ = some (r, ρ') ∧ AR bb μ ρ' := by
  obtain ⟨W, M, H⟩ := id h
  have H0 : AT bb W M μ (wr ρ 0 0 (nI 0)) := told0 H
  have R := WR_of H0
  generalize hρ : wr ρ 0 0 (nI 0) = ρ0 at H0 R
  have fin : ∀ {f : Option Int32} {g : Option (Int32 × Mem)} (r : Int32), f = some r → g = some (r, ρ0) → ∃ r ρ', f = some r ∧ g = some (r, ρ') ∧ AR bb μ ρ' := fun r h1 h2 => ⟨r, ρ0, h1, h2, W, M, H0⟩
  have hl : f_X12_look G p ρ = (if p = 0 then some ((ρ0 0 6), ρ0) else if p = 1 then some ((ρ0 0 7), ρ0) else if p = 2 then some ((ρ0 1 0), ρ0) else if p = 3 then some ((ρ0 1 3), ρ0) else if p = 4 then some ((ρ0 1 4), ρ0) else if p = 5 then bndO (f_X12_freeSet G ρ0) (fun w16 => some (w16, ρ0)) else if p = 6 then some ((ρ0 1 2), ρ0) else if p = 7 then some ((ρ0 1 1), ρ0) else if p = 8 then some ((ρ0 12 0), ρ0) else if p = 9 then some ((ρ0 0 37), ρ0) else if p = 10 then some ((ρ0 0 39), ρ0) else if p = 11 then some ((ρ0 0 41), ρ0) else if p = 12 then some ((ρ0 0 3), ρ0) else some ((-10000 : Int32), ρ0)) := by
    rw [← hρ]; rfl
  rw [hl]
  unfold f_X11_look
  have S := R.2.2.2.2.1
  have e0 : μ 1 6 = ρ0 0 6 := R.1.1.trans R.1.2.1.symm
  have e1 : μ 1 7 = ρ0 0 7 := R.1.2.2.2.1.trans R.1.2.2.2.2.1.symm
  have e2 : μ 2 5 = ρ0 1 0 := S.1
  have e3 : μ 2 6 = ρ0 1 3 := S.2.2.2.1
  have e4 : μ 2 7 = ρ0 1 4 := S.2.2.2.2.1
  have e6 : μ 26 3 = ρ0 1 2 := S.2.2.1
  have e7 : μ 2 8 = ρ0 1 1 := S.2.1
  have e8 : μ 13 6 = ρ0 12 0 := by obtain ⟨n, _, h1, h2, _⟩ := R.2.1; exact h1.trans h2.symm
  have e9 : μ 20 3 = ρ0 0 37 := by obtain ⟨n, _, h1, h2, _⟩ := WR_q R; exact h1.trans h2.symm
  have e10 : μ 22 3 = ρ0 0 39 := by obtain ⟨n, h1, h2, _⟩ := H0.1.2.2.2.2.2.1; exact h1.2.2.1.trans h2.symm
  have e11 : μ 24 3 = ρ0 0 41 := by obtain ⟨n, A, B, h1, h2, _⟩ := H0.1.2.2.2.2.2.2.1; exact h1.2.2.1.trans h2.symm
  have e12 : μ 54 3 = ρ0 0 3 := by obtain ⟨c, x, _, _, h1, h2, _⟩ := H0.2.2.2.2.1; exact h1.trans h2.symm
  rw [e0, e1, e2, e3, e4, e6, e7, e8, e9, e10, e11, e12]
  obtain ⟨r, _, f1, f2, _⟩ := free_ok hG R
  rw [f1, f2]
  by_cases q0 : p = 0
  · exact fin _ (if_pos q0) (if_pos q0)
  rw [if_neg q0, if_neg q0]
  by_cases q1 : p = 1
  · exact fin _ (if_pos q1) (if_pos q1)
  rw [if_neg q1, if_neg q1]
  by_cases q2 : p = 2
  · exact fin _ (if_pos q2) (if_pos q2)
  rw [if_neg q2, if_neg q2]
  by_cases q3 : p = 3
  · exact fin _ (if_pos q3) (if_pos q3)
  rw [if_neg q3, if_neg q3]
  by_cases q4 : p = 4
  · exact fin _ (if_pos q4) (if_pos q4)
  rw [if_neg q4, if_neg q4]
  by_cases q5 : p = 5
  · exact fin _ (if_pos q5) (if_pos q5)
  rw [if_neg q5, if_neg q5]
  by_cases q6 : p = 6
  · exact fin _ (if_pos q6) (if_pos q6)
  rw [if_neg q6, if_neg q6]
  by_cases q7 : p = 7
  · exact fin _ (if_pos q7) (if_pos q7)
  rw [if_neg q7, if_neg q7]
  by_cases q8 : p = 8
  · exact fin _ (if_pos q8) (if_pos q8)
  rw [if_neg q8, if_neg q8]
  by_cases q9 : p = 9
  · exact fin _ (if_pos q9) (if_pos q9)
  rw [if_neg q9, if_neg q9]
  by_cases q10 : p = 10
  · exact fin _ (if_pos q10) (if_pos q10)
  rw [if_neg q10, if_neg q10]
  by_cases q11 : p = 11
  · exact fin _ (if_pos q11) (if_pos q11)
  rw [if_neg q11, if_neg q11]
  by_cases q12 : p = 12
  · exact fin _ (if_pos q12) (if_pos q12)
  rw [if_neg q12, if_neg q12]
  exact fin _ rfl rfl
end
