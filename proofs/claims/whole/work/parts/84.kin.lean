section
/-- sisters of a set and the set with them, both sides -/
theorem kin_ok {G W M c : Nat} {μ ρ : Mem} (hG : 500 ≤ G) (P : PpR 1 μ ρ W M) (S : SiR 1 μ ρ W) (hc : c < 4096) :
    ∃ s t, s < 4096 ∧ t < 4096 ∧ f_X0_sistersOf G μ (nI c) = some (nI s) ∧ c ||| s = t ∧ f_X12_kinOf G ρ (nI c) = some (nI t) ∧ ∀ d s' , d < 4096 → (∀ i, c.testBit i = true → d.testBit i = true) → f_X0_sistersOf G μ (nI d) = some (nI s') → ∀ i, s.testBit i = true → s' < 4096 → s'.testBit i = true := by
  have hW := P.2.2.1
  obtain ⟨n, A, B, n1, n2, n3, n4⟩ := S
  obtain ⟨s, hs, es, bs⟩ := sis_ok (c := c) hG n1 n3 hW (by omega)
  have e6 : ρ 0 6 = nI W := P.2.1
  obtain ⟨g', s1, h1, ⟨r, hr, rfl, hb⟩⟩ := loopZ (fun g v x => f_X12_kinOf_L4 G ρ g (nI c) x v) W (fun k x => ∃ r, r < 4096 ∧ x = nI r ∧ ∀ v, r.testBit v = true ↔ (c.testBit v = true ∨ ∃ w m, w < k ∧ c.testBit w = true ∧ ρ 22 w = nI m ∧ m < 4096 ∧ m.testBit v = true)) (by
    rintro g i x hi ⟨r, hr, rfl, hb⟩
    obtain ⟨m, hm, em, tb⟩ := n4 i (by omega)
    have hh := hasn (a := c) (w := i) (by omega) (by omega)
    rw [← has12] at hh
    by_cases b : c.testBit i = true
    · rw [if_pos b] at hh
      refine ⟨nI (r ||| m), ?_, _, or_lt (k := 12) hr hm, rfl, fun v => ?_⟩
      · show f_X12_kinOf_L4 G ρ (g + 1) (nI c) (nI r) (nI i) = f_X12_kinOf_L4 G ρ g (nI c) _ (nI (i + 1))
        simp (disch := omega) only [lit, neg1, nI_1, nI_add, pk_mul, pk_sub, nI_leI, nI_ltI, nI_eq, nI_eqm, chkn, ixn, if_pos, if_neg, bndV_s, bndE_s, bndO_s, reduceIte, irmn, iminn, imaxn, and_self, true_and, and_true, false_and, and_false, f_X12_kinOf_L4, e6, hh, em, b_nor, f_X12_kinOf_j30]
      · rw [Nat.testBit_or, Bool.or_eq_true, hb v]
        constructor
        · rintro ((h | ⟨w, m', h1, h2⟩) | h)
          · exact Or.inl h
          · exact Or.inr ⟨w, m', by omega, h2⟩
          · exact Or.inr ⟨i, m, by omega, b, em, hm, h⟩
        · rintro (h | ⟨w, m', h1, h2, h3, h4, h5⟩)
          · exact Or.inl (Or.inl h)
          · by_cases e : w = i
            · subst e
              have : m' = m := (nI_eq (by omega) (by omega)).mp (h3.symm.trans em)
              subst this
              exact Or.inr h5
            · exact Or.inl (Or.inr ⟨w, m', by omega, h2, h3, h4, h5⟩)
    · rw [if_neg b] at hh
      refine ⟨nI r, ?_, r, hr, rfl, fun v => ?_⟩
      · show f_X12_kinOf_L4 G ρ (g + 1) (nI c) (nI r) (nI i) = f_X12_kinOf_L4 G ρ g (nI c) _ (nI (i + 1))
        simp (disch := omega) only [lit, neg1, nI_1, nI_add, pk_mul, pk_sub, nI_leI, nI_ltI, nI_eq, nI_eqm, chkn, ixn, if_pos, if_neg, bndV_s, bndE_s, bndO_s, reduceIte, irmn, iminn, imaxn, and_self, true_and, and_true, false_and, and_false, f_X12_kinOf_L4, e6, hh, f_X12_kinOf_j30]
      · rw [hb v]
        constructor
        · rintro (h | ⟨w, m', h1, h2⟩)
          · exact Or.inl h
          · exact Or.inr ⟨w, m', by omega, h2⟩
        · rintro (h | ⟨w, m', h1, h2, h3⟩)
          · exact Or.inl h
          · by_cases e : w = i
            · subst e; exact absurd h2 b
            · exact Or.inr ⟨w, m', by omega, h2, h3⟩) (by omega : W < G) (s := nI c) ⟨c, hc, rfl, fun v => by simp⟩
  have et : c ||| s = r := by
    apply bits_eq
    intro v
    have : ((c ||| s).testBit v = true) ↔ (r.testBit v = true) := by
      rw [Nat.testBit_or, Bool.or_eq_true, hb v, bs v]
      constructor
      · rintro (h | ⟨i, hi, h⟩)
        · exact Or.inl h
        · obtain ⟨wa, wb, wn, _, _⟩ := n3 i hi
          rcases h with ⟨h1, h2⟩ | ⟨h1, h2⟩
          · obtain ⟨m, hm, em, tb⟩ := n4 (A i) (by omega)
            exact Or.inr ⟨A i, m, wa, h1, em, hm, (tb v).mpr ⟨i, hi, Or.inl ⟨rfl, h2⟩⟩⟩
          · obtain ⟨m, hm, em, tb⟩ := n4 (B i) (by omega)
            exact Or.inr ⟨B i, m, wb, h1, em, hm, (tb v).mpr ⟨i, hi, Or.inr ⟨rfl, h2⟩⟩⟩
      · rintro (h | ⟨w, m, h1, h2, h3, h4, h5⟩)
        · exact Or.inl h
        · obtain ⟨m', hm', em', tb⟩ := n4 w (by omega)
          have : m = m' := (nI_eq (by omega) (by omega)).mp (h3.symm.trans em')
          subst this
          obtain ⟨i, hi, h6⟩ := (tb v).mp h5
          refine Or.inr ⟨i, hi, ?_⟩
          rcases h6 with ⟨h7, h8⟩ | ⟨h7, h8⟩
          · exact Or.inl ⟨by rw [h7]; exact h2, h8⟩
          · exact Or.inr ⟨by rw [h7]; exact h2, h8⟩
    cases hx : (c ||| s).testBit v <;> cases hy : r.testBit v <;> simp_all
  refine ⟨s, r, hs, hr, es, et, ?_, ?_⟩
  · refine Eq.trans h1 ?_
    show f_X12_kinOf_L4 G ρ (g' + 1) (nI c) (nI r) (nI W) = _
    simp (disch := omega) only [lit, neg1, nI_1, nI_add, pk_mul, pk_sub, nI_leI, nI_ltI, nI_eq, nI_eqm, chkn, ixn, if_pos, if_neg, bndV_s, bndE_s, bndO_s, reduceIte, irmn, iminn, imaxn, and_self, true_and, and_true, false_and, and_false, f_X12_kinOf_L4, e6]
  · intro d s' hd hcd es' i hi hs'
    obtain ⟨s2, hs2, es2, bs2⟩ := sis_ok (c := d) hG n1 n3 hW (by omega)
    have : s' = s2 := (nI_eq (by omega) (by omega)).mp (Option.some.inj (es'.symm.trans es2))
    subst this
    rw [bs2 i]
    obtain ⟨j, hj, h⟩ := (bs i).mp hi
    refine ⟨j, hj, ?_⟩
    rcases h with ⟨h1, h2⟩ | ⟨h1, h2⟩
    · exact Or.inl ⟨hcd _ h1, h2⟩
    · exact Or.inr ⟨hcd _ h1, h2⟩
theorem s_kin {G : Nat} {bb : Bool} {μ ρ : Mem} (hG : 500 ≤ G) (h : AR bb μ ρ) (p q : Int32) : ∃ r ρ', f_X11_kin G μ p q = some r ∧ f_X12_kin G p q ρ = some (r, ρ') ∧ AR bb μ ρ' := by
  obtain ⟨W, M, H⟩ := id h
  have H0 : AT bb W M μ (wr ρ 0 0 (nI 0)) := told0 H
  have R := WR_of H0
  have S := H0.1.2.2.2.2.2.2.1
  obtain ⟨hW, hM⟩ := WR_W R
  rcases woman_of R.1 p with ⟨g1, g2⟩ | ⟨a, ha, rfl, g1, g2⟩
  · exact no_r h (r := nI 4294967295) (by simp (disch := omega) only [lit, neg1, nI_1, nI_add, pk_mul, pk_sub, nI_leI, nI_ltI, nI_eq, nI_eqm, chkn, ixn, if_pos, if_neg, bndV_s, bndE_s, bndO_s, reduceIte, irmn, iminn, imaxn, and_self, true_and, and_true, false_and, and_false, f_X11_kin, g1]) (by simp (disch := omega) only [lit, neg1, nI_1, nI_add, pk_mul, pk_sub, nI_leI, nI_ltI, nI_eq, nI_eqm, chkn, ixn, if_pos, if_neg, bndV_s, bndE_s, bndO_s, reduceIte, irmn, iminn, imaxn, and_self, true_and, and_true, false_and, and_false, f_X12_kin, g2])
  rcases woman_of R.1 q with ⟨k1, k2⟩ | ⟨b, hb, rfl, k1, k2⟩
  · exact no_r h (r := nI 4294967295) (by simp (disch := omega) only [lit, neg1, nI_1, nI_add, pk_mul, pk_sub, nI_leI, nI_ltI, nI_eq, nI_eqm, chkn, ixn, if_pos, if_neg, bndV_s, bndE_s, bndO_s, reduceIte, irmn, iminn, imaxn, and_self, true_and, and_true, false_and, and_false, f_X11_kin, g1, k1]) (by simp (disch := omega) only [lit, neg1, nI_1, nI_add, pk_mul, pk_sub, nI_leI, nI_ltI, nI_eq, nI_eqm, chkn, ixn, if_pos, if_neg, bndV_s, bndE_s, bndO_s, reduceIte, irmn, iminn, imaxn, and_self, true_and, and_true, false_and, and_false, f_X12_kin, g2, k2])
  have key : ∀ m k g f c, k + m = 12 → m < g → m < f → c < 4096 → ∃ r, f_X11_kin_L31 G μ g (nI b) (nI c) (nI k) = some r ∧ f_X12_kin_L30 G f (nI b) (nI c) (nI k) (wr ρ 0 0 (nI 0)) = some (r, wr ρ 0 0 (nI 0)) := by
    intro m
    induction m with
    | zero =>
      intro k g f c hk hg hf hc
      obtain ⟨g, rfl⟩ : ∃ x, g = x + 1 := ⟨g - 1, by omega⟩
      obtain ⟨f, rfl⟩ : ∃ x, f = x + 1 := ⟨f - 1, by omega⟩
      exact ⟨nI 4294967295, by simp (disch := omega) only [lit, neg1, nI_1, nI_add, pk_mul, pk_sub, nI_leI, nI_ltI, nI_eq, nI_eqm, chkn, ixn, if_pos, if_neg, bndV_s, bndE_s, bndO_s, reduceIte, irmn, iminn, imaxn, and_self, true_and, and_true, false_and, and_false, f_X11_kin_L31], by simp (disch := omega) only [lit, neg1, nI_1, nI_add, pk_mul, pk_sub, nI_leI, nI_ltI, nI_eq, nI_eqm, chkn, ixn, if_pos, if_neg, bndV_s, bndE_s, bndO_s, reduceIte, irmn, iminn, imaxn, and_self, true_and, and_true, false_and, and_false, f_X12_kin_L30]⟩
    | succ m ih =>
      intro k g f c hk hg hf hc
      obtain ⟨g, rfl⟩ : ∃ x, g = x + 1 := ⟨g - 1, by omega⟩
      obtain ⟨f, rfl⟩ : ∃ x, f = x + 1 := ⟨f - 1, by omega⟩
      have hh := hasn (a := c) (w := b) (by omega) (by omega)
      have hh2 := hh
      rw [← has12] at hh2
      by_cases bit : c.testBit b = true
      · rw [if_pos bit] at hh hh2
        exact ⟨nI k, by simp (disch := omega) only [lit, neg1, nI_1, nI_add, pk_mul, pk_sub, nI_leI, nI_ltI, nI_eq, nI_eqm, chkn, ixn, if_pos, if_neg, bndV_s, bndE_s, bndO_s, reduceIte, irmn, iminn, imaxn, and_self, true_and, and_true, false_and, and_false, f_X11_kin_L31, hh], by simp (disch := omega) only [lit, neg1, nI_1, nI_add, pk_mul, pk_sub, nI_leI, nI_ltI, nI_eq, nI_eqm, chkn, ixn, if_pos, if_neg, bndV_s, bndE_s, bndO_s, reduceIte, irmn, iminn, imaxn, and_self, true_and, and_true, false_and, and_false, f_X12_kin_L30, hh2]⟩
      · rw [if_neg bit] at hh hh2
        obtain ⟨s, t, hs, ht, e1, e2, e3, _⟩ := kin_ok hG R.1 S hc
        obtain ⟨r, r1, r2⟩ := ih (k + 1) g f t (by omega) (by omega) (by omega) ht
        refine ⟨r, ?_, ?_⟩
        · rw [← r1]
          simp (disch := omega) only [lit, neg1, nI_1, nI_add, pk_mul, pk_sub, nI_leI, nI_ltI, nI_eq, nI_eqm, chkn, ixn, if_pos, if_neg, bndV_s, bndE_s, bndO_s, reduceIte, irmn, iminn, imaxn, and_self, true_and, and_true, false_and, and_false, f_X11_kin_L31, hh, e1, b_nor, e2]
        · rw [← r2]
          simp (disch := omega) only [lit, neg1, nI_1, nI_add, pk_mul, pk_sub, nI_leI, nI_ltI, nI_eq, nI_eqm, chkn, ixn, if_pos, if_neg, bndV_s, bndE_s, bndO_s, reduceIte, irmn, iminn, imaxn, and_self, true_and, and_true, false_and, and_false, f_X12_kin_L30, hh2, e3]
  have h2a : 2 ^ a < 4096 := pw_lt (k := 12) (by omega)
  obtain ⟨r, r1, r2⟩ := key 12 0 G G (2 ^ a) (by omega) (by omega) (by omega) h2a
  refine no_r h (r := r) ?_ ?_
  · simp (disch := omega) only [lit, neg1, nI_1, nI_add, pk_mul, pk_sub, nI_leI, nI_ltI, nI_eq, nI_eqm, chkn, ixn, if_pos, if_neg, bndV_s, bndE_s, bndO_s, reduceIte, irmn, iminn, imaxn, and_self, true_and, and_true, false_and, and_false, f_X11_kin, g1, k1, sl1, r1]
  · simp (disch := omega) only [lit, neg1, nI_1, nI_add, pk_mul, pk_sub, nI_leI, nI_ltI, nI_eq, nI_eqm, chkn, ixn, if_pos, if_neg, bndV_s, bndE_s, bndO_s, reduceIte, irmn, iminn, imaxn, and_self, true_and, and_true, false_and, and_false, f_X12_kin, g2, k2, sl1, r2]
end
