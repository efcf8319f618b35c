section
theorem s_years {G : Nat} {bb : Bool} {μ ρ : Mem} (hG : 500 ≤ G) (h : AR bb μ ρ) (p : Int32) : ∃ r μ' ρ', f_X11_years G p μ = some (r, μ') ∧ f_X12_years G p ρ = some (r, ρ') ∧ AR bb μ' ρ' := by
  have h0 : AR bb μ (wr ρ 0 0 (nI 0)) := AR_told h
  have h60 : nI 60 = (60 : Int32) := rfl
  have h1 : nI 1 = (1 : Int32) := rfl
  by_cases c : nI 1 ≤ p ∧ p ≤ nI 60
  · obtain ⟨n, hn, rfl⟩ := in_of 60 rfl (by omega) (show 0 ≤ p by have := c.1; grind) c.2
    have hn1 : 1 ≤ n := (nI_leI (by omega) (by omega)).mp c.1
    have ey : μ 2 5 = (wr ρ 0 0 (nI 0)) 1 0 := by obtain ⟨W, M, H⟩ := h0; exact H.1.2.1.1
    by_cases c2 : (wr ρ 0 0 (nI 0)) 1 0 + nI n ≤ nI 9999
    · obtain ⟨g', f', s', t', k1, k2, k3, k4⟩ := loop2Z (fun g v (m : Int32 × Mem) => f_X11_years_L35 G g (nI n) m.1 v m.2) (fun g v (m : Int32 × Mem) => f_X12_years_L36 G g (nI n) m.1 v m.2) n (fun _ a b => a.1 = b.1 ∧ AR bb a.2 b.2) (by
        intro g f i ⟨x, a⟩ ⟨y, b⟩ hi ⟨A0, A1⟩
        dsimp only at A0 A1
        subst A0
        show ∃ s' t', f_X11_years_L35 G (g + 1) (nI n) x (nI i) a = f_X11_years_L35 G g (nI n) (Prod.fst s') (nI (i + 1)) (Prod.snd s') ∧ f_X12_years_L36 G (f + 1) (nI n) x (nI i) b = f_X12_years_L36 G f (nI n) (Prod.fst t') (nI (i + 1)) (Prod.snd t') ∧ _
        obtain ⟨W, M, H⟩ := A1
        obtain ⟨μ1, ρ1, a1, a2, R1, C1, _, _, fin⟩ := kept_AT hG H
        obtain ⟨r, μ2, ρ2, b1, b2, b3, b4, b5, b6⟩ := pass_sim hG R1 C1
        refine ⟨(x + r, μ2), (x + r, ρ2), ?_, ?_, rfl, fin μ2 ρ2 b3 b5 b6⟩
        · have b1' : f_X7_passYear G 2 (nI 0) μ1 = some (r, μ2) := b1
          simp (disch := omega) only [lit, neg1, nI_1, nI_add, pk_mul, pk_sub, nI_leI, nI_ltI, nI_eq, nI_eqm, chkn, ixn, if_pos, if_neg, bndV_s, bndE_s, bndO_s, reduceIte, irmn, iminn, imaxn, and_self, true_and, and_true, false_and, and_false, f_X11_years_L35, a1, b1']
        · simp (disch := omega) only [lit, neg1, nI_1, nI_add, pk_mul, pk_sub, nI_leI, nI_ltI, nI_eq, nI_eqm, chkn, ixn, if_pos, if_neg, bndV_s, bndE_s, bndO_s, reduceIte, irmn, iminn, imaxn, and_self, true_and, and_true, false_and, and_false, f_X12_years_L36, a2, b2]) (by omega : n < G) (by omega : n < G) (s := (0, μ)) (t := (0, wr ρ 0 0 (nI 0))) ⟨rfl, h0⟩
      obtain ⟨x, a⟩ := s'
      obtain ⟨y, b⟩ := t'
      dsimp only at k3 k4
      subst k3
      refine ⟨x, a, b, ?_, ?_, k4⟩
      · have e : f_X11_years G (nI n) μ = f_X11_years_L35 G G (nI n) 0 0 μ := by
          have c3 : μ 2 5 + nI n ≤ nI 9999 := by rw [ey]; exact c2
          simp (disch := omega) only [lit, neg1, nI_1, nI_add, pk_mul, pk_sub, nI_leI, nI_ltI, nI_eq, nI_eqm, chkn, ixn, if_pos, if_neg, bndV_s, bndE_s, bndO_s, reduceIte, irmn, iminn, imaxn, and_self, true_and, and_true, false_and, and_false, f_X11_years, c3]
        rw [e]
        refine Eq.trans k1 ?_
        show f_X11_years_L35 G (g' + 1) (nI n) x (nI n) a = _
        simp (disch := omega) only [lit, neg1, nI_1, nI_add, pk_mul, pk_sub, nI_leI, nI_ltI, nI_eq, nI_eqm, chkn, ixn, if_pos, if_neg, bndV_s, bndE_s, bndO_s, reduceIte, irmn, iminn, imaxn, and_self, true_and, and_true, false_and, and_false, f_X11_years_L35]
      · have e : f_X12_years G (nI n) ρ = f_X12_years_L36 G G (nI n) 0 0 (wr ρ 0 0 (nI 0)) := by
          simp (disch := omega) only [lit, neg1, nI_1, nI_add, pk_mul, pk_sub, nI_leI, nI_ltI, nI_eq, nI_eqm, chkn, ixn, if_pos, if_neg, bndV_s, bndE_s, bndO_s, reduceIte, irmn, iminn, imaxn, and_self, true_and, and_true, false_and, and_false, f_X12_years, isI, c2]
        rw [e]
        refine Eq.trans k2 ?_
        show f_X12_years_L36 G (f' + 1) (nI n) x (nI n) b = _
        simp (disch := omega) only [lit, neg1, nI_1, nI_add, pk_mul, pk_sub, nI_leI, nI_ltI, nI_eq, nI_eqm, chkn, ixn, if_pos, if_neg, bndV_s, bndE_s, bndO_s, reduceIte, irmn, iminn, imaxn, and_self, true_and, and_true, false_and, and_false, f_X12_years_L36]
    · refine no_st h (r := nI 4294967295) ?_ ?_
      · have c3 : ¬ μ 2 5 + nI n ≤ nI 9999 := by rw [ey]; exact c2
        simp (disch := omega) only [lit, neg1, nI_1, nI_add, pk_mul, pk_sub, nI_leI, nI_ltI, nI_eq, nI_eqm, chkn, ixn, if_pos, if_neg, bndV_s, bndE_s, bndO_s, reduceIte, irmn, iminn, imaxn, and_self, true_and, and_true, false_and, and_false, f_X11_years, c3]
      · simp (disch := omega) only [lit, neg1, nI_1, nI_add, pk_mul, pk_sub, nI_leI, nI_ltI, nI_eq, nI_eqm, chkn, ixn, if_pos, if_neg, bndV_s, bndE_s, bndO_s, reduceIte, irmn, iminn, imaxn, and_self, true_and, and_true, false_and, and_false, f_X12_years, isI, c2]
  · refine no_st h (r := nI 4294967295) ?_ ?_
    · by_cases c3 : p < nI 1
      · simp (disch := omega) only [lit, neg1, nI_1, nI_add, pk_mul, pk_sub, nI_leI, nI_ltI, nI_eq, nI_eqm, chkn, ixn, if_pos, if_neg, bndV_s, bndE_s, bndO_s, reduceIte, irmn, iminn, imaxn, and_self, true_and, and_true, false_and, and_false, f_X11_years, c3]
      · have c4 : nI 60 < p := by grind
        simp (disch := omega) only [lit, neg1, nI_1, nI_add, pk_mul, pk_sub, nI_leI, nI_ltI, nI_eq, nI_eqm, chkn, ixn, if_pos, if_neg, bndV_s, bndE_s, bndO_s, reduceIte, irmn, iminn, imaxn, and_self, true_and, and_true, false_and, and_false, f_X11_years, c3, c4]
    · simp (disch := omega) only [lit, neg1, nI_1, nI_add, pk_mul, pk_sub, nI_leI, nI_ltI, nI_eq, nI_eqm, chkn, ixn, if_pos, if_neg, bndV_s, bndE_s, bndO_s, reduceIte, irmn, iminn, imaxn, and_self, true_and, and_true, false_and, and_false, f_X12_years, isI, c]
theorem s_undo {G : Nat} {bb : Bool} {μ ρ : Mem} (hG : 500 ≤ G) (h : AR bb μ ρ) : ∃ r μ' ρ', f_X11_undo G μ = some (r, μ') ∧ f_X12_undo G ρ = some (r, ρ') ∧ AR bb μ' ρ' := by
  obtain ⟨W, M, H⟩ := id h
  have R := WR_of H
  obtain ⟨c, x, hc, hx, d1, d2, d3, d4, d5, d6⟩ := H.2.2.2.2.1
  obtain ⟨u1, u2⟩ := undoR (G := G) hc d2 (by omega)
  obtain ⟨n, n1, n2, n3⟩ := R.2.2.2.1
  have n1 : LnR μ 26 150 4 n := n1
  have n3 : ∀ k, k < 4 * n → μ 27 k = ρ 9 k := n3
  by_cases e : c = 0
  · refine no_st h (r := nI 0) ?_ (u1 e)
    simp (disch := omega) only [lit, neg1, nI_1, nI_add, pk_mul, pk_sub, nI_leI, nI_ltI, nI_eq, nI_eqm, chkn, ixn, if_pos, if_neg, bndV_s, bndE_s, bndO_s, reduceIte, irmn, iminn, imaxn, and_self, true_and, and_true, false_and, and_false, f_X11_undo, f_X3_goBack, d1, bkk0]
    rfl
  · obtain ⟨ρ', v1, v2, v3, v4, v5⟩ := u2 (by omega)
    obtain ⟨S, I⟩ := d4 (c - 1) (by omega)
    have ep : pst x c (c - 1) = (x + 5) % 6 := by unfold pst; omega
    rw [ep] at S
    obtain ⟨⟨r, hr, er⟩, I2⟩ := I
    have e56 : μ 56 ((x + 5) % 6) = nI r := S.2.2.1.trans er
    have hrn : r ≤ n := by
      have := d6 (by omega)
      rw [er, n2] at this
      exact (nI_leI (by omega) (by have := n1.2.2.2; omega)).mp this
    obtain ⟨_, w2⟩ := gbC (G := G) hc hx d1 d3 n1.2.2.1 n1.2.2.2 e56 hrn
    obtain ⟨μ', w3, w4, w5, w6, w7, w8, w9, w10⟩ := w2 (by omega)
    have m : ∀ y, 8 ≤ y → y ≠ 26 → y ≠ 54 → μ' y = μ y := w4
    have y1 : ∀ j, j < 49 → ρ' 1 (0 + j) = ρ 2 (49 * (c - 1) + j) := fun j hj => by rw [Nat.zero_add]; exact v5 j hj
    have S' : StR μ' 2 (μ 56 ((x + 5) % 6)) (ρ' 1) 0 := StR_row y1 (w10 _ _ _ S)
    have I' : StI W M (ρ' 1) 0 := StI_row y1 ⟨⟨r, hr, er⟩, I2⟩
    have e12 : ρ' 1 2 = nI r := by rw [v5 2 (by omega), er]
    refine ⟨1, μ', ρ', ?_, v1, ?_⟩
    · unfold f_X11_undo
      rw [w3]
      rfl
    · refine AT_wr H (fun y g1 g2 g3 g4 g5 g6 => m y (by omega) g3 (by omega)) (fun y g1 g2 => v2 y (by omega) (by omega)) (fun j g1 g2 => v3 j g1 g2) ?_ ?_
      · obtain ⟨b1, b2, b3, b4, b5, b6, b7, b8⟩ := R
        refine ⟨PpR_o b1 (w5 1 (by omega)) (fun y _ _ => m y (by omega) (by omega) (by omega)) (v3 6 (by omega) (by omega)) (v3 7 (by omega) (by omega)) (fun y _ _ => v2 y (by omega) (by omega)), LwR_o b2 (fun y _ _ => m y (by omega) (by omega) (by omega)) (fun y _ _ => v2 y (by omega) (by omega)), QuR_o b3 (m _ (by omega) (by omega) (by omega)) (m _ (by omega) (by omega) (by omega)) (v3 _ (by omega) (by omega)) (v2 _ (by omega) (by omega)), ⟨r, ?_, e12, ?_⟩, ?_, I', by rw [v3 5 (by omega) (by omega)]; exact b7, b8⟩
        · exact ⟨by rw [w6 0 (by omega)]; exact n1.1, by rw [w6 1 (by omega)]; exact n1.2.1, w7, hr⟩
        · intro k hk
          rw [m _ (by omega) (by omega) (by omega), v2 9 (by omega) (by omega)]
          exact n3 k (by omega)
        · rw [w7, ← e56]; exact S'
      · refine ⟨c - 1, (x + 5) % 6, by omega, by omega, w8, v4, w9, ?_, ?_, ?_⟩
        · intro j hj
          have e2 : pst ((x + 5) % 6) (c - 1) j = pst x c j := by unfold pst; omega
          have e3 : pst x c j < 6 := by unfold pst; omega
          rw [e2, m 56 (by omega) (by omega) (by omega), v2 2 (by omega) (by omega)]
          exact ⟨StR_cls (fun y g1 g2 => m y (by omega) (by omega) (by omega)) (d4 j (by omega)).1, (d4 j (by omega)).2⟩
        · intro j hj
          rw [v2 2 (by omega) (by omega)]
          exact d5 j (by omega)
        · intro g
          rw [v2 2 (by omega) (by omega), v5 2 (by omega)]
          have := d5 (c - 1 - 1) (by omega)
          rw [show c - 1 - 1 + 1 = c - 1 by omega] at this
          exact this
end
