section
theorem woman_of {W M : Nat} {μ ρ : Mem} (P : PpR 1 μ ρ W M) (p : Int32) : (f_X0_isWoman μ p = nI 0 ∧ f_X12_isWoman ρ p = nI 0) ∨ ∃ w, w < W ∧ p = nI w ∧ f_X0_isWoman μ p = nI 1 ∧ f_X12_isWoman ρ p = nI 1 := by
  rw [isW0 P.1 P.2.2.1, isWR, P.2.1]
  by_cases c : 0 ≤ p ∧ p < nI W
  · obtain ⟨k, hk, rfl⟩ := lt_of W rfl (by have := P.2.2.1; omega) c.1 c.2
    exact Or.inr ⟨k, hk, rfl, if_pos c, if_pos c⟩
  · exact Or.inl ⟨if_neg c, if_neg c⟩
theorem groom_of {W M : Nat} {μ ρ : Mem} (P : PpR 1 μ ρ W M) (p : Int32) : (f_X0_isGroom μ p = nI 0 ∧ f_X12_isGroom ρ p = nI 0) ∨ ∃ w, w < M ∧ p = nI w ∧ f_X0_isGroom μ p = nI 1 ∧ f_X12_isGroom ρ p = nI 1 := by
  rw [isG0 P.2.2.2.1 P.2.2.2.2.2.1, isGR, P.2.2.2.2.1]
  by_cases c : 0 ≤ p ∧ p < nI M
  · obtain ⟨k, hk, rfl⟩ := lt_of M rfl (by have := P.2.2.2.2.2.1; omega) c.1 c.2
    exact Or.inr ⟨k, hk, rfl, if_pos c, if_pos c⟩
  · exact Or.inl ⟨if_neg c, if_neg c⟩
theorem three_of {W M : Nat} {μ ρ : Mem} (P : PpR 1 μ ρ W M) (a b c : Int32) : (f_X0_areThree μ a b c = nI 0 ∧ f_X12_areUnlike ρ a b c = nI 0) ∨
    ∃ x y z, x < W ∧ y < W ∧ z < W ∧ x ≠ y ∧ y ≠ z ∧ x ≠ z ∧ a = nI x ∧ b = nI y ∧ c = nI z ∧ f_X0_areThree μ a b c = nI 1 ∧ f_X12_areUnlike ρ a b c = nI 1 := by
  have hW := P.2.2.1
  rcases woman_of P a with ⟨a1, a2⟩ | ⟨x, hx, rfl, a1, a2⟩
  · exact Or.inl ⟨by simp (disch := omega) only [lit, neg1, nI_1, nI_add, pk_mul, pk_sub, nI_leI, nI_ltI, nI_eq, nI_eqm, chkn, ixn, if_pos, if_neg, bndV_s, bndE_s, bndO_s, reduceIte, irmn, iminn, imaxn, and_self, true_and, and_true, false_and, and_false, f_X0_areThree, a1], by simp (disch := omega) only [lit, neg1, nI_1, nI_add, pk_mul, pk_sub, nI_leI, nI_ltI, nI_eq, nI_eqm, chkn, ixn, if_pos, if_neg, bndV_s, bndE_s, bndO_s, reduceIte, irmn, iminn, imaxn, and_self, true_and, and_true, false_and, and_false, f_X12_areUnlike, a2]⟩
  rcases woman_of P b with ⟨b1, b2⟩ | ⟨y, hy, rfl, b1, b2⟩
  · exact Or.inl ⟨by simp (disch := omega) only [lit, neg1, nI_1, nI_add, pk_mul, pk_sub, nI_leI, nI_ltI, nI_eq, nI_eqm, chkn, ixn, if_pos, if_neg, bndV_s, bndE_s, bndO_s, reduceIte, irmn, iminn, imaxn, and_self, true_and, and_true, false_and, and_false, f_X0_areThree, a1, b1], by simp (disch := omega) only [lit, neg1, nI_1, nI_add, pk_mul, pk_sub, nI_leI, nI_ltI, nI_eq, nI_eqm, chkn, ixn, if_pos, if_neg, bndV_s, bndE_s, bndO_s, reduceIte, irmn, iminn, imaxn, and_self, true_and, and_true, false_and, and_false, f_X12_areUnlike, a2, b2]⟩
  rcases woman_of P c with ⟨c1, c2⟩ | ⟨z, hz, rfl, c1, c2⟩
  · exact Or.inl ⟨by simp (disch := omega) only [lit, neg1, nI_1, nI_add, pk_mul, pk_sub, nI_leI, nI_ltI, nI_eq, nI_eqm, chkn, ixn, if_pos, if_neg, bndV_s, bndE_s, bndO_s, reduceIte, irmn, iminn, imaxn, and_self, true_and, and_true, false_and, and_false, f_X0_areThree, a1, b1, c1], by simp (disch := omega) only [lit, neg1, nI_1, nI_add, pk_mul, pk_sub, nI_leI, nI_ltI, nI_eq, nI_eqm, chkn, ixn, if_pos, if_neg, bndV_s, bndE_s, bndO_s, reduceIte, irmn, iminn, imaxn, and_self, true_and, and_true, false_and, and_false, f_X12_areUnlike, a2, b2, c2]⟩
  by_cases e1 : x = y
  · exact Or.inl ⟨by simp (disch := omega) only [lit, neg1, nI_1, nI_add, pk_mul, pk_sub, nI_leI, nI_ltI, nI_eq, nI_eqm, chkn, ixn, if_pos, if_neg, bndV_s, bndE_s, bndO_s, reduceIte, irmn, iminn, imaxn, and_self, true_and, and_true, false_and, and_false, f_X0_areThree, a1, b1, c1], by simp (disch := omega) only [lit, neg1, nI_1, nI_add, pk_mul, pk_sub, nI_leI, nI_ltI, nI_eq, nI_eqm, chkn, ixn, if_pos, if_neg, bndV_s, bndE_s, bndO_s, reduceIte, irmn, iminn, imaxn, and_self, true_and, and_true, false_and, and_false, f_X12_areUnlike, a2, b2, c2]⟩
  by_cases e2 : y = z
  · exact Or.inl ⟨by simp (disch := omega) only [lit, neg1, nI_1, nI_add, pk_mul, pk_sub, nI_leI, nI_ltI, nI_eq, nI_eqm, chkn, ixn, if_pos, if_neg, bndV_s, bndE_s, bndO_s, reduceIte, irmn, iminn, imaxn, and_self, true_and, and_true, false_and, and_false, f_X0_areThree, a1, b1, c1], by simp (disch := omega) only [lit, neg1, nI_1, nI_add, pk_mul, pk_sub, nI_leI, nI_ltI, nI_eq, nI_eqm, chkn, ixn, if_pos, if_neg, bndV_s, bndE_s, bndO_s, reduceIte, irmn, iminn, imaxn, and_self, true_and, and_true, false_and, and_false, f_X12_areUnlike, a2, b2, c2]⟩
  by_cases e3 : x = z
  · exact Or.inl ⟨by simp (disch := omega) only [lit, neg1, nI_1, nI_add, pk_mul, pk_sub, nI_leI, nI_ltI, nI_eq, nI_eqm, chkn, ixn, if_pos, if_neg, bndV_s, bndE_s, bndO_s, reduceIte, irmn, iminn, imaxn, and_self, true_and, and_true, false_and, and_false, f_X0_areThree, a1, b1, c1], by simp (disch := omega) only [lit, neg1, nI_1, nI_add, pk_mul, pk_sub, nI_leI, nI_ltI, nI_eq, nI_eqm, chkn, ixn, if_pos, if_neg, bndV_s, bndE_s, bndO_s, reduceIte, irmn, iminn, imaxn, and_self, true_and, and_true, false_and, and_false, f_X12_areUnlike, a2, b2, c2]⟩
  exact Or.inr ⟨x, y, z, hx, hy, hz, e1, e2, e3, rfl, rfl, rfl, by simp (disch := omega) only [lit, neg1, nI_1, nI_add, pk_mul, pk_sub, nI_leI, nI_ltI, nI_eq, nI_eqm, chkn, ixn, if_pos, if_neg, bndV_s, bndE_s, bndO_s, reduceIte, irmn, iminn, imaxn, and_self, true_and, and_true, false_and, and_false, f_X0_areThree, a1, b1, c1], by simp (disch := omega) only [lit, neg1, nI_1, nI_add, pk_mul, pk_sub, nI_leI, nI_ltI, nI_eq, nI_eqm, chkn, ixn, if_pos, if_neg, bndV_s, bndE_s, bndO_s, reduceIte, irmn, iminn, imaxn, and_self, true_and, and_true, false_and, and_false, f_X12_areUnlike, a2, b2, c2]⟩
def AT (bb : Bool) (W M : Nat) (μ ρ : Mem) : Prop := ChR 1 μ ρ W M ∧ TpR μ ρ ∧ FaR μ ρ ∧ DrR μ ∧ PaR μ ρ W M ∧ PlR μ ∧ ImR bb μ ρ ∧ ThR ρ
theorem WR_of {bb : Bool} {W M : Nat} {μ ρ : Mem} (H : AT bb W M μ ρ) : WR 2 0 μ ρ W M :=
  ⟨H.1.1, H.1.2.2.2.2.2.2.2.1, H.1.2.2.2.2.1, H.1.2.2.2.1, H.1.2.1, H.1.2.2.1, H.2.2.2.2.2.2.2.1, Or.inl ⟨rfl, rfl⟩⟩
/-- an earnest change of standing and book -/
theorem AT_wr {bb : Bool} {W M : Nat} {μ ρ μ' ρ' : Mem} (H : AT bb W M μ ρ) (h1 : ∀ x, 13 ≤ x → x ≠ 19 → x ≠ 26 → x ≠ 27 → ¬ (54 ≤ x ∧ x ≤ 92) → ¬ (94 ≤ x ∧ x ≤ 104) → μ' x = μ x) (h2 : ∀ x, 10 ≤ x → ¬ (23 ≤ x ∧ x ≤ 26) → ρ' x = ρ x) (h3 : ∀ j, j ≠ 0 → j ≠ 3 → ρ' 0 j = ρ 0 j)
    (R : WR 2 0 μ' ρ' W M) (P : PaR μ' ρ' W M) : AR bb μ' ρ' :=
  AR_pp H (Nat.le_refl _) (Nat.le_refl _) h1 h2 (fun j g1 g2 _ _ => h3 j g1 g2) R.1 R.2.2.2.2.1 R.2.2.2.2.2.1 R.2.2.2.1 P
/-- kept, then done: what the deed needs, and all again behind it -/
theorem kept_AT {G : Nat} {bb : Bool} {W M : Nat} {μ ρ : Mem} (hG : 500 ≤ G) (H : AT bb W M μ ρ) :
    ∃ μ1 ρ1, f_X3_keep G μ = some μ1 ∧ f_X12_keepsAhead G ρ = some ρ1 ∧ WR 2 0 μ1 ρ1 W M ∧ CaR 1 μ1 ρ1 W M ∧ (∀ y, y < 54 ∨ 93 ≤ y → μ1 y = μ y) ∧ (∀ x, x ≠ 0 → x ≠ 2 → ρ1 x = ρ x) ∧
      ∀ μ2 ρ2, WR 2 0 μ2 ρ2 W M → Fc 2 0 μ1 μ2 → Fr 0 ρ1 ρ2 → AR bb μ2 ρ2 := by
  have R := WR_of H
  obtain ⟨μ1, ρ1, a1, a2, a3, a4, a5, a6⟩ := keep_R (G := G) H.2.2.2.2.1 R.2.2.2.2.1 R.2.2.2.2.2.1 (by omega)
  have z : ∀ j, j ≠ 3 → ρ1 0 j = ρ 0 j := a5
  have R1 : WR 2 0 μ1 ρ1 W M := by
    obtain ⟨b1, b2, b3, b4, b5, b6, b7, b8⟩ := R
    refine ⟨PpR_o b1 (a3 _ (by omega)) (fun x _ _ => a3 x (by omega)) (z _ (by omega)) (z _ (by omega)) (fun x _ _ => a4 x (by omega) (by omega)), LwR_o b2 (fun x _ _ => a3 x (by omega)) (fun x _ _ => a4 x (by omega) (by omega)), QuR_o b3 (a3 _ (by omega)) (a3 _ (by omega)) (z _ (by omega)) (a4 _ (by omega) (by omega)), RcR_o b4 (a3 _ (by omega)) (a3 _ (by omega)) (by rw [a4 1 (by omega) (by omega)]) (a4 _ (by omega) (by omega)), ?_, by rw [a4 1 (by omega) (by omega)]; exact b6, by rw [z 5 (by omega)]; exact b7, b8⟩
    rw [a3 26 (by omega), a4 1 (by omega) (by omega)]
    exact StR_cls (fun x g1 g2 => a3 x (by omega)) b5
  refine ⟨μ1, ρ1, a1, a2, R1, CaR_o H.1.2.2.2.2.2.1 (a3 _ (by omega)) (a3 _ (by omega)) (z _ (by omega)) (a4 _ (by omega) (by omega)), a3, a4, ?_⟩
  intro μ2 ρ2 R2 F2 G2
  refine AT_wr H (fun x g1 g2 g3 g4 g5 g6 => ?_) (fun x g1 g2 => ?_) (fun j g1 g2 => ?_) R2 ?_
  · rw [F2.1 x (by omega) g2 (by omega) (by omega) (by omega) g3 g4, a3 x (by omega)]
  · rw [G2.1 x (by omega) (by omega) (by omega) (by omega) (by omega) (by omega), a4 x (by omega) (by omega)]
  · rw [G2.1 0 (by omega) (by omega) (by omega) (by omega) (by omega) (by omega), z j g2]
  · obtain ⟨c, x, hc, hx, d1, d2, d3, d4, d5, d6⟩ := a6
    have f : ∀ y, 54 ≤ y → y ≤ 92 → μ2 y = μ1 y := fun y g1 g2 => F2.1 y (by omega) (by omega) (by omega) (by omega) (by omega) (by omega) (by omega)
    have f2 : ρ2 2 = ρ1 2 := G2.1 2 (by omega) (by omega) (by omega) (by omega) (by omega) (by omega)
    have f0 : ρ2 0 = ρ1 0 := G2.1 0 (by omega) (by omega) (by omega) (by omega) (by omega) (by omega)
    refine ⟨c, x, hc, hx, by rw [f 54 (by omega) (by omega)]; exact d1, by rw [f0]; exact d2, by rw [f 54 (by omega) (by omega)]; exact d3, ?_, by rw [f2]; exact d5, fun g => by rw [f2]; exact Int32.le_trans (d6 g) G2.2.2⟩
    intro j hj
    have hp : pst x c j < 6 := by unfold pst; omega
    rw [f 56 (by omega) (by omega), f2]
    exact ⟨StR_cls (fun y g1 g2 => f y (by omega) (by omega)) (d4 j hj).1, (d4 j hj).2⟩
theorem told0 {bb : Bool} {W M : Nat} {μ ρ : Mem} (H : AT bb W M μ ρ) : AT bb W M μ (wr ρ 0 0 (nI 0)) := by
  have h0 : AR bb μ ρ := ⟨W, M, H⟩
  obtain ⟨W', M', H'⟩ := AR_told h0
  have e1 : W' = W := by
    have := H'.1.1.1.symm.trans H.1.1.1
    exact (nI_eq (by have := H'.1.1.2.2.1; omega) (by have := H.1.1.2.2.1; omega)).mp this
  have e2 : M' = M := by
    have := H'.1.1.2.2.2.1.symm.trans H.1.1.2.2.2.1
    exact (nI_eq (by have := H'.1.1.2.2.2.2.2.1; omega) (by have := H.1.1.2.2.2.2.2.1; omega)).mp this
  subst e1 e2
  exact H'
theorem s_wed {G : Nat} {bb : Bool} {μ ρ : Mem} (hG : 500 ≤ G) (h : AR bb μ ρ) (p a b c : Int32) : ∃ r μ' ρ', f_X11_wed G p a b c μ = some (r, μ') ∧ f_X12_wed G p a b c ρ = some (r, ρ') ∧ AR bb μ' ρ' := by
  obtain ⟨W, M, H⟩ := id h
  have H0 : AT bb W M μ (wr ρ 0 0 (nI 0)) := told0 H
  have R0 := WR_of H0
  rcases groom_of R0.1 p with ⟨g1, g2⟩ | ⟨g, hg, rfl, g1, g2⟩
  · exact no_st h (r := nI 4294967295) (by simp (disch := omega) only [lit, neg1, nI_1, nI_add, pk_mul, pk_sub, nI_leI, nI_ltI, nI_eq, nI_eqm, chkn, ixn, if_pos, if_neg, bndV_s, bndE_s, bndO_s, reduceIte, irmn, iminn, imaxn, and_self, true_and, and_true, false_and, and_false, f_X11_wed, g1]) (by simp (disch := omega) only [lit, neg1, nI_1, nI_add, pk_mul, pk_sub, nI_leI, nI_ltI, nI_eq, nI_eqm, chkn, ixn, if_pos, if_neg, bndV_s, bndE_s, bndO_s, reduceIte, irmn, iminn, imaxn, and_self, true_and, and_true, false_and, and_false, f_X12_wed, g2])
  rcases three_of R0.1 a b c with ⟨t1, t2⟩ | ⟨x, y, z, hx, hy, hz, u1, u2, u3, rfl, rfl, rfl, t1, t2⟩
  · exact no_st h (r := nI 4294967295) (by simp (disch := omega) only [lit, neg1, nI_1, nI_add, pk_mul, pk_sub, nI_leI, nI_ltI, nI_eq, nI_eqm, chkn, ixn, if_pos, if_neg, bndV_s, bndE_s, bndO_s, reduceIte, irmn, iminn, imaxn, and_self, true_and, and_true, false_and, and_false, f_X11_wed, g1, t1]) (by simp (disch := omega) only [lit, neg1, nI_1, nI_add, pk_mul, pk_sub, nI_leI, nI_ltI, nI_eq, nI_eqm, chkn, ixn, if_pos, if_neg, bndV_s, bndE_s, bndO_s, reduceIte, irmn, iminn, imaxn, and_self, true_and, and_true, false_and, and_false, f_X12_wed, g2, t2])
  obtain ⟨v, hv, c1, c2⟩ := canWed_sim (G := G) R0 hg hx hy hz u1 u2 u3
  rcases hv with rfl | rfl
  · exact no_st h (r := nI 4294967295) (by simp (disch := omega) only [lit, neg1, nI_1, nI_add, pk_mul, pk_sub, nI_leI, nI_ltI, nI_eq, nI_eqm, chkn, ixn, if_pos, if_neg, bndV_s, bndE_s, bndO_s, reduceIte, irmn, iminn, imaxn, and_self, true_and, and_true, false_and, and_false, f_X11_wed, g1, t1, c1]) (by simp (disch := omega) only [lit, neg1, nI_1, nI_add, pk_mul, pk_sub, nI_leI, nI_ltI, nI_eq, nI_eqm, chkn, ixn, if_pos, if_neg, bndV_s, bndE_s, bndO_s, reduceIte, irmn, iminn, imaxn, and_self, true_and, and_true, false_and, and_false, f_X12_wed, g2, t2, c2])
  obtain ⟨μ1, ρ1, a1, a2, R1, C1, _, _, fin⟩ := kept_AT hG H0
  obtain ⟨w, μ2, ρ2, b1, b2, b3, b4, b5, b6⟩ := wedding_sim hG R1 hg hx hy hz
  refine ⟨nI w, μ2, ρ2, ?_, ?_, fin μ2 ρ2 b4 b5 b6⟩
  · have b2' : f_X7_wedding G 2 (nI g) (nI x) (nI y) (nI z) (nI 0) μ1 = some (nI w, μ2) := b2
    simp (disch := omega) only [lit, neg1, nI_1, nI_add, pk_mul, pk_sub, nI_leI, nI_ltI, nI_eq, nI_eqm, chkn, ixn, if_pos, if_neg, bndV_s, bndE_s, bndO_s, reduceIte, irmn, iminn, imaxn, and_self, true_and, and_true, false_and, and_false, f_X11_wed, g1, t1, c1, a1, b2']
  · simp (disch := omega) only [lit, neg1, nI_1, nI_add, pk_mul, pk_sub, nI_leI, nI_ltI, nI_eq, nI_eqm, chkn, ixn, if_pos, if_neg, bndV_s, bndE_s, bndO_s, reduceIte, irmn, iminn, imaxn, and_self, true_and, and_true, false_and, and_false, f_X12_wed, g2, t2, c2, a2, b3]
theorem s_part {G : Nat} {bb : Bool} {μ ρ : Mem} (hG : 500 ≤ G) (h : AR bb μ ρ) (p : Int32) : ∃ r μ' ρ', f_X11_part G p μ = some (r, μ') ∧ f_X12_part G p ρ = some (r, ρ') ∧ AR bb μ' ρ' := by
  obtain ⟨W, M, H⟩ := id h
  have H0 : AT bb W M μ (wr ρ 0 0 (nI 0)) := told0 H
  have R0 := WR_of H0
  obtain ⟨hW, hM⟩ := WR_W R0
  rcases groom_of R0.1 p with ⟨g1, g2⟩ | ⟨g, hg, rfl, g1, g2⟩
  · exact no_st h (r := nI 0) (by simp (disch := omega) only [lit, neg1, nI_1, nI_add, pk_mul, pk_sub, nI_leI, nI_ltI, nI_eq, nI_eqm, chkn, ixn, if_pos, if_neg, bndV_s, bndE_s, bndO_s, reduceIte, irmn, iminn, imaxn, and_self, true_and, and_true, false_and, and_false, f_X11_part, g1]) (by simp (disch := omega) only [lit, neg1, nI_1, nI_add, pk_mul, pk_sub, nI_leI, nI_ltI, nI_eq, nI_eqm, chkn, ixn, if_pos, if_neg, bndV_s, bndE_s, bndO_s, reduceIte, irmn, iminn, imaxn, and_self, true_and, and_true, false_and, and_false, f_X12_part, g2])
  rcases wife_of (G := G) R0 hg with ⟨_, m, w⟩ | ⟨wf, hw, w0, m, w⟩
  · have m' : μ 4 g = nI 4294967295 := m
    exact no_st h (r := nI 0) (by simp (disch := omega) only [lit, neg1, nI_1, nI_add, pk_mul, pk_sub, nI_leI, nI_ltI, nI_eq, nI_eqm, chkn, ixn, if_pos, if_neg, bndV_s, bndE_s, bndO_s, reduceIte, irmn, iminn, imaxn, and_self, true_and, and_true, false_and, and_false, f_X11_part, g1, m']) (by simp (disch := omega) only [lit, neg1, nI_1, nI_add, pk_mul, pk_sub, nI_leI, nI_ltI, nI_eq, nI_eqm, chkn, ixn, if_pos, if_neg, bndV_s, bndE_s, bndO_s, reduceIte, irmn, iminn, imaxn, and_self, true_and, and_true, false_and, and_false, f_X12_part, g2, w])
  obtain ⟨μ1, ρ1, a1, a2, R1, C1, _, k2, fin⟩ := kept_AT hG H0
  have w1 : ρ1 1 (17 + g) = nI (wf + 1) := by rw [k2 1 (by omega) (by omega)]; exact w0
  obtain ⟨μ2, ρ2, b1, b2, b3, b4, b5⟩ := part_sim hG R1 hg w1 hw
  have m' : ¬ μ 4 g = nI 4294967295 := by rw [show μ 4 g = nI wf from m]; exact fun q => nI_m1 (by omega) q
  refine ⟨nI 1, μ2, ρ2, ?_, ?_, fin μ2 ρ2 b3 b4 b5⟩
  · have b1' : f_X7_parting G 2 (nI g) (nI 0) μ1 = some μ2 := b1
    simp (disch := omega) only [lit, neg1, nI_1, nI_add, pk_mul, pk_sub, nI_leI, nI_ltI, nI_eq, nI_eqm, chkn, ixn, if_pos, if_neg, bndV_s, bndE_s, bndO_s, reduceIte, irmn, iminn, imaxn, and_self, true_and, and_true, false_and, and_false, f_X11_part, g1, m', a1, b1']
  · simp (disch := omega) only [lit, neg1, nI_1, nI_add, pk_mul, pk_sub, nI_leI, nI_ltI, nI_eq, nI_eqm, chkn, ixn, if_pos, if_neg, bndV_s, bndE_s, bndO_s, reduceIte, irmn, iminn, imaxn, and_self, true_and, and_true, false_and, and_false, f_X12_part, g2, w, a2, b2]
theorem s_cough {G : Nat} {bb : Bool} {μ ρ : Mem} (hG : 500 ≤ G) (h : AR bb μ ρ) (p q : Int32) : ∃ r μ' ρ', f_X11_cough G p q μ = some (r, μ') ∧ f_X12_cough G p q ρ = some (r, ρ') ∧ AR bb μ' ρ' := by
  obtain ⟨W, M, H⟩ := id h
  have H0 : AT bb W M μ (wr ρ 0 0 (nI 0)) := told0 H
  have R0 := WR_of H0
  obtain ⟨hW, hM⟩ := WR_W R0
  rcases woman_of R0.1 p with ⟨g1, g2⟩ | ⟨w, hw, rfl, g1, g2⟩
  · exact no_st h (r := nI 0) (by simp (disch := omega) only [lit, neg1, nI_1, nI_add, pk_mul, pk_sub, nI_leI, nI_ltI, nI_eq, nI_eqm, chkn, ixn, if_pos, if_neg, bndV_s, bndE_s, bndO_s, reduceIte, irmn, iminn, imaxn, and_self, true_and, and_true, false_and, and_false, f_X11_cough, g1]) (by simp (disch := omega) only [lit, neg1, nI_1, nI_add, pk_mul, pk_sub, nI_leI, nI_ltI, nI_eq, nI_eqm, chkn, ixn, if_pos, if_neg, bndV_s, bndE_s, bndO_s, reduceIte, irmn, iminn, imaxn, and_self, true_and, and_true, false_and, and_false, f_X12_cough, g2])
  obtain ⟨c, c1, c2, c3, c4, c5⟩ := toCough (G := G) R0 hw
  by_cases e : (if c.testBit w = true then nI 1 else nI 0) = q
  · refine no_st h (r := nI 0) ?_ ?_
    · unfold f_X11_cough
      rw [g1, c4]
      exact (if_neg (by decide)).trans (if_pos e)
    · unfold f_X12_cough
      show (if f_X12_isWoman (wr ρ 0 0 (nI 0)) (nI w) = 0 then _ else if f_X12_has ((wr ρ 0 0 (nI 0)) 1 4) (nI w) = q then _ else _) = _
      rw [g2, c3, c5]
      exact (if_neg (by decide)).trans (if_pos e)
  obtain ⟨μ1, ρ1, a1, a2, R1, C1, k1, k2, fin⟩ := kept_AT hG H0
  have hx : c ^^^ 2 ^ w < 2 ^ W := Nat.xor_lt_two_pow c1 (pw_lt hw)
  have R2 := WR_cough R1 (c := nI (c ^^^ 2 ^ w)) ⟨_, hx, rfl⟩
  have e7 : μ1 2 7 = nI c := by rw [k1 2 (by omega)]; exact c2
  have e4 : ρ1 1 4 = nI c := by rw [k2 1 (by omega) (by omega)]; exact c3
  refine ⟨nI 1, _, _, ?_, ?_, fin _ _ R2 (Fc_s (Or.inl rfl) (fun x hx => wr_off (by omega))) (Fr_1 (fun x hx => wr_off hx) (wr_slot (by omega)))⟩
  · simp (disch := omega) only [lit, neg1, nI_1, nI_add, pk_mul, pk_sub, nI_leI, nI_ltI, nI_eq, nI_eqm, chkn, ixn, if_pos, if_neg, bndV_s, bndE_s, bndO_s, reduceIte, irmn, iminn, imaxn, and_self, true_and, and_true, false_and, and_false, f_X11_cough, g1, c4, e, a1, e7, sl1, b_nxor]
  · simp (disch := omega) only [lit, neg1, nI_1, nI_add, pk_mul, pk_sub, nI_leI, nI_ltI, nI_eq, nI_eqm, chkn, ixn, if_pos, if_neg, bndV_s, bndE_s, bndO_s, reduceIte, irmn, iminn, imaxn, and_self, true_and, and_true, false_and, and_false, f_X12_cough, g2, c3, c5, e, a2, e4, sl1, b_nxor]
end
