section
theorem pass1 {G s W M : Nat} {t : Int32} {μ ρ : Mem} (hG : 500 ≤ G) (R : WR s t μ ρ W M) (C : CaR 1 μ ρ W M) (k11 : Int32 → Mem → Option (Int32 × Mem)) (k2 : Mem → Option (Int32 × Mem)) :
    ∃ μ' ρ', f_X7_passYear_L11 G s k11 G t 0 μ = k11 t μ' ∧ f_X12_goesBy_L2 G k2 G 0 ρ = k2 ρ' ∧ WR s t μ' ρ' W M ∧ Fc s t μ μ' ∧ Fr t ρ ρ' := by
  have hs := WR_s R
  obtain ⟨n, n1, n2, n3⟩ := C
  have n1 : LnR μ 22 16 6 n := n1
  have n3 : ∀ i, i < n → DeR (μ 23) (ρ 21) W M (6 * i) (6 * i) := n3
  have hn : n ≤ 16 := n1.2.2.2
  have fr : ∀ a b, Fc s t μ a → Fr t ρ b → a 22 = μ 22 ∧ a 23 = μ 23 ∧ b 0 = ρ 0 ∧ b 21 = ρ 21 := fun a b A B => ⟨A.1 22 (by omega) (by omega) (by omega) (by omega) (by omega) (by omega) (by omega), A.1 23 (by omega) (by omega) (by omega) (by omega) (by omega) (by omega) (by omega), B.1 0 (by omega) (by omega) (by omega) (by omega) (by omega) (by omega), B.1 21 (by omega) (by omega) (by omega) (by omega) (by omega) (by omega)⟩
  obtain ⟨g', f', s', t', h1, h2, h3, h4, h5⟩ := loop2Z (fun g v m => f_X7_passYear_L11 G s k11 g t v m) (fun g v m => f_X12_goesBy_L2 G k2 g v m) n (fun _ a b => WR s t a b W M ∧ Fc s t μ a ∧ Fr t ρ b) (by
    intro g f i a b hi ⟨A1, A2, A3⟩
    obtain ⟨q1, q2, q3, q4⟩ := fr a b A2 A3
    have hn' : LnR a 22 16 6 n := LnR_o n1 q1
    obtain ⟨a', b', c1, c2, c3, c4, c5⟩ := deed_sim hG A1 hn' hi (by rw [q2, q4]; exact n3 i hi) k11 (f_X7_passYear_L11 G s k11 g) k2 (f_X12_goesBy_L2 G k2 f) (fun m => f_X7_passYear_L11 G s k11 (g + 1) t (nI i) m) (by
      have e : a 22 3 = nI n := hn'.2.2.1
      show f_X7_passYear_L11 G s k11 (g + 1) t (nI i) a = _
      rw [f_X7_passYear_L11, if_neg (by rw [e]; exact nI_ge hi (by omega))]
      rfl)
    refine ⟨a', b', c1, ?_, c3, Fc_tr A2 c4, Fr_tr A3 c5⟩
    rw [← c2]
    have e : b 0 39 = nI n := by rw [q3]; exact n2
    show f_X12_goesBy_L2 G k2 (f + 1) (nI i) b = _
    rw [f_X12_goesBy_L2, if_neg (by rw [e]; exact nI_ge hi (by omega)), show (6 : Int32) * nI i = nI (6 * i) by simp only [lit, pk_mul], chkn (by omega) (by omega), ixn (by omega)]) (by omega : n < G) (by omega : n < G) (s := μ) (t := ρ) ⟨R, Fc_rfl, Fr_rfl⟩
  obtain ⟨q1, q2, q3, q4⟩ := fr s' t' h4 h5
  refine ⟨s', t', ?_, ?_, h3, h4, h5⟩
  · refine Eq.trans h1 ?_
    have e : s' 22 3 = nI n := by rw [q1]; exact n1.2.2.1
    show f_X7_passYear_L11 G s k11 (g' + 1) t (nI n) s' = _
    simp (disch := omega) only [lit, neg1, nI_1, nI_add, pk_mul, pk_sub, nI_leI, nI_ltI, nI_eq, nI_eqm, chkn, ixn, if_pos, if_neg, bndV_s, bndE_s, bndO_s, reduceIte, irmn, iminn, imaxn, f_X7_passYear_L11, e]
  · refine Eq.trans h2 ?_
    have e : t' 0 39 = nI n := by rw [q3]; exact n2
    show f_X12_goesBy_L2 G k2 (f' + 1) (nI n) t' = _
    simp (disch := omega) only [lit, neg1, nI_1, nI_add, pk_mul, pk_sub, nI_leI, nI_ltI, nI_eq, nI_eqm, chkn, ixn, if_pos, if_neg, bndV_s, bndE_s, bndO_s, reduceIte, irmn, iminn, imaxn, f_X12_goesBy_L2, e]
theorem pass2 {G s W M : Nat} {t : Int32} {μ ρ : Mem} (hG : 500 ≤ G) (R : WR s t μ ρ W M) :
    ∃ r μ' ρ', f_X7_passYear_L168 G s G t 0 0 μ = some (r, μ') ∧ f_X12_goesBy_L46 G G 0 0 ρ = some (r, ρ') ∧ WR s t μ' ρ' W M ∧ Fc s t μ μ' ∧ Fr t ρ ρ' := by
  have hs := WR_s R
  obtain ⟨hW, hM⟩ := WR_W R
  obtain ⟨g', f', s', t', h1, h2, h3, h4, h5, h6⟩ := loop2Z (fun g v (m : Int32 × Mem) => f_X7_passYear_L168 G s g t m.1 v m.2) (fun g v (m : Int32 × Mem) => f_X12_goesBy_L46 G g m.1 v m.2) M (fun _ a b => a.1 = b.1 ∧ WR s t a.2 b.2 W M ∧ Fc s t μ a.2 ∧ Fr t ρ b.2) (by
    intro g f i ⟨x, a⟩ ⟨y, b⟩ hi ⟨A0, A1, A2, A3⟩
    dsimp only at A0 A1 A2 A3
    subst A0
    have e1 : a 1 7 = nI M := A1.1.2.2.2.1
    have e2 : b 0 7 = nI M := A1.1.2.2.2.2.1
    show ∃ s' t', f_X7_passYear_L168 G s (g + 1) t x (nI i) a = f_X7_passYear_L168 G s g t (Prod.fst s') (nI (i + 1)) (Prod.snd s') ∧ f_X12_goesBy_L46 G (f + 1) x (nI i) b = f_X12_goesBy_L46 G f (Prod.fst t') (nI (i + 1)) (Prod.snd t') ∧ _
    rcases wife_of (G := G) A1 hi with ⟨_, m, w⟩ | ⟨wf, hw, w0, m, w⟩
    · refine ⟨(x, a), (x, b), ?_, ?_, rfl, A1, A2, A3⟩
      · simp (disch := omega) only [lit, neg1, nI_1, nI_add, pk_mul, pk_sub, nI_leI, nI_ltI, nI_eq, nI_eqm, chkn, ixn, if_pos, if_neg, bndV_s, bndE_s, bndO_s, reduceIte, irmn, iminn, imaxn, f_X7_passYear_L168, e1, m, f_X7_passYear_j212]
      · simp (disch := omega) only [lit, neg1, nI_1, nI_add, pk_mul, pk_sub, nI_leI, nI_ltI, nI_eq, nI_eqm, chkn, ixn, if_pos, if_neg, bndV_s, bndE_s, bndO_s, reduceIte, irmn, iminn, imaxn, f_X12_goesBy_L46, e2, w, f_X12_goesBy_j75]
    · obtain ⟨r, a', b', hr, c1, c2, c3, c4, c5⟩ := live_sim hG A1 hi w0 hw
      have m' : ¬ a (s + 2) i = nI 4294967295 := by rw [m]; exact fun q => nI_m1 (by omega) q
      rcases hr with rfl | rfl
      · refine ⟨(x, a'), (x, b'), ?_, ?_, rfl, c3, Fc_tr A2 c4, Fr_tr A3 c5⟩
        · simp (disch := omega) only [lit, neg1, nI_1, nI_add, pk_mul, pk_sub, nI_leI, nI_ltI, nI_eq, nI_eqm, chkn, ixn, if_pos, if_neg, bndV_s, bndE_s, bndO_s, reduceIte, irmn, iminn, imaxn, f_X7_passYear_L168, e1, m', c1, f_X7_passYear_j212]
        · simp (disch := omega) only [lit, neg1, nI_1, nI_add, pk_mul, pk_sub, nI_leI, nI_ltI, nI_eq, nI_eqm, chkn, ixn, if_pos, if_neg, bndV_s, bndE_s, bndO_s, reduceIte, irmn, iminn, imaxn, f_X12_goesBy_L46, e2, w, c2, f_X12_goesBy_j75]
      · refine ⟨(x + nI 1, a'), (x + nI 1, b'), ?_, ?_, rfl, c3, Fc_tr A2 c4, Fr_tr A3 c5⟩
        · simp (disch := omega) only [lit, neg1, nI_1, nI_add, pk_mul, pk_sub, nI_leI, nI_ltI, nI_eq, nI_eqm, chkn, ixn, if_pos, if_neg, bndV_s, bndE_s, bndO_s, reduceIte, irmn, iminn, imaxn, f_X7_passYear_L168, e1, m', c1, f_X7_passYear_j212]
        · simp (disch := omega) only [lit, neg1, nI_1, nI_add, pk_mul, pk_sub, nI_leI, nI_ltI, nI_eq, nI_eqm, chkn, ixn, if_pos, if_neg, bndV_s, bndE_s, bndO_s, reduceIte, irmn, iminn, imaxn, f_X12_goesBy_L46, e2, w, c2, f_X12_goesBy_j75]) (by omega : M < G) (by omega : M < G) (s := (0, μ)) (t := (0, ρ)) ⟨rfl, R, Fc_rfl, Fr_rfl⟩
  obtain ⟨x, a⟩ := s'
  obtain ⟨y, b⟩ := t'
  dsimp only at h3 h4 h5 h6
  subst h3
  have e1 : a 1 7 = nI M := h4.1.2.2.2.1
  have e2 : b 0 7 = nI M := h4.1.2.2.2.2.1
  refine ⟨x, _, _, ?_, ?_, WR_year h4, Fc_tr h5 (Fc_s hs (fun x hx => wr_off (by omega))), Fr_tr h6 (Fr_1 (fun x hx => wr_off hx) (wr_slot (by omega)))⟩
  · refine Eq.trans h1 ?_
    show f_X7_passYear_L168 G s (g' + 1) t x (nI M) a = _
    rw [f_X7_passYear_L168, if_pos (by rw [e1]; exact nI_le (by omega) (by omega))]
  · refine Eq.trans h2 ?_
    show f_X12_goesBy_L46 G (f' + 1) x (nI M) b = _
    rw [f_X12_goesBy_L46, if_pos (by rw [e2]; exact nI_le (by omega) (by omega))]
theorem pass_sim {G s W M : Nat} {t : Int32} {μ ρ : Mem} (hG : 500 ≤ G) (R : WR s t μ ρ W M) (C : CaR 1 μ ρ W M) :
    ∃ r μ' ρ', f_X7_passYear G s t μ = some (r, μ') ∧ f_X12_goesBy G ρ = some (r, ρ') ∧ WR s t μ' ρ' W M ∧ CaR 1 μ' ρ' W M ∧ Fc s t μ μ' ∧ Fr t ρ ρ' := by
  have hs := WR_s R
  obtain ⟨μ1, ρ1, a1, a2, a3, a4, a5⟩ := pass1 hG R C (f_X7_passYear_j162 G s) (f_X12_goesBy_j42 G)
  obtain ⟨r, μ2, ρ2, b1, b2, b3, b4, b5⟩ := pass2 hG a3
  have F := Fc_tr a4 b4
  have F2 := Fr_tr a5 b5
  refine ⟨r, μ2, ρ2, a1.trans b1, a2.trans b2, b3, CaR_o C (F.1 22 (by omega) (by omega) (by omega) (by omega) (by omega) (by omega) (by omega)) (F.1 23 (by omega) (by omega) (by omega) (by omega) (by omega) (by omega) (by omega)) (by rw [F2.1 0 (by omega) (by omega) (by omega) (by omega) (by omega) (by omega)]) (F2.1 21 (by omega) (by omega) (by omega) (by omega) (by omega) (by omega)), F, F2⟩
end
