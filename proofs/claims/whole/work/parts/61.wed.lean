section
/-! a wedding: the questions -/
def AI (s : Nat) (t : Int32) (W M : Nat) (μ0 ρ0 μ ρ : Mem) : Prop := WR s t μ ρ W M ∧ Fc s t μ0 μ ∧ Fr t ρ0 ρ ∧ (∀ j, j < 3 → μ 96 j = ρ 26 j) ∧ μ 95 = μ0 95 ∧ ρ 25 = ρ0 25
theorem wed_in {G s W M gr q nq : Nat} {t : Int32} {μ0 ρ0 μ ρ : Mem} (hG : 500 ≤ G) (A : AI s t W M μ0 ρ0 μ ρ) (hg : gr < M) (hnq : ρ0 0 37 = nI nq) (hnq2 : nq ≤ 16) (hq : q < nq) (se : ∀ l, l < 3 → ∃ w, w < W ∧ μ0 95 l = nI w ∧ ρ0 25 l = nI w)
    (r20 : Int32 → Int32 → Int32 → Mem → Option (Int32 × Mem)) (k20 : Int32 → Int32 → Mem → Option (Int32 × Mem)) (k38 : Int32 → Int32 → Int32 → Mem → Option (Int32 × Mem)) (r22 : Int32 → Int32 → Mem → Option (Int32 × Mem)) (k22 : Mem → Option (Int32 × Mem)) (k32 : Int32 → Int32 → Mem → Option (Int32 × Mem)) :
    ∃ μ' ρ', f_X7_wedding_L38 G s r20 k20 k38 G (nI gr) t (nI q) 0 μ = k38 (nI gr) t (nI q) μ' ∧ f_X12_takes_L32 G r22 k22 k32 G (nI gr) (nI q) 0 ρ = k32 (nI gr) (nI q) ρ' ∧ AI s t W M μ0 ρ0 μ' ρ' := by
  obtain ⟨g', f', s', t', h1, h2, h3⟩ := loop2Z (fun g v m => f_X7_wedding_L38 G s r20 k20 k38 g (nI gr) t (nI q) v m) (fun g v m => f_X12_takes_L32 G r22 k22 k32 g (nI gr) (nI q) v m) 3 (fun _ a b => AI s t W M μ0 ρ0 a b) (by
    intro g f l a b hl ⟨A1, A2, A3, A4, A5, A6⟩
    obtain ⟨w, w1, w2, w3⟩ := se l hl
    have e0 : b 0 = ρ0 0 := A3.1 0 (by omega) (by omega) (by omega) (by omega) (by omega) (by omega)
    obtain ⟨c, a', b', b1, b2, b3, b4, b5, b6, b7, b8, b9, b10, b11, b12, b13⟩ := answer_sim hG A1 hg w1 hl (by rw [e0]; exact hnq) hnq2 hq (by rw [A5]; exact w2) (by rw [A6]; exact w3)
    refine ⟨wr a' 96 l (a 96 l + c), b', ?_, ?_, WR_scr b3 (fun x _ _ h3 _ => wr_off h3) (fun _ _ _ _ _ => rfl), Fc_tr A2 (Fc_tr b4 (Fc_scr (fun x _ _ h3 _ => wr_off h3))), Fr_tr A3 b5, ?_, ?_, ?_⟩
    · show f_X7_wedding_L38 G s r20 k20 k38 (g + 1) (nI gr) t (nI q) (nI l) a = f_X7_wedding_L38 G s r20 k20 k38 g (nI gr) t (nI q) (nI (l + 1)) (wr a' 96 l (a 96 l + c))
      simp (disch := omega) only [lit, neg1, nI_1, nI_add, pk_mul, pk_sub, nI_leI, nI_ltI, nI_eq, nI_eqm, chkn, ixn, if_pos, if_neg, bndV_s, bndE_s, bndO_s, reduceIte, irmn, iminn, imaxn, f_X7_wedding_L38, b1]
    · show f_X12_takes_L32 G r22 k22 k32 (f + 1) (nI gr) (nI q) (nI l) b = f_X12_takes_L32 G r22 k22 k32 f (nI gr) (nI q) (nI (l + 1)) b'
      simp (disch := omega) only [lit, neg1, nI_1, nI_add, pk_mul, pk_sub, nI_leI, nI_ltI, nI_eq, nI_eqm, chkn, ixn, if_pos, if_neg, bndV_s, bndE_s, bndO_s, reduceIte, irmn, iminn, imaxn, f_X12_takes_L32, b2]
    · intro j hj
      by_cases e : j = l
      · subst e; rw [wr_same, b6, A4 j hj]
      · rw [wr_slot e, b11, b7 j e, A4 j hj]
    · rw [wr_off (by omega), b10, A5]
    · rw [b12, A6]) (by omega : 3 < G) (by omega : 3 < G) (s := μ) (t := ρ) A
  refine ⟨s', t', ?_, ?_, h3⟩
  · refine Eq.trans h1 ?_
    show f_X7_wedding_L38 G s r20 k20 k38 (g' + 1) (nI gr) t (nI q) (nI 3) s' = _
    simp (disch := omega) only [lit, neg1, nI_1, nI_add, pk_mul, pk_sub, nI_leI, nI_ltI, nI_eq, nI_eqm, chkn, ixn, if_pos, if_neg, bndV_s, bndE_s, bndO_s, reduceIte, irmn, iminn, imaxn, f_X7_wedding_L38]
  · refine Eq.trans h2 ?_
    show f_X12_takes_L32 G r22 k22 k32 (f' + 1) (nI gr) (nI q) (nI 3) t' = _
    simp (disch := omega) only [lit, neg1, nI_1, nI_add, pk_mul, pk_sub, nI_leI, nI_ltI, nI_eq, nI_eqm, chkn, ixn, if_pos, if_neg, bndV_s, bndE_s, bndO_s, reduceIte, irmn, iminn, imaxn, f_X12_takes_L32]
theorem wed_qs {G s W M gr nq : Nat} {t : Int32} {μ0 ρ0 μ ρ : Mem} (hG : 500 ≤ G) (A : AI s t W M μ0 ρ0 μ ρ) (hg : gr < M) (hnq : ρ0 0 37 = nI nq) (hnq2 : nq ≤ 16) (se : ∀ l, l < 3 → ∃ w, w < W ∧ μ0 95 l = nI w ∧ ρ0 25 l = nI w)
    (k20 : Int32 → Int32 → Mem → Option (Int32 × Mem)) (k22 : Mem → Option (Int32 × Mem)) :
    ∃ μ' ρ', f_X7_wedding_L20 G s k20 G (nI gr) t 0 μ = k20 (nI gr) t μ' ∧ f_X12_takes_L22 G k22 G (nI gr) 0 ρ = k22 ρ' ∧ AI s t W M μ0 ρ0 μ' ρ' := by
  have cnt : ∀ a b, AI s t W M μ0 ρ0 a b → a 20 3 = nI nq ∧ b 0 37 = nI nq := by
    intro a b ⟨A1, A2, A3, A4, A5, A6⟩
    have e0 : b 0 37 = nI nq := by rw [A3.1 0 (by omega) (by omega) (by omega) (by omega) (by omega) (by omega)]; exact hnq
    obtain ⟨n, n1, n2, n3, n4⟩ := WR_q A1
    exact ⟨by rw [n2, ← n3, e0], e0⟩
  obtain ⟨g', f', s', t', h1, h2, h3⟩ := loop2Z (fun g v m => f_X7_wedding_L20 G s k20 g (nI gr) t v m) (fun g v m => f_X12_takes_L22 G k22 g (nI gr) v m) nq (fun _ a b => AI s t W M μ0 ρ0 a b) (by
    intro g f q a b hq A
    obtain ⟨c1, c2⟩ := cnt a b A
    obtain ⟨a', b', b1, b2, b3⟩ := wed_in hG A hg hnq hnq2 hq se (f_X7_wedding_L20 G s k20 g) k20 (f_X7_wedding_j72 G s (f_X7_wedding_L20 G s k20 g) k20) (f_X12_takes_L22 G k22 f) k22 (f_X12_takes_j50 G (f_X12_takes_L22 G k22 f) k22)
    refine ⟨a', b', ?_, ?_, b3⟩
    · show f_X7_wedding_L20 G s k20 (g + 1) (nI gr) t (nI q) a = f_X7_wedding_L20 G s k20 g (nI gr) t (nI (q + 1)) a'
      simp (disch := omega) only [lit, neg1, nI_1, nI_add, pk_mul, pk_sub, nI_leI, nI_ltI, nI_eq, nI_eqm, chkn, ixn, if_pos, if_neg, bndV_s, bndE_s, bndO_s, reduceIte, irmn, iminn, imaxn, f_X7_wedding_L20, c1]
      refine Eq.trans b1 ?_
      simp (disch := omega) only [lit, neg1, nI_1, nI_add, pk_mul, pk_sub, nI_leI, nI_ltI, nI_eq, nI_eqm, chkn, ixn, if_pos, if_neg, bndV_s, bndE_s, bndO_s, reduceIte, irmn, iminn, imaxn, f_X7_wedding_j72]
    · show f_X12_takes_L22 G k22 (f + 1) (nI gr) (nI q) b = f_X12_takes_L22 G k22 f (nI gr) (nI (q + 1)) b'
      simp (disch := omega) only [lit, neg1, nI_1, nI_add, pk_mul, pk_sub, nI_leI, nI_ltI, nI_eq, nI_eqm, chkn, ixn, if_pos, if_neg, bndV_s, bndE_s, bndO_s, reduceIte, irmn, iminn, imaxn, f_X12_takes_L22, c2]
      refine Eq.trans b2 ?_
      simp (disch := omega) only [lit, neg1, nI_1, nI_add, pk_mul, pk_sub, nI_leI, nI_ltI, nI_eq, nI_eqm, chkn, ixn, if_pos, if_neg, bndV_s, bndE_s, bndO_s, reduceIte, irmn, iminn, imaxn, f_X12_takes_j50]) (by omega : nq < G) (by omega : nq < G) (s := μ) (t := ρ) A
  obtain ⟨c1, c2⟩ := cnt s' t' h3
  refine ⟨s', t', ?_, ?_, h3⟩
  · refine Eq.trans h1 ?_
    show f_X7_wedding_L20 G s k20 (g' + 1) (nI gr) t (nI nq) s' = _
    simp (disch := omega) only [lit, neg1, nI_1, nI_add, pk_mul, pk_sub, nI_leI, nI_ltI, nI_eq, nI_eqm, chkn, ixn, if_pos, if_neg, bndV_s, bndE_s, bndO_s, reduceIte, irmn, iminn, imaxn, f_X7_wedding_L20, c1]
  · refine Eq.trans h2 ?_
    show f_X12_takes_L22 G k22 (f' + 1) (nI gr) (nI nq) t' = _
    simp (disch := omega) only [lit, neg1, nI_1, nI_add, pk_mul, pk_sub, nI_leI, nI_ltI, nI_eq, nI_eqm, chkn, ixn, if_pos, if_neg, bndV_s, bndE_s, bndO_s, reduceIte, irmn, iminn, imaxn, f_X12_takes_L22, c2]
/-! the coughs -/
theorem WR_cough {s W M : Nat} {t c : Int32} {μ ρ : Mem} (R : WR s t μ ρ W M) (hc : ∃ k, k < 2 ^ W ∧ c = nI k) : WR s t (wr μ s 7 c) (wr ρ 1 4 c) W M := by
  obtain ⟨a1, a2, a3, a4, a5, a6, a7, a8⟩ := R
  have hs : s = 2 ∨ s = 99 := by rcases a8 with ⟨_, e⟩ | ⟨_, e⟩ <;> omega
  have m : ∀ x, x ≠ s → (wr μ s 7 c) x = μ x := fun x hx => wr_off hx
  have r : ∀ x, x ≠ 1 → (wr ρ 1 4 c) x = ρ x := fun x hx => wr_off hx
  have r1 : ∀ j, j ≠ 4 → (wr ρ 1 4 c) 1 j = ρ 1 j := fun j hj => wr_slot hj
  refine ⟨PpR_o a1 (m _ (by omega)) (fun x _ _ => m x (by omega)) (by rw [r 0 (by omega)]) (by rw [r 0 (by omega)]) (fun x _ _ => r x (by omega)), LwR_o a2 (fun x _ _ => m x (by omega)) (fun x _ _ => r x (by omega)), QuR_o a3 (m _ (by omega)) (m _ (by omega)) (by rw [r 0 (by omega)]) (r _ (by omega)), RcR_o a4 (m _ (by omega)) (m _ (by omega)) (r1 2 (by omega)) (r _ (by omega)), ?_, ?_, by rw [r 0 (by omega)]; exact a7, a8⟩
  · obtain ⟨s1, s2, s3, s4, s5, s6, s7, s8, s9, s10⟩ := a5
    refine ⟨?_, ?_, ?_, ?_, ?_, ?_, ?_, ?_, ?_, ?_⟩
    · rw [wr_slot (by omega), r1 _ (by omega)]; exact s1
    · rw [wr_slot (by omega), r1 _ (by omega)]; exact s2
    · rw [m 26 (by omega), r1 _ (by omega)]; exact s3
    · rw [wr_slot (by omega), r1 _ (by omega)]; exact s4
    · rw [wr_same]; exact wr_same.symm
    · intro k hk; rw [m _ (by omega), r1 _ (by omega)]; exact s6 k hk
    · intro k hk; rw [m _ (by omega), r1 _ (by omega)]; exact s7 k hk
    · intro k hk; rw [m _ (by omega), r1 _ (by omega)]; exact s8 k hk
    · intro k hk; rw [m _ (by omega), r1 _ (by omega)]; exact s9 k hk
    · intro k hk; rw [m _ (by omega), r1 _ (by omega)]; exact s10 k hk
  · obtain ⟨i1, i2, i3, i4, i5, i6, i7⟩ := a6
    exact ⟨by rw [r1 _ (by omega)]; exact i1, by obtain ⟨k, k1, k2⟩ := hc; exact ⟨k, k1, by rw [← k2]; exact wr_same⟩, fun w h1 h2 => by rw [r1 _ (by omega)]; exact i3 w h1 h2, fun w h1 => by rw [r1 _ (by omega)]; exact i4 w h1, fun w h1 h2 => by rw [r1 _ (by omega)]; exact i5 w h1 h2, fun w h1 => by rw [r1 _ (by omega)]; exact i6 w h1, fun w h1 h2 => by rw [r1 _ (by omega)]; exact i7 w h1 h2⟩
end
