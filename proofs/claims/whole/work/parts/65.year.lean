section
/-! to part, a year of a groom -/
theorem wife_of {G s W M g : Nat} {t : Int32} {μ ρ : Mem} (R : WR s t μ ρ W M) (hg : g < M) :
    (ρ 1 (17 + g) = nI 0 ∧ μ (s + 2) g = nI 4294967295 ∧ f_X12_wifeOf G ρ (nI g) = some (nI 4294967295)) ∨ ∃ w, w < W ∧ ρ 1 (17 + g) = nI (w + 1) ∧ μ (s + 2) g = nI w ∧ f_X12_wifeOf G ρ (nI g) = some (nI w) := by
  obtain ⟨hW, hM⟩ := WR_W R
  obtain ⟨v, v1, v2, v3⟩ := R.2.2.2.2.2.1.2.2.2.1 g (by omega)
  have e := R.2.2.2.2.1.2.2.2.2.2.2.1 g (by omega)
  rw [Nat.zero_add] at v2 e
  rw [v2] at e
  have hf : f_X12_wifeOf G ρ (nI g) = some (nI v - 1) := by
    unfold f_X12_wifeOf
    rw [show (17 : Int32) + nI g = nI (17 + g) by simp only [lit, nI_add], chkn (by omega) (by omega), ixn (by omega), v2]
  by_cases h : v = 0
  · subst h
    refine Or.inl ⟨v2, ?_, hf⟩
    have e2 : nI 4294967295 + 1 = nI 0 := rfl
    grind
  · obtain ⟨w, rfl⟩ : ∃ w, v = w + 1 := ⟨v - 1, by omega⟩
    refine Or.inr ⟨w, by omega, v2, ?_, ?_⟩
    · rw [← nI_1] at e
      grind
    · rw [hf, nI_pred]
theorem isW9 {W : Nat} {μ : Mem} (h : μ 1 6 = nI W) (hW : W ≤ 12) : f_X0_isWoman μ (nI 4294967295) = nI 0 := by
  rw [isW0 h hW, if_neg (by rintro ⟨h1, _⟩; exact absurd h1 (by decide))]; rfl
theorem part_sim {G s W M g w : Nat} {t : Int32} {μ ρ : Mem} (hG : 500 ≤ G) (R : WR s t μ ρ W M) (hg : g < M) (hv : ρ 1 (17 + g) = nI (w + 1)) (hw : w < W) :
    ∃ μ' ρ', f_X7_parting G s (nI g) t μ = some μ' ∧ f_X12_parts G (nI g) ρ = some ρ' ∧ WR s t μ' ρ' W M ∧ Fc s t μ μ' ∧ Fr t ρ ρ' := by
  obtain ⟨hW, hM⟩ := WR_W R
  have hs := WR_s R
  have m0 : μ (s + 2) g = nI w := by
    rcases wife_of (G := G) R hg with ⟨a, _⟩ | ⟨w', a, b, c, _⟩
    · rw [hv] at a; exact absurd ((nI_eq (by omega) (by omega)).mp a) (by omega)
    · rw [hv] at b; have := (nI_eq (by omega) (by omega)).mp b; rw [c]; congr 1; omega
  have m3 : μ (s + 3) g = ρ 1 (25 + g) := by have := R.2.2.2.2.1.2.2.2.2.2.2.2.1 g (by omega); rw [this, Nat.zero_add]
  have iw := isW1 R.1.1 hW hw
  have ig := isG1 R.1.2.2.2.1 hM hg
  obtain ⟨μ1, ρ1, a1, a2, a3, a4, a5, a6, a7, a8⟩ := write_sim (a := nI 5) (b := nI g) (c := ρ 1 (25 + g)) hG R
  have e17 : ρ1 1 (17 + g) = nI (w + 1) := by rw [a8 _ (by omega), hv]
  have wf : f_X12_wifeOf G ρ1 (nI g) = some (nI w) := by
    rcases wife_of (G := G) a3 hg with ⟨a, _⟩ | ⟨w', a, b, c, d⟩
    · rw [e17] at a; exact absurd ((nI_eq (by omega) (by omega)).mp a) (by omega)
    · rw [e17] at b; have := (nI_eq (by omega) (by omega)).mp b; rw [d, show w' = w by omega]
  refine ⟨wr (wr (wr μ1 (s + 1) w (nI 4294967295)) (s + 2) g (nI 4294967295)) (s + 3) g (nI 0), wr (wr (wr ρ1 1 (5 + w) (nI 0)) 1 (17 + g) (nI 0)) 1 (25 + g) (nI 0), ?_, ?_, ?_, ?_, ?_⟩
  · simp (disch := omega) only [lit, neg1, nI_1, nI_add, pk_mul, pk_sub, nI_leI, nI_ltI, nI_eq, nI_eqm, chkn, ixn, if_pos, if_neg, bndV_s, bndE_s, bndO_s, reduceIte, irmn, iminn, imaxn, f_X7_parting, ig, m0, f_X7_parting_j21, iw, m3, a1]
  · simp (disch := omega) only [lit, neg1, nI_1, nI_add, pk_mul, pk_sub, nI_leI, nI_ltI, nI_eq, nI_eqm, chkn, ixn, if_pos, if_neg, bndV_s, bndE_s, bndO_s, reduceIte, irmn, iminn, imaxn, f_X12_parts, a2, wf]
  · refine WR_st a3 (fun y hy => by rw [wr_off (by omega), wr_off (by omega), wr_off (by omega)]) (fun y hy => by rw [wr_off hy, wr_off hy, wr_off hy]) (by rw [wr_slot (by omega), wr_slot (by omega), wr_slot (by omega)]) ?_ ?_
    · obtain ⟨s1, s2, s3, s4, s5, s6, s7, s8, s9, s10⟩ := a3.2.2.2.2.1
      simp only [Nat.zero_add] at s1 s2 s3 s4 s5 s6 s7 s8 s9 s10
      have e2 : nI 4294967295 + 1 = nI 0 := rfl
      refine ⟨?_, ?_, ?_, ?_, ?_, ?_, ?_, ?_, ?_, ?_⟩ <;> simp only [wr, Nat.zero_add] <;> grind
    · obtain ⟨i1, i2, i3, i4, i5, i6, i7⟩ := a3.2.2.2.2.2.1
      simp only [Nat.zero_add] at i1 i2 i3 i4 i5 i6 i7
      have e2 : nI 0 = (0 : Int32) := rfl
      refine ⟨?_, ?_, ?_, ?_, ?_, ?_, ?_⟩ <;> simp only [wr, Nat.zero_add] <;> grind
  · exact Fc_tr a4 (Fc_s hs (fun x hx => by rw [wr_off (by omega), wr_off (by omega), wr_off (by omega)]))
  · exact Fr_tr a5 (Fr_1 (fun x hx => by rw [wr_off hx, wr_off hx, wr_off hx]) (by rw [wr_slot (by omega), wr_slot (by omega), wr_slot (by omega)]))
theorem WR_glad {s W M g : Nat} {t x : Int32} {μ ρ : Mem} (R : WR s t μ ρ W M) (hg : g < M) : WR s t (wr μ (s + 3) g x) (wr ρ 1 (25 + g) x) W M := by
  obtain ⟨hW, hM⟩ := WR_W R
  refine WR_st R (fun y hy => wr_off (by omega)) (fun y hy => wr_off hy) (wr_slot (by omega)) ?_ ?_
  · obtain ⟨s1, s2, s3, s4, s5, s6, s7, s8, s9, s10⟩ := R.2.2.2.2.1
    simp only [Nat.zero_add] at s1 s2 s3 s4 s5 s6 s7 s8 s9 s10
    refine ⟨?_, ?_, ?_, ?_, ?_, ?_, ?_, ?_, ?_, ?_⟩ <;> simp only [wr, Nat.zero_add] <;> grind
  · obtain ⟨i1, i2, i3, i4, i5, i6, i7⟩ := R.2.2.2.2.2.1
    simp only [Nat.zero_add] at i1 i2 i3 i4 i5 i6 i7
    refine ⟨?_, ?_, ?_, ?_, ?_, ?_, ?_⟩ <;> simp only [wr, Nat.zero_add] <;> grind
theorem WR_child {s W M g k : Nat} {t : Int32} {μ ρ : Mem} (R : WR s t μ ρ W M) (hg : g < M) (hk : k ≤ 20) : WR s t (wr μ (s + 4) g (nI k)) (wr ρ 1 (33 + g) (nI k)) W M := by
  obtain ⟨hW, hM⟩ := WR_W R
  refine WR_st R (fun y hy => wr_off (by omega)) (fun y hy => wr_off hy) (wr_slot (by omega)) ?_ ?_
  · obtain ⟨s1, s2, s3, s4, s5, s6, s7, s8, s9, s10⟩ := R.2.2.2.2.1
    simp only [Nat.zero_add] at s1 s2 s3 s4 s5 s6 s7 s8 s9 s10
    refine ⟨?_, ?_, ?_, ?_, ?_, ?_, ?_, ?_, ?_, ?_⟩ <;> simp only [wr, Nat.zero_add] <;> grind
  · obtain ⟨i1, i2, i3, i4, i5, i6, i7⟩ := R.2.2.2.2.2.1
    simp only [Nat.zero_add] at i1 i2 i3 i4 i5 i6 i7
    refine ⟨?_, ?_, ?_, ?_, ?_, ?_, ?_⟩ <;> simp only [wr, Nat.zero_add] <;> grind
theorem WR_year {s W M : Nat} {t : Int32} {μ ρ : Mem} (R : WR s t μ ρ W M) : WR s t (wr μ s 5 (μ s 5 + 1)) (wr ρ 1 0 (ρ 1 0 + 1)) W M := by
  refine WR_st R (fun y hy => wr_off (by omega)) (fun y hy => wr_off hy) (wr_slot (by omega)) ?_ ?_
  · obtain ⟨s1, s2, s3, s4, s5, s6, s7, s8, s9, s10⟩ := R.2.2.2.2.1
    simp only [Nat.zero_add] at s1 s2 s3 s4 s5 s6 s7 s8 s9 s10
    refine ⟨?_, ?_, ?_, ?_, ?_, ?_, ?_, ?_, ?_, ?_⟩ <;> simp only [wr, Nat.zero_add] <;> grind
  · obtain ⟨i1, i2, i3, i4, i5, i6, i7⟩ := R.2.2.2.2.2.1
    simp only [Nat.zero_add] at i1 i2 i3 i4 i5 i6 i7
    refine ⟨?_, ?_, ?_, ?_, ?_, ?_, ?_⟩ <;> simp only [wr, Nat.zero_add] <;> grind
end
