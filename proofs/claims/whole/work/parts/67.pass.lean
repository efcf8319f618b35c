section
theorem free_of {G s W M w : Nat} {t : Int32} {μ ρ : Mem} (R : WR s t μ ρ W M) (hw : w < 12) : (μ (s + 1) w = nI 4294967295 ∧ f_X12_isFree G ρ (nI w) = some (nI 1)) ∨ (¬ μ (s + 1) w = nI 4294967295 ∧ f_X12_isFree G ρ (nI w) = some (nI 0)) := by
  have e := R.2.2.2.2.1.2.2.2.2.2.1 w hw
  rw [Nat.zero_add] at e
  have e2 : nI 4294967295 + 1 = (0 : Int32) := rfl
  have h0 : nI 0 = (0 : Int32) := rfl
  by_cases h : ρ 1 (5 + w) = nI 0
  · refine Or.inl ⟨by grind, ?_⟩
    simp (disch := omega) only [lit, neg1, nI_1, nI_add, pk_mul, pk_sub, nI_leI, nI_ltI, nI_eq, nI_eqm, chkn, ixn, if_pos, if_neg, bndV_s, bndE_s, bndO_s, reduceIte, irmn, iminn, imaxn, f_X12_isFree, h]
  · refine Or.inr ⟨by grind, ?_⟩
    simp (disch := omega) only [lit, neg1, nI_1, nI_add, pk_mul, pk_sub, nI_leI, nI_ltI, nI_eq, nI_eqm, chkn, ixn, if_pos, if_neg, bndV_s, bndE_s, bndO_s, reduceIte, irmn, iminn, imaxn, f_X12_isFree, h]
theorem three1 {W a b c : Nat} {μ : Mem} (h : μ 1 6 = nI W) (hW : W ≤ 12) (ha : a < W) (hb : b < W) (hc : c < W) (h1 : a ≠ b) (h2 : b ≠ c) (h3 : a ≠ c) : f_X0_areThree μ (nI a) (nI b) (nI c) = nI 1 := by
  have e1 := isW1 h hW ha
  have e2 := isW1 h hW hb
  have e3 := isW1 h hW hc
  simp (disch := omega) only [lit, neg1, nI_1, nI_add, pk_mul, pk_sub, nI_leI, nI_ltI, nI_eq, nI_eqm, chkn, ixn, if_pos, if_neg, bndV_s, bndE_s, bndO_s, reduceIte, irmn, iminn, imaxn, f_X0_areThree, e1, e2, e3]
theorem canWed_sim {G s W M g a b c : Nat} {t : Int32} {μ ρ : Mem} (R : WR s t μ ρ W M) (hg : g < M) (ha : a < W) (hb : b < W) (hc : c < W) (h1 : a ≠ b) (h2 : b ≠ c) (h3 : a ≠ c) :
    ∃ v, (v = nI 0 ∨ v = nI 1) ∧ f_X7_canWed G s μ (nI g) (nI a) (nI b) (nI c) = some v ∧ f_X12_canWed G ρ (nI g) (nI a) (nI b) (nI c) = some v := by
  obtain ⟨hW, hM⟩ := WR_W R
  have ig := isG1 R.1.2.2.2.1 hM hg
  have i3 := three1 R.1.1 hW ha hb hc h1 h2 h3
  rcases wife_of (G := G) R hg with ⟨_, m, f⟩ | ⟨w, hw, _, m, f⟩
  · rcases free_of (G := G) R (show a < 12 by omega) with ⟨ma, fa⟩ | ⟨ma, fa⟩
    · rcases free_of (G := G) R (show b < 12 by omega) with ⟨mb, fb⟩ | ⟨mb, fb⟩
      · rcases free_of (G := G) R (show c < 12 by omega) with ⟨mc, fc⟩ | ⟨mc, fc⟩
        · exact ⟨nI 1, Or.inr rfl, by simp (disch := omega) only [lit, neg1, nI_1, nI_add, pk_mul, pk_sub, nI_leI, nI_ltI, nI_eq, nI_eqm, chkn, ixn, if_pos, if_neg, bndV_s, bndE_s, bndO_s, reduceIte, irmn, iminn, imaxn, f_X7_canWed, ig, i3, m, ma, mb, mc], by simp (disch := omega) only [lit, neg1, nI_1, nI_add, pk_mul, pk_sub, nI_leI, nI_ltI, nI_eq, nI_eqm, chkn, ixn, if_pos, if_neg, bndV_s, bndE_s, bndO_s, reduceIte, irmn, iminn, imaxn, f_X12_canWed, f, fa, fb, fc]⟩
        · exact ⟨nI 0, Or.inl rfl, by simp (disch := omega) only [lit, neg1, nI_1, nI_add, pk_mul, pk_sub, nI_leI, nI_ltI, nI_eq, nI_eqm, chkn, ixn, if_pos, if_neg, bndV_s, bndE_s, bndO_s, reduceIte, irmn, iminn, imaxn, f_X7_canWed, ig, i3, m, ma, mb, mc], by simp (disch := omega) only [lit, neg1, nI_1, nI_add, pk_mul, pk_sub, nI_leI, nI_ltI, nI_eq, nI_eqm, chkn, ixn, if_pos, if_neg, bndV_s, bndE_s, bndO_s, reduceIte, irmn, iminn, imaxn, f_X12_canWed, f, fa, fb, fc]⟩
      · exact ⟨nI 0, Or.inl rfl, by simp (disch := omega) only [lit, neg1, nI_1, nI_add, pk_mul, pk_sub, nI_leI, nI_ltI, nI_eq, nI_eqm, chkn, ixn, if_pos, if_neg, bndV_s, bndE_s, bndO_s, reduceIte, irmn, iminn, imaxn, f_X7_canWed, ig, i3, m, ma, mb], by simp (disch := omega) only [lit, neg1, nI_1, nI_add, pk_mul, pk_sub, nI_leI, nI_ltI, nI_eq, nI_eqm, chkn, ixn, if_pos, if_neg, bndV_s, bndE_s, bndO_s, reduceIte, irmn, iminn, imaxn, f_X12_canWed, f, fa, fb]⟩
    · exact ⟨nI 0, Or.inl rfl, by simp (disch := omega) only [lit, neg1, nI_1, nI_add, pk_mul, pk_sub, nI_leI, nI_ltI, nI_eq, nI_eqm, chkn, ixn, if_pos, if_neg, bndV_s, bndE_s, bndO_s, reduceIte, irmn, iminn, imaxn, f_X7_canWed, ig, i3, m, ma], by simp (disch := omega) only [lit, neg1, nI_1, nI_add, pk_mul, pk_sub, nI_leI, nI_ltI, nI_eq, nI_eqm, chkn, ixn, if_pos, if_neg, bndV_s, bndE_s, bndO_s, reduceIte, irmn, iminn, imaxn, f_X12_canWed, f, fa]⟩
  · exact ⟨nI 0, Or.inl rfl, by simp (disch := omega) only [lit, neg1, nI_1, nI_add, pk_mul, pk_sub, nI_leI, nI_ltI, nI_eq, nI_eqm, chkn, ixn, if_pos, if_neg, bndV_s, bndE_s, bndO_s, reduceIte, irmn, iminn, imaxn, f_X7_canWed, ig, i3, m], by simp (disch := omega) only [lit, neg1, nI_1, nI_add, pk_mul, pk_sub, nI_leI, nI_ltI, nI_eq, nI_eqm, chkn, ixn, if_pos, if_neg, bndV_s, bndE_s, bndO_s, reduceIte, irmn, iminn, imaxn, f_X12_canWed, f]⟩
theorem CaR_o {b W M : Nat} {μ μ' ρ ρ' : Mem} (h : CaR b μ ρ W M) (h1 : μ' (b + 21) = μ (b + 21)) (h2 : μ' (b + 22) = μ (b + 22)) (h3 : ρ' 0 39 = ρ 0 39) (h4 : ρ' 21 = ρ 21) : CaR b μ' ρ' W M := by
  unfold CaR LnR at h ⊢
  rw [h1, h2, h3, h4]
  exact h
theorem deed_sim {G s W M n i : Nat} {t : Int32} {μ ρ : Mem} (hG : 500 ≤ G) (R : WR s t μ ρ W M) (hn : LnR μ 22 16 6 n) (hi : i < n) (hd : DeR (μ 23) (ρ 21) W M (6 * i) (6 * i)) (k11 : Int32 → Mem → Option (Int32 × Mem)) (r11 : Int32 → Int32 → Mem → Option (Int32 × Mem)) (k2 : Mem → Option (Int32 × Mem)) (r2 : Int32 → Mem → Option (Int32 × Mem)) (L11 : Mem → Option (Int32 × Mem))
    (hL : L11 μ = bndO (f_X2_at G 22 96 μ (nI i) (nI 0)) (fun w3 => if w3 = μ s 5 then bndO (f_X2_at G 22 96 μ (nI i) (nI 1)) (fun w6 => bndO (f_X2_at G 22 96 μ (nI i) (nI 2)) (fun w8 => bndO (f_X2_at G 22 96 μ (nI i) (nI 3)) (fun w10 => bndO (f_X2_at G 22 96 μ (nI i) (nI 4)) (fun w12 => bndO (f_X2_at G 22 96 μ (nI i) (nI 5)) (fun w14 =>
      if w6 = nI 10021 then f_X7_passYear_j156 G s r11 k11 t (nI i) (wr μ s 7 (μ s 7 ||| sl (nI 1) w8)) else if w6 = nI 10022 then bndV (f_X7_parting G s w8 t μ) (fun m24 => f_X7_passYear_j156 G s r11 k11 t (nI i) m24) else bndO (f_X7_canWed G s μ w8 w10 w12 w14) (fun w18 => if w18 = nI 0 then f_X7_passYear_j156 G s r11 k11 t (nI i) μ else bndE (f_X7_wedding G s w8 w10 w12 w14 t μ) (fun w22 m21 => f_X7_passYear_j156 G s r11 k11 t (nI i) m21))))))) else f_X7_passYear_j156 G s r11 k11 t (nI i) μ)) :
    ∃ μ' ρ', L11 μ = r11 t (nI (i + 1)) μ' ∧ (if ρ 21 (6 * i) = ρ 1 0 then bndV (f_X12_does G (nI (6 * i)) ρ) (fun m5 => f_X12_goesBy_j36 G r2 k2 (nI i) m5) else f_X12_goesBy_j36 G r2 k2 (nI i) ρ) = r2 (nI (i + 1)) ρ' ∧ WR s t μ' ρ' W M ∧ Fc s t μ μ' ∧ Fr t ρ ρ' := by
  obtain ⟨hW, hM⟩ := WR_W R
  have hs := WR_s R
  have hn16 : n ≤ 16 := hn.2.2.2
  have at' : ∀ j, j < 6 → f_X2_at G 22 96 μ (nI i) (nI j) = some (μ 23 (6 * i + j)) := fun j hj => by
    rw [atn hn (by omega) (by omega) (by omega) (by omega) hi hj, Nat.mul_comm]
  have a0 := at' 0 (by omega)
  have a1 := at' 1 (by omega)
  have a2 := at' 2 (by omega)
  have a3 := at' 3 (by omega)
  have a4 := at' 4 (by omega)
  have a5 := at' 5 (by omega)
  obtain ⟨d0, e, w, d1, d2, d3, d4, d5, d6, d7, d8⟩ := hd
  have y : μ s 5 = ρ 1 0 := R.2.2.2.2.1.1
  rw [hL, a0, a1, a2, a3, a4, a5, Nat.add_zero, d0, y]
  by_cases hy : ρ 21 (6 * i) = ρ 1 0
  · have hj : ∀ m, f_X7_passYear_j156 G s r11 k11 t (nI i) m = r11 t (nI (i + 1)) m := fun m => by simp (disch := omega) only [lit, neg1, nI_1, nI_add, pk_mul, pk_sub, nI_leI, nI_ltI, nI_eq, nI_eqm, chkn, ixn, if_pos, if_neg, bndV_s, bndE_s, bndO_s, reduceIte, irmn, iminn, imaxn, f_X7_passYear_j156]
    have hj2 : ∀ m, f_X12_goesBy_j36 G r2 k2 (nI i) m = r2 (nI (i + 1)) m := fun m => by simp (disch := omega) only [lit, neg1, nI_1, nI_add, pk_mul, pk_sub, nI_leI, nI_ltI, nI_eq, nI_eqm, chkn, ixn, if_pos, if_neg, bndV_s, bndE_s, bndO_s, reduceIte, irmn, iminn, imaxn, f_X12_goesBy_j36]
    rcases (by omega : e = 0 ∨ e = 1 ∨ e = 2) with rfl | rfl | rfl
    · obtain ⟨xx, yy, zz, x1, y1, z1, u1, u2, u3, v1, v2, v3, v4, v5, v6⟩ := d8 rfl
      have wM := d7 (by omega)
      obtain ⟨v, hv, c1, c2⟩ := canWed_sim (G := G) R wM x1 y1 z1 u1 u2 u3
      rcases hv with rfl | rfl
      · refine ⟨μ, ρ, ?_, ?_, R, Fc_rfl, Fr_rfl⟩
        · simp (disch := omega) only [lit, neg1, nI_1, nI_add, pk_mul, pk_sub, nI_leI, nI_ltI, nI_eq, nI_eqm, chkn, ixn, if_pos, if_neg, bndV_s, bndE_s, bndO_s, reduceIte, irmn, iminn, imaxn, hy, d3, d5, v2, v4, v6, c1, hj]
        · simp (disch := omega) only [lit, neg1, nI_1, nI_add, pk_mul, pk_sub, nI_leI, nI_ltI, nI_eq, nI_eqm, chkn, ixn, if_pos, if_neg, bndV_s, bndE_s, bndO_s, reduceIte, irmn, iminn, imaxn, hy, f_X12_does, d2, d4, v1, v3, v5, c2, f_X12_does_j84, f_X12_does_j105, hj2]
      · obtain ⟨bw, μ', ρ', b1, b2, b3, b4, b5, b6⟩ := wedding_sim hG R wM x1 y1 z1
        refine ⟨μ', ρ', ?_, ?_, b4, b5, b6⟩
        · simp (disch := omega) only [lit, neg1, nI_1, nI_add, pk_mul, pk_sub, nI_leI, nI_ltI, nI_eq, nI_eqm, chkn, ixn, if_pos, if_neg, bndV_s, bndE_s, bndO_s, reduceIte, irmn, iminn, imaxn, hy, d3, d5, v2, v4, v6, c1, b2, hj]
        · simp (disch := omega) only [lit, neg1, nI_1, nI_add, pk_mul, pk_sub, nI_leI, nI_ltI, nI_eq, nI_eqm, chkn, ixn, if_pos, if_neg, bndV_s, bndE_s, bndO_s, reduceIte, irmn, iminn, imaxn, hy, f_X12_does, d2, d4, v1, v3, v5, c2, b3, f_X12_does_j84, f_X12_does_j105, hj2]
    · have wW := d6 rfl
      obtain ⟨c, c1, c2, c3, _, _⟩ := toCough (G := G) R wW
      have R2 := WR_cough R (c := nI (c ||| 2 ^ w)) ⟨_, or_lt c1 (pw_lt wW), rfl⟩
      refine ⟨_, _, ?_, ?_, R2, Fc_s hs (fun x hx => wr_off (by omega)), Fr_1 (fun x hx => wr_off hx) (wr_slot (by omega))⟩
      · simp (disch := omega) only [lit, neg1, nI_1, nI_add, pk_mul, pk_sub, nI_leI, nI_ltI, nI_eq, nI_eqm, chkn, ixn, if_pos, if_neg, bndV_s, bndE_s, bndO_s, reduceIte, irmn, iminn, imaxn, hy, d3, d5, c2, sl1, b_nor, hj]
      · simp (disch := omega) only [lit, neg1, nI_1, nI_add, pk_mul, pk_sub, nI_leI, nI_ltI, nI_eq, nI_eqm, chkn, ixn, if_pos, if_neg, bndV_s, bndE_s, bndO_s, reduceIte, irmn, iminn, imaxn, hy, f_X12_does, d2, d4, c3, sl1, b_nor, f_X12_does_j84, f_X12_does_j105, hj2]
    · have wM := d7 (by omega)
      rcases wife_of (G := G) R wM with ⟨_, m, f⟩ | ⟨w', hw, f0, m, f⟩
      · have ig := isG1 R.1.2.2.2.1 hM wM
        have i9 := isW9 R.1.1 hW
        refine ⟨μ, ρ, ?_, ?_, R, Fc_rfl, Fr_rfl⟩
        · simp (disch := omega) only [lit, neg1, nI_1, nI_add, pk_mul, pk_sub, nI_leI, nI_ltI, nI_eq, nI_eqm, chkn, ixn, if_pos, if_neg, bndV_s, bndE_s, bndO_s, reduceIte, irmn, iminn, imaxn, hy, d3, d5, f_X7_parting, ig, m, f_X7_parting_j21, i9, hj]
        · simp (disch := omega) only [lit, neg1, nI_1, nI_add, pk_mul, pk_sub, nI_leI, nI_ltI, nI_eq, nI_eqm, chkn, ixn, if_pos, if_neg, bndV_s, bndE_s, bndO_s, reduceIte, irmn, iminn, imaxn, hy, f_X12_does, d2, d4, f_X12_does_j84, f_X12_does_j105, f, hj2]
      · obtain ⟨μ', ρ', b1, b2, b3, b4, b5⟩ := part_sim hG R wM f0 hw
        refine ⟨μ', ρ', ?_, ?_, b3, b4, b5⟩
        · simp (disch := omega) only [lit, neg1, nI_1, nI_add, pk_mul, pk_sub, nI_leI, nI_ltI, nI_eq, nI_eqm, chkn, ixn, if_pos, if_neg, bndV_s, bndE_s, bndO_s, reduceIte, irmn, iminn, imaxn, hy, d3, d5, b1, hj]
        · simp (disch := omega) only [lit, neg1, nI_1, nI_add, pk_mul, pk_sub, nI_leI, nI_ltI, nI_eq, nI_eqm, chkn, ixn, if_pos, if_neg, bndV_s, bndE_s, bndO_s, reduceIte, irmn, iminn, imaxn, hy, f_X12_does, d2, d4, f_X12_does_j84, f_X12_does_j105, f, b2, hj2]
  · refine ⟨μ, ρ, ?_, ?_, R, Fc_rfl, Fr_rfl⟩
    · simp (disch := omega) only [lit, neg1, nI_1, nI_add, pk_mul, pk_sub, nI_leI, nI_ltI, nI_eq, nI_eqm, chkn, ixn, if_pos, if_neg, bndV_s, bndE_s, bndO_s, reduceIte, irmn, iminn, imaxn, hy, f_X7_passYear_j156]
    · simp (disch := omega) only [lit, neg1, nI_1, nI_add, pk_mul, pk_sub, nI_leI, nI_ltI, nI_eq, nI_eqm, chkn, ixn, if_pos, if_neg, bndV_s, bndE_s, bndO_s, reduceIte, irmn, iminn, imaxn, hy, f_X12_goesBy_j36]
end
