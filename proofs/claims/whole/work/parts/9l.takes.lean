section
theorem notes1 {G : Nat} {a b c : Int32} {ρ : Mem} (h : ρ 0 5 = 1) : f_X12_notes G a b c ρ = some ρ := by
  have h : ρ 0 5 = nI 1 := h
  simp (disch := omega) only [lit, neg1, nI_1, nI_add, pk_mul, pk_sub, nI_leI, nI_ltI, nI_eq, nI_eqm, chkn, ixn, if_pos, if_neg, bndV_s, bndE_s, bndO_s, reduceIte, irmn, iminn, imaxn, f_X12_notes, h]
/-- the reference: whom he would take -/
theorem takesT {G W M g nq c : Nat} {μ0 ρ0 ρ : Mem} {w : Nat → Nat} (hG : 500 ≤ G) (R : WR 2 1 μ0 ρ0 W M) (hg : g < M) (hw : ∀ l, l < 3 → w l < W) (hd : ∀ i j, i < 3 → j < 3 → i ≠ j → w i ≠ w j) (hnq : ρ0 0 37 = nI nq) (hnq2 : nq ≤ 16) (hc : ρ0 1 4 = nI c) (hc2 : c < 2 ^ W) (A : agR ρ0 ρ) (hs : ∀ l, l < 3 → ρ 25 l = nI (w l)) :
    ∃ ρ', f_X12_takes G (nI g) ρ = some (nI (mostL (fun l => tP G g μ0 c nq l (w l))), ρ') ∧ (∀ l, l < 3 → ρ' 26 l = tP G g μ0 c nq l (w l)) ∧ ρ' 25 = ρ 25 ∧ ∀ x, x ≠ 1 → x ≠ 23 → x ≠ 24 → x ≠ 26 → ρ' x = ρ x := by
  obtain ⟨hW, hM⟩ := WR_W R
  have hc3 := pw12 hW hc2
  obtain ⟨ρ2, d1, d2, d3⟩ := zeroP hG (ρ := ρ) (gr := nI g) (f_X12_takes_j20 G)
  have A2 : agR ρ0 ρ2 := fun x h1 h2 h3 h4 => by rw [d2 x h4]; exact A x h1 h2 h3 h4
  have n37 : ∀ s, agR ρ0 s → s 0 37 = nI nq := fun s h => by rw [h 0 (by omega) (by omega) (by omega) (by omega)]; exact hnq
  let S : Nat → Nat → Int32 := fun l => smN (fun q => cV G g μ0 q l (w l))
  have inner : ∀ q s (r22 : Int32 → Int32 → Mem → Option (Int32 × Mem)) k22 k32, q < nq → agR ρ0 s → s 25 = ρ 25 → (∀ l, l < 3 → s 26 l = S l q) → ∃ s', f_X12_takes_L32 G r22 k22 k32 G (nI g) (nI q) (nI 0) s = k32 (nI g) (nI q) s' ∧ agR ρ0 s' ∧ s' 25 = ρ 25 ∧ (∀ l, l < 3 → s' 26 l = S l (q + 1)) := by
    intro q s r22 k22 k32 hq h1 h2 h3
    obtain ⟨g', s', r1, r2, r3, r4⟩ := loopZ (fun f v m => f_X12_takes_L32 G r22 k22 k32 f (nI g) (nI q) v m) 3 (fun k m => agR ρ0 m ∧ m 25 = ρ 25 ∧ ∀ j, j < 3 → m 26 j = S j (if j < k then q + 1 else q)) (by
      rintro f l m hl ⟨i1, i2, i3⟩
      obtain ⟨_, _, _, h4⟩ := cV_ok hG R hg (hw l hl) hl hnq hnq2 hq
      obtain ⟨m', q1, q2, q3, q4, q5⟩ := h4 m i1 (by rw [i2]; exact hs l hl)
      refine ⟨m', ?_, q5, by rw [q4, i2], fun j hj => ?_⟩
      · show f_X12_takes_L32 G r22 k22 k32 (f + 1) (nI g) (nI q) (nI l) m = f_X12_takes_L32 G r22 k22 k32 f (nI g) (nI q) (nI (l + 1)) m'
        simp (disch := omega) only [lit, neg1, nI_1, nI_add, pk_mul, pk_sub, nI_leI, nI_ltI, nI_eq, nI_eqm, chkn, ixn, if_pos, if_neg, bndV_s, bndE_s, bndO_s, reduceIte, irmn, iminn, imaxn, f_X12_takes_L32, q1]
      · by_cases e : j = l
        · rw [e, q2, i3 l hl, if_neg (by omega), if_pos (by omega)]
          rfl
        · rw [q3 j e, i3 j hj]
          by_cases e2 : j < l
          · rw [if_pos e2, if_pos (by omega)]
          · rw [if_neg e2, if_neg (by omega)]) (by omega : 3 < G) (s := s) ⟨h1, h2, fun j hj => by rw [if_neg (by omega)]; exact h3 j hj⟩
    refine ⟨s', ?_, r2, r3, fun l hl => by rw [r4 l hl, if_pos hl]⟩
    refine Eq.trans r1 ?_
    show f_X12_takes_L32 G r22 k22 k32 (g' + 1) (nI g) (nI q) (nI 3) s' = _
    simp (disch := omega) only [lit, neg1, nI_1, nI_add, pk_mul, pk_sub, nI_leI, nI_ltI, nI_eq, nI_eqm, chkn, ixn, if_pos, if_neg, bndV_s, bndE_s, bndO_s, reduceIte, irmn, iminn, imaxn, f_X12_takes_L32]
  obtain ⟨ρ3, e1, e2, e3, e4⟩ : ∃ s', f_X12_takes_L22 G (f_X12_takes_j56 G) G (nI g) (nI 0) ρ2 = f_X12_takes_j56 G s' ∧ agR ρ0 s' ∧ s' 25 = ρ 25 ∧ (∀ l, l < 3 → s' 26 l = S l nq) := by
    obtain ⟨g', s', r1, r2, r3, r4⟩ := loopZ (fun f v m => f_X12_takes_L22 G (f_X12_takes_j56 G) f (nI g) v m) nq (fun k m => agR ρ0 m ∧ m 25 = ρ 25 ∧ ∀ j, j < 3 → m 26 j = S j k) (by
      rintro f q m hq ⟨i1, i2, i3⟩
      obtain ⟨s', q1, q2⟩ := inner q m (f_X12_takes_L22 G (f_X12_takes_j56 G) f) (f_X12_takes_j56 G) (f_X12_takes_j50 G (f_X12_takes_L22 G (f_X12_takes_j56 G) f) (f_X12_takes_j56 G)) hq i1 i2 i3
      refine ⟨s', ?_, q2⟩
      show f_X12_takes_L22 G (f_X12_takes_j56 G) (f + 1) (nI g) (nI q) m = f_X12_takes_L22 G (f_X12_takes_j56 G) f (nI g) (nI (q + 1)) s'
      rw [f_X12_takes_L22, n37 m i1, if_neg (nI_ge (by omega) (by omega))]
      refine Eq.trans q1 ?_
      rw [f_X12_takes_j50, show (1 : Int32) = nI 1 from rfl, nI_add]) (by omega : nq < G) (s := ρ2) ⟨A2, d2 25 (by omega), fun j hj => d3 j hj⟩
    refine ⟨s', ?_, r2, r3, r4⟩
    refine Eq.trans r1 ?_
    show f_X12_takes_L22 G (f_X12_takes_j56 G) (g' + 1) (nI g) (nI nq) s' = _
    rw [f_X12_takes_L22, n37 s' r2, if_pos (Int32.le_refl _)]
  obtain ⟨ρ4, f1, f2, f3⟩ : ∃ s', f_X12_takes_L58 G (f_X12_takes_j141 G) G (nI 0) ρ3 = f_X12_takes_j141 G s' ∧ (∀ x, x ≠ 1 → x ≠ 26 → s' x = ρ3 x) ∧ (∀ l, l < 3 → s' 26 l = tP G g μ0 c nq l (w l)) := by
    obtain ⟨g', s', r1, r2, r3, r4⟩ := loopZ (fun f v m => f_X12_takes_L58 G (f_X12_takes_j141 G) f v m) 3 (fun k m => (∀ x, x ≠ 1 → x ≠ 26 → m x = ρ3 x) ∧ (∃ d, d < 4096 ∧ m 1 4 = nI d ∧ ∀ j, k ≤ j → j < 3 → d.testBit (w j) = c.testBit (w j)) ∧ ∀ j, j < 3 → m 26 j = if j < k then tP G g μ0 c nq j (w j) else S j nq) (by
      rintro f l m hl ⟨i1, ⟨d, d1, d2, d3⟩, i3⟩
      have hwl := hw l hl
      have e25 : m 25 l = nI (w l) := by rw [i1 25 (by omega) (by omega), e3]; exact hs l hl
      have e26 := i3 l hl
      rw [if_neg (by omega)] at e26
      have e05 : m 0 5 = 1 := by rw [i1 0 (by omega) (by omega), e2 0 (by omega) (by omega) (by omega) (by omega)]; exact R.2.2.2.2.2.2.1
      have hh := hasn (a := d) (w := w l) (by omega) (by omega)
      rw [← has12, d3 l (Nat.le_refl _) hl] at hh
      by_cases b : c.testBit (w l) = true
      · rw [if_pos b] at hh
        have e14 : nI d &&& (nI (2 ^ w l) ^^^ nI 4294967295) = nI (wo d (2 ^ w l)) := won
        refine ⟨wr (wr m 26 l (S l nq + nI 10)) 1 4 (nI (wo d (2 ^ w l))), ?_, fun x h1 h2 => by rw [wr_off h1, wr_off h2]; exact i1 x h1 h2, ⟨wo d (2 ^ w l), Nat.lt_of_le_of_lt wo_le d1, wr_same, fun j h1 h2 => ?_⟩, fun j hj => ?_⟩
        · show f_X12_takes_L58 G (f_X12_takes_j141 G) (f + 1) (nI l) m = f_X12_takes_L58 G (f_X12_takes_j141 G) f (nI (l + 1)) _
          have nt := notes1 (G := G) (a := nI 2) (b := nI (w l)) (c := nI l) (ρ := wr (wr m 26 l (S l nq + nI 10)) 1 4 (nI (wo d (2 ^ w l)))) (by rw [wr_off (by omega), wr_off (by omega)]; exact e05)
          simp (disch := omega) only [lit, neg1, nI_1, nI_add, pk_mul, pk_sub, nI_leI, nI_ltI, nI_eq, nI_eqm, chkn, ixn, if_pos, if_neg, bndV_s, bndE_s, bndO_s, reduceIte, irmn, iminn, imaxn, f_X12_takes_L58, e25, d2, hh, e26, wr_cell, sl1, won, nt, f_X12_takes_j135]
        · have h3 := hw j h2
          rw [wo_bit (by omega), pw_bit, decide_eq_false (hd l j hl h2 (by omega)), Bool.not_false, Bool.and_true]
          exact d3 j (by omega) h2
        · rw [wr_cell (by omega)]
          by_cases e : j = l
          · rw [e, wr_same, if_pos (by omega), tP, if_pos b, Int32.add_comm]
          · rw [wr_slot e, i3 j hj]
            by_cases e2 : j < l
            · rw [if_pos e2, if_pos (by omega)]
            · rw [if_neg e2, if_neg (by omega)]
      · rw [if_neg b] at hh
        refine ⟨m, ?_, i1, ⟨d, d1, d2, fun j h1 h2 => d3 j (by omega) h2⟩, fun j hj => ?_⟩
        · show f_X12_takes_L58 G (f_X12_takes_j141 G) (f + 1) (nI l) m = f_X12_takes_L58 G (f_X12_takes_j141 G) f (nI (l + 1)) m
          simp (disch := omega) only [lit, neg1, nI_1, nI_add, pk_mul, pk_sub, nI_leI, nI_ltI, nI_eq, nI_eqm, chkn, ixn, if_pos, if_neg, bndV_s, bndE_s, bndO_s, reduceIte, irmn, iminn, imaxn, f_X12_takes_L58, e25, d2, hh, f_X12_takes_j135]
        · rw [i3 j hj]
          by_cases e : j = l
          · rw [e, if_neg (by omega), if_pos (by omega), tP, if_neg b]
            exact (Int32.zero_add _).symm
          · by_cases e2 : j < l
            · rw [if_pos e2, if_pos (by omega)]
            · rw [if_neg e2, if_neg (by omega)]) (by omega : 3 < G) (s := ρ3) ⟨fun _ _ _ => rfl, ⟨c, hc3, by rw [e2 1 (by omega) (by omega) (by omega) (by omega)]; exact hc, fun _ _ _ => rfl⟩, fun j hj => by rw [if_neg (by omega)]; exact e4 j hj⟩
    refine ⟨s', ?_, r2, fun l hl => by rw [r4 l hl, if_pos hl]⟩
    refine Eq.trans r1 ?_
    show f_X12_takes_L58 G (f_X12_takes_j141 G) (g' + 1) (nI 3) s' = _
    simp (disch := omega) only [lit, neg1, nI_1, nI_add, pk_mul, pk_sub, nI_leI, nI_ltI, nI_eq, nI_eqm, chkn, ixn, if_pos, if_neg, bndV_s, bndE_s, bndO_s, reduceIte, irmn, iminn, imaxn, f_X12_takes_L58]
  refine ⟨ρ4, ?_, f3, by rw [f2 25 (by omega) (by omega), e3], fun x h1 h2 h3 h4 => ?_⟩
  · unfold f_X12_takes
    refine Eq.trans d1 ?_
    refine Eq.trans e1 ?_
    refine Eq.trans f1 ?_
    rw [mostR hG, mostL_c (p := ρ4 26) (q := fun l => tP G g μ0 c nq l (w l)) f3]
  · rw [f2 x h1 h4]
    by_cases e : x = 25
    · rw [e, e3]
    · rw [e2 x h2 h3 e h4]
      exact (A x h2 h3 e h4).symm
end
