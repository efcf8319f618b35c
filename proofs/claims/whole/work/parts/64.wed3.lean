section
theorem filln {G a n : Nat} {v : Int32} {μ : Mem} (hn : n < 2 ^ 20) (hG : n < G) : ∃ μ', f_J7_fill_53178 G a n v μ = some μ' ∧ (∀ x, x ≠ a → μ' x = μ x) ∧ (∀ k, k < n → μ' a k = v) := by
  obtain ⟨g', s', h1, h2, h3⟩ := loopZ (fun g i m => f_J7_fill_53178_L5 G a n g v i (nI n) m) n (fun k s => (∀ x, x ≠ a → s x = μ x) ∧ ∀ j, j < k → s a j = v) (by
    intro g k s hk ⟨i1, i2⟩
    refine ⟨wr s a k v, ?_, ?_, ?_⟩
    · show f_J7_fill_53178_L5 G a n (g + 1) v (nI k) (nI n) s = f_J7_fill_53178_L5 G a n g v (nI (k + 1)) (nI n) (wr s a k v)
      simp (disch := omega) only [lit, neg1, nI_1, nI_add, pk_mul, pk_sub, nI_leI, nI_ltI, nI_eq, nI_eqm, chkn, ixn, if_pos, if_neg, bndV_s, bndE_s, bndO_s, reduceIte, irmn, iminn, imaxn, f_J7_fill_53178_L5]
    · intro x hx; rw [wr_off hx]; exact i1 x hx
    · intro j hj
      by_cases e : j = k
      · subst e; exact wr_same
      · rw [wr_slot e]; exact i2 j (by omega)) hG (s := μ) ⟨fun _ _ => rfl, fun j hj => absurd hj (by omega)⟩
  refine ⟨s', ?_, h2, h3⟩
  refine Eq.trans h1 ?_
  show f_J7_fill_53178_L5 G a n (g' + 1) v (nI n) (nI n) s' = _
  simp (disch := omega) only [lit, neg1, nI_1, nI_add, pk_mul, pk_sub, nI_leI, nI_ltI, nI_eq, nI_eqm, chkn, ixn, if_pos, if_neg, bndV_s, bndE_s, bndO_s, reduceIte, irmn, iminn, imaxn, f_J7_fill_53178_L5]
theorem zeroP {G : Nat} (hG : 500 ≤ G) {ρ : Mem} {gr : Int32} (k2 : Int32 → Mem → Option (Int32 × Mem)) : ∃ ρ', f_X12_takes_L2 G k2 G gr 0 ρ = k2 gr ρ' ∧ (∀ x, x ≠ 26 → ρ' x = ρ x) ∧ (∀ k, k < 3 → ρ' 26 k = 0) := by
  obtain ⟨g', s', h1, h2, h3⟩ := loopZ (fun g i m => f_X12_takes_L2 G k2 g gr i m) 3 (fun k s => (∀ x, x ≠ 26 → s x = ρ x) ∧ ∀ j, j < k → s 26 j = 0) (by
    intro g k s hk ⟨i1, i2⟩
    refine ⟨wr s 26 k 0, ?_, ?_, ?_⟩
    · show f_X12_takes_L2 G k2 (g + 1) gr (nI k) s = f_X12_takes_L2 G k2 g gr (nI (k + 1)) (wr s 26 k 0)
      simp (disch := omega) only [lit, neg1, nI_1, nI_add, pk_mul, pk_sub, nI_leI, nI_ltI, nI_eq, nI_eqm, chkn, ixn, if_pos, if_neg, bndV_s, bndE_s, bndO_s, reduceIte, irmn, iminn, imaxn, f_X12_takes_L2]
    · intro x hx; rw [wr_off hx]; exact i1 x hx
    · intro j hj
      by_cases e : j = k
      · subst e; exact wr_same
      · rw [wr_slot e]; exact i2 j (by omega)) (by omega : 3 < G) (s := ρ) ⟨fun _ _ => rfl, fun j hj => absurd hj (by omega)⟩
  refine ⟨s', ?_, h2, h3⟩
  refine Eq.trans h1 ?_
  show f_X12_takes_L2 G k2 (g' + 1) gr (nI 3) s' = _
  simp (disch := omega) only [lit, neg1, nI_1, nI_add, pk_mul, pk_sub, nI_leI, nI_ltI, nI_eq, nI_eqm, chkn, ixn, if_pos, if_neg, bndV_s, bndE_s, bndO_s, reduceIte, irmn, iminn, imaxn, f_X12_takes_L2]
theorem seatC {G : Nat} {a b c : Int32} {μ : Mem} : ∃ μ', f_X7_seat G a b c μ = some μ' ∧ (∀ x, x ≠ 95 → μ' x = μ x) ∧ μ' 95 0 = a ∧ μ' 95 1 = b ∧ μ' 95 2 = c :=
  ⟨_, rfl, fun x hx => by rw [wr_off hx, wr_off hx, wr_off hx], by simp [wr], by simp [wr], by simp [wr]⟩
theorem seatR {G : Nat} {a b c : Int32} {ρ : Mem} : ∃ ρ', f_X12_isSent G a b c ρ = some ρ' ∧ (∀ x, x ≠ 25 → ρ' x = ρ x) ∧ ρ' 25 0 = a ∧ ρ' 25 1 = b ∧ ρ' 25 2 = c :=
  ⟨_, rfl, fun x hx => by rw [wr_off hx, wr_off hx, wr_off hx], by simp [wr], by simp [wr], by simp [wr]⟩
theorem mostL_c {p q : Nat → Int32} (h : ∀ j, j < 3 → p j = q j) : mostL p = mostL q := by
  have h0 := h 0 (by omega)
  have h1 := h 1 (by omega)
  have h2 := h 2 (by omega)
  unfold mostL
  grind
theorem wedding_sim {G s W M gr a b c : Nat} {t : Int32} {μ ρ : Mem} (hG : 500 ≤ G) (R : WR s t μ ρ W M) (hg : gr < M) (ha : a < W) (hb : b < W) (hc : c < W) :
    ∃ w μ' ρ', w < W ∧ f_X7_wedding G s (nI gr) (nI a) (nI b) (nI c) t μ = some (nI w, μ') ∧ f_X12_weds G (nI gr) (nI a) (nI b) (nI c) ρ = some (nI w, ρ') ∧ WR s t μ' ρ' W M ∧ Fc s t μ μ' ∧ Fr t ρ ρ' := by
  obtain ⟨hW, hM⟩ := WR_W R
  have hs := WR_s R
  obtain ⟨μ1, a1, a2, a3, a4, a5⟩ := seatC (G := G) (a := nI a) (b := nI b) (c := nI c) (μ := μ)
  obtain ⟨μ2, b1, b2, b3⟩ := filln (G := G) (a := 96) (n := 3) (v := nI 0) (μ := μ1) (by omega) (by omega)
  obtain ⟨ρ1, c1, c2, c3, c4, c5⟩ := seatR (G := G) (a := nI a) (b := nI b) (c := nI c) (ρ := ρ)
  obtain ⟨ρ2, d1, d2, d3⟩ := zeroP hG (ρ := ρ1) (gr := nI gr) (f_X12_takes_j20 G)
  have R2 : WR s t μ2 ρ2 W M := WR_scr R (fun x h1 h2 h3 h4 => by rw [b2 x h3, a2 x h2]) (fun x h1 h2 h3 h4 => by rw [d2 x h4, c2 x h3])
  have se : ∀ l, l < 3 → ∃ w, w < W ∧ μ2 95 l = nI w ∧ ρ2 25 l = nI w := by
    intro l hl
    rw [b2 95 (by omega), d2 25 (by omega)]
    rcases (by omega : l = 0 ∨ l = 1 ∨ l = 2) with e | e | e <;> subst e
    · exact ⟨a, ha, a3, c3⟩
    · exact ⟨b, hb, a4, c4⟩
    · exact ⟨c, hc, a5, c5⟩
  obtain ⟨nq, n1, n2, n3, n4⟩ := WR_q R2
  have A0 : AI s t W M μ2 ρ2 μ2 ρ2 := ⟨R2, Fc_rfl, Fr_rfl, fun j hj => by rw [b3 j hj, d3 j hj]; rfl, rfl, rfl⟩
  obtain ⟨μ3, ρ3, e1, e2, A3⟩ := wed_qs hG A0 hg n3 n1 se (f_X7_wedding_j78 G s) (f_X12_takes_j56 G)
  obtain ⟨μ4, ρ4, f1, f2, A4⟩ := wed_co (gr := gr) hG A3 se (f_X7_wedding_j150 G s) (f_X12_takes_j141 G)
  obtain ⟨R4, F4, G4, P4, q95, q25⟩ := A4
  have pe : mostL (ρ4 26) = mostL (μ4 96) := by
    exact (mostL_c P4).symm
  have hm := mostL_lt (μ4 96)
  obtain ⟨w, w1, w2, w3⟩ := se (mostL (μ4 96)) hm
  have w2' : μ4 95 (mostL (μ4 96)) = nI w := by rw [q95]; exact w2
  have w3' : ρ4 25 (mostL (μ4 96)) = nI w := by rw [q25]; exact w3
  have pp := P4 _ hm
  obtain ⟨μ5, ρ5, g1, g2, R5, F5, G5, g6, g7, g8⟩ := write_sim (a := nI 3) (b := nI w) (c := μ4 96 (mostL (μ4 96))) hG R4
  have sim5 := WR_wed (x := ρ5 1 3 + (if ρ5 8 gr = nI w then nI 4294967293 else nI 1)) R5 hg w1
  have k12 : μ5 12 gr = ρ5 8 gr := R5.1.2.2.2.2.2.2.2.2.2.2.1 gr (by omega)
  have k6 : μ5 s 6 = ρ5 1 3 := R5.2.2.2.2.1.2.2.2.1
  have kw : μ5 (s + 5) gr = ρ5 1 (41 + gr) := by have := R5.2.2.2.2.1.2.2.2.2.2.2.2.2.2 gr (by omega); rw [this, Nat.zero_add]
  refine ⟨w, _, _, w1, ?_, ?_, sim5, ?_, ?_⟩
  · simp (disch := omega) only [lit, neg1, nI_1, nI_add, pk_mul, pk_sub, nI_leI, nI_ltI, nI_eq, nI_eqm, chkn, ixn, if_pos, if_neg, bndV_s, bndE_s, bndO_s, reduceIte, irmn, iminn, imaxn, f_X7_wedding, a1, b1]
    refine Eq.trans e1 ?_
    refine Eq.trans f1 ?_
    have ds1 : s + 5 ≠ s + 1 := by omega
    have ds2 : s + 5 ≠ s + 2 := by omega
    have ds3 : s ≠ s + 1 := by omega
    have ds4 : s ≠ s + 2 := by omega
    have ds5 : s ≠ s + 5 := by omega
    simp (disch := omega) only [lit, neg1, nI_1, nI_add, pk_mul, pk_sub, nI_leI, nI_ltI, nI_eq, nI_eqm, chkn, ixn, if_pos, if_neg, bndV_s, bndE_s, bndO_s, reduceIte, irmn, iminn, imaxn, f_X7_wedding_j150, mostC, w2', g1, wr_cell, kw, k6, k12]
    split <;> rfl
  · have tk : f_X12_takes G (nI gr) ρ1 = some (nI (mostL (μ4 96)), ρ4) := by
      unfold f_X12_takes
      rw [show f_X12_takes_L2 G (f_X12_takes_j20 G) G (nI gr) 0 ρ1 = _ from d1]
      unfold f_X12_takes_j20
      refine Eq.trans e2 ?_
      refine Eq.trans f2 ?_
      rw [mostR hG, pe]
    have nt : f_X12_notes G (nI 3) (nI w) (μ4 96 (mostL (μ4 96))) (wr (wr (wr ρ4 1 (17 + gr) (nI (w + 1))) 1 (5 + w) (nI (gr + 1))) 1 (41 + gr) (ρ4 1 (41 + gr) + nI 1)) = some (wr (wr (wr ρ5 1 (17 + gr) (nI (w + 1))) 1 (5 + w) (nI (gr + 1))) 1 (41 + gr) (ρ4 1 (41 + gr) + nI 1)) := by
      rw [notes_comm (by omega) (by omega), notes_comm (by omega) (by omega), notes_comm (by omega) (by omega), g2]
      rfl
    have e41 : ρ4 1 (41 + gr) = ρ5 1 (41 + gr) := (g8 _ (by omega)).symm
    rw [e41] at nt
    simp (disch := omega) only [lit, neg1, nI_1, nI_add, pk_mul, pk_sub, nI_leI, nI_ltI, nI_eq, nI_eqm, chkn, ixn, if_pos, if_neg, bndV_s, bndE_s, bndO_s, reduceIte, irmn, iminn, imaxn, f_X12_weds, c1, tk, w3', wr_slot, e41, wr_cell, ← pp, nt]
    split <;> rfl
  · refine Fc_tr (Fc_scr (fun x h1 h2 h3 h4 => by rw [b2 x h3, a2 x h2])) (Fc_tr F4 (Fc_tr F5 (Fc_s hs (fun x hx => ?_))))
    rw [wr_off (by omega), wr_off (by omega), wr_off (by omega), wr_off (by omega)]
  · refine Fr_tr (Fr_scr (fun x h1 h2 h3 h4 => by rw [d2 x h4, c2 x h3])) (Fr_tr G4 (Fr_tr G5 (Fr_1 (fun x hx => ?_) ?_)))
    · rw [wr_off (by omega), wr_off (by omega), wr_off (by omega), wr_off (by omega)]
    · rw [wr_slot (by omega), wr_slot (by omega), wr_slot (by omega), wr_slot (by omega)]
end
