section
theorem live_sim {G s W M g w : Nat} {t : Int32} {μ ρ : Mem} (hG : 500 ≤ G) (R : WR s t μ ρ W M) (hg : g < M) (hv : ρ 1 (17 + g) = nI (w + 1)) (hw : w < W) :
    ∃ r μ' ρ', (r = 0 ∨ r = 1) ∧ f_X7_liveYear G s (nI g) t μ = some (r, μ') ∧ f_X12_lives G (nI g) ρ = some (r, ρ') ∧ WR s t μ' ρ' W M ∧ Fc s t μ μ' ∧ Fr t ρ ρ' := by
  obtain ⟨hW, hM⟩ := WR_W R
  have hs := WR_s R
  have hd1 : s + 3 ≠ s + 4 := by omega
  have hd2 : s + 4 ≠ s + 3 := by omega
  obtain ⟨m0, wf⟩ : μ (s + 2) g = nI w ∧ f_X12_wifeOf G ρ (nI g) = some (nI w) := by
    rcases wife_of (G := G) R hg with ⟨a, _⟩ | ⟨w', a, b, c, d⟩
    · rw [hv] at a; exact absurd ((nI_eq (by omega) (by omega)).mp a) (by omega)
    · rw [hv] at b
      have := (nI_eq (by omega) (by omega)).mp b
      rw [show w = w' by omega]
      exact ⟨c, d⟩
  obtain ⟨μ1, a1, a2, a3⟩ := meet_ok (G := G) hs R.1 R.2.2.2.2.1 hg hw
  have R1 : WR s t μ1 ρ W M := WR_scr R (fun x h1 _ _ _ => a2 x h1) (fun _ _ _ _ _ => rfl)
  obtain ⟨j, μ2, ρ2, b1, b2, b3, b4, b5, b6, b7⟩ := joy_sim hG R1.1 R1.2.1 a3 hg hw
  have R2 : WR s t μ2 ρ2 W M := WR_scr R1 (fun x h1 _ _ h4 => b3 x h1 h4) (fun x h1 h2 _ _ => b4 x h1 h2)
  have F2 : Fc s t μ μ2 := Fc_tr (Fc_scr (fun x h1 _ _ _ => a2 x h1)) (Fc_scr (fun x h1 _ _ h4 => b3 x h1 h4))
  have G2 : Fr t ρ ρ2 := Fr_scr (fun x h1 h2 _ _ => b4 x h1 h2)
  have m3 : μ1 (s + 3) g = ρ 1 (25 + g) := by have := R1.2.2.2.2.1.2.2.2.2.2.2.2.1 g (by omega); rw [this, Nat.zero_add]
  obtain ⟨gl, hgl⟩ : ∃ x, x = f_X11_held (ρ 1 (25 + g) + j) (-99) (nI 99) := ⟨_, rfl⟩
  have R3 := WR_glad (x := gl) R2 hg
  have F3 : Fc s t μ (wr μ2 (s + 3) g gl) := Fc_tr F2 (Fc_s hs (fun x hx => wr_off (by omega)))
  have G3 : Fr t ρ (wr ρ2 1 (25 + g) gl) := Fr_tr G2 (Fr_1 (fun x hx => wr_off hx) (wr_slot (by omega)))
  obtain ⟨k, k1, k2, k3⟩ := R3.2.2.2.2.2.1.2.2.2.2.2.1 g (by omega)
  rw [Nat.zero_add] at k2
  have k4 : (wr μ2 (s + 3) g gl) (s + 4) g = nI k := by have := R3.2.2.2.2.1.2.2.2.2.2.2.2.2.1 g (by omega); rw [this, Nat.zero_add, k2]
  have gl1 : (wr μ2 (s + 3) g gl) (s + 3) g = gl := wr_same
  have gl2 : (wr ρ2 1 (25 + g) gl) 1 (25 + g) = gl := wr_same
  have hl1 : f_X12_held (ρ 1 (25 + g) + j) (-99) 99 = gl := by rw [hl12 (by decide), hgl]; rfl
  have hl0 : f_X11_held (ρ 1 (25 + g) + j) (-nI 99) (nI 99) = gl := hgl.symm
  have hl1 : f_X12_held (ρ 1 (25 + g) + j) (-nI 99) (nI 99) = gl := hl1
  have e05 : (wr ρ2 1 (25 + g) gl) 0 5 = t := R3.2.2.2.2.2.2.1
  have hst := R.2.2.2.2.2.2.2
  have lk : ∀ x, f_X12_held x (nI 0) (nI 1000) = f_X11_held x (nI 0) (nI 1000) := fun x => hl12 (by decide)
  by_cases hk : k = 20
  · refine ⟨0, _, _, Or.inl rfl, ?_, ?_, R3, F3, G3⟩
    · simp (disch := omega) only [lit, neg1, nI_1, pk_mul, pk_sub, nI_leI, nI_ltI, nI_eq, nI_eqm, chkn, ixn, if_pos, if_neg, bndV_s, bndE_s, bndO_s, reduceIte, irmn, iminn, imaxn, f_X7_liveYear, m0, a1, b1, m3, hl0, k4, nI_add]
    · have w2 : (wr ρ2 1 (25 + g) gl) 1 (33 + g) = nI 20 := by rw [k2, hk]
      simp (disch := omega) only [lit, neg1, nI_1, nI_add, pk_mul, pk_sub, nI_leI, nI_ltI, nI_eq, nI_eqm, chkn, ixn, if_pos, if_neg, bndV_s, bndE_s, bndO_s, reduceIte, irmn, iminn, imaxn, f_X12_lives, wf, b2, hl1, w2]
  · obtain ⟨likely, hlk⟩ : ∃ x, x = f_X11_held (nI 100 + nI 5 * gl) (nI 0) (nI 1000) := ⟨_, rfl⟩
    have tail : ∀ (c : Int32) (μ3 ρ3 : Mem), (c = 0 ∨ c = 1) → WR s t μ3 ρ3 W M → Fc s t μ μ3 → Fr t ρ ρ3 → ρ3 1 (33 + g) = nI k → μ3 (s + 4) g = nI k →
        ∃ μ' ρ', f_X7_liveYear_j103 G s (nI g) t c μ3 = some (c, μ') ∧ (if c = 0 then some ((0 : Int32), ρ3) else f_X12_lives_j108 G (nI g) ρ3) = some (c, ρ') ∧ WR s t μ' ρ' W M ∧ Fc s t μ μ' ∧ Fr t ρ ρ' := by
      intro c μ3 ρ3 hc R3 F3 G3 h1 h2
      rcases hc with rfl | rfl
      · exact ⟨μ3, ρ3, rfl, rfl, R3, F3, G3⟩
      · have R4 := WR_child (k := k + 1) R3 hg (by omega)
        obtain ⟨μ4, ρ4, d1, d2, d3, d4, d5, d6, d7, d8⟩ := write_sim (a := nI 4) (b := nI g) (c := nI (k + 1)) hG R4
        refine ⟨μ4, ρ4, ?_, ?_, d3, Fc_tr F3 (Fc_tr (Fc_s hs (fun x hx => wr_off (by omega))) d4), Fr_tr G3 (Fr_tr (Fr_1 (fun x hx => wr_off hx) (wr_slot (by omega))) d5)⟩
        · simp (disch := omega) only [lit, neg1, nI_1, nI_add, pk_mul, pk_sub, nI_leI, nI_ltI, nI_eq, nI_eqm, chkn, ixn, if_pos, if_neg, bndV_s, bndE_s, bndO_s, reduceIte, irmn, iminn, imaxn, f_X7_liveYear_j103, h2, wr_same, d1, bkk1]
          rfl
        · rw [if_neg (by decide)]
          simp (disch := omega) only [lit, neg1, nI_1, nI_add, pk_mul, pk_sub, nI_leI, nI_ltI, nI_eq, nI_eqm, chkn, ixn, if_pos, if_neg, bndV_s, bndE_s, bndO_s, reduceIte, irmn, iminn, imaxn, f_X12_lives_j108, h1, wr_same, d2]
    rcases hst with ⟨rfl, rfl⟩ | ⟨rfl, _⟩
    · obtain ⟨d, dv, d1, d2, d3⟩ := draw_sim (G := G) R3 rfl
      have f1 : (wr (wr μ2 (2 + 3) g gl) 2 8 d) (2 + 4) g = nI k := by rw [wr_cell (by omega)]; exact k4
      have f2 : (wr (wr ρ2 1 (25 + g) gl) 1 1 d) 1 (33 + g) = nI k := by rw [wr_slot (by omega)]; exact k2
      have d1' : f_X8_drawOfThousand G 2 (wr μ2 5 g gl) = some (dv, wr (wr μ2 (2 + 3) g gl) 2 8 d) := d1
      have k4' : (wr μ2 5 g gl) 6 g = nI k := k4
      have gl1' : (wr μ2 5 g gl) 5 g = gl := gl1
      have m0' : μ 4 g = nI w := m0
      have m3' : μ1 5 g = ρ 1 (25 + g) := m3
      have e05' : (wr ρ2 1 (25 + g) gl) 0 5 = nI 0 := e05
      have d2' : f_X12_draw G (nI 1000) (wr ρ2 1 (25 + g) gl) = some (dv, wr (wr ρ2 1 (25 + g) gl) 1 1 d) := d2
      by_cases hh : likely ≤ dv
      · have hh2 : ¬ dv < likely := by grind
        obtain ⟨μ', ρ', t1, t2, t3, t4, t5⟩ := tail 0 _ _ (Or.inl rfl) d3 (Fc_tr F3 (Fc_s (Or.inl rfl) (fun x hx => wr_off (by omega)))) (Fr_tr G3 (Fr_1 (fun x hx => wr_off hx) (wr_slot (by omega)))) f2 f1
        rw [if_pos rfl] at t2
        refine ⟨0, μ', ρ', Or.inl rfl, ?_, ?_, t3, t4, t5⟩
        · rw [← t1]
          simp (disch := omega) only [lit, neg1, nI_1, pk_mul, pk_sub, nI_leI, nI_ltI, nI_eq, nI_eqm, chkn, ixn, if_pos, if_neg, bndV_s, bndE_s, bndO_s, reduceIte, irmn, iminn, imaxn, f_X7_liveYear, m0', a1, b1, m3', hl0, k4', gl1', ← hlk, d1', Nat.reduceAdd, hh]
        · rw [← t2]
          simp (disch := omega) only [lit, neg1, nI_1, nI_add, pk_mul, pk_sub, nI_leI, nI_ltI, nI_eq, nI_eqm, chkn, ixn, if_pos, if_neg, bndV_s, bndE_s, bndO_s, reduceIte, irmn, iminn, imaxn, f_X12_lives, wf, b2, hl1, k2, e05', gl2, lk, ← hlk, d2', hh2]
      · have hh2 : dv < likely := by grind
        obtain ⟨μ', ρ', t1, t2, t3, t4, t5⟩ := tail 1 _ _ (Or.inr rfl) d3 (Fc_tr F3 (Fc_s (Or.inl rfl) (fun x hx => wr_off (by omega)))) (Fr_tr G3 (Fr_1 (fun x hx => wr_off hx) (wr_slot (by omega)))) f2 f1
        rw [if_neg (by decide)] at t2
        refine ⟨1, μ', ρ', Or.inr rfl, ?_, ?_, t3, t4, t5⟩
        · rw [← t1]
          simp (disch := omega) only [lit, neg1, nI_1, pk_mul, pk_sub, nI_leI, nI_ltI, nI_eq, nI_eqm, chkn, ixn, if_pos, if_neg, bndV_s, bndE_s, bndO_s, reduceIte, irmn, iminn, imaxn, f_X7_liveYear, m0', a1, b1, m3', hl0, k4', gl1', ← hlk, d1', Nat.reduceAdd, hh]
        · rw [← t2]
          simp (disch := omega) only [lit, neg1, nI_1, nI_add, pk_mul, pk_sub, nI_leI, nI_ltI, nI_eq, nI_eqm, chkn, ixn, if_pos, if_neg, bndV_s, bndE_s, bndO_s, reduceIte, irmn, iminn, imaxn, f_X12_lives, wf, b2, hl1, k2, e05', gl2, lk, ← hlk, d2', hh2]
    · have e05' : (wr ρ2 1 (25 + g) gl) 0 5 = nI 1 := e05
      have hb := held_in (v := nI 100 + nI 5 * gl) (lo := nI 0) (hi := nI 1000) (by decide)
      rw [← hlk] at hb
      have h0 : nI 0 = (0 : Int32) := rfl
      have h2 : nI 2 = (2 : Int32) := rfl
      have h5 : nI 500 = (500 : Int32) := rfl
      have hth : nI 1000 = (1000 : Int32) := rfl
      rw [h0, hth] at hb
      by_cases hh : likely < nI 500
      · have hh2 : ¬ nI 1000 ≤ nI 2 * likely := by rw [h2, hth]; rw [h5] at hh; grind
        obtain ⟨μ', ρ', t1, t2, t3, t4, t5⟩ := tail 0 _ _ (Or.inl rfl) R3 F3 G3 k2 k4
        rw [if_pos rfl] at t2
        refine ⟨0, μ', ρ', Or.inl rfl, ?_, ?_, t3, t4, t5⟩
        · rw [← t1]
          simp (disch := omega) only [lit, neg1, nI_1, pk_mul, pk_sub, nI_leI, nI_ltI, nI_eq, nI_eqm, chkn, ixn, if_pos, if_neg, bndV_s, bndE_s, bndO_s, reduceIte, irmn, iminn, imaxn, f_X7_liveYear, m0, a1, b1, m3, hl0, k4, gl1, ← hlk, nI_add, hh]
        · rw [← t2]
          simp (disch := omega) only [lit, neg1, nI_1, nI_add, pk_mul, pk_sub, nI_leI, nI_ltI, nI_eq, nI_eqm, chkn, ixn, if_pos, if_neg, bndV_s, bndE_s, bndO_s, reduceIte, irmn, iminn, imaxn, f_X12_lives, wf, b2, hl1, k2, e05', gl2, lk, ← hlk, hh2]
      · have hh2 : nI 1000 ≤ nI 2 * likely := by rw [h2, hth]; rw [h5] at hh; grind
        obtain ⟨μ', ρ', t1, t2, t3, t4, t5⟩ := tail 1 _ _ (Or.inr rfl) R3 F3 G3 k2 k4
        rw [if_neg (by decide)] at t2
        refine ⟨1, μ', ρ', Or.inr rfl, ?_, ?_, t3, t4, t5⟩
        · rw [← t1]
          simp (disch := omega) only [lit, neg1, nI_1, pk_mul, pk_sub, nI_leI, nI_ltI, nI_eq, nI_eqm, chkn, ixn, if_pos, if_neg, bndV_s, bndE_s, bndO_s, reduceIte, irmn, iminn, imaxn, f_X7_liveYear, m0, a1, b1, m3, hl0, k4, gl1, ← hlk, nI_add, hh]
        · rw [← t2]
          simp (disch := omega) only [lit, neg1, nI_1, nI_add, pk_mul, pk_sub, nI_leI, nI_ltI, nI_eq, nI_eqm, chkn, ixn, if_pos, if_neg, bndV_s, bndE_s, bndO_s, reduceIte, irmn, iminn, imaxn, f_X12_lives, wf, b2, hl1, k2, e05', gl2, lk, ← hlk, hh2]
end
