section
/-! keeping and going back, both sides -/
theorem keep_R {G W M : Nat} {μ ρ : Mem} (P : PaR μ ρ W M) (S : StR μ 2 (μ 26 3) (ρ 1) 0) (I : StI W M (ρ 1) 0) (hG : 300 ≤ G) :
    ∃ μ' ρ', f_X3_keep G μ = some μ' ∧ f_X12_keepsAhead G ρ = some ρ' ∧ (∀ y, y < 54 ∨ 93 ≤ y → μ' y = μ y) ∧ (∀ x, x ≠ 0 → x ≠ 2 → ρ' x = ρ x) ∧ (∀ j, j ≠ 3 → ρ' 0 j = ρ 0 j) ∧ PaR μ' ρ' W M := by
  obtain ⟨c, x, hc, hx, h1, h2, h3, h4, h5, h6⟩ := P
  obtain ⟨μ', a1, a2, a3, a4, a5, a6, a7, a8⟩ := kpC (G := G) hc hx h1 h3
  obtain ⟨ρ', b1, b2, b3, b4, b5, b6⟩ := kA (G := G) hc h2 hG
  refine ⟨μ', ρ', a1, b1, a2, b2, b3, min (c + 1) 6, (x + 1) % 6, by omega, by omega, a4, b4, a5, ?_, ?_, ?_⟩
  · intro j hj
    by_cases e : j = min c 5
    · have ep : pst ((x + 1) % 6) (min (c + 1) 6) j = x := by unfold pst; omega
      rw [ep, e, a7]
      exact ⟨StR_row (r := ρ 1) (o := 0) (fun i hi => by rw [b5 i hi, Nat.zero_add]) (a8 _ _ _ S), StI_row (r := ρ 1) (o := 0) (fun i hi => by rw [b5 i hi, Nat.zero_add]) I⟩
    · have ej : j < min c 5 := by omega
      obtain ⟨q1, q2⟩ := h4 (if c = 6 then j + 1 else j) (by split <;> omega)
      have ep : pst ((x + 1) % 6) (min (c + 1) 6) j = pst x c (if c = 6 then j + 1 else j) := by unfold pst; split <;> omega
      have en : pst x c (if c = 6 then j + 1 else j) ≠ x := by unfold pst; split <;> omega
      have el : pst x c (if c = 6 then j + 1 else j) < 6 := by unfold pst; omega
      rw [ep, a6 _ en]
      exact ⟨StR_row (fun i hi => b6 j i ej hi) (StR_cls (fun y g1 g2 => a3 y (by omega) (by omega) (by omega)) q1), StI_row (fun i hi => b6 j i ej hi) q2⟩
  · intro j hj
    have e1 : ρ' 2 (49 * j + 2) = ρ 2 (49 * (if c = 6 then j + 1 else j) + 2) := b6 j 2 (by omega) (by omega)
    rw [e1]
    by_cases e : j + 1 = min c 5
    · rw [e, b5 2 (by omega)]
      by_cases e6 : c = 6
      · rw [if_pos e6]
        have := h6 (by omega)
        rw [show c - 1 = min c 5 by omega] at this
        exact this
      · rw [if_neg e6]
        have := h6 (by omega)
        rw [show c - 1 = j by omega] at this
        exact this
    · rw [b6 (j + 1) 2 (by omega) (by omega)]
      by_cases e6 : c = 6
      · rw [if_pos e6, if_pos e6]
        exact h5 (j + 1) (by omega)
      · rw [if_neg e6, if_neg e6]
        exact h5 j (by omega)
  · intro _
    rw [show min (c + 1) 6 - 1 = min c 5 by omega, b5 2 (by omega), b2 1 (by omega) (by omega)]
    exact Int32.le_refl _
theorem undoR {G c : Nat} (hc : c ≤ 6) {ρ : Mem} (h : ρ 0 3 = nI c) (hG : 300 ≤ G) : (c = 0 → f_X12_undo G ρ = some (0, wr ρ 0 0 0)) ∧ (0 < c → ∃ ρ', f_X12_undo G ρ = some (1, ρ') ∧ (∀ x, x ≠ 0 → x ≠ 1 → ρ' x = ρ x) ∧ (∀ j, j ≠ 0 → j ≠ 3 → ρ' 0 j = ρ 0 j) ∧ ρ' 0 3 = nI (c - 1) ∧ (∀ j, j < 49 → ρ' 1 j = ρ 2 (49 * (c - 1) + j))) := by
  have h' : wr ρ 0 0 (nI 0) 0 3 = nI c := by rw [wr_slot (by omega), h]
  constructor
  · intro e
    subst e
    simp (disch := omega) only [lit, neg1, nI_1, nI_add, pk_mul, pk_sub, nI_leI, nI_ltI, nI_eq, nI_eqm, chkn, ixn, if_pos, if_neg, bndV_s, bndE_s, bndO_s, reduceIte, irmn, iminn, imaxn, f_X12_undo, h']
  · intro hp
    obtain ⟨g', s', h1, h2, h3, h4⟩ := loopZ (f_X12_undo_L26 G) 49 (fun k s => (∀ x, x ≠ 1 → s x = (wr (wr ρ 0 0 (nI 0)) 0 3 (nI (c - 1))) x) ∧ (∀ j, j < k → s 1 j = ρ 2 (49 * (c - 1) + j)) ∧ True) (by
      intro g k s hk ⟨i1, i2, _⟩
      have i5 : s 0 3 = nI (c - 1) := by rw [i1 0 (by omega)]; exact wr_same
      have i6 : s 2 = ρ 2 := by rw [i1 2 (by omega), wr_off (by omega), wr_off (by omega)]
      refine ⟨wr s 1 k (ρ 2 (49 * (c - 1) + k)), ?_, ?_, ?_, trivial⟩
      · simp (disch := omega) only [lit, neg1, nI_1, nI_add, pk_mul, pk_sub, nI_leI, nI_ltI, nI_eq, nI_eqm, chkn, ixn, if_pos, if_neg, bndV_s, bndE_s, bndO_s, reduceIte, irmn, iminn, imaxn, f_X12_undo_L26, i5, i6]
      · intro x hx; rw [wr_off hx]; exact i1 x hx
      · intro j hj
        by_cases e : j = k
        · subst e; exact wr_same
        · rw [wr_slot (by omega)]; exact i2 j (by omega)) (by omega : 49 < G) (s := wr (wr ρ 0 0 (nI 0)) 0 3 (nI (c - 1))) ⟨fun _ _ => rfl, fun j hj => absurd hj (by omega), trivial⟩
    refine ⟨s', ?_, ?_, ?_, ?_, h3⟩
    · simp (disch := omega) only [lit, neg1, nI_1, nI_add, pk_mul, pk_sub, nI_leI, nI_ltI, nI_eq, nI_eqm, chkn, ixn, if_pos, if_neg, bndV_s, bndE_s, bndO_s, reduceIte, irmn, iminn, imaxn, f_X12_undo, h']
      refine Eq.trans h1 ?_
      simp (disch := omega) only [lit, neg1, nI_1, nI_add, pk_mul, pk_sub, nI_leI, nI_ltI, nI_eq, nI_eqm, chkn, ixn, if_pos, if_neg, bndV_s, bndE_s, bndO_s, reduceIte, irmn, iminn, imaxn, f_X12_undo_L26]
    · intro x hx hx1; rw [h2 x hx1, wr_off hx, wr_off hx]
    · intro j hj hj3; rw [h2 0 (by omega), wr_slot hj3, wr_slot hj]
    · rw [h2 0 (by omega), wr_same]
theorem gbC {G c x n r : Nat} (hc : c ≤ 6) (hx : x < 6) {μ : Mem} (h : μ 54 3 = nI c) (h2 : μ 54 2 = nI x) (hn : μ 26 3 = nI n) (hn2 : n ≤ 150) (hr : μ 56 ((x + 5) % 6) = nI r) (hrn : r ≤ n) :
    (c = 0 → f_X3_goBack G μ = some (0, μ)) ∧ (0 < c → ∃ μ', f_X3_goBack G μ = some (1, μ') ∧ (∀ y, 8 ≤ y → y ≠ 26 → y ≠ 54 → μ' y = μ y) ∧ (∀ y, y < 2 → μ' y = μ y) ∧ (∀ j, j ≠ 3 → μ' 26 j = μ 26 j) ∧ μ' 26 3 = nI r ∧
      μ' 54 3 = nI (c - 1) ∧ μ' 54 2 = nI ((x + 5) % 6) ∧ (∀ n r o, StR μ (57 + 6 * ((x + 5) % 6)) n r o → StR μ' 2 n r o)) := by
  constructor
  · intro e
    subst e
    simp (disch := omega) only [lit, neg1, nI_1, nI_add, pk_mul, pk_sub, nI_leI, nI_ltI, nI_eq, nI_eqm, chkn, ixn, if_pos, if_neg, bndV_s, bndE_s, bndO_s, reduceIte, irmn, iminn, imaxn, f_X3_goBack, h]
  · intro hp
    have e0 : wr μ 54 2 (nI ((x + 5) % 6)) 54 2 = nI ((x + 5) % 6) := wr_same
    have e1 : wr μ 54 2 (nI ((x + 5) % 6)) 54 3 = nI c := by rw [wr_slot (by omega), h]
    obtain ⟨μ1, k1, k2, k3⟩ := cpStd (G := G) (a := 2) (b := 57 + 6 * ((x + 5) % 6)) (μ := wr (wr μ 54 2 (nI ((x + 5) % 6))) 54 3 (nI (c - 1))) (by omega)
    have f1 : μ1 54 2 = nI ((x + 5) % 6) := by rw [k2 54 (by omega), wr_slot (by omega), wr_same]
    have f2 : μ1 56 = μ 56 := by rw [k2 56 (by omega), wr_off (by omega), wr_off (by omega)]
    have f3 : μ1 26 3 = nI n := by rw [k2 26 (by omega), wr_off (by omega), wr_off (by omega), hn]
    have f4 : f_X11_held (nI r) (nI 0) (nI n) = nI r := by
      unfold f_X11_held
      simp (disch := omega) only [lit, neg1, nI_1, nI_add, pk_mul, pk_sub, nI_leI, nI_ltI, nI_eq, nI_eqm, chkn, ixn, if_pos, if_neg, bndV_s, bndE_s, bndO_s, reduceIte, irmn, iminn, imaxn, show min n r = r by omega, show max 0 r = r by omega]
    have f5 : wr (wr μ 54 2 (nI ((x + 5) % 6))) 54 3 (nI (c - 1)) 54 2 = nI ((x + 5) % 6) := by rw [wr_slot (by omega), wr_same]
    refine ⟨wr μ1 26 3 (nI r), ?_, ?_, ?_, ?_, wr_same, ?_, ?_, ?_⟩
    · simp (disch := omega) only [lit, neg1, nI_1, nI_add, pk_mul, pk_sub, nI_leI, nI_ltI, nI_eq, nI_eqm, chkn, ixn, if_pos, if_neg, bndV_s, bndE_s, bndO_s, reduceIte, irmn, iminn, imaxn, f_X3_goBack, h, h2, isB, show x + 6 - 1 = x + 5 by omega, e0, e1, k1, f1, f2, hr, f_X2_cutTo, f3, f4, f5]
    · intro y hy hy2 hy3; rw [wr_off hy2, k2 y (by omega), wr_off hy3, wr_off hy3]
    · intro y hy; rw [wr_off (by omega), k2 y (by omega), wr_off (by omega), wr_off (by omega)]
    · intro j hj; rw [wr_slot hj, k2 26 (by omega), wr_off (by omega), wr_off (by omega)]
    · rw [wr_cell (by omega), k2 54 (by omega), wr_same]
    · rw [wr_cell (by omega), f1]
    · intro n r o H
      refine StR_cls (μ := μ1) (fun y g1 g2 => by rw [wr_off (by omega)]) (k3 n r o ?_)
      exact StR_cls (fun y g1 g2 => by rw [wr_off (by omega), wr_off (by omega)]) H
end
