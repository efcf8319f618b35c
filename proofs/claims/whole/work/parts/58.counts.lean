section
theorem counts_sim {G W M g w q : Nat} {l s : Int32} {μ ρ : Mem} (hG : 500 ≤ G) (P : PpR 1 μ ρ W M) (L : LwR 1 μ ρ) (V : VR (μ 94) ρ g w) (hg : g < M) (hw : w < W) (hq : q < 32) (hs : s = 0 ∨ s = 1) :
    ∃ v μ' ρ', f_X7_countsTold G (ρ 20 q) l s μ = some (v, μ') ∧ f_X12_countsOf G (nI g) (nI w) (nI q) l s ρ = some (v, ρ') ∧ (∀ x, x ≠ 94 → x ≠ 19 → μ' x = μ x) ∧ (∀ x, x ≠ 23 → x ≠ 24 → ρ' x = ρ x) ∧ VR (μ' 94) ρ g w ∧ -99 ≤ v ∧ v ≤ 99 := by
  obtain ⟨hW, hM⟩ := PpR_in P
  obtain ⟨ρ1, a1, a2, a3, a4, a5, a6⟩ := asks_ok (G := G) P hg hw
  have b1 : f_X7_hear G (ρ 20 q) l s μ = some (wr (wr (wr μ 94 5 (ρ 20 q)) 94 6 l) 94 4 s) := by
    rcases hs with rfl | rfl
    · simp (disch := omega) only [lit, neg1, nI_1, nI_add, pk_mul, pk_sub, nI_leI, nI_ltI, nI_eq, nI_eqm, chkn, ixn, if_pos, if_neg, bndV_s, bndE_s, bndO_s, reduceIte, irmn, iminn, imaxn, f_X7_hear]
    · simp (disch := omega) only [lit, neg1, nI_1, nI_add, pk_mul, pk_sub, nI_leI, nI_ltI, nI_eq, nI_eqm, chkn, ixn, if_pos, if_neg, bndV_s, bndE_s, bndO_s, reduceIte, irmn, iminn, imaxn, f_X7_hear]
  have V1 : VR ((wr (wr (wr μ 94 5 (ρ 20 q)) 94 6 l) 94 4 s) 94) ρ g w := VR_v V (fun k h4 h5 h6 => by rw [wr_slot h4, wr_slot h6, wr_slot h5])
  have V2 : VR ((wr (wr (wr ρ1 23 4 s) 23 5 (ρ 20 q)) 23 6 l) 23) ρ g w := VR_v a3 (fun k h4 h5 h6 => by rw [wr_slot h6, wr_slot h5, wr_slot h4])
  obtain ⟨v, μ', ρ', r1, r2, r3, r4⟩ := law_sim (G := G) (e := 1) (p := nI 1) (lo := -99) (hi := nI 99) (μ := wr (wr (wr μ 94 5 (ρ 20 q)) 94 6 l) 94 4 s) (ρ := wr (wr (wr ρ1 23 4 s) 23 5 (ρ 20 q)) 23 6 l) hG (by omega)
    (LwR_o L (fun x h1 h2 => by rw [wr_off (by omega), wr_off (by omega), wr_off (by omega)]) (fun x h1 h2 => by rw [wr_off (by omega), wr_off (by omega), wr_off (by omega), a2 x (by omega)]))
    (VR_11 V1 V2 (by simp [wr]) (by simp [wr]) (by simp [wr]))
  refine ⟨f_X11_held v (-99) 99, μ', ρ', ?_, ?_, ?_, ?_, ?_, (held_in (by decide)).1, (held_in (by decide)).2⟩
  · unfold f_X7_countsTold
    rw [b1, bndV_s]
    rw [show nI (10000 + 1) = nI 10001 from rfl] at r1
    rw [show (f_X1_reckon G 10001 1 (wr (wr (wr μ 94 5 (ρ 20 q)) 94 6 l) 94 4 s)) = _ from r1]
    rfl
  · unfold f_X12_countsOf
    rw [a1, bndV_s, chkn (by omega) (by omega), ixn (by omega)]
    have c1 : (wr ρ1 23 4 s) 20 q = ρ 20 q := by rw [wr_cell (by omega), a2 20 (by omega)]
    rw [c1]
    show bndE (f_X12_lawTells G 1 1 (-99) 99 (wr (wr (wr ρ1 23 4 s) 23 5 (ρ 20 q)) 23 6 l)) _ = _
    rw [show f_X12_lawTells G 1 1 (-99) 99 (wr (wr (wr ρ1 23 4 s) 23 5 (ρ 20 q)) 23 6 l) = _ from r2]
    exact congrArg (fun z => some (z, ρ')) (hl12 (by decide))
  · intro x hx hx2; rw [r3 x hx2, wr_off hx, wr_off hx, wr_off hx]
  · intro x hx hx2; rw [r4 x hx2, wr_off hx, wr_off hx, wr_off hx, a2 x hx]
  · rw [r3 94 (by omega)]; exact V1
theorem joy_sim {G W M g w : Nat} {μ ρ : Mem} (hG : 500 ≤ G) (P : PpR 1 μ ρ W M) (L : LwR 1 μ ρ) (V : VR (μ 94) ρ g w) (hg : g < M) (hw : w < W) :
    ∃ v μ' ρ', f_X7_joyTold G μ = some (v, μ') ∧ f_X12_joyOf G (nI g) (nI w) ρ = some (v, ρ') ∧ (∀ x, x ≠ 94 → x ≠ 19 → μ' x = μ x) ∧ (∀ x, x ≠ 23 → x ≠ 24 → ρ' x = ρ x) ∧ VR (μ' 94) ρ g w ∧ -20 ≤ v ∧ v ≤ 20 := by
  obtain ⟨hW, hM⟩ := PpR_in P
  obtain ⟨ρ1, a1, a2, a3, a4, a5, a6⟩ := asks_ok (G := G) P hg hw
  have b1 : f_X7_hear G 0 0 0 μ = some (wr (wr (wr μ 94 5 0) 94 6 0) 94 4 0) := by simp (disch := omega) only [lit, neg1, nI_1, nI_add, pk_mul, pk_sub, nI_leI, nI_ltI, nI_eq, nI_eqm, chkn, ixn, if_pos, if_neg, bndV_s, bndE_s, bndO_s, reduceIte, irmn, iminn, imaxn, f_X7_hear]
  have V1 : VR ((wr (wr (wr μ 94 5 0) 94 6 0) 94 4 0) 94) ρ g w := VR_v V (fun k h4 h5 h6 => by rw [wr_slot h4, wr_slot h6, wr_slot h5])
  obtain ⟨v, μ', ρ', r1, r2, r3, r4⟩ := law_sim (G := G) (e := 2) (p := ρ 5 w - 4 + (if ρ 8 g = nI w then 1 else 0)) (lo := -20) (hi := nI 20) (μ := wr (wr (wr μ 94 5 0) 94 6 0) 94 4 0) (ρ := ρ1) hG (by omega)
    (LwR_o L (fun x h1 h2 => by rw [wr_off (by omega), wr_off (by omega), wr_off (by omega)]) (fun x h1 h2 => a2 x (by omega)))
    (VR_11 V1 a3 (by simp [wr, a4]) (by simp [wr, a5]) (by simp [wr, a6]))
  refine ⟨f_X11_held v (-20) 20, μ', ρ', ?_, ?_, ?_, ?_, ?_, (held_in (by decide)).1, (held_in (by decide)).2⟩
  · unfold f_X7_joyTold
    rw [b1, bndV_s]
    rw [V1.2.1, V1.2.2.2.1]
    rw [show nI (10000 + 2) = nI 10002 from rfl] at r1
    rw [show (f_X1_reckon G 10002 (ρ 5 w - 4 + (if ρ 8 g = nI w then 1 else 0)) (wr (wr (wr μ 94 5 0) 94 6 0) 94 4 0)) = _ from r1]
    rfl
  · unfold f_X12_joyOf
    rw [a1, bndV_s, chkn (by omega) (by omega), ixn (by omega), a2 5 (by omega), a3.2.2.2.1]
    rw [show f_X12_lawTells G 2 (ρ 5 w - 4 + (if ρ 8 g = nI w then 1 else 0)) (-20) 20 ρ1 = _ from r2]
    exact congrArg (fun z => some (z, ρ')) (hl12 (by decide))
  · intro x hx hx2; rw [r3 x hx2, wr_off hx, wr_off hx, wr_off hx]
  · intro x hx hx2; rw [r4 x hx2, a2 x hx]
  · rw [r3 94 (by omega)]; exact V1
end
