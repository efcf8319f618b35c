section
/-- what the reference does behind the reading -/
def txF (G : Nat) (p : Int32) (w : Int32) (m : Mem) : Option (Int32 × Mem) := if w = -1 then some (-1, wr (wr (wr m 0 35 (m 0 33)) 0 36 (m 0 34)) 0 15 0) else if p = 0 then bndV (f_X12_takesLaw G w (wr m 0 15 0)) (fun m14 => some (w, m14)) else bndV (f_X12_takesOther G p w (wr m 0 15 0)) (fun m12 => some (w, m12))
theorem txt12 {G : Nat} {p : Int32} {ρ ρ0 : Mem} (hp : 0 ≤ p ∧ p ≤ 3) (hr : f_X12_reads G (wr (txR ρ) 0 28 0) = some ρ0) : f_X12_text G p ρ = bndE (if p = 1 then f_X12_readQuestions G ρ0 else if p = 2 then f_X12_readYears G ρ0 else if p = 3 then f_X12_readSisters G ρ0 else f_X12_readLaw G ρ0) (txF G p) := by
  have pr : ∀ o : Option (Int32 × Mem), bndE o (fun w m => some (w, m)) = o := fun o => by
    cases o with
    | none => rfl
    | some v => rfl
  have st : f_X12_text G p ρ = (if f_X12_isIn p 0 3 = 0 then f_X12_text_j69 G p (-1) (txR ρ) else bndE (f_X12_readsText G p (txR ρ)) (fun w17 m16 => if w17 = -1 then f_X12_text_j69 G p w17 (wr (wr m16 0 35 (m16 0 33)) 0 36 ((wr m16 0 35 (m16 0 33)) 0 34)) else f_X12_text_j69 G p w17 m16)) := rfl
  have rt : f_X12_readsText G p (txR ρ) = (if p = 1 then f_X12_readQuestions G ρ0 else if p = 2 then f_X12_readYears G ρ0 else if p = 3 then f_X12_readSisters G ρ0 else f_X12_readLaw G ρ0) := by
    unfold f_X12_readsText
    show bndV (f_X12_reads G (wr (txR ρ) 0 28 0)) _ = _
    rw [hr, bndV_s]
    simp only [pr]
  rw [st, isI, if_pos hp, if_neg (by decide), rt]
  congr 1
  funext w m
  unfold txF
  by_cases e : w = -1
  · rw [if_pos e, if_pos e, wr_slot (by omega)]
    unfold f_X12_text_j69
    rw [if_pos e]
  · rw [if_neg e, if_neg e]
    unfold f_X12_text_j69
    rw [if_neg e]
theorem text_law {G : Nat} {bb : Bool} {W M : Nat} {μ ρ : Mem} (hG : 500 ≤ G) (H : AT bb W M μ ρ) : ∃ r μ' ρ', f_X11_text G 0 μ = some (r, μ') ∧ f_X12_text G 0 ρ = some (r, ρ') ∧ AR bb μ' ρ' := by
  have P := H.1.1
  obtain ⟨n, c, hn, t5, tc, tT⟩ := tape_of H.2.1 H.2.2.2.2.2.2.2
  have hc : ∀ j, j < n → c j < 256 := fun j hj => (tc j hj).2
  have hK := tK_le (c := c) (n := n)
  obtain ⟨m, μ0, _, pC, _, _, cr, aC, l6, l7, _, _, _⟩ := pre_c (G := G) (c := c) hG hn t5 tc P.1 P.2.2.2.1 0
  obtain ⟨ρ0, rr, aR, pR⟩ := pre_r (G := G) hG hn tT
  rw [if_neg (by decide), if_pos (by decide)] at cr
  have L0 : LR c n 0 0 μ0 ρ0 := ⟨by omega, aC, l7, aR, pR.2.2.2.2.2.1, fun i hi => absurd hi (by omega)⟩
  have tx := txt12 (G := G) (p := 0) (ρ := ρ) (by decide) rr
  rw [if_neg (by decide), if_neg (by decide), if_neg (by decide)] at tx
  rcases lawRd hG hn hc (tK c n) 0 0 0 μ0 ρ0 0 G G (by omega) L0 l6 (by omega) pR.2.2.2.2.1 (fun i hi => absurd hi (by omega)) (by omega) (by omega) (by omega) (by omega) with ⟨l1, z1, μ', ρ', b1, b2, b3, b4, b5, b6, b7, b8, b9, b10, b11, b12, b13⟩ | ⟨μ', ρ', b1, b2, b3, b4, b5⟩
  · have b1 : f_X5_read_L68 G (f_X5_read_j151 G) G 0 (nI 0) μ0 = some (nI l1, μ') := b1
    have b2 : f_X12_readLaw G ρ0 = some (nI l1, ρ') := b2
    have ne : ¬ nI l1 = -1 := nI_m1 (by omega)
    obtain ⟨μ2, c1, c2, c3, c4, c5⟩ := copyLaw_ok (G := G) (μ := μ')
    have r28 : (wr ρ' 0 15 0) 0 28 = nI 0 := by
      rw [wr_slot (by omega), b13.2.1 28 (by omega) (by omega)]
      exact pR.2.2.2.2.2.2
    obtain ⟨ρ2, d1, d2, d3, d4, d5⟩ := takesLaw_ok (G := G) (l := l1) (z := z1) (ρ := wr ρ' 0 15 0) hG b3 b4 r28 (by rw [wr_slot (by omega)]; exact b7)
    refine ⟨nI l1, μ2, ρ2, ?_, ?_, ?_⟩
    · unfold f_X11_text
      rw [cr, b1, bndE_s, if_neg ne, if_pos rfl, c1, bndV_s]
    · rw [tx, b2, bndE_s, txF, if_neg ne, if_pos rfl, d1, bndV_s]
    · have C : ∀ x, ¬ (13 ≤ x ∧ x ≤ 18) → ¬ (41 ≤ x ∧ x ≤ 53) → μ2 x = μ x := fun x hx hy => by rw [c5 x hx, b12.1 x (by omega) (by omega) (by omega) (by omega), pC.1 x (by omega) (by omega) (by omega) (by omega) (by omega)]
      have R0 : ∀ x, x ≠ 0 → ¬ (12 ≤ x ∧ x ≤ 22) → ρ2 x = ρ x := fun x a b => by rw [d5 x (by omega), wr_off a, b13.1 x a (by omega), pR.1 x a]
      have Rj : ∀ j, j ≠ 0 → ¬ (15 ≤ j ∧ j ≤ 19) → ¬ (28 ≤ j ∧ j ≤ 36) → ρ2 0 j = ρ 0 j := fun j a b d => by rw [d5 0 (by omega), wr_slot (by omega), b13.2.1 j (by omega) (by omega), pR.2.1 j a (by omega) (by omega) (by omega) (by omega)]
      obtain ⟨q1, q2, q3, q4, q5, q6, q7⟩ := b13
      refine AR_txt H (fun x a b => C x (by omega) (by omega)) ⟨by rw [c5 52 (by omega), b12.2.2.1, pC.2.1 0 (by omega)], by rw [c5 52 (by omega), b12.2.2.2, pC.2.1 1 (by omega)]⟩ (by rw [c5 41 (by omega), b12.2.1 5 (by omega) (by omega) (by omega) (by omega)]; exact pC.2.2) R0 (fun j a _ b d _ _ => Rj j a b (by omega)) (by rw [d5 0 (by omega), wr_same]; rfl) ⟨?_, ?_⟩ ?_
        (QuR_lo H.1.2.2.2.2.1 (fun x _ _ => C x (by omega) (by omega)) (Rj 37 (by omega) (by omega) (by omega)) (fun i hi => by rw [d5 20 (by omega), wr_cell (by omega), q5 i hi, pR.1 20 (by omega)]))
        (CaR_lo H.1.2.2.2.2.2.1 (fun x _ _ => C x (by omega) (by omega)) (Rj 39 (by omega) (by omega) (by omega)) (fun i hi => by rw [d5 21 (by omega), wr_cell (by omega), q6 i hi, pR.1 21 (by omega)]))
        (SiR_lo H.1.2.2.2.2.2.2.1 (fun x _ _ => C x (by omega) (by omega)) (Rj 41 (by omega) (by omega) (by omega)) (fun i hi => by rw [d5 22 (by omega), wr_cell (by omega), q7 i hi, pR.1 22 (by omega)]))
        (PaR_o H.2.2.2.2.1 (fun x _ _ => by
          by_cases e : 41 ≤ x ∧ x ≤ 53
          · omega
          · exact C x (by omega) e) (Rj 3 (by omega) (by omega) (by omega)) (R0 2 (by omega) (by omega)) (by rw [R0 1 (by omega) (by omega)]))
      · rw [c5 41 (by omega), b10, d5 0 (by omega), wr_slot (by omega), q2 35 (by omega) (by omega)]
        exact pR.2.2.1.symm
      · rw [c5 41 (by omega), b11, d5 0 (by omega), wr_slot (by omega), q2 36 (by omega) (by omega)]
        exact pR.2.2.2.1.symm
      · refine ⟨l1, b3, by rw [show (1 : Nat) + 12 = 13 from rfl, c2]; exact b5, d2, fun i hi => ?_⟩
        obtain ⟨e, f, w, t, x, g1, g2, g3, g4, g5, g6, g7, g8, g9, g10, g11, g12, g13, g14⟩ := b8 i hi
        obtain ⟨k1, k2, k3, k4⟩ := c4 i (by omega)
        have fw := g12.1
        have rx : ∀ y j, y ≠ 0 → (wr ρ' 0 15 0) y j = ρ' y j := fun y j hy => wr_cell hy
        refine ⟨e, f, w, t, g1, by show μ2 15 i = _; rw [k1]; exact g2, by rw [d3 13 (by omega) (by omega) i hi, rx _ _ (by omega)]; exact g3, by show μ2 16 i = _; rw [k2]; exact g4, by rw [d3 14 (by omega) (by omega) i hi, rx _ _ (by omega)]; exact g5, by show μ2 17 i = _; rw [k3]; exact g6, by rw [d3 15 (by omega) (by omega) i hi, rx _ _ (by omega)]; exact g7, by show μ2 18 i = _; rw [k4]; exact g8, by rw [d3 16 (by omega) (by omega) i hi, rx _ _ (by omega)]; exact g9, ⟨fw, g10, by omega, ⟨x, ?_, g13⟩, fun q => ?_⟩, fun j j1 j2 => ?_⟩
        · rw [← g12.2]
          exact trn_c _ _ _ (fun j j1 j2 => by rw [(d4 j (by omega)).1, (d4 j (by omega)).2, rx _ _ (by omega), rx _ _ (by omega)]; exact ⟨rfl, rfl⟩)
        · rw [← (g14 q).2]
          exact trn_c _ _ _ (fun j j1 j2 => by rw [(d4 j (by omega)).1, (d4 j (by omega)).2, rx _ _ (by omega), rx _ _ (by omega)]; exact ⟨rfl, rfl⟩)
        · show CdR (μ2 14 j) _ _
          rw [c3 j (by omega), (d4 j (by omega)).1, (d4 j (by omega)).2, rx _ _ (by omega), rx _ _ (by omega)]
          exact b9 j (by omega)
  · have b1 : f_X5_read_L68 G (f_X5_read_j151 G) G 0 (nI 0) μ0 = some (-1, μ') := b1
    have b2 : f_X12_readLaw G ρ0 = some (-1, ρ') := b2
    refine ⟨-1, μ', _, ?_, ?_, txt_fail H pC pR b4 b5 b3⟩
    · unfold f_X11_text
      rw [cr, b1, bndE_s, if_pos rfl]
    · rw [tx, b2, bndE_s, txF, if_pos rfl]
end
