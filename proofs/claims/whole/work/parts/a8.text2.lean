section
/-- before the first line: the class's, the reference's -/
def pfC (μ μ0 : Mem) : Prop := (∀ x, x ≠ 41 → x ≠ 43 → x ≠ 44 → x ≠ 45 → x ≠ 52 → μ0 x = μ x) ∧ (∀ j, j ≠ 3 → μ0 52 j = μ 52 j) ∧ μ0 41 5 = nI 0
def pfR (ρ ρ0 : Mem) : Prop := (∀ x, x ≠ 0 → ρ0 x = ρ x) ∧ (∀ j, j ≠ 0 → ¬ (16 ≤ j ∧ j ≤ 19) → ¬ (28 ≤ j ∧ j ≤ 30) → j ≠ 35 → j ≠ 36 → ρ0 0 j = ρ 0 j) ∧ ρ0 0 35 = 0 ∧ ρ0 0 36 = -1 ∧ ρ0 0 30 = nI 0 ∧ ρ0 0 29 = nI 0 ∧ ρ0 0 28 = nI 0
def txR (ρ : Mem) : Mem := wr (wr (wr (wr (wr (wr ρ 0 0 0) 0 35 0) 0 36 (-1)) 0 16 0) 0 29 0) 0 30 0
theorem pre_c {G n W M : Nat} {c : Nat → Nat} {μ : Mem} (hG : 500 ≤ G) (hn : n ≤ 400) (h5 : μ 41 5 = nI n) (hc : ∀ j, j < n → μ 42 j = nI (c j) ∧ c j < 256) (h6 : μ 1 6 = nI W) (h7 : μ 1 7 = nI M) (p : Int32) :
    ∃ m μ0, pfC μ m ∧ pfC μ μ0 ∧ m 41 6 = 0 ∧ m 41 7 = -1 ∧ f_X5_read G p (μ 1 6) (μ 1 7) μ = (if p < 0 then some (-1, m) else if p ≤ 3 then f_X5_read_L68 G (f_X5_read_j151 G) G p (nI 0) μ0 else some (-1, m)) ∧
      AtC c n 0 μ0 ∧ μ0 45 6 = nI 0 ∧ μ0 45 7 = nI 0 ∧ μ0 52 3 = nI 0 ∧ μ0 41 11 = nI W ∧ μ0 41 12 = nI M := by
  have hc2 : ∀ j, j < n → c j < 256 := fun j hj => (hc j hj).2
  let a := wr (wr (wr (wr (wr μ 41 6 0) 41 7 (-1)) 41 11 (nI W)) 41 12 (nI M)) 41 8 0
  have ao : ∀ x, x ≠ 41 → a x = μ x := fun x hx => by show (wr (wr (wr (wr (wr μ 41 6 0) 41 7 (-1)) 41 11 (nI W)) 41 12 (nI M)) 41 8 0) x = _; rw [wr_off hx, wr_off hx, wr_off hx, wr_off hx, wr_off hx]
  have a5 : a 41 5 = nI n := by show (wr (wr (wr (wr (wr μ 41 6 0) 41 7 (-1)) 41 11 (nI W)) 41 12 (nI M)) 41 8 0) 41 5 = _; rw [wr_slot (by omega), wr_slot (by omega), wr_slot (by omega), wr_slot (by omega), wr_slot (by omega)]; exact h5
  have a6 : a 41 6 = 0 := by show (wr (wr (wr (wr (wr μ 41 6 0) 41 7 (-1)) 41 11 (nI W)) 41 12 (nI M)) 41 8 0) 41 6 = _; rw [wr_slot (by omega), wr_slot (by omega), wr_slot (by omega), wr_slot (by omega), wr_same]
  have a7 : a 41 7 = -1 := by show (wr (wr (wr (wr (wr μ 41 6 0) 41 7 (-1)) 41 11 (nI W)) 41 12 (nI M)) 41 8 0) 41 7 = _; rw [wr_slot (by omega), wr_slot (by omega), wr_slot (by omega), wr_same]
  have a11 : a 41 11 = nI W := by show (wr (wr (wr (wr (wr μ 41 6 0) 41 7 (-1)) 41 11 (nI W)) 41 12 (nI M)) 41 8 0) 41 11 = _; rw [wr_slot (by omega), wr_slot (by omega), wr_same]
  have a12 : a 41 12 = nI M := by show (wr (wr (wr (wr (wr μ 41 6 0) 41 7 (-1)) 41 11 (nI W)) 41 12 (nI M)) 41 8 0) 41 12 = _; rw [wr_slot (by omega), wr_same]
  obtain ⟨b, b1, b2, b3, b4, b5, b6, b7, b8⟩ := split_c (G := G) (c := c) hG hn n 0 0 0 G a (by omega) (by omega) (by omega) (by omega) (by omega) a5 wr_same (fun j hj => by rw [ao 42 (by omega)]; exact hc j hj)
  have len := tK_len hc2
  let m := wr (wr (wr b 45 6 0) 45 7 0) 52 3 0
  have mo : ∀ x, x ≠ 45 → x ≠ 52 → m x = b x := fun x h1 h2 => by show (wr (wr (wr b 45 6 0) 45 7 0) 52 3 0) x = _; rw [wr_off h2, wr_off h1, wr_off h1]
  have m0 : pfC μ m := ⟨fun x g1 g2 g3 g4 g5 => by rw [mo x g4 g5, b7 x g1 g2 g3, ao x g1], fun j hj => by
    show (wr (wr (wr b 45 6 0) 45 7 0) 52 3 0) 52 j = _
    rw [wr_slot hj, wr_cell (by omega), wr_cell (by omega), b7 52 (by omega) (by omega) (by omega), ao 52 (by omega)], by rw [mo 41 (by omega) (by omega)]; exact b2⟩
  have tok0 : m 43 0 = tV c n 0 := by
    rw [mo 43 (by omega) (by omega)]
    have hg : (spl c n n 0)[0]? = some ((tsL c n).getD 0 (30000, n)) := by
      show (tsL c n)[0]? = _
      rw [List.getD_eq_getElem?_getD, List.getElem?_eq_getElem (by omega)]
      rfl
    exact (b5 0 _ hg).1
  let μ0 := wr (wr m 41 9 0) 41 10 (tV c n 0)
  have uo : ∀ x, x ≠ 41 → μ0 x = m x := fun x hx => by show (wr (wr m 41 9 0) 41 10 (tV c n 0)) x = _; rw [wr_off hx, wr_off hx]
  have us : ∀ j, j ≠ 9 → j ≠ 10 → μ0 41 j = b 41 j := fun j h1 h2 => by show (wr (wr m 41 9 0) 41 10 (tV c n 0)) 41 j = _; rw [wr_slot h2, wr_slot h1, mo 41 (by omega) (by omega)]
  refine ⟨m, μ0, m0, ⟨fun x g1 g2 g3 g4 g5 => by rw [uo x g1]; exact m0.1 x g1 g2 g3 g4 g5, fun j hj => by rw [uo 52 (by omega)]; exact m0.2.1 j hj, by rw [us 5 (by omega) (by omega)]; exact b2⟩, by rw [mo 41 (by omega) (by omega), b8 6 (by omega) (by omega)]; exact a6, by rw [mo 41 (by omega) (by omega), b8 7 (by omega) (by omega)]; exact a7, ?_, ⟨?_, fun j hj => ?_, ?_, ?_, ?_, ?_⟩, ?_, ?_, ?_, ?_, ?_⟩
  · unfold f_X5_read f_X5_splitTape
    rw [h6, h7]
    show bndV (f_X5_splitTape_L9 G G (nI 0) (nI 0) a) _ = _
    rw [b1, bndV_s]
    show (if p < 0 then some (-1, m) else if p ≤ 3 then f_X5_read_L68 G (f_X5_read_j151 G) G p 0 (wr (wr m 41 9 0) 41 10 ((wr m 41 9 0) 43 0)) else some (-1, m)) = _
    rw [wr_cell (show (43 : Nat) ≠ 41 by omega), tok0]
    rfl
  · rw [us 8 (by omega) (by omega), b3, Nat.zero_add, ← len]
    rfl
  · rw [uo 43 (by omega), uo 44 (by omega), mo 43 (by omega) (by omega), mo 44 (by omega) (by omega)]
    have hg : (spl c n n 0)[j]? = some ((tsL c n).getD j (30000, n)) := by
      show (tsL c n)[j]? = _
      rw [List.getD_eq_getElem?_getD, List.getElem?_eq_getElem (by omega)]
      rfl
    have := b5 j _ hg
    rw [Nat.zero_add] at this
    exact this
  · show (wr (wr m 41 9 0) 41 10 (tV c n 0)) 41 9 = _
    rw [wr_slot (by omega), wr_same]; rfl
  · exact wr_same
  · rw [us 6 (by omega) (by omega), b8 6 (by omega) (by omega)]; exact a6
  · rw [us 7 (by omega) (by omega), b8 7 (by omega) (by omega)]; exact a7
  · rw [uo 45 (by omega)]
    show (wr (wr (wr b 45 6 0) 45 7 0) 52 3 0) 45 6 = _
    rw [wr_cell (by omega), wr_slot (by omega), wr_same]; rfl
  · rw [uo 45 (by omega)]
    show (wr (wr (wr b 45 6 0) 45 7 0) 52 3 0) 45 7 = _
    rw [wr_cell (by omega), wr_same]; rfl
  · rw [uo 52 (by omega)]
    show (wr (wr (wr b 45 6 0) 45 7 0) 52 3 0) 52 3 = _
    rw [wr_same]; rfl
  · rw [us 11 (by omega) (by omega), b8 11 (by omega) (by omega)]; exact a11
  · rw [us 12 (by omega) (by omega), b8 12 (by omega) (by omega)]; exact a12
theorem pre_r {G n : Nat} {c : Nat → Nat} {ρ : Mem} (hG : 500 ≤ G) (hn : n ≤ 400) (hT : TpA c n ρ) :
    ∃ ρ0, f_X12_reads G (wr (txR ρ) 0 28 0) = some ρ0 ∧ AtR c n 0 ρ0 ∧ pfR ρ ρ0 := by
  have to : ∀ x, x ≠ 0 → (wr (txR ρ) 0 28 0) x = ρ x := fun x hx => by unfold txR; rw [wr_off hx, wr_off hx, wr_off hx, wr_off hx, wr_off hx, wr_off hx, wr_off hx]
  have tj : ∀ j, j ≠ 0 → j ≠ 35 → j ≠ 36 → j ≠ 16 → j ≠ 29 → j ≠ 30 → j ≠ 28 → (wr (txR ρ) 0 28 0) 0 j = ρ 0 j := fun j a b d e f g h => by unfold txR; rw [wr_slot h, wr_slot g, wr_slot f, wr_slot e, wr_slot d, wr_slot b, wr_slot a]
  obtain ⟨ρ0, r1, r2, r3, r4⟩ := reads_0 (G := G) (c := c) hG hn (fun j hj => (hT.2.1 j hj).2) (ρ := wr (txR ρ) 0 28 0) (TpA_o hT (tj 15 (by omega) (by omega) (by omega) (by omega) (by omega) (by omega) (by omega)) (to 10 (by omega)) (to 11 (by omega))) (by unfold txR; rw [wr_slot (by omega), wr_slot (by omega), wr_slot (by omega), wr_same]; rfl)
  refine ⟨ρ0, r1, r2, fun x hx => by rw [r3 x hx, to x hx], fun j a b d e f => by rw [r4 j b, tj j a e f (by omega) (by omega) (by omega) (by omega)], ?_, ?_, ?_, ?_, ?_⟩
  · rw [r4 35 (by omega)]; unfold txR; rw [wr_slot (by omega), wr_slot (by omega), wr_slot (by omega), wr_slot (by omega), wr_slot (by omega), wr_same]
  · rw [r4 36 (by omega)]; unfold txR; rw [wr_slot (by omega), wr_slot (by omega), wr_slot (by omega), wr_slot (by omega), wr_same]
  · rw [r4 30 (by omega)]; unfold txR; rw [wr_slot (by omega), wr_same]; rfl
  · rw [r4 29 (by omega)]; unfold txR; rw [wr_slot (by omega), wr_slot (by omega), wr_same]; rfl
  · rw [r4 28 (by omega), wr_same]; rfl
theorem tape_of {μ ρ : Mem} (h : TpR μ ρ) (ht : ThR ρ) : ∃ n c, n ≤ 400 ∧ μ 41 5 = nI n ∧ (∀ j, j < n → μ 42 j = nI (c j) ∧ c j < 256) ∧ TpA c n ρ := by
  obtain ⟨n, n1, n2, n3, n4⟩ := h
  have e : ∀ j, j < n → ρ 10 j = nI ((ρ 10 j).toNatClampNeg) ∧ (ρ 10 j).toNatClampNeg < 256 := fun j hj => by
    obtain ⟨_, c, c1, c2⟩ := n4 j hj
    have : (ρ 10 j).toNatClampNeg = c := by rw [c2]; exact nI_clamp (by omega)
    rw [this]
    exact ⟨c2, c1⟩
  exact ⟨n, fun j => (ρ 10 j).toNatClampNeg, n1, n2, fun j hj => ⟨by rw [(n4 j hj).1]; exact (e j hj).1, (e j hj).2⟩, n3, e, ht.2⟩
/-- a text that has a fault -/
theorem txt_fail {bb : Bool} {W M : Nat} {μ ρ μ0 ρ0 μ' ρ' : Mem} (H : AT bb W M μ ρ) (pC : pfC μ μ0) (pR : pfR ρ ρ0) (tC : TC μ0 μ') (tR : TR ρ0 ρ') (F : FtR μ' ρ') : AR bb μ' (wr (wr (wr ρ' 0 35 (ρ' 0 33)) 0 36 (ρ' 0 34)) 0 15 0) := by
  have C : ∀ x, ¬ (41 ≤ x ∧ x ≤ 53) → μ' x = μ x := fun x hx => by rw [tC.1 x (by omega) (by omega) (by omega) (by omega), pC.1 x (by omega) (by omega) (by omega) (by omega) (by omega)]
  have R0 : ∀ x, x ≠ 0 → ¬ (13 ≤ x ∧ x ≤ 22) → (wr (wr (wr ρ' 0 35 (ρ' 0 33)) 0 36 (ρ' 0 34)) 0 15 0) x = ρ x := fun x a b => by rw [wr_off a, wr_off a, wr_off a, tR.1 x a b, pR.1 x a]
  have Rx : ∀ x i, x ≠ 0 → (wr (wr (wr ρ' 0 35 (ρ' 0 33)) 0 36 (ρ' 0 34)) 0 15 0) x i = ρ' x i := fun x i a => by rw [wr_cell a, wr_cell a, wr_cell a]
  have Rj : ∀ j, j ≠ 0 → ¬ (15 ≤ j ∧ j ≤ 19) → ¬ (28 ≤ j ∧ j ≤ 36) → (wr (wr (wr ρ' 0 35 (ρ' 0 33)) 0 36 (ρ' 0 34)) 0 15 0) 0 j = ρ 0 j := fun j a b d => by rw [wr_slot (by omega), wr_slot (by omega), wr_slot (by omega), tR.2.1 j (by omega) (by omega), pR.2.1 j a (by omega) (by omega) (by omega) (by omega)]
  obtain ⟨r1, r2, r3, r4, r5, r6, r7⟩ := tR
  refine AR_txt H (fun x _ b => C x (by omega)) ⟨by rw [tC.2.2.1, pC.2.1 0 (by omega)], by rw [tC.2.2.2, pC.2.1 1 (by omega)]⟩ (by rw [tC.2.1 5 (by omega) (by omega) (by omega) (by omega)]; exact pC.2.2) (fun x a b => R0 x a (by omega)) (fun j a _ b d _ _ => Rj j a b (by omega)) wr_same ⟨?_, ?_⟩
    (LwR_lo H.1.2.2.2.2.2.2.2.1 (fun x _ _ => C x (by omega)) (R0 12 (by omega) (by omega)) (fun x a b i hi => by rw [Rx x i (by omega), r3 x a b i (by omega), pR.1 x (by omega)]) (fun i hi => ⟨by rw [Rx 17 i (by omega), (r4 i (by omega)).1, pR.1 17 (by omega)], by rw [Rx 18 i (by omega), (r4 i (by omega)).2, pR.1 18 (by omega)]⟩))
    (QuR_lo H.1.2.2.2.2.1 (fun x _ _ => C x (by omega)) (Rj 37 (by omega) (by omega) (by omega)) (fun i hi => by rw [Rx 20 i (by omega), r5 i hi, pR.1 20 (by omega)]))
    (CaR_lo H.1.2.2.2.2.2.1 (fun x _ _ => C x (by omega)) (Rj 39 (by omega) (by omega) (by omega)) (fun i hi => by rw [Rx 21 i (by omega), r6 i hi, pR.1 21 (by omega)]))
    (SiR_lo H.1.2.2.2.2.2.2.1 (fun x _ _ => C x (by omega)) (Rj 41 (by omega) (by omega) (by omega)) (fun i hi => by rw [Rx 22 i (by omega), r7 i hi, pR.1 22 (by omega)]))
    (PaR_o H.2.2.2.2.1 (fun x _ _ => C x (by omega)) (Rj 3 (by omega) (by omega) (by omega)) (R0 2 (by omega) (by omega)) (by rw [R0 1 (by omega) (by omega)]))
  · rw [wr_slot (by omega), wr_slot (by omega), wr_same]; exact F.1
  · rw [wr_slot (by omega), wr_same]; exact F.2
end
