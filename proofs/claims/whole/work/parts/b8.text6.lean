section
theorem text_q {G : Nat} {bb : Bool} {W M : Nat} {μ ρ : Mem} (hG : 500 ≤ G) (H : AT bb W M μ ρ) : ∃ r μ' ρ', f_X11_text G 1 μ = some (r, μ') ∧ f_X12_text G 1 ρ = some (r, ρ') ∧ AR bb μ' ρ' := by
  have P := H.1.1
  obtain ⟨n, c, hn, t5, tc, tT⟩ := tape_of H.2.1 H.2.2.2.2.2.2.2
  have hc : ∀ j, j < n → c j < 256 := fun j hj => (tc j hj).2
  have hK := tK_le (c := c) (n := n)
  obtain ⟨m, μ0, _, pC, _, _, cr, aC, l6, l7, l3, l11, l12⟩ := pre_c (G := G) (c := c) hG hn t5 tc P.1 P.2.2.2.1 1
  obtain ⟨ρ0, rr, aR, pR⟩ := pre_r (G := G) hG hn tT
  rw [if_neg (by decide), if_pos (by decide)] at cr
  have L0 : LR c n 0 0 μ0 ρ0 := ⟨by omega, aC, l7, aR, pR.2.2.2.2.2.1, fun i hi => absurd hi (by omega)⟩
  have tx := txt12 (G := G) (p := 1) (ρ := ρ) (by decide) rr
  rw [if_pos rfl] at tx
  have d0 : LnR μ0 52 16 6 0 := ⟨by rw [pC.2.1 0 (by omega)]; exact H.2.2.2.1.1, by rw [pC.2.1 1 (by omega)]; exact H.2.2.2.1.2, l3, by omega⟩
  rcases loopT (F := f_X5_questionLine G) (Lr := f_X12_readQuestions_L2 G (f_X12_readQuestions_j73 G)) (D := DQ) (kk := 1) hG hn hc (fun g v4 μ h1 h2 h3 => by rw [f_X5_read_L68, if_neg h3, if_pos h1, if_neg h2, if_neg (by decide), if_pos rfl]; rfl) (by decide) (fun gl l ρ h => by
      rw [f_X12_readQuestions_L2]
      have : f_X12_isWord ρ 18 = 0 := by unfold f_X12_isWord; rw [h, if_neg (by decide)]
      rw [this, if_pos rfl, f_X12_readQuestions_j73, if_pos h]) (fun l μ ρ h => h.1.2.2.1) (fun k l μ ρ gl a1 a2 a3 a4 => quest_ok hG hn hc a1 a2 a3 a4) (tK c n) 0 0 μ0 ρ0 0 G G (by omega) L0 ⟨d0, fun i hi => absurd hi (by omega)⟩ (by omega) (by omega) (by omega) (by omega) with ⟨l1, μ1, ρ1, b1, b2, b3, ⟨b4, b5⟩, b6, b7, b8, b9⟩ | ⟨μ', ρ', b1, b2, b3, b4, b5⟩
  · have b2 : f_X12_readQuestions G ρ0 = some (nI l1, ρ1) := b2
    have ne : ¬ nI l1 = -1 := nI_m1 (by omega)
    obtain ⟨nq, q1, _, _⟩ := H.1.2.2.2.2.1
    have q1 : LnR μ 20 16 1 nq := q1
    have q1' : LnR μ1 20 16 1 nq := by
      unfold LnR at q1 ⊢
      rw [b8.1 20 (by omega) (by omega) (by omega) (by omega), pC.1 20 (by omega) (by omega) (by omega) (by omega) (by omega)]
      exact q1
    obtain ⟨μ2, c1, c2, c3, c4⟩ := cpyLn (G := G) (a := 20) (b := 52) (Na := 16) (Nb := 96) q1' b4 (by omega) (by omega) (by omega) (by omega) (by omega) (by omega) (by omega) (by omega) (by omega) (by omega) (by omega) (by omega) (by omega)
    obtain ⟨ρ2, t1, t2, t3, t4, t5, t6⟩ := takesQ (G := G) (ρ := wr ρ1 0 15 0) hG b3
    refine ⟨nI l1, wr μ2 54 3 0, ρ2, ?_, ?_, ?_⟩
    · unfold f_X11_text
      rw [cr, b1, bndE_s, if_neg ne, if_neg (by decide), if_pos rfl, c1, bndV_s]
      rfl
    · rw [tx, b2, bndE_s, txF, if_neg ne, if_neg (by decide), t1, bndV_s]
    · have cc : ∀ x, ¬ (20 ≤ x ∧ x ≤ 25) → x ≠ 54 → (wr μ2 54 3 0) x = μ1 x := fun x a b => by rw [wr_off b]; exact c2 x (by omega) (by omega)
      have rx : ∀ x, x ≠ 0 → ¬ (20 ≤ x ∧ x ≤ 22) → ρ2 x = ρ1 x := fun x a b => by rw [t5 x a (by omega), wr_off a]
      have rj : ∀ j, j ≠ 3 → j ≠ 15 → j ≠ 37 → j ≠ 39 → j ≠ 41 → ρ2 0 j = ρ1 0 j := fun j a b d _ _ => by rw [t6 j a d, wr_slot b]
      have Ce : ∀ x, 22 ≤ x → x ≤ 25 → (wr μ2 54 3 0) x = μ x := fun x a b => by rw [wr_off (by omega), c2 x (by omega) (by omega), b8.1 x (by omega) (by omega) (by omega) (by omega), pC.1 x (by omega) (by omega) (by omega) (by omega) (by omega)]
      refine txt_ok H pC pR b8 b9 b6 b7 cc rx rj (by rw [t6 15 (by omega) (by omega), wr_same]; rfl) ⟨l1, ?_, t3, fun k hk => ?_⟩
        (CaR_lo H.1.2.2.2.2.2.1 (fun x a b => Ce x (by omega) (by omega)) (by rw [t6 39 (by omega) (by omega), wr_slot (by omega), b9.2.1 39 (by omega) (by omega), pR.2.1 39 (by omega) (by omega) (by omega) (by omega) (by omega)]) (fun i hi => by rw [t5 21 (by omega) (by omega), wr_cell (by omega), b9.2.2.2.2.2.1 i hi, pR.1 21 (by omega)]))
        (SiR_lo H.1.2.2.2.2.2.2.1 (fun x a b => Ce x (by omega) (by omega)) (by rw [t6 41 (by omega) (by omega), wr_slot (by omega), b9.2.1 41 (by omega) (by omega), pR.2.1 41 (by omega) (by omega) (by omega) (by omega) (by omega)]) (fun i hi => by rw [t5 22 (by omega) (by omega), wr_cell (by omega), b9.2.2.2.2.2.2 i hi, pR.1 22 (by omega)]))
        (PaR_0 H.2.2.2.2.1 wr_same (by rw [wr_slot (by omega), c2 54 (by omega) (by omega), b8.1 54 (by omega) (by omega) (by omega) (by omega), pC.1 54 (by omega) (by omega) (by omega) (by omega) (by omega)]) t4)
      · exact LnR_o c3 (wr_off (by omega))
      · show (wr μ2 54 3 0) 21 k = ρ2 20 k
        rw [wr_cell (by omega), t2 k hk, wr_cell (by omega), ← b5 k hk]
        have := c4 k 0 hk (by omega)
        rw [show k * 1 + 0 = k by omega, show k * 6 + 0 = 6 * k by omega] at this
        exact this
  · have b2 : f_X12_readQuestions G ρ0 = some (-1, ρ') := b2
    refine ⟨-1, μ', _, ?_, ?_, txt_fail H pC pR b4 b5 b3⟩
    · unfold f_X11_text
      rw [cr, b1, bndE_s, if_pos rfl]
    · rw [tx, b2, bndE_s, txF, if_pos rfl]
theorem text_y {G : Nat} {bb : Bool} {W M : Nat} {μ ρ : Mem} (hG : 500 ≤ G) (H : AT bb W M μ ρ) : ∃ r μ' ρ', f_X11_text G 2 μ = some (r, μ') ∧ f_X12_text G 2 ρ = some (r, ρ') ∧ AR bb μ' ρ' := by
  have P := H.1.1
  obtain ⟨n, c, hn, t5, tc, tT⟩ := tape_of H.2.1 H.2.2.2.2.2.2.2
  have hc : ∀ j, j < n → c j < 256 := fun j hj => (tc j hj).2
  have hK := tK_le (c := c) (n := n)
  obtain ⟨m, μ0, _, pC, _, _, cr, aC, l6, l7, l3, l11, l12⟩ := pre_c (G := G) (c := c) hG hn t5 tc P.1 P.2.2.2.1 2
  obtain ⟨ρ0, rr, aR, pR⟩ := pre_r (G := G) hG hn tT
  rw [if_neg (by decide), if_pos (by decide)] at cr
  have L0 : LR c n 0 0 μ0 ρ0 := ⟨by omega, aC, l7, aR, pR.2.2.2.2.2.1, fun i hi => absurd hi (by omega)⟩
  have tx := txt12 (G := G) (p := 2) (ρ := ρ) (by decide) rr
  rw [if_neg (by decide), if_pos rfl] at tx
  have d0 : LnR μ0 52 16 6 0 := ⟨by rw [pC.2.1 0 (by omega)]; exact H.2.2.2.1.1, by rw [pC.2.1 1 (by omega)]; exact H.2.2.2.1.2, l3, by omega⟩
  have r6 : ρ0 0 6 = nI W := by rw [pR.2.1 6 (by omega) (by omega) (by omega) (by omega) (by omega)]; exact P.2.1
  have r7 : ρ0 0 7 = nI M := by rw [pR.2.1 7 (by omega) (by omega) (by omega) (by omega) (by omega)]; exact P.2.2.2.2.1
  rcases loopT (F := f_X5_yearLine G) (Lr := f_X12_readYears_L2 G (f_X12_readYears_j47 G)) (D := DY W M) (kk := 2) hG hn hc (fun g v4 μ h1 h2 h3 => by rw [f_X5_read_L68, if_neg h3, if_pos h1, if_neg h2, if_neg (by decide), if_neg (by decide), if_pos rfl]; rfl) (by decide) (fun gl l ρ h => by
      rw [f_X12_readYears_L2]
      have : f_X12_isWord ρ 19 = 0 := by unfold f_X12_isWord; rw [h, if_neg (by decide)]
      rw [this, if_pos rfl, f_X12_readYears_j47, if_pos h]) (fun l μ ρ h => h.1.2.2.1) (fun k l μ ρ gl a1 a2 a3 a4 => year_ok hG hn hc P.2.2.1 P.2.2.2.2.2.1 a1 a2 a3 a4) (tK c n) 0 0 μ0 ρ0 0 G G (by omega) L0 ⟨d0, l11, l12, r6, r7, fun i hi => absurd hi (by omega)⟩ (by omega) (by omega) (by omega) (by omega) with ⟨l1, μ1, ρ1, b1, b2, b3, ⟨b4, _, _, _, _, b5⟩, b6, b7, b8, b9⟩ | ⟨μ', ρ', b1, b2, b3, b4, b5⟩
  · have b2 : f_X12_readYears G ρ0 = some (nI l1, ρ1) := b2
    have ne : ¬ nI l1 = -1 := nI_m1 (by omega)
    obtain ⟨nq, q1, _, _⟩ := H.1.2.2.2.2.2.1
    have q1 : LnR μ 22 16 6 nq := q1
    have q1' : LnR μ1 22 16 6 nq := by
      unfold LnR at q1 ⊢
      rw [b8.1 22 (by omega) (by omega) (by omega) (by omega), pC.1 22 (by omega) (by omega) (by omega) (by omega) (by omega)]
      exact q1
    obtain ⟨μ2, c1, c2, c3, c4⟩ := cpyLn (G := G) (a := 22) (b := 52) (Na := 96) (Nb := 96) q1' b4 (by omega) (by omega) (by omega) (by omega) (by omega) (by omega) (by omega) (by omega) (by omega) (by omega) (by omega) (by omega) (by omega)
    obtain ⟨ρ2, t1, t2, t3, t4, t5, t6⟩ := takesY (G := G) (ρ := wr ρ1 0 15 0) hG b3
    refine ⟨nI l1, wr μ2 54 3 0, ρ2, ?_, ?_, ?_⟩
    · unfold f_X11_text
      rw [cr, b1, bndE_s, if_neg ne, if_neg (by decide), if_neg (by decide), if_pos rfl, c1, bndV_s]
      rfl
    · rw [tx, b2, bndE_s, txF, if_neg ne, if_neg (by decide), t1, bndV_s]
    · have cc : ∀ x, ¬ (20 ≤ x ∧ x ≤ 25) → x ≠ 54 → (wr μ2 54 3 0) x = μ1 x := fun x a b => by rw [wr_off b]; exact c2 x (by omega) (by omega)
      have rx : ∀ x, x ≠ 0 → ¬ (20 ≤ x ∧ x ≤ 22) → ρ2 x = ρ1 x := fun x a b => by rw [t5 x a (by omega), wr_off a]
      have rj : ∀ j, j ≠ 3 → j ≠ 15 → j ≠ 37 → j ≠ 39 → j ≠ 41 → ρ2 0 j = ρ1 0 j := fun j a b _ d _ => by rw [t6 j a d, wr_slot b]
      have Ce : ∀ x, (20 ≤ x ∧ x ≤ 21) ∨ (24 ≤ x ∧ x ≤ 25) → (wr μ2 54 3 0) x = μ x := fun x a => by rw [wr_off (by omega), c2 x (by omega) (by omega), b8.1 x (by omega) (by omega) (by omega) (by omega), pC.1 x (by omega) (by omega) (by omega) (by omega) (by omega)]
      refine txt_ok H pC pR b8 b9 b6 b7 cc rx rj (by rw [t6 15 (by omega) (by omega), wr_same]; rfl)
        (QuR_lo H.1.2.2.2.2.1 (fun x a b => Ce x (by omega)) (by rw [t6 37 (by omega) (by omega), wr_slot (by omega), b9.2.1 37 (by omega) (by omega), pR.2.1 37 (by omega) (by omega) (by omega) (by omega) (by omega)]) (fun i hi => by rw [t5 20 (by omega) (by omega), wr_cell (by omega), b9.2.2.2.2.1 i hi, pR.1 20 (by omega)]))
        ⟨l1, ?_, t3, fun k hk => ?_⟩
        (SiR_lo H.1.2.2.2.2.2.2.1 (fun x a b => Ce x (by omega)) (by rw [t6 41 (by omega) (by omega), wr_slot (by omega), b9.2.1 41 (by omega) (by omega), pR.2.1 41 (by omega) (by omega) (by omega) (by omega) (by omega)]) (fun i hi => by rw [t5 22 (by omega) (by omega), wr_cell (by omega), b9.2.2.2.2.2.2 i hi, pR.1 22 (by omega)]))
        (PaR_0 H.2.2.2.2.1 wr_same (by rw [wr_slot (by omega), c2 54 (by omega) (by omega), b8.1 54 (by omega) (by omega) (by omega) (by omega), pC.1 54 (by omega) (by omega) (by omega) (by omega) (by omega)]) t4)
      · exact LnR_o c3 (wr_off (by omega))
      · show DeR ((wr μ2 54 3 0) 23) (ρ2 21) W M (6 * k) (6 * k)
        have e1 : ∀ j, j < 6 → (wr μ2 54 3 0) 23 (6 * k + j) = μ1 53 (6 * k + j) := fun j hj => by
          rw [wr_cell (by omega)]
          have := c4 k j hk hj
          rw [show k * 6 + j = 6 * k + j by omega] at this
          exact this
        have e2 : ∀ j, j < 6 → ρ2 21 (6 * k + j) = ρ1 21 (96 + 6 * k + j) := fun j hj => by
          rw [t2 _ (by omega), wr_cell (by omega), show 96 + (6 * k + j) = 96 + 6 * k + j by omega]
        have d := b5 k hk
        unfold DeR at d ⊢
        have a0 := e1 0 (by omega)
        have z0 := e2 0 (by omega)
        rw [Nat.add_zero] at a0 z0
        rw [Nat.add_zero] at z0
        rw [a0, z0, e1 1 (by omega), e1 2 (by omega), e1 3 (by omega), e1 4 (by omega), e1 5 (by omega), e2 1 (by omega), e2 2 (by omega), e2 3 (by omega), e2 4 (by omega), e2 5 (by omega)]
        exact d
  · have b2 : f_X12_readYears G ρ0 = some (-1, ρ') := b2
    refine ⟨-1, μ', _, ?_, ?_, txt_fail H pC pR b4 b5 b3⟩
    · unfold f_X11_text
      rw [cr, b1, bndE_s, if_pos rfl]
    · rw [tx, b2, bndE_s, txF, if_pos rfl]
theorem text_s {G : Nat} {bb : Bool} {W M : Nat} {μ ρ : Mem} (hG : 500 ≤ G) (H : AT bb W M μ ρ) : ∃ r μ' ρ', f_X11_text G 3 μ = some (r, μ') ∧ f_X12_text G 3 ρ = some (r, ρ') ∧ AR bb μ' ρ' := by
  have P := H.1.1
  obtain ⟨n, c, hn, t5, tc, tT⟩ := tape_of H.2.1 H.2.2.2.2.2.2.2
  have hc : ∀ j, j < n → c j < 256 := fun j hj => (tc j hj).2
  have hK := tK_le (c := c) (n := n)
  obtain ⟨m, μ0, _, pC, _, _, cr, aC, l6, l7, l3, l11, l12⟩ := pre_c (G := G) (c := c) hG hn t5 tc P.1 P.2.2.2.1 3
  obtain ⟨ρ0, rr, aR, pR⟩ := pre_r (G := G) hG hn tT
  rw [if_neg (by decide), if_pos (by decide)] at cr
  have L0 : LR c n 0 0 μ0 ρ0 := ⟨by omega, aC, l7, aR, pR.2.2.2.2.2.1, fun i hi => absurd hi (by omega)⟩
  have tx := txt12 (G := G) (p := 3) (ρ := ρ) (by decide) rr
  rw [if_neg (by decide), if_neg (by decide), if_pos rfl] at tx
  have d0 : LnR μ0 52 16 6 0 := ⟨by rw [pC.2.1 0 (by omega)]; exact H.2.2.2.1.1, by rw [pC.2.1 1 (by omega)]; exact H.2.2.2.1.2, l3, by omega⟩
  obtain ⟨ρz, zr, zx, z12, zl⟩ := zeroS (G := G) (ρ := ρ0) hG
  have TRz : TR ρ0 ρz := ⟨fun x a b => zx x (by omega), fun j _ _ => by rw [zx 0 (by omega)], fun x a b i _ => by rw [zx x (by omega)], fun i _ => ⟨by rw [zx 17 (by omega)], by rw [zx 18 (by omega)]⟩, fun i _ => by rw [zx 20 (by omega)], fun i _ => by rw [zx 21 (by omega)], zl⟩
  have Lz : LR c n 0 0 μ0 ρz := LR_x L0 (fun _ _ _ => rfl) (fun x hx => zx x (by omega))
  have r6 : ρz 0 6 = nI W := by rw [zx 0 (by omega), pR.2.1 6 (by omega) (by omega) (by omega) (by omega) (by omega)]; exact P.2.1
  rcases loopT (F := f_X5_sisterLine G) (Lr := f_X12_readSisters_L26 G (f_X12_readSisters_j64 G)) (D := DS W) (kk := 3) hG hn hc (fun g v4 μ h1 h2 h3 => by rw [f_X5_read_L68, if_neg h3, if_pos h1, if_neg h2, if_neg (by decide), if_neg (by decide), if_neg (by decide)]; rfl) (by decide) (fun gl l ρ h => by
      rw [f_X12_readSisters_L26]
      have : f_X12_isWord ρ 23 = 0 := by unfold f_X12_isWord; rw [h, if_neg (by decide)]
      rw [this, if_pos rfl, f_X12_readSisters_j64, if_pos h]) (fun l μ ρ h => h.1.2.2.1) (fun k l μ ρ gl a1 a2 a3 a4 => sist_ok hG hn hc P.2.2.1 a1 a2 a3 a4) (tK c n) 0 0 μ0 ρz 0 G G (by omega) Lz ⟨d0, l11, r6, fun _ => 0, fun _ => 0, fun i hi => absurd hi (by omega), fun w hw => ⟨0, by decide, z12 w hw, fun v => ⟨fun q => absurd q (by rw [Nat.zero_testBit]; decide), fun ⟨i, hi, _⟩ => absurd hi (by omega)⟩⟩⟩ (by omega) (by omega) (by omega) (by omega) with ⟨l1, μ1, ρ1, b1, b2, b3, ⟨b4, _, _, A, B, bA, bS⟩, b6, b7, b8, b9⟩ | ⟨μ', ρ', b1, b2, b3, b4, b5⟩
  · have b2 : f_X12_readSisters G ρ0 = some (nI l1, ρ1) := zr.trans b2
    have ne : ¬ nI l1 = -1 := nI_m1 (by omega)
    obtain ⟨nq, _, _, q1, _, _⟩ := H.1.2.2.2.2.2.2.1
    have q1 : LnR μ 24 16 2 nq := q1
    have q1' : LnR μ1 24 16 2 nq := by
      unfold LnR at q1 ⊢
      rw [b8.1 24 (by omega) (by omega) (by omega) (by omega), pC.1 24 (by omega) (by omega) (by omega) (by omega) (by omega)]
      exact q1
    obtain ⟨μ2, c1, c2, c3, c4⟩ := cpyLn (G := G) (a := 24) (b := 52) (Na := 32) (Nb := 96) q1' b4 (by omega) (by omega) (by omega) (by omega) (by omega) (by omega) (by omega) (by omega) (by omega) (by omega) (by omega) (by omega) (by omega)
    obtain ⟨ρ2, t1, t2, t3, t5, t6⟩ := takesS (G := G) (l := l1) (ρ := wr ρ1 0 15 0) hG
    refine ⟨nI l1, μ2, ρ2, ?_, ?_, ?_⟩
    · unfold f_X11_text
      rw [cr, b1, bndE_s, if_neg ne, if_neg (by decide), if_neg (by decide), if_neg (by decide), c1, bndV_s]
    · rw [tx, b2, bndE_s, txF, if_neg ne, if_neg (by decide), t1, bndV_s]
    · have b9 := TR_tr TRz b9
      have cc : ∀ x, ¬ (20 ≤ x ∧ x ≤ 25) → x ≠ 54 → μ2 x = μ1 x := fun x a b => c2 x (by omega) (by omega)
      have rx : ∀ x, x ≠ 0 → ¬ (20 ≤ x ∧ x ≤ 22) → ρ2 x = ρ1 x := fun x a b => by rw [t5 x a (by omega), wr_off a]
      have rj : ∀ j, j ≠ 3 → j ≠ 15 → j ≠ 37 → j ≠ 39 → j ≠ 41 → ρ2 0 j = ρ1 0 j := fun j _ b _ _ d => by rw [t6 j d, wr_slot b]
      have Ce : ∀ x, ¬ (24 ≤ x ∧ x ≤ 25) → ¬ (41 ≤ x ∧ x ≤ 53) → μ2 x = μ x := fun x a b => by rw [c2 x (by omega) (by omega), b8.1 x (by omega) (by omega) (by omega) (by omega), pC.1 x (by omega) (by omega) (by omega) (by omega) (by omega)]
      have Rj : ∀ j, j ≠ 0 → j ≠ 41 → ¬ (15 ≤ j ∧ j ≤ 19) → ¬ (28 ≤ j ∧ j ≤ 36) → ρ2 0 j = ρ 0 j := fun j a a2 b d => by rw [t6 j a2, wr_slot (by omega), b9.2.1 j (by omega) (by omega), pR.2.1 j a (by omega) (by omega) (by omega) (by omega)]
      refine txt_ok H pC pR b8 b9 b6 b7 cc rx rj (by rw [t6 15 (by omega), wr_same]; rfl)
        (QuR_lo H.1.2.2.2.2.1 (fun x a b => Ce x (by omega) (by omega)) (Rj 37 (by omega) (by omega) (by omega) (by omega)) (fun i hi => by rw [t5 20 (by omega) (by omega), wr_cell (by omega), b9.2.2.2.2.1 i hi, pR.1 20 (by omega)]))
        (CaR_lo H.1.2.2.2.2.2.1 (fun x a b => Ce x (by omega) (by omega)) (Rj 39 (by omega) (by omega) (by omega) (by omega)) (fun i hi => by rw [t5 21 (by omega) (by omega), wr_cell (by omega), b9.2.2.2.2.2.1 i hi, pR.1 21 (by omega)]))
        ⟨l1, A, B, c3, t3, fun i hi => ?_, fun w hw => ?_⟩
        (PaR_o H.2.2.2.2.1 (fun x a b => Ce x (by omega) (by omega)) (Rj 3 (by omega) (by omega) (by omega) (by omega)) (by rw [rx 2 (by omega) (by omega), b9.1 2 (by omega) (by omega), pR.1 2 (by omega)]) (by rw [rx 1 (by omega) (by omega), b9.1 1 (by omega) (by omega), pR.1 1 (by omega)]))
      · obtain ⟨e1, e2, e3, e4, e5⟩ := bA i hi
        have y0 := c4 i 0 hi (by omega)
        have y1 := c4 i 1 hi (by omega)
        rw [show i * 2 + 0 = 2 * i by omega, show i * 6 + 0 = 6 * i by omega] at y0
        rw [show i * 2 + 1 = 2 * i + 1 by omega, show i * 6 + 1 = 6 * i + 1 by omega] at y1
        refine ⟨e1, e2, e3, ?_, ?_⟩
        · show μ2 25 (2 * i) = _
          exact y0.trans e4
        · show μ2 25 (2 * i + 1) = _
          exact y1.trans e5
      · rw [t2 w hw, wr_cell (by omega)]
        exact bS w hw
  · have b2 : f_X12_readSisters G ρ0 = some (-1, ρ') := zr.trans b2
    refine ⟨-1, μ', _, ?_, ?_, txt_fail H pC pR b4 (TR_tr TRz b5) b3⟩
    · unfold f_X11_text
      rw [cr, b1, bndE_s, if_pos rfl]
    · rw [tx, b2, bndE_s, txF, if_pos rfl]
theorem s_text {G : Nat} {bb : Bool} {μ ρ : Mem} (hG : 500 ≤ G) (h : AR bb μ ρ) (p : Int32) : ∃ r μ' ρ', f_X11_text G p μ = some (r, μ') ∧ f_X12_text G p ρ = some (r, ρ') ∧ AR bb μ' ρ' := by
  obtain ⟨W, M, H⟩ := h
  by_cases hp : 0 ≤ p ∧ p ≤ 3
  · obtain ⟨k, hk, rfl⟩ := in_of 3 rfl (by omega) hp.1 hp.2
    rcases (by omega : k = 0 ∨ k = 1 ∨ k = 2 ∨ k = 3) with e | e | e | e <;> subst e
    · exact text_law hG H
    · exact text_q hG H
    · exact text_y hG H
    · exact text_s hG H
  · have P := H.1.1
    obtain ⟨n, c, hn, t5, tc, tT⟩ := tape_of H.2.1 H.2.2.2.2.2.2.2
    obtain ⟨m, μ0, pm, _, f6, f7, cr, _⟩ := pre_c (G := G) (c := c) hG hn t5 tc P.1 P.2.2.2.1 p
    have cr : f_X5_read G p (μ 1 6) (μ 1 7) μ = some (-1, m) := by
      rw [cr]
      by_cases p0 : p < 0
      · rw [if_pos p0]
      · rw [if_neg p0, if_neg (fun q => hp ⟨by grind, q⟩)]
    have st : f_X12_text G p ρ = some (-1, wr (txR ρ) 0 15 0) := by
      have st : f_X12_text G p ρ = (if f_X12_isIn p 0 3 = 0 then f_X12_text_j69 G p (-1) (txR ρ) else bndE (f_X12_readsText G p (txR ρ)) (fun w17 m16 => if w17 = -1 then f_X12_text_j69 G p w17 (wr (wr m16 0 35 (m16 0 33)) 0 36 ((wr m16 0 35 (m16 0 33)) 0 34)) else f_X12_text_j69 G p w17 m16)) := rfl
      rw [st, isI, if_neg hp, if_pos rfl, f_X12_text_j69, if_pos rfl]
    refine ⟨-1, m, _, ?_, st, ?_⟩
    · unfold f_X11_text
      rw [cr, bndE_s, if_pos rfl]
    · have C : ∀ x, ¬ (41 ≤ x ∧ x ≤ 53) → m x = μ x := fun x hx => pm.1 x (by omega) (by omega) (by omega) (by omega) (by omega)
      have R0 : ∀ x, x ≠ 0 → (wr (txR ρ) 0 15 0) x = ρ x := fun x hx => by unfold txR; rw [wr_off hx, wr_off hx, wr_off hx, wr_off hx, wr_off hx, wr_off hx, wr_off hx]
      have Rj : ∀ j, j ≠ 0 → ¬ (15 ≤ j ∧ j ≤ 19) → ¬ (28 ≤ j ∧ j ≤ 36) → (wr (txR ρ) 0 15 0) 0 j = ρ 0 j := fun j a b d => by unfold txR; rw [wr_slot (by omega), wr_slot (by omega), wr_slot (by omega), wr_slot (by omega), wr_slot (by omega), wr_slot (by omega), wr_slot a]
      refine AR_txt H (fun x _ b => C x (by omega)) ⟨pm.2.1 0 (by omega), pm.2.1 1 (by omega)⟩ pm.2.2 (fun x a _ => R0 x a) (fun j a _ b d _ _ => Rj j a b (by omega)) wr_same ⟨?_, ?_⟩
        (LwR_lo H.1.2.2.2.2.2.2.2.1 (fun x _ _ => C x (by omega)) (R0 12 (by omega)) (fun x a b i _ => by rw [R0 x (by omega)]) (fun i _ => by rw [R0 17 (by omega), R0 18 (by omega)]; exact ⟨rfl, rfl⟩))
        (QuR_lo H.1.2.2.2.2.1 (fun x _ _ => C x (by omega)) (Rj 37 (by omega) (by omega) (by omega)) (fun i hi => by rw [R0 20 (by omega)]))
        (CaR_lo H.1.2.2.2.2.2.1 (fun x _ _ => C x (by omega)) (Rj 39 (by omega) (by omega) (by omega)) (fun i hi => by rw [R0 21 (by omega)]))
        (SiR_lo H.1.2.2.2.2.2.2.1 (fun x _ _ => C x (by omega)) (Rj 41 (by omega) (by omega) (by omega)) (fun i hi => by rw [R0 22 (by omega)]))
        (PaR_o H.2.2.2.2.1 (fun x _ _ => C x (by omega)) (Rj 3 (by omega) (by omega) (by omega)) (R0 2 (by omega)) (by rw [R0 1 (by omega)]))
      · rw [f6]
        unfold txR
        rw [wr_slot (by omega), wr_slot (by omega), wr_slot (by omega), wr_slot (by omega), wr_slot (by omega), wr_same]
      · rw [f7]
        unfold txR
        rw [wr_slot (by omega), wr_slot (by omega), wr_slot (by omega), wr_slot (by omega), wr_same]
end
