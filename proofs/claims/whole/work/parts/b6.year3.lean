section
variable {G n : Nat} {c : Nat → Nat}
theorem DeR_c {m m' r r' : Nat → Int32} {W M i j : Nat} (h : DeR m r W M i j) (h1 : ∀ k, k < 6 → m' (i + k) = m (i + k)) (h2 : ∀ k, k < 6 → r' (j + k) = r (j + k)) : DeR m' r' W M i j := by
  unfold DeR at h ⊢
  have a0 := h1 0 (by omega)
  have b0 := h2 0 (by omega)
  rw [Nat.add_zero] at a0 b0
  rw [a0, b0, h1 1 (by omega), h1 2 (by omega), h1 3 (by omega), h1 4 (by omega), h1 5 (by omega), h2 1 (by omega), h2 2 (by omega), h2 3 (by omega), h2 4 (by omega), h2 5 (by omega)]
  exact h
theorem year_ok {k l gl W M : Nat} {μ ρ : Mem} (hG : 500 ≤ G) (hn : n ≤ 400) (hc : ∀ j, j < n → c j < 256) (hW : W ≤ 12) (hM : M ≤ 8) (h : LR c n k 0 μ ρ) (hd : DY W M l μ ρ) (hl : l ≤ 16) (hk : k < tK c n) :
    (∃ k' μ' ρ', f_X5_yearLine G μ = some μ' ∧ f_X12_readYears_L2 G (f_X12_readYears_j47 G) (gl + 1) (nI l) ρ = f_X12_readYears_L2 G (f_X12_readYears_j47 G) gl (nI (l + 1)) ρ' ∧ LR c n k' 0 μ' ρ' ∧ DY W M (l + 1) μ' ρ' ∧ l + 1 ≤ 16 ∧ k < k' ∧ TC μ μ' ∧ TR ρ ρ') ∨
      ∃ μ' ρ', f_X5_yearLine G μ = some μ' ∧ f_X12_readYears_L2 G (f_X12_readYears_j47 G) (gl + 1) (nI l) ρ = some (-1, ρ') ∧ SK μ' ∧ FtR μ' ρ' ∧ TC μ μ' ∧ TR ρ ρ' := by
  obtain ⟨dl, d11, d12, d6, d7, dd⟩ := hd
  have nE : ¬ ρ 0 18 = 0 := fun q => by
    have := (tV_end hc h.1).mp ((tk_e h.2.2.2.1.2.2.1).mp q)
    omega
  have l3 : μ 52 3 = nI l := dl.2.2.1
  rcases begin_ok (l := l) (w := 19) hG hn hc h hl (by omega) hk with ⟨e1, iw, l16, μ1, ρ1, b1, b2, b3, b4⟩ | ⟨v, μ1, ρ1, cs, b1, b2, b3, b4, b5⟩
  · have iw : f_X12_isWord ρ 19 = 1 := iw
    have b1 : f_X5_beginLine G 10019 (μ 52 3) μ = some (1, μ1) := by rw [l3]; exact b1
    have d1 := LnR_t dl (b4 0).1
    have T1 : TC μ μ1 := TC_f (b4 0).1
    have R1 : TR ρ ρ1 := TR_c (cF_e (b4 0))
    have iat : (96 : Int32) + (6 : Int32) * nI l = nI (96 + 6 * l) := by
      rw [show (6 : Int32) * nI l = nI (6 * l) from pk_mul 6 l]
      exact nI_add 96 _
    have ia1 : nI (96 + 6 * l) + (1 : Int32) = nI (96 + 6 * l + 1) := nI_add _ 1
    have ia2 : nI (96 + 6 * l) + (2 : Int32) = nI (96 + 6 * l + 2) := nI_add _ 2
    have rst : f_X12_readYears_L2 G (f_X12_readYears_j47 G) (gl + 1) (nI l) ρ = bndE (f_X12_readDeed G (nI (96 + 6 * l)) ρ) (fun w5 m4 => if w5 = -1 then some (-1, m4) else f_X12_readYears_L2 G (f_X12_readYears_j47 G) gl (nI (l + 1)) m4) := by
      rw [f_X12_readYears_L2, iw, if_neg (by decide), if_neg (show ¬ nI l = 16 from fun q => by have := (nI_eq (b := 16) (by omega) (by omega)).mp q; omega), iat, nI_1]
    have rd : f_X12_readDeed G (nI (96 + 6 * l)) ρ = bndE (f_X12_readNumber G 0 999 ρ1) (fun w3 m2 => if w3 = -1 then some (-1, wr m2 21 (96 + 6 * l) w3) else if (wr m2 21 (96 + 6 * l) w3) 0 18 = 2 then (if f_X12_isIn ((wr m2 21 (96 + 6 * l) w3) 0 19) 20 22 = 0 then f_X12_errs G 1 (wr m2 21 (96 + 6 * l) w3) else bndV (f_X12_reads G (wr m2 21 (96 + 6 * l) w3)) (fun m14 => if (wr m2 21 (96 + 6 * l) w3) 0 19 - 20 = 1 then f_X12_readDeed_j107 G (nI (96 + 6 * l)) ((wr m2 21 (96 + 6 * l) w3) 0 19 - 20) ((wr m14 21 (96 + 6 * l + 1) ((wr m2 21 (96 + 6 * l) w3) 0 19 - 20)) 0 6 - 1) 0 (nI (96 + 6 * l + 2)) (wr m14 21 (96 + 6 * l + 1) ((wr m2 21 (96 + 6 * l) w3) 0 19 - 20)) else f_X12_readDeed_j107 G (nI (96 + 6 * l)) ((wr m2 21 (96 + 6 * l) w3) 0 19 - 20) ((wr m14 21 (96 + 6 * l + 1) ((wr m2 21 (96 + 6 * l) w3) 0 19 - 20)) 0 7 - 1) 0 (nI (96 + 6 * l + 2)) (wr m14 21 (96 + 6 * l + 1) ((wr m2 21 (96 + 6 * l) w3) 0 19 - 20)))) else f_X12_errs G 1 (wr m2 21 (96 + 6 * l) w3)) := by
      unfold f_X12_readDeed f_X12_readTold
      rw [iw, if_neg (by decide), b2, bndV_s, pr12, ia1, ia2]
      congr 1
      funext w3 m2
      rw [chkn (by omega) (by omega), ixn (by omega)]
      show chk (nI (96 + 6 * l)) 192 (if (wr m2 21 (96 + 6 * l) w3) 21 (96 + 6 * l) = -1 then _ else _) = _
      rw [chkn (by omega) (by omega), wr_same]
      by_cases q : w3 = -1
      · rw [if_pos q, if_pos q]
      · rw [if_neg q, if_neg q]
        simp only [pr12]
        congr 1
        congr 1
        congr 1
        funext m14
        rw [chkn (by omega) (by omega), ixn (by omega)]
    rw [rst, rd]
    have cst : f_X5_yearLine G μ = bndE (f_X5_numberBelow G (nI 1000) μ1) (fun w7 m6 => if m6 41 6 = 0 then (if m6 41 10 = 10020 then f_X5_yearLine_j64 G w7 (m6 41 10) m6 else if m6 41 10 = 10021 then f_X5_yearLine_j64 G w7 (m6 41 10) m6 else if m6 41 10 = 10022 then f_X5_yearLine_j64 G w7 (m6 41 10) m6 else bndV (f_X5_fail G 1 m6) (fun m45 => f_X5_yearLine_j64 G w7 (m6 41 10) m45)) else f_X5_yearLine_j64 G w7 (m6 41 10) m6) := by
      unfold f_X5_yearLine
      rw [b1, bndE_s, if_neg (by decide)]
      rfl
    rw [cst]
    have f11 : ∀ {z : Nat} {μ ρ μ' ρ' : Mem}, eF z μ ρ μ' ρ' → (μ' 41 11 = μ 41 11 ∧ μ' 41 12 = μ 41 12 ∧ ρ' 0 6 = ρ 0 6 ∧ ρ' 0 7 = ρ 0 7) := fun he => ⟨he.1.2.1 11 (by omega) (by omega) (by omega) (by omega), he.1.2.1 12 (by omega) (by omega) (by omega) (by omega), he.2.2.2.1 6 (by omega) (by omega) (by omega) (by omega), he.2.2.2.1 7 (by omega) (by omega) (by omega) (by omega)⟩
    rcases numN (B := 1000) (hi := 999) hG hn hc (by omega) b3 (fun x hx => isIn_b (B := 1000) (by omega) x hx) with ⟨y, μ2, ρ2, y1000, p1, p2, p3, p4, p5⟩ | ⟨μ2, ρ2, p1, p2, p3, p4, p5⟩
    · have d2 := LnR_t d1 (p5 0).1
      have T2 : TC μ μ2 := TC_tr T1 (TC_f (p5 0).1)
      have H2 := LR_x (μ' := μ2) (ρ' := wr ρ2 21 (96 + 6 * l) (nI y)) p3 (fun _ _ _ => rfl) (fun x hx => wr_off (by omega))
      have R2 : TR ρ (wr ρ2 21 (96 + 6 * l) (nI y)) := TR_tr R1 (TR_tr (TR_c (cF_e (p5 0))) (TR_21 (by omega)))
      have T := H2.2.2.2.1.2.2.1
      rw [p1, bndE_s, if_pos (flt_c p3), tok_c p3, p2, bndE_s, if_neg (nI_m1 (by omega))]
      rcases tk_y T with ⟨e, e3, t1, k2, v1, ii⟩ | ⟨n0, n1, n2, ni⟩
      · have v20 : nI (20 + e) - (20 : Int32) = nI e := by
          rw [show nI (20 + e) - (20 : Int32) = nI (20 + e - 20) from pk_sub (b := 20) (by omega), Nat.add_sub_cancel_left]
        have cj : (if tV c n (k + 1 + 1) = 10020 then f_X5_yearLine_j64 G (nI y) (tV c n (k + 1 + 1)) μ2 else if tV c n (k + 1 + 1) = 10021 then f_X5_yearLine_j64 G (nI y) (tV c n (k + 1 + 1)) μ2 else if tV c n (k + 1 + 1) = 10022 then f_X5_yearLine_j64 G (nI y) (tV c n (k + 1 + 1)) μ2 else bndV (f_X5_fail G 1 μ2) (fun m45 => f_X5_yearLine_j64 G (nI y) (tV c n (k + 1 + 1)) m45)) = f_X5_yearLine_j64 G (nI y) (tV c n (k + 1 + 1)) μ2 := by
          rw [t1]
          rcases (by omega : e = 0 ∨ e = 1 ∨ e = 2) with q | q | q <;> subst q
          · rw [if_pos (by decide)]
          · rw [if_neg (by decide), if_pos (by decide)]
          · rw [if_neg (by decide), if_neg (by decide), if_pos (by decide)]
        rw [cj, if_pos k2, ii, if_neg (by decide), v1, v20]
        rcases expect_ok (v := tV c n (k + 1 + 1)) hG hn hc H2 (by omega) with ⟨_, q⟩ | ⟨q, _⟩
        · obtain ⟨μ3, ρ3, q1, _, q2, q3, q4, q5⟩ := q (by rw [t1]; exact fun z => absurd ((nI_eq (b := 30000) (by omega) (by omega)).mp z) (by omega))
          have d3 := LnR_t d2 (q5 0).1
          have T3 : TC μ μ3 := TC_tr T2 (TC_f (q5 0).1)
          have H3 := LR_x (μ' := μ3) (ρ' := wr ρ3 21 (96 + 6 * l + 1) (nI e)) q3 (fun _ _ _ => rfl) (fun x hx => wr_off (by omega))
          have R3 : TR ρ (wr ρ3 21 (96 + 6 * l + 1) (nI e)) := TR_tr R2 (TR_tr (TR_c (cF_e (q5 0))) (TR_21 (by omega)))
          obtain ⟨g1, g2, g3, g4⟩ := f11 (q5 0)
          obtain ⟨g5, g6, g7, g8⟩ := f11 (p5 0)
          obtain ⟨g9, g10, g11, g12⟩ := f11 (b4 0)
          have w11 : μ3 41 11 = nI W := by rw [g1, g5, g9]; exact d11
          have w12 : μ3 41 12 = nI M := by rw [g2, g6, g10]; exact d12
          have r6 : (wr ρ3 21 (96 + 6 * l + 1) (nI e)) 0 6 = nI W := by rw [wr_cell (by omega), g3, wr_cell (by omega), g7, g11]; exact d6
          have r7 : (wr ρ3 21 (96 + 6 * l + 1) (nI e)) 0 7 = nI M := by rw [wr_cell (by omega), g4, wr_cell (by omega), g8, g12]; exact d7
          -- whom
          let B := if e = 1 then W else M
          have hB : B ≤ 12 := by show (if e = 1 then W else M) ≤ 12; split <;> omega
          have cl : f_X5_yearLine_j64 G (nI y) (tV c n (k + 1 + 1)) μ2 = bndE (f_X5_numberBelow G (nI B) μ3) (fun w15 m14 => yA G (nI y) (tV c n (k + 1 + 1)) w15 m14) := by
            rw [f_X5_yearLine_j64, q1, bndE_s, w11, w12, t1]
            by_cases e1 : e = 1
            · rw [e1, if_pos (show nI (10020 + 1) = 10021 from rfl), j89_y]
              show bndE (f_X5_numberBelow G (nI W) μ3) _ = bndE (f_X5_numberBelow G (nI (if e = 1 then W else M)) μ3) _
              rw [if_pos e1]
            · rw [if_neg (show ¬ nI (10020 + e) = 10021 from fun z => e1 (by have := (nI_eq (b := 10021) (by omega) (by omega)).mp z; omega)), j89_y]
              show bndE (f_X5_numberBelow G (nI M) μ3) _ = bndE (f_X5_numberBelow G (nI (if e = 1 then W else M)) μ3) _
              rw [if_neg e1]
          have rf : bndV (f_X12_reads G (wr ρ2 21 (96 + 6 * l) (nI y))) (fun m14 => if nI e = 1 then f_X12_readDeed_j107 G (nI (96 + 6 * l)) (nI e) ((wr m14 21 (96 + 6 * l + 1) (nI e)) 0 6 - 1) 0 (nI (96 + 6 * l + 2)) (wr m14 21 (96 + 6 * l + 1) (nI e)) else f_X12_readDeed_j107 G (nI (96 + 6 * l)) (nI e) ((wr m14 21 (96 + 6 * l + 1) (nI e)) 0 7 - 1) 0 (nI (96 + 6 * l + 2)) (wr m14 21 (96 + 6 * l + 1) (nI e))) = bndE (f_X12_readNumber G 0 (nI B - 1) (wr ρ3 21 (96 + 6 * l + 1) (nI e))) (fun w20 m19 => if w20 = -1 then some (-1, wr m19 21 (96 + 6 * l + 2) w20) else if nI e = 0 then bndE (f_X12_readWedding G (nI (96 + 6 * l)) (wr m19 21 (96 + 6 * l + 2) w20)) (fun w31 m30 => if w31 = -1 then some (-1, m30) else bndE (f_X12_readMark G 59 m30) (fun w35 m34 => some (w35, m34))) else f_X12_readMark G 59 (wr m19 21 (96 + 6 * l + 2) w20)) := by
            have j107 : ∀ s0 m, f_X12_readDeed_j107 G (nI (96 + 6 * l)) (nI e) s0 0 (nI (96 + 6 * l + 2)) m = bndE (f_X12_readNumber G 0 s0 m) (fun w20 m19 => if w20 = -1 then some (-1, wr m19 21 (96 + 6 * l + 2) w20) else if nI e = 0 then bndE (f_X12_readWedding G (nI (96 + 6 * l)) (wr m19 21 (96 + 6 * l + 2) w20)) (fun w31 m30 => if w31 = -1 then some (-1, m30) else bndE (f_X12_readMark G 59 m30) (fun w35 m34 => some (w35, m34))) else f_X12_readMark G 59 (wr m19 21 (96 + 6 * l + 2) w20)) := by
              intro s0 m
              rw [f_X12_readDeed_j107, ia2]
              congr 1
              funext w20 m19
              rw [chkn (by omega) (by omega), ixn (by omega)]
              show chk (nI (96 + 6 * l + 2)) 192 (if (wr m19 21 (96 + 6 * l + 2) w20) 21 (96 + 6 * l + 2) = -1 then _ else _) = _
              rw [chkn (by omega) (by omega), wr_same]
              simp only [pr12]
            rw [q2, bndV_s, r6, r7, j107, j107]
            by_cases e1 : e = 1
            · rw [if_pos (show nI e = 1 by rw [e1]; rfl)]
              show bndE (f_X12_readNumber G 0 (nI W - 1) _) _ = bndE (f_X12_readNumber G 0 (nI (if e = 1 then W else M) - 1) _) _
              rw [if_pos e1]
            · rw [if_neg (show ¬ nI e = 1 from fun z => e1 ((nI_eq (b := 1) (by omega) (by omega)).mp z))]
              show bndE (f_X12_readNumber G 0 (nI M - 1) _) _ = bndE (f_X12_readNumber G 0 (nI (if e = 1 then W else M) - 1) _) _
              rw [if_neg e1]
          rw [cl, rf]
          rcases numN (B := B) (hi := nI B - 1) hG hn hc (by omega) H3 (fun x hx => isIn_b (by omega) x hx) with ⟨w, μ4, ρ4, wB, s1, s2, s3, s4, s5⟩ | ⟨μ4, ρ4, s1, s2, s3, s4, s5⟩
          · have d4 := LnR_t d3 (s5 0).1
            obtain ⟨μ5, a1, a2, a3, a4, a5⟩ := addn (G := G) (N := 96) (p := nI y) (q := tV c n (k + 1 + 1)) (r := nI w) (s := 0) d4 (by omega) (by omega) (by omega) (by omega) (by omega) l16
            let ρ5 := wr ρ4 21 (96 + 6 * l + 2) (nI w)
            have dx5 : dX μ4 μ5 := fun x q r => a2 x q r
            have H5 := LR_x (μ' := μ5) (ρ' := ρ5) s3 dx5 (fun x hx => wr_off (by omega))
            have T5 : TC μ μ5 := TC_tr T3 (TC_tr (TC_f (s5 0).1) (TC_x dx5 d4 a3))
            have R5 : TR ρ ρ5 := TR_tr R3 (TR_tr (TR_c (cF_e (s5 0))) (TR_21 (by omega)))
            have m53 : μ4 53 = μ 53 := by rw [(s5 0).1.1 53 (by omega) (by omega) (by omega), (q5 0).1.1 53 (by omega) (by omega) (by omega), (p5 0).1.1 53 (by omega) (by omega) (by omega), (b4 0).1.1 53 (by omega) (by omega) (by omega)]
            have y4 : ∀ j, j < l * 6 → μ5 53 j = μ 53 j := fun j hj => by rw [← m53]; exact a4 j hj
            have y5 : ∀ j, j < 6 → μ5 53 (l * 6 + j) = lv4 (nI y) (tV c n (k + 1 + 1)) (nI w) 0 j := a5
            have z1 : ρ4 21 = (wr ρ3 21 (96 + 6 * l + 1) (nI e)) 21 := (s5 0).2.2.1 21 (by omega) (by omega) (by omega)
            have z2 : ρ3 21 = (wr ρ2 21 (96 + 6 * l) (nI y)) 21 := (q5 0).2.2.1 21 (by omega) (by omega) (by omega)
            have z3 : ρ2 21 = ρ 21 := by rw [(p5 0).2.2.1 21 (by omega) (by omega) (by omega), (b4 0).2.2.1 21 (by omega) (by omega) (by omega)]
            have x0 : ∀ j, j < 96 + 6 * l → ρ5 21 j = ρ 21 j := fun j hj => by
              show wr ρ4 21 (96 + 6 * l + 2) (nI w) 21 j = _
              rw [wr_slot (by omega), z1, wr_slot (by omega), z2, wr_slot (by omega), z3]
            have x1 : ρ5 21 (96 + 6 * l) = nI y := by
              show wr ρ4 21 (96 + 6 * l + 2) (nI w) 21 (96 + 6 * l) = _
              rw [wr_slot (by omega), z1, wr_slot (by omega), z2, wr_same]
            have x2 : ρ5 21 (96 + 6 * l + 1) = nI e := by
              show wr ρ4 21 (96 + 6 * l + 2) (nI w) 21 (96 + 6 * l + 1) = _
              rw [wr_slot (by omega), z1, wr_same]
            have x3 : ρ5 21 (96 + 6 * l + 2) = nI w := wr_same
            have fin : ∀ μ6 ρ6, LnR μ6 52 16 6 (l + 1) → TC μ μ6 → TR ρ ρ6 → (∀ j, j < 6 * l + 3 → μ6 53 j = μ5 53 j) → (∀ j, j < 96 + 6 * l + 3 → ρ6 21 j = ρ5 21 j) → (e = 0 → ∃ x y z, x < W ∧ y < W ∧ z < W ∧ x ≠ y ∧ y ≠ z ∧ x ≠ z ∧ ρ6 21 (96 + 6 * l + 3) = nI x ∧ μ6 53 (6 * l + 3) = nI x ∧ ρ6 21 (96 + 6 * l + 4) = nI y ∧ μ6 53 (6 * l + 4) = nI y ∧ ρ6 21 (96 + 6 * l + 5) = nI z ∧ μ6 53 (6 * l + 5) = nI z) → DY W M (l + 1) μ6 ρ6 := by
              intro μ6 ρ6 L6 T6 R6 c1 c2 c3
              refine ⟨L6, by rw [T6.2.1 11 (by omega) (by omega) (by omega) (by omega)]; exact d11, by rw [T6.2.1 12 (by omega) (by omega) (by omega) (by omega)]; exact d12, by rw [R6.2.1 6 (by omega) (by omega)]; exact d6, by rw [R6.2.1 7 (by omega) (by omega)]; exact d7, fun i hi => ?_⟩
              by_cases il : i = l
              · rw [il]
                refine ⟨?_, e, w, e3, ?_, ?_, ?_, ?_, fun e1 => ?_, fun e1 => ?_, c3⟩
                · rw [c1 _ (by omega), c2 _ (by omega), x1]
                  have := y5 0 (by omega)
                  rw [show l * 6 + 0 = 6 * l by omega] at this
                  rw [this]; rfl
                · rw [c2 _ (by omega), x2]
                · rw [c1 _ (by omega)]
                  have := y5 1 (by omega)
                  rw [show l * 6 + 1 = 6 * l + 1 by omega] at this
                  rw [this]
                  exact t1
                · rw [c2 _ (by omega), x3]
                · rw [c1 _ (by omega)]
                  have := y5 2 (by omega)
                  rw [show l * 6 + 2 = 6 * l + 2 by omega] at this
                  rw [this]; rfl
                · have : w < if e = 1 then W else M := wB
                  rw [if_pos e1] at this
                  exact this
                · have : w < if e = 1 then W else M := wB
                  rw [if_neg e1] at this
                  exact this
              · refine DeR_c (dd i (by omega)) (fun k hk => ?_) (fun k hk => ?_)
                · rw [c1 _ (by omega), y4 _ (by omega)]
                · rw [c2 _ (by omega), x0 _ (by omega)]
            rw [s1, bndE_s, yA, a1, bndE_s, s2, bndE_s, if_neg (nI_m1 (by omega))]
            by_cases e0 : e = 0
            · rw [if_pos (show tV c n (k + 1 + 1) = 10020 by rw [t1, e0]; rfl), if_pos (show nI e = 0 by rw [e0]; rfl)]
              rcases wed_ok hG hn hc hW H5 a3 l16 (by rw [T5.2.1 11 (by omega) (by omega) (by omega) (by omega)]; exact d11) (by rw [R5.2.1 6 (by omega) (by omega)]; exact d6) with ⟨k6, μ6, ρ6, x, y', z, u1, u2, u3, u4, u5, u6, u7, u8, u9, u10, u11, u12, u13, u14, u15, u16, u17, u18, u19, u20, u21⟩ | ⟨μ6, ρ6, u1, u2, u3, u4, u5, u6⟩
              · exact Or.inl ⟨k6, μ6, ρ6, u1, by rw [u2, bndE_s, if_neg (by decide)], u3, fin μ6 ρ6 u21 (TC_tr T5 u19) (TR_tr R5 u20) u17 u18 (fun _ => ⟨x, y', z, u5, u6, u7, u8, u9, u10, u14, u11, u15, u12, u16, u13⟩), by omega, by omega, TC_tr T5 u19, TR_tr R5 u20⟩
              · exact Or.inr ⟨μ6, ρ6, u1, by rw [u2, bndE_s, if_pos rfl], u3, u4, TC_tr T5 u5, TR_tr R5 u6⟩
            · rw [if_neg (show ¬ tV c n (k + 1 + 1) = 10020 by rw [t1]; exact fun q => e0 (by have := (nI_eq (b := 10020) (by omega) (by omega)).mp q; omega)), if_neg (show ¬ nI e = 0 from nI_ne0 (by omega) (by omega))]
              rcases mark_ok hG hn hc H5 with ⟨μ6, ρ6, u1, u2, u3, u4⟩ | ⟨μ6, ρ6, u1, u2, u3, u4, u5⟩
              · have T6 := TC_tr T5 (TC_f (u4 0).1)
                have R6 := TR_tr R5 (TR_c (cF_e (u4 0)))
                exact Or.inl ⟨k + 1 + 1 + 1 + 1 + 1, μ6, ρ6, by rw [u1, bndE_s], by rw [u2, bndE_s, if_neg (by decide)], u3, fin μ6 ρ6 (LnR_t a3 (u4 0).1) T6 R6 (fun j _ => by rw [(u4 0).1.1 53 (by omega) (by omega) (by omega)]) (fun j _ => by rw [(u4 0).2.2.1 21 (by omega) (by omega) (by omega)]) (fun q => absurd q e0), by omega, by omega, T6, R6⟩
              · exact Or.inr ⟨μ6, ρ6, by rw [u1, bndE_s], by rw [u2, bndE_s, if_pos rfl], u3, u4, TC_tr T5 (TC_f (u5 0).1), TR_tr R5 (TR_c (cF_e (u5 0)))⟩
          · have d4 := LnR_t d3 (s5 0).1
            obtain ⟨μ5, a1, a2, a3⟩ := yA_k (G := G) (a := nI y) (b := tV c n (k + 1 + 1)) (w := 0) hG s3 d4 l16
            obtain ⟨x1, x2⟩ := SK_x (ρ' := wr ρ4 21 (96 + 6 * l + 2) (-1)) s3 s4 a2 (fun x hx => wr_off (by omega))
            exact Or.inr ⟨μ5, wr ρ4 21 (96 + 6 * l + 2) (-1), by rw [s1, bndE_s, a1], by rw [s2, bndE_s, if_pos rfl, bndE_s, if_pos rfl], x1, x2, TC_tr T3 (TC_tr (TC_f (s5 0).1) (TC_x a2 d4 a3)), TR_tr R3 (TR_tr (TR_c (cF_e (s5 0))) (TR_21 (by omega)))⟩
        · exact absurd rfl q
      · obtain ⟨μ3, ρ3, q1, q2, q3, q4, q5⟩ := L_fail (G := G) (v := 1) hn H2 (by omega) (by decide)
        have d3 := LnR_t d2 (q5 0).1
        obtain ⟨μ5, a1, a2, a3⟩ := j64_k (G := G) (a := nI y) (b := tV c n (k + 1 + 1)) hG q3 d3 l16
        obtain ⟨x1, x2⟩ := SK_x (ρ' := ρ3) q3 q4 a2 (fun _ _ => rfl)
        refine Or.inr ⟨μ5, ρ3, ?_, ?_, x1, x2, TC_tr T2 (TC_tr (TC_f (q5 0).1) (TC_x a2 d3 a3)), TR_tr R2 (TR_c (cF_e (q5 0)))⟩
        · rw [if_neg n0, if_neg n1, if_neg n2, q1, bndV_s, a1]
        · by_cases k2 : (wr ρ2 21 (96 + 6 * l) (nI y)) 0 18 = 2
          · rw [if_pos k2, ni k2, if_pos rfl, q2, bndE_s, if_pos rfl]
          · rw [if_neg k2, q2, bndE_s, if_pos rfl]
    · have d2 := LnR_t d1 (p5 0).1
      obtain ⟨μ5, a1, a2, a3⟩ := j64_k (G := G) (a := 0) (b := μ2 41 10) hG p3 d2 l16
      obtain ⟨x1, x2⟩ := SK_x (ρ' := wr ρ2 21 (96 + 6 * l) (-1)) p3 p4 a2 (fun x hx => wr_off (by omega))
      refine Or.inr ⟨μ5, wr ρ2 21 (96 + 6 * l) (-1), ?_, ?_, x1, x2, TC_tr T1 (TC_tr (TC_f (p5 0).1) (TC_x a2 d2 a3)), TR_tr R1 (TR_tr (TR_c (cF_e (p5 0))) (TR_21 (by omega)))⟩
      · rw [p1, bndE_s, if_neg p3.1, a1]
      · rw [p2, bndE_s, if_pos rfl, bndE_s, if_pos rfl]
  · have b1 : f_X5_beginLine G 10019 (μ 52 3) μ = some (0, μ1) := by rw [l3]; exact b1
    refine Or.inr ⟨μ1, ρ1, ?_, ?_, b3, b4, TC_f (b5 0).1, TR_c (cF_e (b5 0))⟩
    · unfold f_X5_yearLine
      rw [b1, bndE_s, if_pos rfl]
    · rw [f_X12_readYears_L2]
      rcases cs with ⟨v3, iw, l16⟩ | ⟨v1, iw⟩
      · have iw : f_X12_isWord ρ 19 = 1 := iw
        subst v3
        rw [iw, if_neg (by decide), l16, if_pos (show nI 16 = 16 from rfl), b2, bndE_s]
      · have iw : f_X12_isWord ρ 19 = 0 := iw
        subst v1
        rw [iw, if_pos rfl, f_X12_readYears_j47, if_neg nE, b2, bndE_s]
end
