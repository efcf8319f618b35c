section
variable {G n : Nat} {c : Nat → Nat}
theorem TC_d {μ μ' : Mem} {l : Nat} (h1 : dX μ μ') (h2 : LnR μ 52 16 6 l) (h3 : LnR μ' 52 16 6 l) : TC μ μ' := TC_x h1 h2 h3
theorem wed_ok {k l W : Nat} {μ ρ : Mem} (hG : 500 ≤ G) (hn : n ≤ 400) (hc : ∀ j, j < n → c j < 256) (hW : W ≤ 12) (h : LR c n k 0 μ ρ) (hL : LnR μ 52 16 6 (l + 1)) (hl : l < 16) (h11 : μ 41 11 = nI W) (h6 : ρ 0 6 = nI W) :
    (∃ k' μ' ρ' x y z, yB G μ = some μ' ∧ bndE (f_X12_readWedding G (nI (96 + 6 * l)) ρ) (fun w31 m30 => if w31 = -1 then some (-1, m30) else bndE (f_X12_readMark G 59 m30) (fun w35 m34 => some (w35, m34))) = some (0, ρ') ∧ LR c n k' 0 μ' ρ' ∧ k < k' ∧ x < W ∧ y < W ∧ z < W ∧ x ≠ y ∧ y ≠ z ∧ x ≠ z ∧ μ' 53 (6 * l + 3) = nI x ∧ μ' 53 (6 * l + 4) = nI y ∧ μ' 53 (6 * l + 5) = nI z ∧ ρ' 21 (96 + 6 * l + 3) = nI x ∧ ρ' 21 (96 + 6 * l + 4) = nI y ∧ ρ' 21 (96 + 6 * l + 5) = nI z ∧ (∀ j, j < 6 * l + 3 → μ' 53 j = μ 53 j) ∧ (∀ j, j < 96 + 6 * l + 3 → ρ' 21 j = ρ 21 j) ∧ TC μ μ' ∧ TR ρ ρ' ∧ LnR μ' 52 16 6 (l + 1)) ∨
      ∃ μ' ρ', yB G μ = some μ' ∧ bndE (f_X12_readWedding G (nI (96 + 6 * l)) ρ) (fun w31 m30 => if w31 = -1 then some (-1, m30) else bndE (f_X12_readMark G 59 m30) (fun w35 m34 => some (w35, m34))) = some (-1, ρ') ∧ SK μ' ∧ FtR μ' ρ' ∧ TC μ μ' ∧ TR ρ ρ' := by
  have i3 : nI (96 + 6 * l) + (3 : Int32) = nI (96 + 6 * l + 3) := nI_add _ 3
  have i4 : nI (96 + 6 * l) + (4 : Int32) = nI (96 + 6 * l + 4) := nI_add _ 4
  have i5 : nI (96 + 6 * l) + (5 : Int32) = nI (96 + 6 * l + 5) := nI_add _ 5
  have eB : ∀ μ, f_X5_numberBelow G (nI W) μ = f_X5_numberUnlike G (nI W) (-1) (-1) μ := fun μ => pr12 _
  have st : f_X12_readWedding G (nI (96 + 6 * l)) ρ = bndE (f_X12_readWoman G (-1) (-1) ρ) (fun w3 m2 => if w3 = -1 then some (-1, wr m2 21 (96 + 6 * l + 3) w3) else bndE (f_X12_readWoman G w3 (-1) (wr m2 21 (96 + 6 * l + 3) w3)) (fun w11 m10 => if w11 = -1 then some (-1, wr m10 21 (96 + 6 * l + 4) w11) else bndE (f_X12_readWoman G (m10 21 (96 + 6 * l + 3)) w11 (wr m10 21 (96 + 6 * l + 4) w11)) (fun w20 m19 => some (w20, wr m19 21 (96 + 6 * l + 5) w20)))) := by
    unfold f_X12_readWedding
    rw [i3, i4, i5]
    congr 1
    funext w3 m2
    rw [chkn (by omega) (by omega), ixn (by omega)]
    show chk (nI (96 + 6 * l + 3)) 192 (if (wr m2 21 (96 + 6 * l + 3) w3) 21 (96 + 6 * l + 3) = -1 then _ else _) = _
    rw [chkn (by omega) (by omega), wr_same, chkn (by omega) (by omega)]
    by_cases q : w3 = -1
    · rw [if_pos q, if_pos q]
    · rw [if_neg q, if_neg q]
      congr 1
      funext w11 m10
      rw [chkn (by omega) (by omega), ixn (by omega)]
      show chk (nI (96 + 6 * l + 4)) 192 (if (wr m10 21 (96 + 6 * l + 4) w11) 21 (96 + 6 * l + 4) = -1 then some (-1, wr m10 21 (96 + 6 * l + 4) w11) else chk (nI (96 + 6 * l + 3)) 192 (chk (nI (96 + 6 * l + 4)) 192 (bndE (f_X12_readWoman G ((wr m10 21 (96 + 6 * l + 4) w11) 21 (96 + 6 * l + 3)) ((wr m10 21 (96 + 6 * l + 4) w11) 21 (96 + 6 * l + 4)) (wr m10 21 (96 + 6 * l + 4) w11)) _))) = _
      rw [chkn (by omega) (by omega), chkn (by omega) (by omega), chkn (by omega) (by omega), wr_same, wr_slot (show 96 + 6 * l + 3 ≠ 96 + 6 * l + 4 by omega)]
      by_cases q : w11 = -1
      · rw [if_pos q, if_pos q]
      · rw [if_neg q, if_neg q]
        congr 1
        funext w20 m19
        rw [chkn (by omega) (by omega), ixn (by omega)]
        show chk (nI (96 + 6 * l + 5)) 192 (some ((wr m19 21 (96 + 6 * l + 5) w20) 21 (96 + 6 * l + 5), wr m19 21 (96 + 6 * l + 5) w20)) = _
        rw [chkn (by omega) (by omega), wr_same]
  rw [st, yB, h11, eB]
  have f11 : ∀ {z : Nat} {μ ρ μ' ρ' : Mem}, eF z μ ρ μ' ρ' → μ 41 11 = nI W → μ' 41 11 = nI W := fun he q => by rw [he.1.2.1 11 (by omega) (by omega) (by omega) (by omega)]; exact q
  have f06 : ∀ {z : Nat} {μ ρ μ' ρ' : Mem}, eF z μ ρ μ' ρ' → ρ 0 6 = nI W → ρ' 0 6 = nI W := fun he q => by rw [he.2.2.2.1 6 (by omega) (by omega) (by omega) (by omega)]; exact q
  rcases numW (a := -1) (b := -1) hG hn hc hW h h6 with ⟨x, μ1, ρ1, xW, _, _, a1, a2, a3, a4, a5⟩ | ⟨μ1, ρ1, a1, a2, a3, a4, a5⟩
  · have L1 := LnR_t hL (a5 0).1
    have H1 := LR_x (μ' := μ1) (ρ' := wr ρ1 21 (96 + 6 * l + 3) (nI x)) a3 (fun _ _ _ => rfl) (fun y hy => wr_off (by omega))
    have w1 := f11 (a5 0) h11
    have r1 : (wr ρ1 21 (96 + 6 * l + 3) (nI x)) 0 6 = nI W := by rw [wr_cell (by omega)]; exact f06 (a5 0) h6
    have R1 : TR ρ (wr ρ1 21 (96 + 6 * l + 3) (nI x)) := TR_tr (TR_c (cF_e (a5 0))) (TR_21 (by omega))
    have T1 : TC μ μ1 := TC_f (a5 0).1
    rw [a1, bndE_s, yC, w1, a2, bndE_s, if_neg (nI_m1 (by omega))]
    rcases numW (a := nI x) (b := -1) hG hn hc hW H1 r1 with ⟨y, μ2, ρ2, yW, yx, _, b1, b2, b3, b4, b5⟩ | ⟨μ2, ρ2, b1, b2, b3, b4, b5⟩
    · have L2 := LnR_t L1 (b5 0).1
      obtain ⟨p1, p2⟩ := putd (G := G) (j := 3) (v := nI x) L2 (by omega)
      have p1 : f_X2_put G 52 96 3 (nI x) μ2 = some (wr μ2 53 (l * 6 + 3) (nI x)) := p1
      obtain ⟨q1, q2⟩ := putd (G := G) (j := 4) (v := nI y) p2 (by omega)
      have q1 : f_X2_put G 52 96 4 (nI y) (wr μ2 53 (l * 6 + 3) (nI x)) = some (wr (wr μ2 53 (l * 6 + 3) (nI x)) 53 (l * 6 + 4) (nI y)) := q1
      let μ3 := wr (wr μ2 53 (l * 6 + 3) (nI x)) 53 (l * 6 + 4) (nI y)
      have d3 : dX μ2 μ3 := fun z _ b => (wr_off b).trans (wr_off b)
      have H3 := LR_x (μ' := μ3) (ρ' := wr ρ2 21 (96 + 6 * l + 4) (nI y)) b3 d3 (fun z hz => wr_off (by omega))
      have w3 : μ3 41 11 = nI W := by rw [d3 41 (by omega) (by omega)]; exact f11 (b5 0) w1
      have r3 : (wr ρ2 21 (96 + 6 * l + 4) (nI y)) 0 6 = nI W := by rw [wr_cell (by omega)]; exact f06 (b5 0) r1
      have R3 : TR ρ (wr ρ2 21 (96 + 6 * l + 4) (nI y)) := TR_tr R1 (TR_tr (TR_c (cF_e (b5 0))) (TR_21 (by omega)))
      have T3 : TC μ μ3 := TC_tr T1 (TC_tr (TC_f (b5 0).1) (TC_d d3 L2 q2))
      have ex : ρ2 21 (96 + 6 * l + 3) = nI x := by rw [(b5 0).2.2.1 21 (by omega) (by omega) (by omega), wr_same]
      have eE : yE G (nI x) (nI y) μ3 = bndE (f_X5_numberUnlike G (nI W) (nI x) (nI y) μ3) (fun w35 m34 => yF G w35 m34) := by rw [yE, w3]
      rw [b1, bndE_s, yD, p1, bndV_s, q1, bndV_s, show yE G (nI x) (nI y) (wr (wr μ2 53 (l * 6 + 3) (nI x)) 53 (l * 6 + 4) (nI y)) = _ from eE, b2, bndE_s, if_neg (nI_m1 (by omega)), ex]
      rcases numW (a := nI x) (b := nI y) hG hn hc hW H3 r3 with ⟨z, μ4, ρ4, zW, zx, zy, c1, c2, c3, c4, c5⟩ | ⟨μ4, ρ4, c1, c2, c3, c4, c5⟩
      · have L4 := LnR_t q2 (c5 0).1
        obtain ⟨s1, s2⟩ := putd (G := G) (j := 5) (v := nI z) L4 (by omega)
        have s1 : f_X2_put G 52 96 5 (nI z) μ4 = some (wr μ4 53 (l * 6 + 5) (nI z)) := s1
        have d5 : dX μ4 (wr μ4 53 (l * 6 + 5) (nI z)) := fun u _ b => wr_off b
        have H5 := LR_x (μ' := wr μ4 53 (l * 6 + 5) (nI z)) (ρ' := wr ρ4 21 (96 + 6 * l + 5) (nI z)) c3 d5 (fun u hu => wr_off (by omega))
        have T5 : TC μ (wr μ4 53 (l * 6 + 5) (nI z)) := TC_tr T3 (TC_tr (TC_f (c5 0).1) (TC_d d5 L4 s2))
        have R5 : TR ρ (wr ρ4 21 (96 + 6 * l + 5) (nI z)) := TR_tr R3 (TR_tr (TR_c (cF_e (c5 0))) (TR_21 (by omega)))
        rw [c1, bndE_s, yF, s1, bndV_s, c2, bndE_s, bndE_s, if_neg (nI_m1 (by omega))]
        rcases mark_ok hG hn hc H5 with ⟨μ6, ρ6, u1, u2, u3, u4⟩ | ⟨μ6, ρ6, u1, u2, u3, u4, u5⟩
        · have m53 : μ6 53 = (wr μ4 53 (l * 6 + 5) (nI z)) 53 := (u4 0).1.1 53 (by omega) (by omega) (by omega)
          have m53' : μ4 53 = μ3 53 := (c5 0).1.1 53 (by omega) (by omega) (by omega)
          have m53o : μ2 53 = μ 53 := by rw [(b5 0).1.1 53 (by omega) (by omega) (by omega), (a5 0).1.1 53 (by omega) (by omega) (by omega)]
          have r21 : ρ6 21 = (wr ρ4 21 (96 + 6 * l + 5) (nI z)) 21 := (u4 0).2.2.1 21 (by omega) (by omega) (by omega)
          have r21' : ρ4 21 = (wr ρ2 21 (96 + 6 * l + 4) (nI y)) 21 := (c5 0).2.2.1 21 (by omega) (by omega) (by omega)
          have r21o : ρ2 21 = (wr ρ1 21 (96 + 6 * l + 3) (nI x)) 21 := (b5 0).2.2.1 21 (by omega) (by omega) (by omega)
          have r21p : ρ1 21 = ρ 21 := (a5 0).2.2.1 21 (by omega) (by omega) (by omega)
          have e3 : μ3 53 = (wr (wr μ2 53 (l * 6 + 3) (nI x)) 53 (l * 6 + 4) (nI y)) 53 := rfl
          have l6 : 6 * l = l * 6 := Nat.mul_comm 6 l
          have nx : x ≠ y := fun q => yx (by rw [q])
          have nz : x ≠ z := fun q => zx (by rw [q])
          have ny : y ≠ z := fun q => zy (by rw [q])
          refine Or.inl ⟨k + 1 + 1 + 1 + 1, μ6, ρ6, x, y, z, by rw [u1, bndE_s], by rw [u2, bndE_s], u3, by omega, xW, yW, zW, nx, ny, nz, ?_, ?_, ?_, ?_, ?_, ?_, fun j hj => ?_, fun j hj => ?_, TC_tr T5 (TC_f (u4 0).1), TR_tr R5 (TR_c (cF_e (u4 0))), LnR_t s2 (u4 0).1⟩
          · rw [m53, l6, wr_slot (by omega), m53', e3, wr_slot (by omega), wr_same]
          · rw [m53, l6, wr_slot (by omega), m53', e3, wr_same]
          · rw [m53, l6, wr_same]
          · rw [r21, wr_slot (by omega), r21', wr_slot (by omega), r21o, wr_same]
          · rw [r21, wr_slot (by omega), r21', wr_same]
          · rw [r21, wr_same]
          · rw [m53, wr_slot (by omega), m53', e3, wr_slot (by omega), wr_slot (by omega), m53o]
          · rw [r21, wr_slot (by omega), r21', wr_slot (by omega), r21o, wr_slot (by omega), r21p]
        · exact Or.inr ⟨μ6, ρ6, by rw [u1, bndE_s], by rw [u2, bndE_s], u3, u4, TC_tr T5 (TC_f (u5 0).1), TR_tr R5 (TR_c (cF_e (u5 0)))⟩
      · have L4 := LnR_t q2 (c5 0).1
        obtain ⟨μ5, s1, s2, s3⟩ := yF_k (G := G) (w35 := 0) c3 L4
        obtain ⟨x1, x2⟩ := SK_x (ρ' := wr ρ4 21 (96 + 6 * l + 5) (-1)) c3 c4 s2 (fun u hu => wr_off (by omega))
        exact Or.inr ⟨μ5, wr ρ4 21 (96 + 6 * l + 5) (-1), by rw [c1, bndE_s, s1], by rw [c2, bndE_s, bndE_s, if_pos rfl], x1, x2, TC_tr T3 (TC_tr (TC_f (c5 0).1) (TC_d s2 L4 s3)), TR_tr R3 (TR_tr (TR_c (cF_e (c5 0))) (TR_21 (by omega)))⟩
    · have L2 := LnR_t L1 (b5 0).1
      obtain ⟨μ5, s1, s2, s3⟩ := yD_k (G := G) (a := nI x) (b := 0) b3 L2
      obtain ⟨x1, x2⟩ := SK_x (ρ' := wr ρ2 21 (96 + 6 * l + 4) (-1)) b3 b4 s2 (fun u hu => wr_off (by omega))
      exact Or.inr ⟨μ5, wr ρ2 21 (96 + 6 * l + 4) (-1), by rw [b1, bndE_s, s1], by rw [b2, bndE_s, if_pos rfl, bndE_s, if_pos rfl], x1, x2, TC_tr T1 (TC_tr (TC_f (b5 0).1) (TC_d s2 L2 s3)), TR_tr R1 (TR_tr (TR_c (cF_e (b5 0))) (TR_21 (by omega)))⟩
  · have L1 := LnR_t hL (a5 0).1
    obtain ⟨μ5, s1, s2, s3⟩ := yC_k (G := G) (a := 0) a3 L1
    obtain ⟨x1, x2⟩ := SK_x (ρ' := wr ρ1 21 (96 + 6 * l + 3) (-1)) a3 a4 s2 (fun u hu => wr_off (by omega))
    exact Or.inr ⟨μ5, wr ρ1 21 (96 + 6 * l + 3) (-1), by rw [a1, bndE_s, s1], by rw [a2, bndE_s, if_pos rfl, bndE_s, if_pos rfl], x1, x2, TC_tr (TC_f (a5 0).1) (TC_d s2 L1 s3), TR_tr (TR_c (cF_e (a5 0))) (TR_21 (by omega))⟩
end
