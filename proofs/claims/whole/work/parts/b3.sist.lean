section
variable {G n : Nat} {c : Nat → Nat}
def DS (W l : Nat) (μ ρ : Mem) : Prop := LnR μ 52 16 6 l ∧ μ 41 11 = nI W ∧ ρ 0 6 = nI W ∧ ∃ A B : Nat → Nat, (∀ i, i < l → A i < W ∧ B i < W ∧ A i ≠ B i ∧ μ 53 (6 * i) = nI (A i) ∧ μ 53 (6 * i + 1) = nI (B i)) ∧ SsR (fun w => ρ 22 (12 + w)) l A B
theorem TR_22 {i : Nat} {v : Int32} {ρ : Mem} (hi : 12 ≤ i) : TR ρ (wr ρ 22 i v) :=
  ⟨fun x _ b => wr_off (by omega), fun j _ _ => wr_cell (by omega), fun x a b j _ => wr_cell (by omega), fun j _ => ⟨wr_cell (by omega), wr_cell (by omega)⟩, fun j hj => wr_cell (by omega), fun j _ => wr_cell (by omega), fun j hj => wr_slot (by omega)⟩
theorem SsR_add {r r' : Nat → Int32} {l a b : Nat} {A B : Nat → Nat} (h : SsR r l A B) (ha : a < 12) (hb : b < 12) (hab : a ≠ b) (h1 : ∀ w, w < 12 → r' w = (if w = b then r b ||| nI (2 ^ a) else if w = a then r a ||| nI (2 ^ b) else r w)) :
    SsR r' (l + 1) (fun i => if i = l then a else A i) (fun i => if i = l then b else B i) := by
  intro w hw
  obtain ⟨m, m1, m2, m3⟩ := h w hw
  have base : ∀ v, (∃ i, i < l + 1 ∧ (((if i = l then a else A i) = w ∧ (if i = l then b else B i) = v) ∨ ((if i = l then b else B i) = w ∧ (if i = l then a else A i) = v))) ↔ ((∃ i, i < l ∧ ((A i = w ∧ B i = v) ∨ (B i = w ∧ A i = v))) ∨ (a = w ∧ b = v) ∨ (b = w ∧ a = v)) := by
    intro v
    constructor
    · rintro ⟨i, hi, q⟩
      by_cases e : i = l
      · rw [if_pos e, if_pos e] at q; exact Or.inr q
      · rw [if_neg e, if_neg e] at q; exact Or.inl ⟨i, by omega, q⟩
    · rintro (⟨i, hi, q⟩ | q)
      · exact ⟨i, by omega, by rw [if_neg (by omega), if_neg (by omega)]; exact q⟩
      · exact ⟨l, by omega, by rw [if_pos rfl, if_pos rfl]; exact q⟩
  have go : ∀ x, x < 2 ^ 12 → r' w = nI x → (∀ v, x.testBit v = true ↔ (m.testBit v = true ∨ (a = w ∧ b = v) ∨ (b = w ∧ a = v))) → ∃ m, m < 2 ^ 12 ∧ r' w = nI m ∧ ∀ v, m.testBit v = true ↔ ∃ i, i < l + 1 ∧ (((if i = l then a else A i) = w ∧ (if i = l then b else B i) = v) ∨ ((if i = l then b else B i) = w ∧ (if i = l then a else A i) = v)) := by
    intro x x1 x2 x3
    refine ⟨x, x1, x2, fun v => ?_⟩
    rw [base v, x3 v, m3 v]
  by_cases wb : w = b
  · refine go (m ||| 2 ^ a) (or_lt m1 (pw_lt ha)) (by rw [h1 w hw, if_pos wb, ← wb, m2, b_nor]) (fun v => ?_)
    rw [Nat.testBit_or, Bool.or_eq_true, pw_bit, decide_eq_true_iff]
    constructor
    · rintro (q | q)
      · exact Or.inl q
      · exact Or.inr (Or.inr ⟨wb.symm, q⟩)
    · rintro (q | q | q)
      · exact Or.inl q
      · exact absurd (q.1.trans wb) hab
      · exact Or.inr q.2
  · by_cases wa : w = a
    · refine go (m ||| 2 ^ b) (or_lt m1 (pw_lt hb)) (by rw [h1 w hw, if_neg wb, if_pos wa, ← wa, m2, b_nor]) (fun v => ?_)
      rw [Nat.testBit_or, Bool.or_eq_true, pw_bit, decide_eq_true_iff]
      constructor
      · rintro (q | q)
        · exact Or.inl q
        · exact Or.inr (Or.inl ⟨wa.symm, q⟩)
      · rintro (q | q | q)
        · exact Or.inl q
        · exact Or.inr q.2
        · exact absurd (q.1.symm) wb
    · refine go m m1 (by rw [h1 w hw, if_neg wb, if_neg wa, m2]) (fun v => ?_)
      constructor
      · exact Or.inl
      · rintro (q | q | q)
        · exact q
        · exact absurd q.1.symm wa
        · exact absurd q.1.symm wb
theorem sist_ok {k l gl W : Nat} {μ ρ : Mem} (hG : 500 ≤ G) (hn : n ≤ 400) (hc : ∀ j, j < n → c j < 256) (hW : W ≤ 12) (h : LR c n k 0 μ ρ) (hd : DS W l μ ρ) (hl : l ≤ 16) (hk : k < tK c n) :
    (∃ k' μ' ρ', f_X5_sisterLine G μ = some μ' ∧ f_X12_readSisters_L26 G (f_X12_readSisters_j64 G) (gl + 1) (nI l) ρ = f_X12_readSisters_L26 G (f_X12_readSisters_j64 G) gl (nI (l + 1)) ρ' ∧ LR c n k' 0 μ' ρ' ∧ DS W (l + 1) μ' ρ' ∧ l + 1 ≤ 16 ∧ k < k' ∧ TC μ μ' ∧ TR ρ ρ') ∨
      ∃ μ' ρ', f_X5_sisterLine G μ = some μ' ∧ f_X12_readSisters_L26 G (f_X12_readSisters_j64 G) (gl + 1) (nI l) ρ = some (-1, ρ') ∧ SK μ' ∧ FtR μ' ρ' ∧ TC μ μ' ∧ TR ρ ρ' := by
  obtain ⟨dl, d11, d6, A, B, dab, dss⟩ := hd
  have nE : ¬ ρ 0 18 = 0 := fun q => by
    have := (tV_end hc h.1).mp ((tk_e h.2.2.2.1.2.2.1).mp q)
    omega
  have l3 : μ 52 3 = nI l := dl.2.2.1
  have k11 : ∀ {z : Nat} {μ ρ μ' ρ' : Mem}, eF z μ ρ μ' ρ' → μ 41 11 = nI W → μ' 41 11 = nI W := fun he q => by rw [he.1.2.1 11 (by omega) (by omega) (by omega) (by omega)]; exact q
  have k06 : ∀ {z : Nat} {μ ρ μ' ρ' : Mem}, eF z μ ρ μ' ρ' → ρ 0 6 = nI W → ρ' 0 6 = nI W := fun he q => by rw [he.2.2.2.1 6 (by omega) (by omega) (by omega) (by omega)]; exact q
  rcases begin_ok (l := l) (w := 23) hG hn hc h hl (by omega) hk with ⟨e1, iw, l16, μ1, ρ1, b1, b2, b3, b4⟩ | ⟨v, μ1, ρ1, cs, b1, b2, b3, b4, b5⟩
  · have iw : f_X12_isWord ρ 23 = 1 := iw
    have b1 : f_X5_beginLine G 10023 (μ 52 3) μ = some (1, μ1) := by rw [l3]; exact b1
    have d1 := LnR_t dl (b4 0).1
    have w1 := k11 (b4 0) d11
    have r1 := k06 (b4 0) d6
    have rst : f_X12_readSisters_L26 G (f_X12_readSisters_j64 G) (gl + 1) (nI l) ρ = bndE (f_X12_readSister G ρ) (fun w8 m7 => if w8 = -1 then some (-1, m7) else f_X12_readSisters_L26 G (f_X12_readSisters_j64 G) gl (nI (l + 1)) m7) := by
      rw [f_X12_readSisters_L26, iw, if_neg (by decide), if_neg (show ¬ nI l = 16 from fun q => by have := (nI_eq (b := 16) (by omega) (by omega)).mp q; omega), nI_1]
    have rs : f_X12_readSister G ρ = bndE (f_X12_readNumber G 0 (nI W - 1) ρ1) (fun w3 m2 => if w3 = -1 then some (-1, m2) else if f_X12_isWord m2 24 = 0 then f_X12_errs G 1 m2 else bndV (f_X12_reads G m2) (fun m7 => bndE (f_X12_readWoman G w3 (-1) m7) (fun w10 m9 => if w10 = -1 then some (-1, m9) else chk ((12 : Int32) + w3) 24 (chk ((12 : Int32) + w3) 24 (chk ((12 : Int32) + w10) 24 (chk ((12 : Int32) + w10) 24 (f_X12_readMark G 59 (wr (wr m9 22 (ix ((12 : Int32) + w3)) (m9 22 (ix ((12 : Int32) + w3)) ||| sl 1 w10)) 22 (ix ((12 : Int32) + w10)) ((wr m9 22 (ix ((12 : Int32) + w3)) (m9 22 (ix ((12 : Int32) + w3)) ||| sl 1 w10)) 22 (ix ((12 : Int32) + w10)) ||| sl 1 w3))))))))) := by
      unfold f_X12_readSister f_X12_readTold
      rw [iw, if_neg (by decide), b2, bndV_s, pr12, d6]
      simp only [pr12]
    have cst : f_X5_sisterLine G μ = bndE (f_X5_numberBelow G (nI W) μ1) (fun w7 m6 => bndE (f_X5_expect G 10024 m6) (fun w10 m9 => bndE (f_X5_numberUnlike G (m9 41 11) w7 (-1) m9) (fun w13 m12 => bndE (f_X2_add G 52 96 w7 w13 0 0 m12) (fun w16 m15 => bndE (f_X5_expect G 20059 m15) (fun w19 m18 => some m18))))) := by
      unfold f_X5_sisterLine
      rw [b1, bndE_s, if_neg (by decide), w1]
    -- behind a fault
    have rest3 : ∀ (w7 w13 : Int32) (μ4 : Mem), SK μ4 → LnR μ4 52 16 6 l → ∃ μ5, bndE (f_X2_add G 52 96 w7 w13 0 0 μ4) (fun w16 m15 => bndE (f_X5_expect G 20059 m15) (fun w19 m18 => some m18)) = some μ5 ∧ (∀ x, x ≠ 52 → x ≠ 53 → μ5 x = μ4 x) ∧ LnR μ5 52 16 6 (l + 1) := by
      intro w7 w13 μ4 hs hL
      obtain ⟨μ5, a1, a2, a3, a4, a5⟩ := addn (G := G) (N := 96) (p := w7) (q := w13) (r := 0) (s := 0) hL (by omega) (by omega) (by omega) (by omega) (by omega) l16
      have s5 : SK μ5 := by
        unfold SK at hs ⊢
        rw [a2 41 (by omega) (by omega), a2 45 (by omega) (by omega)]
        exact hs
      exact ⟨μ5, by rw [a1, bndE_s, expect_k s5, bndE_s], fun x q r => a2 x q r, a3⟩
    have rest2 : ∀ (w7 : Int32) (μ4 : Mem), SK μ4 → LnR μ4 52 16 6 l → ∃ μ5, bndE (f_X5_numberUnlike G (μ4 41 11) w7 (-1) μ4) (fun w13 m12 => bndE (f_X2_add G 52 96 w7 w13 0 0 m12) (fun w16 m15 => bndE (f_X5_expect G 20059 m15) (fun w19 m18 => some m18))) = some μ5 ∧ (∀ x, x ≠ 52 → x ≠ 53 → μ5 x = μ4 x) ∧ LnR μ5 52 16 6 (l + 1) := by
      intro w7 μ4 hs hL
      obtain ⟨μ5, a1, a2, a3⟩ := rest3 w7 0 μ4 hs hL
      exact ⟨μ5, by rw [numU_k hs, bndE_s, a1], a2, a3⟩
    rw [rst, rs, cst]
    have T1 : TC μ μ1 := TC_f (b4 0).1
    have R1 : TR ρ ρ1 := TR_c (cF_e (b4 0))
    rcases numN (B := W) (hi := nI W - 1) hG hn hc (by omega) b3 (fun x hx => isIn_b (by omega) x hx) with ⟨a, μ2, ρ2, aW, p1, p2, p3, p4, p5⟩ | ⟨μ2, ρ2, p1, p2, p3, p4, p5⟩
    · have d2 := LnR_t d1 (p5 0).1
      have T2 : TC μ μ2 := TC_tr T1 (TC_f (p5 0).1)
      have R2 : TR ρ ρ2 := TR_tr R1 (TR_c (cF_e (p5 0)))
      have w24 : f_X12_isWord ρ2 24 = if tV c n (k + 1 + 1) = nI 10024 then 1 else 0 := isW_r (w := 24) p3 (by omega)
      rw [p1, bndE_s, p2, bndE_s, if_neg (nI_m1 (by omega)), w24]
      rcases expect_ok (v := 10024) hG hn hc p3 (by omega) with ⟨e2, e3⟩ | ⟨e2, μ3, ρ3, q1, q2, q3, q4, q5⟩
      · obtain ⟨μ3, ρ3, q1, _, q2, q3, q4, q5⟩ := e3 (by decide)
        have d3 := LnR_t d2 (q5 0).1
        have w3 := k11 (q5 0) (k11 (p5 0) w1)
        have r3 := k06 (q5 0) (k06 (p5 0) r1)
        have T3 : TC μ μ3 := TC_tr T2 (TC_f (q5 0).1)
        have R3 : TR ρ ρ3 := TR_tr R2 (TR_c (cF_e (q5 0)))
        rw [q1, bndE_s, if_pos (show tV c n (k + 1 + 1) = nI 10024 from e2), if_neg (by decide), q2, bndV_s, w3]
        rcases numW (a := nI a) (b := -1) hG hn hc hW q3 r3 with ⟨b, μ4, ρ4, bW, ba, _, s1, s2, s3, s4, s5⟩ | ⟨μ4, ρ4, s1, s2, s3, s4, s5⟩
        · have d4 := LnR_t d3 (s5 0).1
          have ab : a ≠ b := fun q => ba (by rw [q])
          have w4 := k11 (s5 0) w3
          have r4 := k06 (s5 0) r3
          obtain ⟨μ5, a1, a2, a3, a4, a5⟩ := addn (G := G) (N := 96) (p := nI a) (q := nI b) (r := 0) (s := 0) d4 (by omega) (by omega) (by omega) (by omega) (by omega) l16
          have i1 : ∀ x : Nat, (12 : Int32) + nI x = nI (12 + x) := fun x => nI_add 12 x
          let ρ5 := wr (wr ρ4 22 (12 + a) (ρ4 22 (12 + a) ||| nI (2 ^ b))) 22 (12 + b) ((wr ρ4 22 (12 + a) (ρ4 22 (12 + a) ||| nI (2 ^ b))) 22 (12 + b) ||| nI (2 ^ a))
          have o5 : ∀ x, x ≠ 22 → ρ5 x = ρ4 x := fun x hx => (wr_off hx).trans (wr_off hx)
          have H5 := LR_x (μ' := μ5) (ρ' := ρ5) s3 (fun x q r => a2 x q r) (fun x hx => o5 x (by omega))
          have T5 : TC μ μ5 := TC_tr T3 (TC_tr (TC_f (s5 0).1) (TC_x (fun x q r => a2 x q r) d4 a3))
          have R5 : TR ρ ρ5 := TR_tr R3 (TR_tr (TR_c (cF_e (s5 0))) (TR_tr (TR_22 (by omega)) (TR_22 (by omega))))
          have sl1b : sl (1 : Int32) (nI b) = nI (2 ^ b) := sl1 (by omega)
          have sl1a : sl (1 : Int32) (nI a) = nI (2 ^ a) := sl1 (by omega)
          rw [s1, bndE_s, a1, bndE_s, s2, bndE_s, if_neg (nI_m1 (by omega)), i1, i1, chkn (by omega) (by omega), chkn (by omega) (by omega), chkn (by omega) (by omega), chkn (by omega) (by omega), ixn (by omega), ixn (by omega), sl1a, sl1b]
          show (∃ k' μ' ρ', bndE (f_X5_expect G 20059 μ5) _ = some μ' ∧ bndE (f_X12_readMark G 59 ρ5) _ = _ ∧ _) ∨ ∃ μ' ρ', bndE (f_X5_expect G 20059 μ5) _ = some μ' ∧ bndE (f_X12_readMark G 59 ρ5) _ = _ ∧ _
          unfold f_X12_readMark
          have s59 : f_X12_isSign ρ5 59 = if tV c n (k + 1 + 1 + 1 + 1) = nI 20059 then 1 else 0 := isS_r (s := 59) H5 (by omega)
          rw [s59]
          rcases expect_ok (v := 20059) hG hn hc H5 (by omega) with ⟨e4, e5⟩ | ⟨e4, μ6, ρ6, u1, u2, u3, u4, u5⟩
          · obtain ⟨μ6, ρ6, u1, _, u2, u3, u4, u5⟩ := e5 (by decide)
            have f6 := u5 0
            have c22 : ρ6 22 = ρ5 22 := f6.2.2.1 22 (by omega) (by omega) (by omega)
            have o22 : ρ4 22 = ρ 22 := by rw [(s5 0).2.2.1 22 (by omega) (by omega) (by omega), (q5 0).2.2.1 22 (by omega) (by omega) (by omega), (p5 0).2.2.1 22 (by omega) (by omega) (by omega), (b4 0).2.2.1 22 (by omega) (by omega) (by omega)]
            have o53 : μ4 53 = μ 53 := by rw [(s5 0).1.1 53 (by omega) (by omega) (by omega), (q5 0).1.1 53 (by omega) (by omega) (by omega), (p5 0).1.1 53 (by omega) (by omega) (by omega), (b4 0).1.1 53 (by omega) (by omega) (by omega)]
            refine Or.inl ⟨k + 1 + 1 + 1 + 1 + 1, μ6, ρ6, by rw [u1, bndE_s], ?_, u3, ⟨LnR_t a3 f6.1, ?_, ?_, fun i => if i = l then a else A i, fun i => if i = l then b else B i, fun i hi => ?_, ?_⟩, by omega, by omega, TC_tr T5 (TC_f f6.1), TR_tr R5 (TR_c (cF_e f6))⟩
            · rw [if_pos (show tV c n (k + 1 + 1 + 1 + 1) = nI 20059 from e4), if_neg (by decide), u2, bndV_s, bndE_s, if_neg (by decide)]
            · rw [f6.1.2.1 11 (by omega) (by omega) (by omega) (by omega), a2 41 (by omega) (by omega)]; exact w4
            · rw [f6.2.2.2.1 6 (by omega) (by omega) (by omega) (by omega), o5 0 (by omega)]; exact r4
            · rw [f6.1.1 53 (by omega) (by omega) (by omega)]
              have y4 : ∀ j, j < l * 6 → μ5 53 j = μ 53 j := fun j hj => by rw [← o53]; exact a4 j hj
              have y5 : ∀ j, j < 6 → μ5 53 (l * 6 + j) = lv4 (nI a) (nI b) 0 0 j := a5
              show (if i = l then a else A i) < W ∧ (if i = l then b else B i) < W ∧ (if i = l then a else A i) ≠ (if i = l then b else B i) ∧ μ5 53 (6 * i) = nI (if i = l then a else A i) ∧ μ5 53 (6 * i + 1) = nI (if i = l then b else B i)
              by_cases il : i = l
              · rw [if_pos il, if_pos il, il]
                refine ⟨aW, bW, ab, ?_, ?_⟩
                · have := y5 0 (by omega)
                  rw [show l * 6 + 0 = 6 * l by omega] at this
                  rw [this]; rfl
                · have := y5 1 (by omega)
                  rw [show l * 6 + 1 = 6 * l + 1 by omega] at this
                  rw [this]; rfl
              · rw [if_neg il, if_neg il, y4 _ (by omega), y4 _ (by omega)]
                exact dab i (by omega)
            · refine SsR_add (r := fun w => ρ 22 (12 + w)) dss (by omega) (by omega) ab (fun w hw => ?_)
              show ρ6 22 (12 + w) = _
              rw [c22]
              show wr (wr ρ4 22 (12 + a) (ρ4 22 (12 + a) ||| nI (2 ^ b))) 22 (12 + b) ((wr ρ4 22 (12 + a) (ρ4 22 (12 + a) ||| nI (2 ^ b))) 22 (12 + b) ||| nI (2 ^ a)) 22 (12 + w) = _
              by_cases wb : w = b
              · rw [wb, wr_same, wr_slot (by omega), if_pos rfl, o22]
              · rw [wr_slot (by omega), if_neg wb]
                by_cases wa : w = a
                · rw [wa, wr_same, if_pos rfl, o22]
                · rw [wr_slot (by omega), if_neg wa, o22]
          · refine Or.inr ⟨μ6, ρ6, by rw [u1, bndE_s], ?_, u3, u4, TC_tr T5 (TC_f (u5 0).1), TR_tr R5 (TR_c (cF_e (u5 0)))⟩
            rw [if_neg (show ¬ tV c n (k + 1 + 1 + 1 + 1) = nI 20059 from e4), if_pos rfl, u2, bndE_s, bndE_s, if_pos rfl]
        · have d4 := LnR_t d3 (s5 0).1
          obtain ⟨μ5, a1, a2, a3⟩ := rest3 (nI a) 0 μ4 s3 d4
          obtain ⟨x1, x2⟩ := SK_x (ρ' := ρ4) s3 s4 a2 (fun _ _ => rfl)
          exact Or.inr ⟨μ5, ρ4, by rw [s1, bndE_s, a1], by rw [s2, bndE_s, if_pos rfl, bndE_s, if_pos rfl], x1, x2, TC_tr T3 (TC_tr (TC_f (s5 0).1) (TC_x a2 d4 a3)), TR_tr R3 (TR_c (cF_e (s5 0)))⟩
      · have d3 := LnR_t d2 (q5 0).1
        obtain ⟨μ5, a1, a2, a3⟩ := rest2 (nI a) μ3 q3 d3
        obtain ⟨x1, x2⟩ := SK_x (ρ' := ρ3) q3 q4 a2 (fun _ _ => rfl)
        exact Or.inr ⟨μ5, ρ3, by rw [q1, bndE_s, a1], by rw [if_neg (show ¬ tV c n (k + 1 + 1) = nI 10024 from e2), if_pos rfl, q2, bndE_s, if_pos rfl], x1, x2, TC_tr T2 (TC_tr (TC_f (q5 0).1) (TC_x a2 d3 a3)), TR_tr R2 (TR_c (cF_e (q5 0)))⟩
    · have d2 := LnR_t d1 (p5 0).1
      obtain ⟨μ5, a1, a2, a3⟩ := rest2 0 μ2 p3 d2
      obtain ⟨x1, x2⟩ := SK_x (ρ' := ρ2) p3 p4 a2 (fun _ _ => rfl)
      exact Or.inr ⟨μ5, ρ2, by rw [p1, bndE_s, expect_k p3, bndE_s, a1], by rw [p2, bndE_s, if_pos rfl, bndE_s, if_pos rfl], x1, x2, TC_tr T1 (TC_tr (TC_f (p5 0).1) (TC_x a2 d2 a3)), TR_tr R1 (TR_c (cF_e (p5 0)))⟩
  · have b1 : f_X5_beginLine G 10023 (μ 52 3) μ = some (0, μ1) := by rw [l3]; exact b1
    refine Or.inr ⟨μ1, ρ1, ?_, ?_, b3, b4, TC_f (b5 0).1, TR_c (cF_e (b5 0))⟩
    · unfold f_X5_sisterLine
      rw [b1, bndE_s, if_pos rfl]
    · rw [f_X12_readSisters_L26]
      rcases cs with ⟨v3, iw, l16⟩ | ⟨v1, iw⟩
      · have iw : f_X12_isWord ρ 23 = 1 := iw
        subst v3
        rw [iw, if_neg (by decide), l16, if_pos (show nI 16 = 16 from rfl), b2, bndE_s]
      · have iw : f_X12_isWord ρ 23 = 0 := iw
        subst v1
        rw [iw, if_pos rfl, f_X12_readSisters_j64, if_neg nE, b2, bndE_s]
end
