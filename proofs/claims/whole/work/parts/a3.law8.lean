section
variable {G n : Nat} {c : Nat → Nat} {fq : Int32 → Mem → Option Mem}
theorem KRes_c {o z z0 k k0 b : Nat} {Q : List Int32} {S : List Nat} {μ ρ μ0 ρ0 : Mem} {F : Option Mem} {f : Option (Int32 × Mem)} (h : KRes G c n o Q z k S b μ ρ F f) (he : cF z0 μ0 ρ0 μ ρ) (hz : z0 ≤ z) (hzz : z = z0) (hk : k0 ≤ k) : KRes G c n o Q z0 k0 S b μ0 ρ0 F f := by
  rcases h with ⟨k', z', μ', ρ', g', h1, h2, h3, h4, h5, h6, h7, h8⟩ | ⟨μ', ρ', h1, h2, h3⟩
  · exact Or.inl ⟨k', z', μ', ρ', g', h1, h2, h3, cF_tr he h4 hz, by omega, h6, by rw [← hzz]; exact h7, h8⟩
  · exact Or.inr ⟨μ', ρ', h1, h2, FlC_c he h3⟩
theorem rep_s (Q : List Int32) (m : Nat) (w : Int32) : Q ++ List.replicate m w ++ [w] = Q ++ List.replicate (m + 1) w := by
  rw [List.append_assoc, List.replicate_succ']
theorem clau_ok {o : Nat} (hG : 500 ≤ G) (hn : n ≤ 400) (hc : ∀ j, j < n → c j < 256) (ho : o ≤ 8) (HC : ∀ o', o < o' → o' ≤ 8 → CondP G c n fq o') : ClauP G c n (fun p μ => f_X5_clause G fq p μ) o := by
  have hK := tK_le (c := c) (n := n)
  intro k z Q μ ρ b g S h hz hQ hl hS hg hb
  have main : ∀ r m k z μ ρ g gL, o + m + r = 8 → CQ c n k z (o + m) (Q ++ List.replicate m 9) μ ρ → z + Q.length + m ≤ k → tK c n - k < g → 9 - m < gL →
      KRes G c n o Q z k S b μ ρ (f_X5_clause_L4 G fq (f_X5_clause_j45 G fq) gL (nI o) (nI m) (nI m) μ) (f_X12_readAny_L9 G g (nI b) 1 ρ) := by
    intro r
    induction r with
    | zero =>
      intro m k z μ ρ g gL hm h hz hg hgL
      obtain ⟨g, rfl⟩ : ∃ y, g = y + 1 := ⟨g - 1, by omega⟩
      obtain ⟨gL, rfl⟩ : ∃ y, gL = y + 1 := ⟨gL - 1, by omega⟩
      have H := h.1
      have kK := H.1
      have e4 : ¬ (400 : Int32) < nI m := nI_nlt (b := m) (a := 400) (by omega) (by omega)
      have w6 : f_X12_isWord ρ 6 = if tV c n k = nI 10006 then 1 else 0 := isW_r (w := 6) H (by omega)
      have s40 : f_X12_isSign ρ 40 = if tV c n k = nI 20040 then 1 else 0 := isS_r (s := 40) H (by omega)
      obtain ⟨μ1, ρ1, o1, o2, o3⟩ := open_no (G := G) hn h (by omega) (by omega)
      have e8 : ρ 0 30 = 8 := by rw [h.2.2, show o + m = 8 by omega]; rfl
      by_cases t6 : tV c n k = nI 10006
      · obtain ⟨μ2, p1, p2⟩ := L4_k (G := G) (fq := fq) (v1 := nI o) (v2 := nI (m + 1)) (v3 := nI (m + 1)) (g := gL) hG (by omega) o3.1
        refine Or.inr ⟨μ2, ρ1, ?_, ?_, FlC_s o3 p2⟩
        · rw [f_X5_clause_L4, if_neg e4, if_pos (flt_c H), tok_c H, if_pos (show tV c n k = 10006 from t6), nI_add, o1, bndE_s, nI_1, p1]
        · rw [f_X12_readAny_L9, if_neg (by decide), w6, if_pos t6, if_neg (by decide), f_X12_readAny_j33, if_pos e8, o2, bndE_s]
      · by_cases t40 : tV c n k = nI 20040
        · obtain ⟨μ2, p1, p2⟩ := j85_k (G := G) (fq := fq) (v2 := nI m) hG o3.1
          refine Or.inr ⟨μ2, ρ1, ?_, ?_, FlC_s o3 p2⟩
          · rw [f_X5_clause_L4, if_neg e4, if_pos (flt_c H), tok_c H, if_neg (show ¬ tV c n k = 10006 from t6), f_X5_clause_j45, tok_c H, if_pos (show tV c n k = 20040 from t40), nI_add, o1, bndE_s, if_pos rfl, p1]
          · rw [f_X12_readAny_L9, if_neg (by decide), w6, if_neg t6, if_pos rfl, s40, if_pos t40, if_neg (by decide), f_X12_readAny_j33, if_pos e8, o2, bndE_s]
        · have cl : f_X5_clause_L4 G fq (f_X5_clause_j45 G fq) (gL + 1) (nI o) (nI m) (nI m) μ = f_X5_clause_j85 G fq (nI m) μ := by
            rw [f_X5_clause_L4, if_neg e4, if_pos (flt_c H), tok_c H, if_neg (show ¬ tV c n k = 10006 from t6), f_X5_clause_j45, tok_c H, if_neg (show ¬ tV c n k = 20040 from t40)]
          have rf : f_X12_readAny_L9 G (g + 1) (nI b) 1 ρ = (bndE (f_X12_readCompared G ρ) (fun w49 m48 => if w49 = -1 then some (-1, m48) else bndV (f_X12_settles G 9 m48) (fun m52 => f_X12_readAny_L9 G g (nI b) 0 m52))) := by
            rw [f_X12_readAny_L9, if_neg (by decide), w6, if_neg t6, if_pos rfl, s40, if_neg t40, if_pos rfl]
          rw [cl, rf]
          exact comp_ok hG hn hc h hz (by omega) (by omega) hl (by omega) (by omega)
    | succ r ih =>
      intro m k z μ ρ g gL hm h hz hg hgL
      obtain ⟨g, rfl⟩ : ∃ y, g = y + 1 := ⟨g - 1, by omega⟩
      obtain ⟨gL, rfl⟩ : ∃ y, gL = y + 1 := ⟨gL - 1, by omega⟩
      have H := h.1
      have kK := H.1
      have e4 : ¬ (400 : Int32) < nI m := nI_nlt (b := m) (a := 400) (by omega) (by omega)
      have w6 : f_X12_isWord ρ 6 = if tV c n k = nI 10006 then 1 else 0 := isW_r (w := 6) H (by omega)
      have s40 : f_X12_isSign ρ 40 = if tV c n k = nI 20040 then 1 else 0 := isS_r (s := 40) H (by omega)
      have e8 : ¬ ρ 0 30 = 8 := by rw [h.2.2]; exact fun q => absurd ((nI_eq (b := 8) (by omega) (by omega)).mp q) (by omega)
      have lenR : (Q ++ List.replicate m (9 : Int32)).length = Q.length + m := by simp
      by_cases t6 : tV c n k = nI 10006
      · have kk := LR_end hc H (by rw [t6]; decide)
        obtain ⟨μ1, ρ1, ρ2, o1, o2, o3, o4, o5⟩ := open_ok (w := 9) hG hn hc h kk (by omega) (by omega)
        rw [rep_s] at o4
        have cl : f_X5_clause_L4 G fq (f_X5_clause_j45 G fq) (gL + 1) (nI o) (nI m) (nI m) μ = f_X5_clause_L4 G fq (f_X5_clause_j45 G fq) gL (nI o) (nI (m + 1)) (nI (m + 1)) μ1 := by
          rw [f_X5_clause_L4, if_neg e4, if_pos (flt_c H), tok_c H, if_pos (show tV c n k = 10006 from t6), nI_add, o1, bndE_s, nI_1]
        have rf : f_X12_readAny_L9 G (g + 1) (nI b) 1 ρ = f_X12_readAny_L9 G g (nI b) 1 ρ2 := by
          rw [f_X12_readAny_L9, if_neg (by decide), w6, if_pos t6, if_neg (by decide), f_X12_readAny_j33, if_neg e8]
          show f_X12_readAny_j66 G (f_X12_readAny_L9 G g) (nI b) 1 1 (wr ρ 0 30 (ρ 0 30 + 1)) = _
          rw [f_X12_readAny_j66, if_neg (by decide), f_X12_readAny_j78, o2, bndV_s, o3, bndV_s]
        rw [cl, rf]
        exact KRes_c (ih (m + 1) (k + 1) z μ1 ρ2 g gL (by omega) o4 (by omega) (by omega) (by omega)) o5 (Nat.le_refl _) rfl (by omega)
      · by_cases t40 : tV c n k = nI 20040
        · have kk := LR_end hc H (by rw [t40]; decide)
          obtain ⟨μ1, ρ1, ρ2, o1, o2, o3, o4, o5⟩ := open_ok (w := 12) hG hn hc h kk (by omega) (by omega)
          have cl : f_X5_clause_L4 G fq (f_X5_clause_j45 G fq) (gL + 1) (nI o) (nI m) (nI m) μ = bndV (fq (nI (o + m + 1)) μ1) (fun m27 => bndE (f_X5_expect G 20041 m27) (fun w31 m30 => f_X5_clause_j127 G fq (nI m) m30)) := by
            rw [f_X5_clause_L4, if_neg e4, if_pos (flt_c H), tok_c H, if_neg (show ¬ tV c n k = 10006 from t6), f_X5_clause_j45, tok_c H, if_pos (show tV c n k = 20040 from t40), nI_add, o1, bndE_s, if_neg (by decide), nI_1]
          have rf : f_X12_readAny_L9 G (g + 1) (nI b) 1 ρ = f_X12_readAny_L9 G g (nI (b + 1)) 1 ρ2 := by
            rw [f_X12_readAny_L9, if_neg (by decide), w6, if_neg t6, if_pos rfl, s40, if_pos t40, if_neg (by decide), f_X12_readAny_j33, if_neg e8]
            show f_X12_readAny_j66 G (f_X12_readAny_L9 G g) (nI b + 1) 1 0 (wr ρ 0 30 (ρ 0 30 + 1)) = _
            rw [f_X12_readAny_j66, if_pos rfl, f_X12_readAny_j78, o2, bndV_s, o3, bndV_s, nI_1]
          rw [cl, rf]
          rcases HC (o + m + 1) (by omega) (by omega) (k + 1) z (Q ++ List.replicate m 9 ++ [12]) μ1 ρ2 (b + 1) g S o4 (by rw [List.length_append, lenR]; simp; omega) (by rw [List.length_append, lenR]; simp; omega) (fun x hx => by
            rw [List.getElem?_append_right (by rw [List.length_append]; simp), List.length_append] at hx
            rw [show (Q ++ List.replicate m (9 : Int32)).length + [(12 : Int32)].length - 1 - (Q ++ List.replicate m (9 : Int32)).length = 0 by simp] at hx
            exact (Option.some.inj hx).symm) (by omega) (by omega) (by omega) with ⟨k1, z1, μ3, ρ3, g1, q1, q2, q3, q4, q5, q6, q7, q8⟩ | ⟨μ3, ρ3, q1, q2, q3⟩
          · have kK1 := q3.1.1
            have zz : z ≤ z1 := q7.1
            rw [List.length_append, lenR] at q6
            have q6 : z1 + (Q.length + m + 1) ≤ k1 := q6
            rw [q1, bndV_s, q2]
            have b0 : ¬ nI (b + 1) = 0 := nI_ne0 (by omega) (by omega)
            have s41 : f_X12_isSign ρ3 41 = if tV c n k1 = nI 20041 then 1 else 0 := isS_r (s := 41) q3.1 (by omega)
            rcases expect_ok (v := 20041) hG hn hc q3.1 (by omega) with ⟨e1, e2⟩ | ⟨e1, μ4, ρ4, b1, b2, b3, b4, b5⟩
            · obtain ⟨μ4, ρx, b1, b1', _, _, kk1, _⟩ := e2 (by decide)
              -- the bracket goes
              have fa1 : ∀ y, y ≠ 0 → y ≠ 19 → (wr (wr ρ3 0 32 (ρ3 0 32 - 1)) 0 30 ((wr ρ3 0 32 (ρ3 0 32 - 1)) 0 30 - 1)) y = ρ3 y := fun y a _ => by rw [wr_off a, wr_off a]
              have fa2 : ∀ j, j ≠ 30 → j ≠ 32 → (wr (wr ρ3 0 32 (ρ3 0 32 - 1)) 0 30 ((wr ρ3 0 32 (ρ3 0 32 - 1)) 0 30 - 1)) 0 j = ρ3 0 j := fun j a d => by rw [wr_slot a, wr_slot d]
              have LA := LR_o q3.1 fa1 fa2
              have CA : CQ c n k1 z1 (o + m) (Q ++ List.replicate m 9) μ3 (wr (wr ρ3 0 32 (ρ3 0 32 - 1)) 0 30 ((wr ρ3 0 32 (ρ3 0 32 - 1)) 0 30 - 1)) := by
                refine ⟨LA, ⟨?_, fun i x hx => ?_⟩, ?_⟩
                · rw [wr_slot (by omega), wr_same, q3.2.1.1, List.length_append]
                  exact pk_sub (b := 1) (by simp)
                · rw [wr_cell (by omega), wr_cell (by omega)]
                  refine q3.2.1.2 i x ?_
                  rw [List.getElem?_append_left]
                  · exact hx
                  · rcases Nat.lt_or_ge i (Q ++ List.replicate m (9 : Int32)).length with v | v
                    · exact v
                    · rw [List.getElem?_eq_none v] at hx; cases hx
                · rw [wr_same, wr_slot (by omega), q3.2.2]
                  exact pk_sub (b := 1) (by omega)
              obtain ⟨μ5, ρ5, n1, n2, n3, n4, n5⟩ := nots_ok (fq := fq) (S := S) hG hn CA (by omega) (by omega) (by omega) hl
              obtain ⟨μ6, ρ6, l1, l2, l3, l4⟩ := L_adv hG hn hc n3.1 kk1
              -- the class goes on first, and then puts them
              obtain ⟨μ4', v1, v2, v3, v4⟩ := adv_g (G := G) hn q3.1.2.1 kk1
              have e44 : μ4' = μ4 := Option.some.inj (v1.symm.trans b1')
              rw [e44] at v2 v3 v4
              obtain ⟨μ7, p1, p2, p3, p4, p5, p6⟩ := putN (G := G) (fq := fq) (M := m) (by omega) m 0 z1 G μ4 (by omega) (by rw [v3 45 (by omega)]; exact q3.1.2.2.1) (by omega) (by omega)
              obtain ⟨μ5', r1, r2, r3, r4, r5, r6⟩ := putN (G := G) (fq := fq) (M := m) (by omega) m 0 z1 G μ3 (by omega) q3.1.2.2.1 (by omega) (by omega)
              have e55 : μ5' = μ5 := Option.some.inj (r1.symm.trans n1)
              rw [e55] at r2 r3 r4 r5 r6
              have codes : ∀ i, i < z1 + m → μ7 46 i = μ5 46 i := fun i hi => by
                by_cases e : i < z1
                · rw [p4 i e, r4 i e, v3 46 (by omega)]
                · have a1 := p3 (i - z1) (by omega)
                  have a2 := r3 (i - z1) (by omega)
                  rw [show z1 + (i - z1) = i by omega] at a1 a2
                  rw [a1, a2]
              have L7 : LR c n (k1 + 1) (z1 + m) μ7 ρ6 := ⟨l3.1, AtC_o v2 (p5 41 (by omega) (by omega)) (p5 43 (by omega) (by omega)) (p5 44 (by omega) (by omega)), p2, l3.2.2.2.1, l3.2.2.2.2.1, fun i hi => by
                rw [codes i hi, ← (l4 (z1 + m)).2.1 i hi]
                exact l3.2.2.2.2.2 i hi⟩
              have C7 : CQ c n (k1 + 1) (z1 + m) o Q μ7 ρ6 := ⟨L7, PnR_o n3.2.1 ((l4 0).2.2.2.1 32 (by omega) (by omega) (by omega) (by omega)) ((l4 0).2.2.1 19 (by omega) (by omega) (by omega)), by rw [(l4 0).2.2.2.1 30 (by omega) (by omega) (by omega) (by omega)]; exact n3.2.2⟩
              have cR := cF_tr (cF_tr (cF_o (z := z1) (μ := μ3) fa1 fa2) n4 (Nat.le_refl _)) (cF_e (l4 z1)) (Nat.le_refl _)
              have F7 : cF z1 μ3 ρ3 μ7 ρ6 := ⟨⟨fun x a d e => by rw [p5 x d e, v3 x a], fun j _ _ a d => by rw [p5 41 (by omega) (by omega), v4 j a d], fun j hj => by rw [p6 j hj, v3 45 (by omega)]⟩, fun i hi => by rw [p4 i hi, v3 46 (by omega)], cR.2.2.1, cR.2.2.2.1, cR.2.2.2.2⟩
              refine Or.inl ⟨k1 + 1, z1 + m, μ7, ρ6, g1, ?_, ?_, C7, cF_tr o5 (cF_tr q4 F7 zz) (Nat.le_refl _), by omega, by omega, ?_, by omega⟩
              · rw [b1, bndE_s]
                exact p1
              · unfold EL
                rw [if_neg b0, s41, if_pos (show tV c n k1 = nI 20041 from e1), if_neg (by decide), n2, bndV_s, l2, bndV_s]
                rw [show nI (b + 1) - (1 : Int32) = nI b from pk_sub (b := 1) (by omega)]
              · exact Ty_tr (Ty_d q7 F7 (Nat.le_refl _)) (Ty_d n5 (cF_e (l4 (z1 + m))) (Nat.le_refl _))
            · obtain ⟨μ5, p1, p2⟩ := j127_k (G := G) (fq := fq) (v2 := nI m) hG b3
              refine Or.inr ⟨μ5, ρ4, ?_, ?_, FlC_s (FlC_c (cF_tr o5 q4 (Nat.le_refl _)) (FlC_f (SkF b4 (b5 0) (SkR_rfl b3)))) p2⟩
              · rw [b1, bndE_s, p1]
              · unfold EL
                rw [if_neg b0, s41, if_neg (show ¬ tV c n k1 = nI 20041 from e1), if_pos rfl, b2, bndE_s]
          · obtain ⟨μ5, p1, p2⟩ := j127_k (G := G) (fq := fq) (v2 := nI m) hG q3.1
            exact Or.inr ⟨μ5, ρ3, by rw [q1, bndV_s, expect_k q3.1, bndE_s, p1], q2, FlC_s (FlC_c o5 q3) p2⟩
        · have cl : f_X5_clause_L4 G fq (f_X5_clause_j45 G fq) (gL + 1) (nI o) (nI m) (nI m) μ = f_X5_clause_j85 G fq (nI m) μ := by
            rw [f_X5_clause_L4, if_neg e4, if_pos (flt_c H), tok_c H, if_neg (show ¬ tV c n k = 10006 from t6), f_X5_clause_j45, tok_c H, if_neg (show ¬ tV c n k = 20040 from t40)]
          have rf : f_X12_readAny_L9 G (g + 1) (nI b) 1 ρ = (bndE (f_X12_readCompared G ρ) (fun w49 m48 => if w49 = -1 then some (-1, m48) else bndV (f_X12_settles G 9 m48) (fun m52 => f_X12_readAny_L9 G g (nI b) 0 m52))) := by
            rw [f_X12_readAny_L9, if_neg (by decide), w6, if_neg t6, if_pos rfl, s40, if_neg t40, if_pos rfl]
          rw [cl, rf]
          exact comp_ok hG hn hc h hz (by omega) (by omega) hl (by omega) (by omega)
  have := main (8 - o) 0 k z μ ρ g G (by omega) (by simpa using h) (by omega) hg (by omega)
  exact this
end
