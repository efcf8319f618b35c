section
variable {G n : Nat} {c : Nat → Nat} {fq : Int32 → Mem → Option Mem}
theorem LR_o {k z : Nat} {μ ρ ρ1 : Mem} (h : LR c n k z μ ρ) (h1 : ∀ y, y ≠ 0 → y ≠ 19 → ρ1 y = ρ y) (h2 : ∀ j, j ≠ 30 → j ≠ 32 → ρ1 0 j = ρ 0 j) : LR c n k z μ ρ1 := by
  obtain ⟨a1, a2, a3, a4, a5, a6⟩ := h
  refine ⟨a1, a2, a3, AtR_o a4 (fun j g1 g2 => h2 j (by omega) (by omega)) (h1 10 (by omega) (by omega)) (h1 11 (by omega) (by omega)), by rw [h2 29 (by omega) (by omega)]; exact a5, fun i hi => ?_⟩
  rw [h1 17 (by omega) (by omega), h1 18 (by omega) (by omega)]
  exact a6 i hi
theorem cF_o {z : Nat} {μ ρ ρ1 : Mem} (h1 : ∀ y, y ≠ 0 → y ≠ 19 → ρ1 y = ρ y) (h2 : ∀ j, j ≠ 30 → j ≠ 32 → ρ1 0 j = ρ 0 j) : cF z μ ρ μ ρ1 :=
  ⟨fC_rfl, fun _ _ => rfl, fun x a _ _ b => h1 x a b, fun j _ b => h2 j (by omega) (by omega), fun i _ => ⟨by rw [h1 17 (by omega) (by omega)], by rw [h1 18 (by omega) (by omega)]⟩⟩
/-- one more opens, in both -/
theorem open_ok {k z o : Nat} {w : Int32} {Q : List Int32} {μ ρ : Mem} (hG : 500 ≤ G) (hn : n ≤ 400) (hc : ∀ j, j < n → c j < 256) (h : CQ c n k z o Q μ ρ) (hk : k < tK c n) (ho : o < 8) (hQ : Q.length < 40) :
    ∃ μ' ρ1 ρ', f_X5_opens G (nI o) μ = some (1, μ') ∧ f_X12_waits G w (wr ρ 0 30 (ρ 0 30 + 1)) = some ρ1 ∧ f_X12_reads G ρ1 = some ρ' ∧ CQ c n (k + 1) z (o + 1) (Q ++ [w]) μ' ρ' ∧ cF z μ ρ μ' ρ' := by
  obtain ⟨H, P, h30⟩ := h
  obtain ⟨ρ1, w1, w2, w3, w4⟩ := waits_g (G := G) (x := w) (Q := Q) (ρ := wr ρ 0 30 (ρ 0 30 + 1)) (PnR_o P (wr_slot (by omega)) (wr_off (by omega))) hQ
  have f1 : ∀ y, y ≠ 0 → y ≠ 19 → ρ1 y = ρ y := fun y a b => by rw [w3 y a b, wr_off a]
  have f2 : ∀ j, j ≠ 30 → j ≠ 32 → ρ1 0 j = ρ 0 j := fun j a b => by rw [w4 j b, wr_slot a]
  obtain ⟨μ', ρ', b1, b2, b3, b4⟩ := L_adv hG hn hc (LR_o H f1 f2) hk
  have e30 : ρ1 0 30 = nI (o + 1) := by rw [w4 30 (by omega), wr_same, h30, nI_1]
  refine ⟨μ', ρ1, ρ', ?_, w1, b2, ⟨b3, PnR_o w2 ((b4 0).2.2.2.1 32 (by omega) (by omega) (by omega) (by omega)) ((b4 0).2.2.1 19 (by omega) (by omega) (by omega)), by rw [(b4 0).2.2.2.1 30 (by omega) (by omega) (by omega) (by omega)]; exact e30⟩, cF_tr (cF_o f1 f2) (cF_e (b4 z)) (Nat.le_refl _)⟩
  unfold f_X5_opens f_X5_expect f_X5_expect_j20
  rw [if_pos (show nI o < (8 : Int32) from nI_lt (b := 8) ho (by omega)), if_pos (flt_c H), if_pos rfl, if_pos (flt_c H), b1, bndV_s, bndE_s, bkk1]
theorem open_no {k z o : Nat} {Q : List Int32} {μ ρ : Mem} (hn : n ≤ 400) (h : CQ c n k z o Q μ ρ) (ho : o = 8) (hz : z ≤ 400) :
    ∃ μ' ρ', f_X5_opens G (nI o) μ = some (0, μ') ∧ f_X12_errs G 3 ρ = some (-1, ρ') ∧ FlC μ ρ μ' ρ' := by
  obtain ⟨H, P, h30⟩ := h
  obtain ⟨μ1, ρ1, b1, b2, b3, b4, b5⟩ := L_fail (G := G) (v := 3) hn H hz (by decide)
  refine ⟨μ1, ρ1, ?_, b2, FlC_f (SkF b4 (b5 0) (SkR_rfl b3))⟩
  unfold f_X5_opens
  rw [if_neg (show ¬ nI o < (8 : Int32) from nI_nlt (b := 8) (by omega) (by omega)), b1, bndV_s, expect_k b3, bndE_s, bkk0]
/-- the sign is there, or a fault -/
theorem expect_ok {k z : Nat} {v : Int32} {μ ρ : Mem} (hG : 500 ≤ G) (hn : n ≤ 400) (hc : ∀ j, j < n → c j < 256) (h : LR c n k z μ ρ) (hz : z ≤ 400) :
    (tV c n k = v ∧ (v ≠ 30000 → ∃ μ' ρ', f_X5_expect G v μ = some (1, μ') ∧ f_X5_advance G μ = some μ' ∧ f_X12_reads G ρ = some ρ' ∧ LR c n (k + 1) z μ' ρ' ∧ k < tK c n ∧ ∀ z0, eF z0 μ ρ μ' ρ')) ∨
      (tV c n k ≠ v ∧ ∃ μ' ρ', f_X5_expect G v μ = some (0, μ') ∧ f_X12_errs G 1 ρ = some (-1, ρ') ∧ SK μ' ∧ FtR μ' ρ' ∧ ∀ z0, eF z0 μ ρ μ' ρ') := by
  by_cases e : tV c n k = v
  · refine Or.inl ⟨e, fun hv => ?_⟩
    have hk := LR_end hc h (by rw [e]; exact hv)
    obtain ⟨μ', ρ', b1, b2, b3, b4⟩ := L_adv hG hn hc h hk
    refine ⟨μ', ρ', ?_, b1, b2, b3, hk, b4⟩
    unfold f_X5_expect f_X5_expect_j20
    rw [if_pos (flt_c h), tok_c h, if_pos e, if_pos (flt_c h), b1, bndV_s]
  · refine Or.inr ⟨e, ?_⟩
    obtain ⟨μ1, ρ1, b1, b2, b3, b4, b5⟩ := L_fail (G := G) (v := 1) hn h hz (by decide)
    refine ⟨μ1, ρ1, ?_, b2, b3, b4, b5⟩
    unfold f_X5_expect f_X5_expect_j20
    rw [if_pos (flt_c h), tok_c h, if_neg e, b1, bndV_s, if_neg b3.1]
def KRes (G : Nat) (c : Nat → Nat) (n : Nat) (o : Nat) (Q : List Int32) (z k : Nat) (S : List Nat) (b : Nat) (μ ρ : Mem) (F : Option Mem) (f : Option (Int32 × Mem)) : Prop :=
  (∃ k' z' μ' ρ' g', F = some μ' ∧ f = f_X12_readAny_L9 G g' (nI b) 0 ρ' ∧ CQ c n k' z' o Q μ' ρ' ∧ cF z μ ρ μ' ρ' ∧ k < k' ∧ z' + Q.length ≤ k' ∧ Ty ρ' z z' S (1 :: S) ∧ tK c n - k' < g') ∨
    ∃ μ' ρ', F = some μ' ∧ f = some (-1, ρ') ∧ FlC μ ρ μ' ρ'
/-- a comparison -/
theorem comp_ok {o m k z b g : Nat} {Q : List Int32} {μ ρ : Mem} {S : List Nat} (hG : 500 ≤ G) (hn : n ≤ 400) (hc : ∀ j, j < n → c j < 256) (h : CQ c n k z (o + m) (Q ++ List.replicate m 9) μ ρ) (hz : z + Q.length + m ≤ k) (ho : o + m ≤ 8) (hQ : Q.length + m ≤ 40) (hl : ∀ x, Q[Q.length - 1]? = some x → x ≠ 9) (hS : S.length ≤ 20) (hg : tK c n - k ≤ g) :
    KRes G c n o Q z k S b μ ρ (f_X5_clause_j85 G fq (nI m) μ) (bndE (f_X12_readCompared G ρ) (fun w49 m48 => if w49 = -1 then some (-1, m48) else bndV (f_X12_settles G 9 m48) (fun m52 => f_X12_readAny_L9 G g (nI b) 0 m52))) := by
  have hK := tK_le (c := c) (n := n)
  have kK := h.1.1
  rcases expr_ok (P := Q.length + m) (S0 := S) hG hn hc h.1 (by omega) (by omega) with ⟨k1, z1, μ1, ρ1, x1, a1, a2, a3, a4, a5, a6, a7, a8⟩ | ⟨μ1, ρ1, a1, a2, a3⟩
  · have kK1 := a3.1
    have T1 : z ≤ z1 := a7.1
    have s60 : f_X12_isSign ρ1 60 = if tV c n k1 = nI 20060 then 1 else 0 := isS_r (s := 60) a3 (by omega)
    have s61 : f_X12_isSign ρ1 61 = if tV c n k1 = nI 20061 then 1 else 0 := isS_r (s := 61) a3 (by omega)
    have s62 : f_X12_isSign ρ1 62 = if tV c n k1 = nI 20062 then 1 else 0 := isS_r (s := 62) a3 (by omega)
    have val : ∀ s : Nat, s < 256 → tV c n k1 = nI (20000 + s) → ρ1 0 19 = nI s := by
      intro s hs ht
      have := isS_r (s := s) a3 hs
      rw [if_pos ht] at this
      unfold f_X12_isSign at this
      split at this
      · split at this
        · assumption
        · exact absurd this (by decide)
      · exact absurd this (by decide)
    have rc : f_X12_readCompared G ρ = (if f_X12_isSign ρ1 60 = 0 then (if f_X12_isSign ρ1 61 = 0 then (if f_X12_isSign ρ1 62 = 0 then bndE (f_X12_errs G 1 ρ1) (fun w20 m19 => some (w20, m19)) else f_X12_readCompared_j43 G ρ1) else f_X12_readCompared_j43 G ρ1) else f_X12_readCompared_j43 G ρ1) := by
      unfold f_X12_readCompared
      rw [a2, bndE_s, if_neg (by decide)]
    have go : ∀ op : Int32, (op = 6 ∨ op = 7 ∨ op = 8) → CdR (tV c n k1) op 0 → tV c n k1 ≠ 30000 → f_X10_compares (tV c n k1) = 1 → f_X12_readCompared G ρ = f_X12_readCompared_j73 G op ρ1 →
        KRes G c n o Q z k S b μ ρ (f_X5_clause_j85 G fq (nI m) μ) (bndE (f_X12_readCompared G ρ) (fun w49 m48 => if w49 = -1 then some (-1, m48) else bndV (f_X12_settles G 9 m48) (fun m52 => f_X12_readAny_L9 G g (nI b) 0 m52))) := by
      intro op hop hcd hne hcmp hrc
      rcases expect_ok (v := tV c n k1) hG hn hc a3 (by omega) with ⟨_, e2⟩ | ⟨e1, _⟩
      · obtain ⟨μ2, ρ2, b1, _, b2, b3, b4, b5⟩ := e2 hne
        have cl : f_X5_clause_j85 G fq (nI m) μ = bndV (f_X5_expression G μ2) (fun m20 => bndV (f_X1_put G 45 (tV c n k1) m20) (fun m22 => f_X5_clause_j127 G fq (nI m) m22)) := by
          rw [f_X5_clause_j85, a1, bndV_s, tok_c a3, hcmp, if_neg (by decide), f_X5_clause_j109, b1, bndE_s, if_neg (by decide)]
        have E2 : eF z μ ρ μ2 ρ2 := eF_tr a4 (b5 z1) T1
        rw [cl, hrc, f_X12_readCompared_j73, b2, bndV_s]
        rcases expr_ok (P := Q.length + m + 1) (S0 := x1 :: S) hG hn hc b3 (by omega) (by rw [List.length_cons]; omega) with ⟨k3, z3, μ3, ρ3, x3, d1, d2, d3, d4, d5, d6, d7, d8⟩ | ⟨μ3, ρ3, d1, d2, d3⟩
        · have kK3 := d3.1
          obtain ⟨μ4, ρ4, f1, f2, f3, f4, f5, f6⟩ := L_put (G := G) (v := tV c n k1) (a := op) (b := 0) d3 (by omega) hcd
          have T3 : z1 ≤ z3 := d7.1
          have E4 : eF z μ ρ μ4 ρ4 := eF_tr E2 (eF_tr d4 f4 T3) (by omega)
          have C4 : CQ c n k3 (z3 + 1) (o + m) (Q ++ List.replicate m 9) μ4 ρ4 := CQ_e h f3 E4
          obtain ⟨μ5, ρ5, g1, g2, g3, g4, g5⟩ := nots_ok (fq := fq) (S := S) hG hn C4 (by omega) ho hQ hl
          refine Or.inl ⟨k3, z3 + 1 + m, μ5, ρ5, g, ?_, ?_, g3, cF_tr (cF_e E4) g4 (by omega), by omega, by omega, ?_, by omega⟩
          · rw [d1, bndV_s, f1, bndV_s, g1]
          · rw [d2, bndE_s, if_neg (by decide), f2, bndV_s, bndE_s, if_neg (by decide), g2, bndV_s]
          · have t1 : Ty ρ4 z z1 S (x1 :: S) := Ty_c a7 (eF_tr (b5 z1) (eF_tr d4 f4 T3) (Nat.le_refl _)) (Nat.le_refl _)
            have t2 : Ty ρ4 z1 z3 (x1 :: S) (x3 :: x1 :: S) := Ty_c d7 f4 (Nat.le_refl _)
            have t3 : Ty ρ4 z3 (z3 + 1) (x3 :: x1 :: S) (1 :: S) := Ty_1 f5 f6 (by rcases hop with e | e | e <;> rw [e] <;> simp [tst, a8, d8])
            exact Ty_tr (Ty_d (Ty_tr t1 (Ty_tr t2 t3)) g4 (Nat.le_refl _)) g5
        · obtain ⟨μ4, p1, p2⟩ := put_k (G := G) (v := tV c n k1) d3.1
          obtain ⟨μ5, q1, q2⟩ := j127_k (G := G) (fq := fq) (v2 := nI m) hG p2.1
          refine Or.inr ⟨μ5, ρ3, ?_, ?_, FlC_s (FlC_c (cF_e E2) (FlC_f d3)) (SkR_tr p2 q2)⟩
          · rw [d1, bndV_s, p1, bndV_s, q1]
          · rw [d2, bndE_s, if_pos rfl, bndE_s, if_pos rfl]
      · exact absurd rfl e1
    by_cases t60 : tV c n k1 = nI 20060
    · refine go 6 (Or.inl rfl) (Or.inr (Or.inr (Or.inr (Or.inr (Or.inr (Or.inr (Or.inl ⟨t60, rfl⟩))))))) (by rw [t60]; decide) (by rw [t60]; decide) ?_
      rw [rc, s60, if_pos t60, if_neg (by decide), f_X12_readCompared_j43, if_pos (show ρ1 0 19 = 60 from val 60 (by omega) t60)]
    · by_cases t61 : tV c n k1 = nI 20061
      · refine go 7 (Or.inr (Or.inl rfl)) (Or.inr (Or.inr (Or.inr (Or.inr (Or.inr (Or.inr (Or.inr (Or.inl ⟨t61, rfl⟩)))))))) (by rw [t61]; decide) (by rw [t61]; decide) ?_
        rw [rc, s60, if_neg t60, if_pos rfl, s61, if_pos t61, if_neg (by decide), f_X12_readCompared_j43, val 61 (by omega) t61, if_neg (by decide), if_pos (show nI 61 = 61 from rfl)]
      · by_cases t62 : tV c n k1 = nI 20062
        · refine go 8 (Or.inr (Or.inr rfl)) (Or.inr (Or.inr (Or.inr (Or.inr (Or.inr (Or.inr (Or.inr (Or.inr (Or.inl ⟨t62, rfl⟩))))))))) (by rw [t62]; decide) (by rw [t62]; decide) ?_
          rw [rc, s60, if_neg t60, if_pos rfl, s61, if_neg t61, if_pos rfl, s62, if_pos t62, if_neg (by decide), f_X12_readCompared_j43, val 62 (by omega) t62, if_neg (by decide), if_neg (by decide)]
        · have cmp : f_X10_compares (tV c n k1) = 0 := by
            unfold f_X10_compares
            rw [if_neg (show ¬ tV c n k1 = 20060 from t60), if_neg (show ¬ tV c n k1 = 20061 from t61), if_neg (show ¬ tV c n k1 = 20062 from t62)]
          rcases expect_ok (v := 20060) hG hn hc a3 (by omega) with ⟨e1, _⟩ | ⟨_, μ2, ρ2, b1, b2, b3, b4, b5⟩
          · exact absurd e1 t60
          · obtain ⟨μ5, q1, q2⟩ := j127_k (G := G) (fq := fq) (v2 := nI m) hG b3
            refine Or.inr ⟨μ5, ρ2, ?_, ?_, FlC_s (FlC_c (cF_e a4) (FlC_f (SkF b4 (b5 0) (SkR_rfl b3)))) q2⟩
            · rw [f_X5_clause_j85, a1, bndV_s, tok_c a3, cmp, if_pos rfl, f_X5_clause_j109, b1, bndE_s, if_pos rfl, q1]
            · rw [rc, s60, if_neg t60, if_pos rfl, s61, if_neg t61, if_pos rfl, s62, if_neg t62, if_pos rfl, b2, bndE_s, bndE_s, if_pos rfl]
  · refine Or.inr ?_
    have rc : f_X12_readCompared G ρ = some (-1, ρ1) := by
      unfold f_X12_readCompared
      rw [a2, bndE_s, if_pos rfl]
    rw [rc, bndE_s, if_pos rfl, f_X5_clause_j85, a1, bndV_s]
    split
    · obtain ⟨μ5, q1, q2⟩ := j109_k (G := G) (fq := fq) (v2 := nI m) (v3 := μ1 41 10) (s0 := 20060) hG a3.1
      exact ⟨μ5, ρ1, q1, rfl, FlC_s (FlC_f a3) q2⟩
    · obtain ⟨μ5, q1, q2⟩ := j109_k (G := G) (fq := fq) (v2 := nI m) (v3 := μ1 41 10) (s0 := μ1 41 10) hG a3.1
      exact ⟨μ5, ρ1, q1, rfl, FlC_s (FlC_f a3) q2⟩
end
