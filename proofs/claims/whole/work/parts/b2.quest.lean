section
variable {G n : Nat} {c : Nat → Nat}
theorem LR_x {k : Nat} {μ ρ μ' ρ' : Mem} (h : LR c n k 0 μ ρ) (h1 : ∀ x, x ≠ 52 → x ≠ 53 → μ' x = μ x) (h2 : ∀ x, ¬ (20 ≤ x ∧ x ≤ 22) → ρ' x = ρ x) : LR c n k 0 μ' ρ' := by
  obtain ⟨a1, a2, a3, a4, a5, a6⟩ := h
  exact ⟨a1, AtC_o a2 (h1 41 (by omega) (by omega)) (h1 43 (by omega) (by omega)) (h1 44 (by omega) (by omega)), by rw [h1 45 (by omega) (by omega)]; exact a3, AtR_o a4 (fun j _ _ => by rw [h2 0 (by omega)]) (h2 10 (by omega)) (h2 11 (by omega)), by rw [h2 0 (by omega)]; exact a5, fun i hi => absurd hi (by omega)⟩
theorem SK_x {μ ρ μ' ρ' : Mem} (h : SK μ) (f : FtR μ ρ) (h1 : ∀ x, x ≠ 52 → x ≠ 53 → μ' x = μ x) (h2 : ∀ x, ¬ (20 ≤ x ∧ x ≤ 22) → ρ' x = ρ x) : SK μ' ∧ FtR μ' ρ' := by
  unfold SK FtR at *
  rw [h1 41 (by omega) (by omega), h1 45 (by omega) (by omega), h2 0 (by omega)]
  exact ⟨h, f⟩
theorem TC_x {μ μ' : Mem} {l l' : Nat} (h1 : ∀ x, x ≠ 52 → x ≠ 53 → μ' x = μ x) (h2 : LnR μ 52 16 6 l) (h3 : LnR μ' 52 16 6 l') : TC μ μ' :=
  ⟨fun x _ _ a b => h1 x a b, fun j _ _ _ _ => by rw [h1 41 (by omega) (by omega)], by rw [h2.1, h3.1], by rw [h2.2.1, h3.2.1]⟩
theorem LnR_t {μ μ' : Mem} {l : Nat} (h : LnR μ 52 16 6 l) (f : fC μ μ') : LnR μ' 52 16 6 l := by
  unfold LnR at h ⊢
  rw [f.1 52 (by omega) (by omega) (by omega)]
  exact h
/-- a text, line by line -/
theorem loopT {F : Mem → Option Mem} {Lr : Nat → Int32 → Mem → Option (Int32 × Mem)} {D : Nat → Mem → Mem → Prop} {kk : Int32} (hG : 500 ≤ G) (hn : n ≤ 400) (hc : ∀ j, j < n → c j < 256)
    (hcl : ∀ g v4 μ, μ 41 6 = 0 → ¬ μ 41 10 = 30000 → ¬ (400 : Int32) < v4 → f_X5_read_L68 G (f_X5_read_j151 G) (g + 1) kk v4 μ = bndV (F μ) (fun m => f_X5_read_L68 G (f_X5_read_j151 G) g kk (v4 + 1) m)) (hk0 : ¬ kk = 0)
    (hend : ∀ gl l (ρ : Mem), ρ 0 18 = 0 → Lr (gl + 1) (nI l) ρ = some (nI l, ρ)) (hD : ∀ l μ ρ, D l μ ρ → μ 52 3 = nI l)
    (hline : ∀ k l μ ρ gl, LR c n k 0 μ ρ → D l μ ρ → l ≤ 16 → k < tK c n →
      (∃ k' μ' ρ', F μ = some μ' ∧ Lr (gl + 1) (nI l) ρ = Lr gl (nI (l + 1)) ρ' ∧ LR c n k' 0 μ' ρ' ∧ D (l + 1) μ' ρ' ∧ l + 1 ≤ 16 ∧ k < k' ∧ TC μ μ' ∧ TR ρ ρ') ∨
        ∃ μ' ρ', F μ = some μ' ∧ Lr (gl + 1) (nI l) ρ = some (-1, ρ') ∧ SK μ' ∧ FtR μ' ρ' ∧ TC μ μ' ∧ TR ρ ρ') :
    ∀ m k l μ ρ v4 g gl, tK c n - k ≤ m → LR c n k 0 μ ρ → D l μ ρ → l ≤ 16 → v4 ≤ k → m + 1 < g → m < gl →
      (∃ l1 μ' ρ', f_X5_read_L68 G (f_X5_read_j151 G) g kk (nI v4) μ = some (nI l1, μ') ∧ Lr gl (nI l) ρ = some (nI l1, ρ') ∧ l1 ≤ 16 ∧ D l1 μ' ρ' ∧ μ' 41 6 = 0 ∧ μ' 41 7 = -1 ∧ TC μ μ' ∧ TR ρ ρ') ∨
        ∃ μ' ρ', f_X5_read_L68 G (f_X5_read_j151 G) g kk (nI v4) μ = some (-1, μ') ∧ Lr gl (nI l) ρ = some (-1, ρ') ∧ FtR μ' ρ' ∧ TC μ μ' ∧ TR ρ ρ' := by
  have hK := tK_le (c := c) (n := n)
  have fin : ∀ k l μ ρ v4 g gl, k = tK c n → LR c n k 0 μ ρ → D l μ ρ → l ≤ 16 → v4 ≤ k → 0 < g → 0 < gl →
      f_X5_read_L68 G (f_X5_read_j151 G) g kk (nI v4) μ = some (nI l, μ) ∧ Lr gl (nI l) ρ = some (nI l, ρ) := by
    intro k l μ ρ v4 g gl hk h hd hl hv hg hgl
    obtain ⟨g, rfl⟩ : ∃ y, g = y + 1 := ⟨g - 1, by omega⟩
    obtain ⟨gl, rfl⟩ : ∃ y, gl = y + 1 := ⟨gl - 1, by omega⟩
    have te : tV c n k = 30000 := (tV_end hc h.1).mpr hk
    refine ⟨?_, hend gl l ρ ((tk_e h.2.2.2.1.2.2.1).mpr te)⟩
    rw [f_X5_read_L68, if_neg (show ¬ (400 : Int32) < nI v4 from nI_nlt (b := v4) (a := 400) (by omega) (by omega)), if_pos (flt_c h), tok_c h, if_pos te, f_X5_read_j151, if_pos (flt_c h), if_neg hk0, hD l μ ρ hd]
  intro m
  induction m with
  | zero =>
    intro k l μ ρ v4 g gl hm h hd hl hv hg hgl
    have kK := h.1
    obtain ⟨f1, f2⟩ := fin k l μ ρ v4 g gl (by omega) h hd hl hv (by omega) (by omega)
    exact Or.inl ⟨l, μ, ρ, f1, f2, hl, hd, flt_c h, flp_c h, TC_rfl, TR_rfl⟩
  | succ m ih =>
    intro k l μ ρ v4 g gl hm h hd hl hv hg hgl
    have kK := h.1
    by_cases ke : k = tK c n
    · obtain ⟨f1, f2⟩ := fin k l μ ρ v4 g gl ke h hd hl hv (by omega) (by omega)
      exact Or.inl ⟨l, μ, ρ, f1, f2, hl, hd, flt_c h, flp_c h, TC_rfl, TR_rfl⟩
    · obtain ⟨g, rfl⟩ : ∃ y, g = y + 1 := ⟨g - 1, by omega⟩
      obtain ⟨gl, rfl⟩ : ∃ y, gl = y + 1 := ⟨gl - 1, by omega⟩
      have kl : k < tK c n := by omega
      have tn : ¬ tV c n k = 30000 := fun q => ke ((tV_end hc h.1).mp q)
      have cl := hcl g (nI v4) μ (flt_c h) (by rw [tok_c h]; exact tn) (nI_nlt (b := v4) (a := 400) (by omega) (by omega))
      rw [cl]
      rcases hline k l μ ρ gl h hd hl kl with ⟨k', μ', ρ', a1, a2, a3, a4, a5, a6, a7, a8⟩ | ⟨μ', ρ', a1, a2, a3, a4, a5, a6⟩
      · rw [a1, bndV_s, nI_1, a2]
        rcases ih k' (l + 1) μ' ρ' (v4 + 1) g gl (by omega) a3 a4 a5 (by omega) (by omega) (by omega) with ⟨l1, μ2, ρ2, b1, b2, b3, b4, b5, b6, b7, b8⟩ | ⟨μ2, ρ2, b1, b2, b3, b4, b5⟩
        · exact Or.inl ⟨l1, μ2, ρ2, b1, b2, b3, b4, b5, b6, TC_tr a7 b7, TR_tr a8 b8⟩
        · exact Or.inr ⟨μ2, ρ2, b1, b2, b3, TC_tr a7 b4, TR_tr a8 b5⟩
      · refine Or.inr ⟨μ', ρ', ?_, a2, a4, a5, a6⟩
        obtain ⟨g, rfl⟩ : ∃ y, g = y + 1 := ⟨g - 1, by omega⟩
        rw [a1, bndV_s, f_X5_read_L68]
        have j : f_X5_read_j151 G kk μ' = some (-1, μ') := by rw [f_X5_read_j151, if_neg a3.1]
        rw [if_neg a3.1, j]
        split <;> rfl
def DQ (l : Nat) (μ ρ : Mem) : Prop := LnR μ 52 16 6 l ∧ ∀ i, i < l → μ 53 (6 * i) = ρ 20 (16 + i)
theorem TR_20 {i : Nat} {v : Int32} {ρ : Mem} (hi : 16 ≤ i) : TR ρ (wr ρ 20 i v) :=
  ⟨fun x _ b => wr_off (by omega), fun j _ _ => wr_cell (by omega), fun x a b j _ => wr_cell (by omega), fun j _ => ⟨wr_cell (by omega), wr_cell (by omega)⟩, fun j hj => wr_slot (by omega), fun j _ => wr_cell (by omega), fun j _ => wr_cell (by omega)⟩
theorem quest_ok {k l gl : Nat} {μ ρ : Mem} (hG : 500 ≤ G) (hn : n ≤ 400) (hc : ∀ j, j < n → c j < 256) (h : LR c n k 0 μ ρ) (hd : DQ l μ ρ) (hl : l ≤ 16) (hk : k < tK c n) :
    (∃ k' μ' ρ', f_X5_questionLine G μ = some μ' ∧ f_X12_readQuestions_L2 G (f_X12_readQuestions_j73 G) (gl + 1) (nI l) ρ = f_X12_readQuestions_L2 G (f_X12_readQuestions_j73 G) gl (nI (l + 1)) ρ' ∧ LR c n k' 0 μ' ρ' ∧ DQ (l + 1) μ' ρ' ∧ l + 1 ≤ 16 ∧ k < k' ∧ TC μ μ' ∧ TR ρ ρ') ∨
      ∃ μ' ρ', f_X5_questionLine G μ = some μ' ∧ f_X12_readQuestions_L2 G (f_X12_readQuestions_j73 G) (gl + 1) (nI l) ρ = some (-1, ρ') ∧ SK μ' ∧ FtR μ' ρ' ∧ TC μ μ' ∧ TR ρ ρ' := by
  obtain ⟨dl, dq⟩ := hd
  have nE : ¬ ρ 0 18 = 0 := fun q => by
    have := (tV_end hc h.1).mp ((tk_e h.2.2.2.1.2.2.1).mp q)
    omega
  have l3 : μ 52 3 = nI l := dl.2.2.1
  rcases begin_ok (l := l) (w := 18) hG hn hc h hl (by omega) hk with ⟨e1, iw, l16, μ1, ρ1, b1, b2, b3, b4⟩ | ⟨v, μ1, ρ1, cs, b1, b2, b3, b4, b5⟩
  · have iw : f_X12_isWord ρ 18 = 1 := iw
    have b1 : f_X5_beginLine G 10018 (μ 52 3) μ = some (1, μ1) := by rw [l3]; exact b1
    have d1 := LnR_t dl (b4 0).1
    have i1 : (16 : Int32) + nI l = nI (16 + l) := nI_add 16 l
    have rst : f_X12_readQuestions_L2 G (f_X12_readQuestions_j73 G) (gl + 1) (nI l) ρ = bndE (f_X12_readNumber G 0 99 ρ1) (fun w5 m4 => if w5 = -1 then some (-1, wr m4 20 (16 + l) w5) else bndE (f_X12_readMark G 59 (wr m4 20 (16 + l) w5)) (fun w12 m11 => if w12 = -1 then some (-1, m11) else f_X12_readQuestions_L2 G (f_X12_readQuestions_j73 G) gl (nI (l + 1)) m11)) := by
      rw [f_X12_readQuestions_L2, iw, if_neg (by decide), if_neg (show ¬ nI l = 16 from fun q => by have := (nI_eq (b := 16) (by omega) (by omega)).mp q; omega)]
      unfold f_X12_readTold
      rw [iw, if_neg (by decide), b2, bndV_s, pr12, i1, nI_1]
      congr 1
      funext w5 m4
      rw [chkn (by omega) (by omega), ixn (by omega)]
      show chk (nI (16 + l)) 32 (if (wr m4 20 (16 + l) w5) 20 (16 + l) = -1 then _ else _) = _
      rw [chkn (by omega) (by omega), wr_same]
    rw [rst]
    have cst : f_X5_questionLine G μ = bndE (f_X5_numberBelow G (nI 100) μ1) (fun w7 m6 => bndE (f_X2_add G 52 96 w7 0 0 0 m6) (fun w10 m9 => bndE (f_X5_expect G 20059 m9) (fun w13 m12 => some m12))) := by
      unfold f_X5_questionLine
      rw [b1, bndE_s, if_neg (by decide)]
      rfl
    rw [cst]
    rcases numN (B := 100) (hi := 99) hG hn hc (by omega) b3 (fun x hx => isIn_b (B := 100) (by omega) x hx) with ⟨v, μ2, ρ2, v100, p1, p2, p3, p4, p5⟩ | ⟨μ2, ρ2, p1, p2, p3, p4, p5⟩
    · have d2 := LnR_t d1 (p5 0).1
      obtain ⟨μ3, a1, a2, a3, a4, a5⟩ := addn (G := G) (N := 96) (p := nI v) (q := 0) (r := 0) (s := 0) d2 (by omega) (by omega) (by omega) (by omega) (by omega) l16
      have H3 := LR_x (ρ' := wr ρ2 20 (16 + l) (nI v)) p3 (fun x q r => a2 x q r) (fun x hx => wr_off (by omega))
      have T3 : TC μ μ3 := TC_tr (TC_f (b4 0).1) (TC_tr (TC_f (p5 0).1) (TC_x (fun x q r => a2 x q r) d2 a3))
      have R3 : TR ρ (wr ρ2 20 (16 + l) (nI v)) := TR_tr (TR_c (cF_e (b4 0))) (TR_tr (TR_c (cF_e (p5 0))) (TR_20 (by omega)))
      rw [p1, bndE_s, a1, bndE_s, p2, bndE_s, if_neg (nI_m1 (by omega))]
      unfold f_X12_readMark
      have s59 : f_X12_isSign (wr ρ2 20 (16 + l) (nI v)) 59 = if tV c n (k + 1 + 1) = nI 20059 then 1 else 0 := isS_r (s := 59) H3 (by omega)
      rw [s59]
      rcases expect_ok (v := 20059) hG hn hc H3 (by omega) with ⟨e2, e3⟩ | ⟨e2, μ4, ρ4, q1, q2, q3, q4, q5⟩
      · obtain ⟨μ4, ρ4, q1, _, q2, q3, q4, q5⟩ := e3 (by decide)
        have f4 := q5 0
        refine Or.inl ⟨k + 1 + 1 + 1, μ4, ρ4, by rw [q1, bndE_s], ?_, q3, ⟨LnR_t a3 f4.1, fun i hi => ?_⟩, by omega, by omega, TC_tr T3 (TC_f f4.1), TR_tr R3 (TR_c (cF_e f4))⟩
        · rw [if_pos (show tV c n (k + 1 + 1) = nI 20059 from e2), if_neg (by decide), q2, bndV_s, bndE_s, if_neg (by decide)]
        · rw [f4.1.1 53 (by omega) (by omega) (by omega), f4.2.2.1 20 (by omega) (by omega) (by omega)]
          by_cases il : i = l
          · rw [il, wr_same]
            have := a5 0 (by omega)
            rw [show l * 6 + 0 = 6 * l by omega, show (52 : Nat) + 1 = 53 from rfl] at this
            rw [this]
            rfl
          · have := a4 (6 * i) (by omega)
            rw [show (52 : Nat) + 1 = 53 from rfl] at this
            rw [this, wr_slot (by omega), (p5 0).1.1 53 (by omega) (by omega) (by omega), (b4 0).1.1 53 (by omega) (by omega) (by omega), (p5 0).2.2.1 20 (by omega) (by omega) (by omega), (b4 0).2.2.1 20 (by omega) (by omega) (by omega)]
            exact dq i (by omega)
      · refine Or.inr ⟨μ4, ρ4, by rw [q1, bndE_s], ?_, q3, q4, TC_tr T3 (TC_f (q5 0).1), TR_tr R3 (TR_c (cF_e (q5 0)))⟩
        rw [if_neg (show ¬ tV c n (k + 1 + 1) = nI 20059 from e2), if_pos rfl, q2, bndE_s, bndE_s, if_pos rfl]
    · have d2 := LnR_t d1 (p5 0).1
      obtain ⟨μ3, a1, a2, a3, a4, a5⟩ := addn (G := G) (N := 96) (p := 0) (q := 0) (r := 0) (s := 0) d2 (by omega) (by omega) (by omega) (by omega) (by omega) l16
      obtain ⟨s1, s2⟩ := SK_x (ρ' := wr ρ2 20 (16 + l) (-1)) p3 p4 (fun x q r => a2 x q r) (fun x hx => wr_off (by omega))
      refine Or.inr ⟨μ3, wr ρ2 20 (16 + l) (-1), ?_, ?_, s1, s2, TC_tr (TC_f (b4 0).1) (TC_tr (TC_f (p5 0).1) (TC_x (fun x q r => a2 x q r) d2 a3)), TR_tr (TR_c (cF_e (b4 0))) (TR_tr (TR_c (cF_e (p5 0))) (TR_20 (by omega)))⟩
      · rw [p1, bndE_s, a1, bndE_s, expect_k s1, bndE_s]
      · rw [p2, bndE_s, if_pos rfl]
  · have b1 : f_X5_beginLine G 10018 (μ 52 3) μ = some (0, μ1) := by rw [l3]; exact b1
    refine Or.inr ⟨μ1, ρ1, ?_, ?_, b3, b4, TC_f (b5 0).1, TR_c (cF_e (b5 0))⟩
    · unfold f_X5_questionLine
      rw [b1, bndE_s, if_pos rfl]
    · rw [f_X12_readQuestions_L2]
      rcases cs with ⟨v3, iw, l16⟩ | ⟨v1, iw⟩
      · have iw : f_X12_isWord ρ 18 = 1 := iw
        subst v3
        rw [iw, if_neg (by decide), l16, if_pos (show nI 16 = 16 from rfl), b2, bndE_s]
      · have iw : f_X12_isWord ρ 18 = 0 := iw
        subst v1
        rw [iw, if_pos rfl, f_X12_readQuestions_j73, if_neg nE, b2, bndE_s]
end
