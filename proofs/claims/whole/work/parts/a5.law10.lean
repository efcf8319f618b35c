section
variable {G n : Nat} {c : Nat → Nat}
/-- what reading a text leaves: the class's, the reference's -/
def TC (μ μ' : Mem) : Prop := (∀ x, x ≠ 41 → ¬ (45 ≤ x ∧ x ≤ 50) → x ≠ 52 → x ≠ 53 → μ' x = μ x) ∧ (∀ j, j ≠ 6 → j ≠ 7 → j ≠ 9 → j ≠ 10 → μ' 41 j = μ 41 j) ∧ μ' 52 0 = μ 52 0 ∧ μ' 52 1 = μ 52 1
def TR (ρ ρ' : Mem) : Prop := (∀ x, x ≠ 0 → ¬ (13 ≤ x ∧ x ≤ 22) → ρ' x = ρ x) ∧ (∀ j, ¬ (16 ≤ j ∧ j ≤ 19) → ¬ (29 ≤ j ∧ j ≤ 34) → ρ' 0 j = ρ 0 j) ∧ (∀ x, 13 ≤ x → x ≤ 16 → ∀ i, i < 32 → ρ' x i = ρ x i) ∧ (∀ i, i < 800 → ρ' 17 i = ρ 17 i ∧ ρ' 18 i = ρ 18 i) ∧ (∀ i, i < 16 → ρ' 20 i = ρ 20 i) ∧ (∀ i, i < 96 → ρ' 21 i = ρ 21 i) ∧ ∀ i, i < 12 → ρ' 22 i = ρ 22 i
theorem TC_rfl {μ : Mem} : TC μ μ := ⟨fun _ _ _ _ _ => rfl, fun _ _ _ _ _ => rfl, rfl, rfl⟩
theorem TC_tr {μ μ1 μ2 : Mem} (h : TC μ μ1) (h' : TC μ1 μ2) : TC μ μ2 := ⟨fun x a b d e => by rw [h'.1 x a b d e, h.1 x a b d e], fun j a b d e => by rw [h'.2.1 j a b d e, h.2.1 j a b d e], by rw [h'.2.2.1, h.2.2.1], by rw [h'.2.2.2, h.2.2.2]⟩
theorem TC_f {μ μ' : Mem} (h : fC μ μ') : TC μ μ' := ⟨fun x a b _ _ => h.1 x a (by omega) (by omega), h.2.1, by rw [h.1 52 (by omega) (by omega) (by omega)], by rw [h.1 52 (by omega) (by omega) (by omega)]⟩
theorem TR_rfl {ρ : Mem} : TR ρ ρ := ⟨fun _ _ _ => rfl, fun _ _ _ => rfl, fun _ _ _ _ _ => rfl, fun _ _ => ⟨rfl, rfl⟩, fun _ _ => rfl, fun _ _ => rfl, fun _ _ => rfl⟩
theorem TR_tr {ρ ρ1 ρ2 : Mem} (h : TR ρ ρ1) (h' : TR ρ1 ρ2) : TR ρ ρ2 := by
  obtain ⟨a1, a2, a3, a4, a5, a6, a7⟩ := h
  obtain ⟨b1, b2, b3, b4, b5, b6, b7⟩ := h'
  exact ⟨fun x p q => by rw [b1 x p q, a1 x p q], fun j p q => by rw [b2 j p q, a2 j p q], fun x p q i r => by rw [b3 x p q i r, a3 x p q i r], fun i p => ⟨by rw [(b4 i p).1, (a4 i p).1], by rw [(b4 i p).2, (a4 i p).2]⟩, fun i p => by rw [b5 i p, a5 i p], fun i p => by rw [b6 i p, a6 i p], fun i p => by rw [b7 i p, a7 i p]⟩
theorem TR_c {z : Nat} {μ ρ μ' ρ' : Mem} (h : cF z μ ρ μ' ρ') : TR ρ ρ' := by
  obtain ⟨_, _, h3, h4, h5⟩ := h
  exact ⟨fun x p q => h3 x p (by omega) (by omega) (by omega), fun j p q => h4 j p (by omega), fun x p q i _ => by rw [h3 x (by omega) (by omega) (by omega) (by omega)], fun i p => h5 i (by omega), fun i _ => by rw [h3 20 (by omega) (by omega) (by omega) (by omega)], fun i _ => by rw [h3 21 (by omega) (by omega) (by omega) (by omega)], fun i _ => by rw [h3 22 (by omega) (by omega) (by omega) (by omega)]⟩
theorem TR_l {μ ρ μ' ρ' : Mem} (h : FlC μ ρ μ' ρ') : TR ρ ρ' := by
  obtain ⟨_, _, _, h3, h4, h5⟩ := h
  exact ⟨fun x p q => h3 x p (by omega) (by omega) (by omega), fun j p q => h4 j p (by omega), fun x p q i _ => by rw [h3 x (by omega) (by omega) (by omega) (by omega)], h5, fun i _ => by rw [h3 20 (by omega) (by omega) (by omega) (by omega)], fun i _ => by rw [h3 21 (by omega) (by omega) (by omega) (by omega)], fun i _ => by rw [h3 22 (by omega) (by omega) (by omega) (by omega)]⟩
theorem TR_w {x i : Nat} {v : Int32} {ρ : Mem} (h1 : 13 ≤ x) (h2 : x ≤ 16) (h3 : 32 ≤ i) : TR ρ (wr ρ x i v) :=
  ⟨fun y a b => wr_off (by omega), fun j _ _ => wr_cell (by omega), fun y a b j hj => by
    by_cases e : y = x
    · rw [e, wr_slot (by omega)]
    · rw [wr_cell e], fun j _ => ⟨wr_cell (by omega), wr_cell (by omega)⟩, fun j _ => wr_cell (by omega), fun j _ => wr_cell (by omega), fun j _ => wr_cell (by omega)⟩
theorem LR_w {k z : Nat} {μ ρ ρ1 : Mem} (h : LR c n k z μ ρ) (h1 : ∀ y, ¬ (13 ≤ y ∧ y ≤ 16) → ρ1 y = ρ y) : LR c n k z μ ρ1 := by
  obtain ⟨a1, a2, a3, a4, a5, a6⟩ := h
  refine ⟨a1, a2, a3, AtR_o a4 (fun j _ _ => by rw [h1 0 (by omega)]) (h1 10 (by omega)) (h1 11 (by omega)), by rw [h1 0 (by omega)]; exact a5, fun i hi => ?_⟩
  rw [h1 17 (by omega), h1 18 (by omega)]
  exact a6 i hi
theorem tk_e {t k v : Int32} (h : TkR t k v) : k = 0 ↔ t = 30000 := by
  rcases h with ⟨x, hx, rfl, rfl, rfl⟩ | ⟨x, hx, rfl, rfl, rfl⟩ | ⟨x, hx, _, rfl, rfl, rfl⟩ | ⟨rfl, rfl⟩ | ⟨rfl, rfl⟩
  · exact ⟨fun q => absurd q (by decide), fun q => absurd ((nI_eq (b := 30000) (by omega) (by omega)).mp q) (by omega)⟩
  · exact ⟨fun q => absurd q (by decide), fun q => absurd ((nI_eq (b := 30000) (by omega) (by omega)).mp q) (by omega)⟩
  · exact ⟨fun q => absurd q (by decide), fun q => absurd ((nI_eq (b := 30000) (by omega) (by omega)).mp q) (by omega)⟩
  · exact ⟨fun _ => rfl, fun _ => rfl⟩
  · exact ⟨fun q => absurd q (by decide), fun q => absurd q (by decide)⟩
theorem tk_l {t k v : Int32} (h : TkR t k v) : (∃ e, e < 3 ∧ t = nI (10000 + e) ∧ k = 2 ∧ v = nI e ∧ f_X12_isIn v 0 2 = 1) ∨ (t ≠ 10000 ∧ t ≠ 10001 ∧ t ≠ 10002 ∧ (k = 2 → f_X12_isIn v 0 2 = 0)) := by
  have ne : ∀ x y : Nat, x < 2 ^ 31 → y < 2 ^ 31 → x ≠ y → nI x ≠ nI y := fun x y hx hy e q => e ((nI_eq hx hy).mp q)
  rcases h with ⟨x, hx, rfl, rfl, rfl⟩ | ⟨x, hx, rfl, rfl, rfl⟩ | ⟨x, hx, _, rfl, rfl, rfl⟩ | ⟨rfl, rfl⟩ | ⟨rfl, rfl⟩
  · exact Or.inr ⟨ne _ 10000 (by omega) (by omega) (by omega), ne _ 10001 (by omega) (by omega) (by omega), ne _ 10002 (by omega) (by omega) (by omega), fun q => absurd q (by decide)⟩
  · by_cases e : x < 3
    · refine Or.inl ⟨x, e, rfl, rfl, rfl, ?_⟩
      rw [isI, if_pos ⟨nI_pos' (by omega), nI_le (b := 2) (by omega) (by omega)⟩]
    · refine Or.inr ⟨ne _ 10000 (by omega) (by omega) (by omega), ne _ 10001 (by omega) (by omega) (by omega), ne _ 10002 (by omega) (by omega) (by omega), fun _ => ?_⟩
      rw [isI, if_neg (fun q => e (by have := (nI_leI (b := 2) (by omega) (by omega)).mp q.2; omega))]
  · exact Or.inr ⟨ne _ 10000 (by omega) (by omega) (by omega), ne _ 10001 (by omega) (by omega) (by omega), ne _ 10002 (by omega) (by omega) (by omega), fun q => absurd q (by decide)⟩
  · exact Or.inr ⟨by decide, by decide, by decide, fun q => absurd q (by decide)⟩
  · exact Or.inr ⟨by decide, by decide, by decide, fun q => absurd q (by decide)⟩
/-- the lines that were read -/
def LnsR (l z : Nat) (μ ρ : Mem) : Prop := ∀ i, i < l → ∃ e f w t x, e < 3 ∧ μ 47 i = nI (10000 + e) ∧ ρ 13 (32 + i) = nI e ∧ μ 48 i = nI f ∧ ρ 14 (32 + i) = nI f ∧ μ 49 i = nI w ∧ ρ 15 (32 + i) = nI w ∧ μ 50 i = nI t ∧ ρ 16 (32 + i) = nI t ∧ w ≤ t ∧ t ≤ z ∧ Ty ρ f w [] [x] ∧ x ≠ 1 ∧ (w < t → Ty ρ w t [] [1])
theorem LnsR_o {l z z' : Nat} {μ ρ μ' ρ' : Mem} (h : LnsR l z μ ρ) (hz : z ≤ z') (h1 : ∀ x, 47 ≤ x → x ≤ 50 → ∀ i, i < l → μ' x i = μ x i) (h2 : ∀ x, 13 ≤ x → x ≤ 16 → ∀ i, i < l → ρ' x (32 + i) = ρ x (32 + i)) (h3 : ∀ i, i < 800 + z → ρ' 17 i = ρ 17 i ∧ ρ' 18 i = ρ 18 i) : LnsR l z' μ' ρ' := by
  have ty : ∀ {a b : Nat} {S S' : List Nat}, Ty ρ a b S S' → b ≤ z → Ty ρ' a b S S' := fun {a b S S'} t hb => by
    refine ⟨t.1, ?_⟩
    rw [← t.2]
    exact trn_c _ _ _ (fun j g1 g2 => h3 (800 + j) (by have := t.1; omega))
  intro i hi
  obtain ⟨e, f, w, t, x, a1, a2, a3, a4, a5, a6, a7, a8, a9, a10, a11, a12, a13, a14⟩ := h i hi
  exact ⟨e, f, w, t, x, a1, by rw [h1 47 (by omega) (by omega) i hi]; exact a2, by rw [h2 13 (by omega) (by omega) i hi]; exact a3, by rw [h1 48 (by omega) (by omega) i hi]; exact a4, by rw [h2 14 (by omega) (by omega) i hi]; exact a5, by rw [h1 49 (by omega) (by omega) i hi]; exact a6, by rw [h2 15 (by omega) (by omega) i hi]; exact a7, by rw [h1 50 (by omega) (by omega) i hi]; exact a8, by rw [h2 16 (by omega) (by omega) i hi]; exact a9, a10, by omega, ty a12 (by omega), a13, fun q => ty (a14 q) a11⟩
theorem LnsR_c {l z z' : Nat} {μ ρ μ' ρ' : Mem} (h : LnsR l z μ ρ) (hz : z ≤ z') (he : cF z μ ρ μ' ρ') : LnsR l z' μ' ρ' :=
  LnsR_o h hz (fun x a b i _ => by rw [he.1.1 x (by omega) (by omega) (by omega)]) (fun x a b i _ => by rw [he.2.2.1 x (by omega) (by omega) (by omega) (by omega)]) he.2.2.2.2
theorem j93_k {v1 v2 v3 : Int32} {μ : Mem} (h : SK μ) : f_X5_lawLine_j93 G v1 v2 v3 μ = some μ := by
  rw [f_X5_lawLine_j93, expect_k h, bndE_s, if_pos rfl]
theorem lawLn {k z l gl : Nat} {μ ρ : Mem} (hG : 500 ≤ G) (hn : n ≤ 400) (hc : ∀ j, j < n → c j < 256) (h : LR c n k z μ ρ) (h6 : μ 45 6 = nI l) (hl : l ≤ 16) (h30 : ρ 0 30 = nI 0) (hL : LnsR l z μ ρ) (hz : z ≤ k) (hk : k < tK c n) :
    (∃ k' z' μ' ρ', f_X5_lawLine G μ = some μ' ∧ f_X12_readLaw_L2 G (f_X12_readLaw_j128 G) (gl + 1) (nI l) ρ = f_X12_readLaw_L2 G (f_X12_readLaw_j128 G) gl (nI (l + 1)) ρ' ∧ LR c n k' z' μ' ρ' ∧ μ' 45 6 = nI (l + 1) ∧ l + 1 ≤ 16 ∧ ρ' 0 30 = nI 0 ∧ LnsR (l + 1) z' μ' ρ' ∧ z' ≤ k' ∧ k < k' ∧ TC μ μ' ∧ TR ρ ρ') ∨
      ∃ μ' ρ', f_X5_lawLine G μ = some μ' ∧ f_X12_readLaw_L2 G (f_X12_readLaw_j128 G) (gl + 1) (nI l) ρ = some (-1, ρ') ∧ SK μ' ∧ FtR μ' ρ' ∧ TC μ μ' ∧ TR ρ ρ' := by
  have hK := tK_le (c := c) (n := n)
  have T := h.2.2.2.1.2.2.1
  have tc := tok_c h
  have fc := flt_c h
  rcases tk_l T with ⟨e, e3, t1, k2, v1, ii⟩ | ⟨n0, n1, n2, ni⟩
  · have lw : f_X12_isLineWord ρ = 1 := by
      unfold f_X12_isLineWord
      rw [if_pos k2, ii, if_neg (by decide)]
    have cw : f_X5_lawLine G μ = f_X5_lawLine_j31 G (tV c n k) μ := by
      unfold f_X5_lawLine
      rw [tc, t1]
      rcases (by omega : e = 0 ∨ e = 1 ∨ e = 2) with q | q | q <;> subst q
      · rw [if_pos (by decide)]
      · rw [if_neg (by decide), if_pos (by decide)]
      · rw [if_neg (by decide), if_neg (by decide), if_pos (by decide)]
    by_cases l16 : l = 16
    · obtain ⟨μ1, ρ1, b1, b2, b3, b4, b5⟩ := L_fail (G := G) (v := 3) hn h (by omega) (by decide)
      refine Or.inr ⟨μ1, ρ1, ?_, ?_, b3, b4, TC_f (b5 0).1, TR_c (cF_e (b5 0))⟩
      · rw [cw, f_X5_lawLine_j31, f_X5_beginLine, tc, if_pos rfl, h6, l16, if_neg (by decide), b1, bndV_s, expect_k b3, bndE_s, bkk0, bndE_s, if_pos rfl]
      · rw [f_X12_readLaw_L2, lw, if_neg (by decide), l16, if_pos (show nI 16 = 16 from rfl), b2, bndE_s]
    · -- the line
      have hl2 : l < 16 := by omega
      have i1 : (32 : Int32) + nI l = nI (32 + l) := nI_add 32 l
      have Ha := LR_w (ρ1 := wr ρ 13 (32 + l) (nI e)) h (fun y hy => wr_off (by omega))
      obtain ⟨μ1, ρ1, b1, b2, b3, b4⟩ := L_adv hG hn hc Ha hk
      have ex1 : f_X5_expect G (tV c n k) μ = some (1, μ1) := by
        unfold f_X5_expect f_X5_expect_j20
        rw [if_pos fc, tc, if_pos rfl, if_pos fc, b1, bndV_s]
      have Hb := LR_w (ρ1 := wr ρ1 14 (32 + l) (nI z)) b3 (fun y hy => wr_off (by omega))
      have z29 : ρ1 0 29 = nI z := b3.2.2.2.2.1
      have TR1 : TR ρ (wr ρ1 14 (32 + l) (nI z)) := TR_tr (TR_tr (TR_w (by omega) (by omega) (by omega)) (TR_c (cF_e (b4 0)))) (TR_w (by omega) (by omega) (by omega))
      have LN1 : LnsR l z μ1 (wr ρ1 14 (32 + l) (nI z)) := LnsR_o hL (Nat.le_refl _) (fun x a b i _ => by rw [(b4 0).1.1 x (by omega) (by omega) (by omega)]) (fun x a b i hi => by
        have q1 : ρ1 x (32 + i) = (wr ρ 13 (32 + l) (nI e)) x (32 + i) := by rw [(b4 0).2.2.1 x (by omega) (by omega) (by omega)]
        by_cases x14 : x = 14
        · rw [x14, wr_slot (by omega), ← x14, q1, x14, wr_cell (by omega)]
        · rw [wr_cell x14, q1]
          by_cases x13 : x = 13
          · rw [x13, wr_slot (by omega)]
          · rw [wr_cell x13]) (fun i _ => by
        have q := (b4 (i + 1)).2.2.2.2 i (by omega)
        rw [wr_cell (show (17 : Nat) ≠ 14 by omega), wr_cell (show (18 : Nat) ≠ 14 by omega), q.1, q.2, wr_cell (show (17 : Nat) ≠ 13 by omega), wr_cell (show (18 : Nat) ≠ 13 by omega)]
        exact ⟨rfl, rfl⟩)
      have cl1 : f_X5_lawLine G μ = bndV (f_X5_expression G μ1) (fun m7 => if m7 41 6 = 0 then (if m7 41 10 = 10003 then bndV (f_X5_advance G m7) (fun m17 => bndV (f_cond G 10 0 m17) (fun m18 => f_X5_lawLine_j93 G (tV c n k) (nI z) (m7 45 7) m18)) else f_X5_lawLine_j93 G (tV c n k) (nI z) (m7 45 7) m7) else f_X5_lawLine_j93 G (tV c n k) (nI z) (m7 45 7) m7) := by
        rw [cw, f_X5_lawLine_j31, f_X5_beginLine, tc, if_pos rfl, h6, if_pos (show nI l < (16 : Int32) from nI_lt (b := 16) hl2 (by omega)), ex1, bndE_s, bkk1, bndE_s, if_neg (by decide), b3.2.2.1]
      have row1 : (wr ρ1 14 (32 + l) (nI z)) 13 (32 + l) = nI e ∧ (wr ρ1 14 (32 + l) (nI z)) 14 (32 + l) = nI z := ⟨by rw [wr_cell (by omega), (b4 0).2.2.1 13 (by omega) (by omega) (by omega), wr_same], wr_same⟩
      have rf1 : f_X12_readLaw_L2 G (f_X12_readLaw_j128 G) (gl + 1) (nI l) ρ = bndE (f_X12_readSum G (wr ρ1 14 (32 + l) (nI z))) (fun w11 m10 => if w11 = -1 then some (-1, m10) else (if f_X12_isWord (wr m10 15 (32 + l) (m10 0 29)) 3 = 0 then f_X12_readLaw_j92 G (f_X12_readLaw_L2 G (f_X12_readLaw_j128 G) gl) (f_X12_readLaw_j128 G) (nI l) (nI (32 + l)) (wr m10 15 (32 + l) (m10 0 29)) else bndV (f_X12_reads G (wr m10 15 (32 + l) (m10 0 29))) (fun m25 => bndE (f_X12_readAny G m25) (fun w28 m27 => if w28 = -1 then some (-1, m27) else f_X12_readLaw_j92 G (f_X12_readLaw_L2 G (f_X12_readLaw_j128 G) gl) (f_X12_readLaw_j128 G) (nI l) (nI (32 + l)) m27)))) := by
        rw [f_X12_readLaw_L2, lw, if_neg (by decide), if_neg (show ¬ nI l = 16 from fun q => l16 ((nI_eq (b := 16) (by omega) (by omega)).mp q)), i1, chkn (by omega) (by omega), ixn (by omega), v1]
        show bndV (f_X12_reads G (wr ρ 13 (32 + l) (nI e))) _ = _
        rw [b2, bndV_s, chkn (by omega) (by omega), z29]
        show bndE (f_X12_readSum G (wr ρ1 14 (32 + l) (nI z))) _ = _
        congr 1
        funext w11 m10
        rw [chkn (by omega) (by omega)]
      have tail : ∀ k5 z5 z2 x2 μ5 ρ5, LR c n k5 z5 μ5 ρ5 → μ5 45 6 = nI l → ρ5 0 30 = nI 0 → LnsR l z5 μ5 ρ5 → z5 ≤ k5 → k < k5 → TC μ μ5 → TR ρ ρ5 → ρ5 13 (32 + l) = nI e → ρ5 14 (32 + l) = nI z → ρ5 15 (32 + l) = nI z2 → z2 ≤ z5 → Ty ρ5 z z2 [] [x2] → x2 ≠ 1 → (z2 < z5 → Ty ρ5 z2 z5 [] [1]) →
          (∃ k' z' μ' ρ', f_X5_lawLine_j93 G (tV c n k) (nI z) (nI z2) μ5 = some μ' ∧ f_X12_readLaw_j92 G (f_X12_readLaw_L2 G (f_X12_readLaw_j128 G) gl) (f_X12_readLaw_j128 G) (nI l) (nI (32 + l)) ρ5 = f_X12_readLaw_L2 G (f_X12_readLaw_j128 G) gl (nI (l + 1)) ρ' ∧ LR c n k' z' μ' ρ' ∧ μ' 45 6 = nI (l + 1) ∧ l + 1 ≤ 16 ∧ ρ' 0 30 = nI 0 ∧ LnsR (l + 1) z' μ' ρ' ∧ z' ≤ k' ∧ k < k' ∧ TC μ μ' ∧ TR ρ ρ') ∨
            ∃ μ' ρ', f_X5_lawLine_j93 G (tV c n k) (nI z) (nI z2) μ5 = some μ' ∧ f_X12_readLaw_j92 G (f_X12_readLaw_L2 G (f_X12_readLaw_j128 G) gl) (f_X12_readLaw_j128 G) (nI l) (nI (32 + l)) ρ5 = some (-1, ρ') ∧ SK μ' ∧ FtR μ' ρ' ∧ TC μ μ' ∧ TR ρ ρ' := by
        intro k5 z5 z2 x2 μ5 ρ5 H5 l6 o30 L5 hz5 hk5 T5 R5 r13 r14 r15 z25 ty1 x21 ty2
        have kK5 := H5.1
        have H6 := LR_w (ρ1 := wr ρ5 16 (32 + l) (nI z5)) H5 (fun y hy => wr_off (by omega))
        have R6 : TR ρ (wr ρ5 16 (32 + l) (nI z5)) := TR_tr R5 (TR_w (by omega) (by omega) (by omega))
        have s59 : f_X12_isSign (wr ρ5 16 (32 + l) (nI z5)) 59 = if tV c n k5 = nI 20059 then 1 else 0 := isS_r (s := 59) H6 (by omega)
        have j92 : f_X12_readLaw_j92 G (f_X12_readLaw_L2 G (f_X12_readLaw_j128 G) gl) (f_X12_readLaw_j128 G) (nI l) (nI (32 + l)) ρ5 = (if f_X12_isSign (wr ρ5 16 (32 + l) (nI z5)) 59 = 0 then bndE (f_X12_errs G 1 (wr ρ5 16 (32 + l) (nI z5))) (fun w23 m22 => some (w23, m22)) else bndV (f_X12_reads G (wr ρ5 16 (32 + l) (nI z5))) (fun m20 => f_X12_readLaw_L2 G (f_X12_readLaw_j128 G) gl (nI (l + 1)) m20)) := by
          rw [f_X12_readLaw_j92, chkn (by omega) (by omega), ixn (by omega), H5.2.2.2.2.1, nI_1]
        rw [j92]
        rcases expect_ok (v := 20059) hG hn hc H6 (by omega) with ⟨e1, e2⟩ | ⟨e1, μ6, ρ6, d1, d2, d3, d4, d5⟩
        · obtain ⟨μ6, ρ6, d1, d1', d2, d3, d4, d5⟩ := e2 (by decide)
          have l66 : μ6 45 6 = nI l := by rw [(d5 0).1.2.2 6 (by omega)]; exact l6
          have z67 : μ6 45 7 = nI z5 := d3.2.2.1
          let μ7 := wr (wr (wr (wr (wr μ6 47 l (tV c n k)) 48 l (nI z)) 49 l (nI z2)) 50 l (nI z5)) 45 6 (nI (l + 1))
          have o7 : ∀ y, y ≠ 45 → y ≠ 47 → y ≠ 48 → y ≠ 49 → y ≠ 50 → μ7 y = μ6 y := fun y a1 a2 a3 a4 a5 => by
            show (wr (wr (wr (wr (wr μ6 47 l (tV c n k)) 48 l (nI z)) 49 l (nI z2)) 50 l (nI z5)) 45 6 (nI (l + 1))) y = _
            rw [wr_off a1, wr_off a5, wr_off a4, wr_off a3, wr_off a2]
          have cl : f_X1_closeLine G 45 (tV c n k) (nI z) (nI z2) μ6 = some μ7 := by
            unfold f_X1_closeLine
            rw [l66, if_neg (show ¬ (16 : Int32) ≤ nI l from nI_ge (b := 16) hl2 (by omega)), chkn hl2 (by omega), ixn (by omega)]
            simp only [show (45 : Nat) + 2 = 47 from rfl, show (45 : Nat) + 3 = 48 from rfl, show (45 : Nat) + 4 = 49 from rfl, show (45 : Nat) + 5 = 50 from rfl]
            have c1 : (wr μ6 47 l (tV c n k)) 45 6 = nI l := by rw [wr_cell (by omega)]; exact l66
            have c2 : (wr (wr μ6 47 l (tV c n k)) 48 l (nI z)) 45 6 = nI l := by rw [wr_cell (by omega)]; exact c1
            have c3 : (wr (wr (wr μ6 47 l (tV c n k)) 48 l (nI z)) 49 l (nI z2)) 45 6 = nI l := by rw [wr_cell (by omega)]; exact c2
            have c4 : (wr (wr (wr μ6 47 l (tV c n k)) 48 l (nI z)) 49 l (nI z2)) 45 7 = nI z5 := by rw [wr_cell (by omega), wr_cell (by omega), wr_cell (by omega)]; exact z67
            have c5 : (wr (wr (wr (wr μ6 47 l (tV c n k)) 48 l (nI z)) 49 l (nI z2)) 50 l (nI z5)) 45 6 = nI l := by rw [wr_cell (by omega)]; exact c3
            rw [c1, chkn hl2 (by omega), ixn (by omega), c2, chkn hl2 (by omega), ixn (by omega), c3, chkn hl2 (by omega), ixn (by omega), c4, c5, nI_1]
          have m7 : μ7 47 l = tV c n k ∧ μ7 48 l = nI z ∧ μ7 49 l = nI z2 ∧ μ7 50 l = nI z5 := by
            refine ⟨?_, ?_, ?_, ?_⟩
            · show (wr (wr (wr (wr (wr μ6 47 l (tV c n k)) 48 l (nI z)) 49 l (nI z2)) 50 l (nI z5)) 45 6 (nI (l + 1))) 47 l = _
              rw [wr_cell (by omega), wr_cell (by omega), wr_cell (by omega), wr_cell (by omega), wr_same]
            · show (wr (wr (wr (wr (wr μ6 47 l (tV c n k)) 48 l (nI z)) 49 l (nI z2)) 50 l (nI z5)) 45 6 (nI (l + 1))) 48 l = _
              rw [wr_cell (by omega), wr_cell (by omega), wr_cell (by omega), wr_same]
            · show (wr (wr (wr (wr (wr μ6 47 l (tV c n k)) 48 l (nI z)) 49 l (nI z2)) 50 l (nI z5)) 45 6 (nI (l + 1))) 49 l = _
              rw [wr_cell (by omega), wr_cell (by omega), wr_same]
            · show (wr (wr (wr (wr (wr μ6 47 l (tV c n k)) 48 l (nI z)) 49 l (nI z2)) 50 l (nI z5)) 45 6 (nI (l + 1))) 50 l = _
              rw [wr_cell (by omega), wr_same]
          have m7o : ∀ x, 47 ≤ x → x ≤ 50 → ∀ i, i < l → μ7 x i = μ6 x i := fun x a b i hi => by
            show (wr (wr (wr (wr (wr μ6 47 l (tV c n k)) 48 l (nI z)) 49 l (nI z2)) 50 l (nI z5)) 45 6 (nI (l + 1))) x i = _
            rcases (by omega : x = 47 ∨ x = 48 ∨ x = 49 ∨ x = 50) with q | q | q | q <;> subst q
            · rw [wr_cell (by omega), wr_cell (by omega), wr_cell (by omega), wr_cell (by omega), wr_slot (by omega)]
            · rw [wr_cell (by omega), wr_cell (by omega), wr_cell (by omega), wr_slot (by omega), wr_cell (by omega)]
            · rw [wr_cell (by omega), wr_cell (by omega), wr_slot (by omega), wr_cell (by omega), wr_cell (by omega)]
            · rw [wr_cell (by omega), wr_slot (by omega), wr_cell (by omega), wr_cell (by omega), wr_cell (by omega)]
          have L7 : LR c n (k5 + 1) z5 μ7 ρ6 := ⟨d3.1, AtC_o d3.2.1 (o7 41 (by omega) (by omega) (by omega) (by omega) (by omega)) (o7 43 (by omega) (by omega) (by omega) (by omega) (by omega)) (o7 44 (by omega) (by omega) (by omega) (by omega) (by omega)), by
            show (wr (wr (wr (wr (wr μ6 47 l (tV c n k)) 48 l (nI z)) 49 l (nI z2)) 50 l (nI z5)) 45 6 (nI (l + 1))) 45 7 = _
            rw [wr_slot (by omega), wr_cell (by omega), wr_cell (by omega), wr_cell (by omega), wr_cell (by omega)]; exact z67, d3.2.2.2.1, d3.2.2.2.2.1, fun i hi => by rw [o7 46 (by omega) (by omega) (by omega) (by omega) (by omega)]; exact d3.2.2.2.2.2 i hi⟩
          have eR := d5 z5
          have ref : ∀ x, 13 ≤ x → x ≤ 16 → ρ6 x = (wr ρ5 16 (32 + l) (nI z5)) x := fun x a b => eR.2.2.1 x (by omega) (by omega) (by omega)
          have cod : ∀ i, i < 800 + z5 → ρ6 17 i = ρ5 17 i ∧ ρ6 18 i = ρ5 18 i := fun i hi => by
            have q := eR.2.2.2.2 i hi
            rw [q.1, q.2, wr_cell (by omega), wr_cell (by omega)]
            exact ⟨rfl, rfl⟩
          have ty : ∀ {a b : Nat} {S S' : List Nat}, Ty ρ5 a b S S' → b ≤ z5 → Ty ρ6 a b S S' := fun {a b S S'} t hb => by
            refine ⟨t.1, ?_⟩
            rw [← t.2]
            exact trn_c _ _ _ (fun j g1 g2 => cod (800 + j) (by have := t.1; omega))
          have LN : LnsR (l + 1) z5 μ7 ρ6 := by
            intro i hi
            by_cases il : i = l
            · subst il
              exact ⟨e, z, z2, z5, x2, e3, by rw [m7.1, t1], by rw [ref 13 (by omega) (by omega), wr_cell (by omega)]; exact r13, m7.2.1, by rw [ref 14 (by omega) (by omega), wr_cell (by omega)]; exact r14, m7.2.2.1, by rw [ref 15 (by omega) (by omega), wr_cell (by omega)]; exact r15, m7.2.2.2, by rw [ref 16 (by omega) (by omega), wr_same], z25, Nat.le_refl _, ty ty1 z25, x21, fun q => ty (ty2 q) (Nat.le_refl _)⟩
            · refine LnsR_o L5 (Nat.le_refl _) (fun x a b i hi => ?_) (fun x a b i hi => ?_) cod i (by omega)
              · rw [m7o x a b i hi, (d5 0).1.1 x (by omega) (by omega) (by omega)]
              · rw [ref x a b]
                by_cases x16 : x = 16
                · rw [x16, wr_slot (by omega)]
                · rw [wr_cell x16]
          refine Or.inl ⟨k5 + 1, z5, μ7, ρ6, ?_, ?_, L7, ?_, by omega, by rw [eR.2.2.2.1 30 (by omega) (by omega) (by omega) (by omega), wr_cell (by omega)]; exact o30, LN, by omega, by omega, TC_tr T5 (TC_tr (TC_f (d5 0).1) ⟨fun x a b _ _ => o7 x (by omega) (by omega) (by omega) (by omega) (by omega), fun j _ _ _ _ => by rw [o7 41 (by omega) (by omega) (by omega) (by omega) (by omega)], by rw [o7 52 (by omega) (by omega) (by omega) (by omega) (by omega)], by rw [o7 52 (by omega) (by omega) (by omega) (by omega) (by omega)]⟩), TR_tr R6 (TR_c (cF_e (d5 0)))⟩
          · rw [f_X5_lawLine_j93, d1, bndE_s, if_neg (by decide), cl, bndV_s]
          · rw [s59, if_pos (show tV c n k5 = nI 20059 from e1), if_neg (by decide), d2, bndV_s]
          · show (wr (wr (wr (wr (wr μ6 47 l (tV c n k)) 48 l (nI z)) 49 l (nI z2)) 50 l (nI z5)) 45 6 (nI (l + 1))) 45 6 = _
            exact wr_same
        · refine Or.inr ⟨μ6, ρ6, ?_, ?_, d3, d4, TC_tr T5 (TC_f (d5 0).1), TR_tr R6 (TR_c (cF_e (d5 0)))⟩
          · rw [f_X5_lawLine_j93, d1, bndE_s, if_pos rfl]
          · rw [s59, if_neg (show ¬ tV c n k5 = nI 20059 from e1), if_pos rfl, d2, bndE_s]
      rw [cl1, rf1]
      have TC1 : TC μ μ1 := TC_f (b4 0).1
      have h61 : μ1 45 6 = nI l := by rw [(b4 0).1.2.2 6 (by omega)]; exact h6
      have o1 : (wr ρ1 14 (32 + l) (nI z)) 0 30 = nI 0 := by rw [wr_cell (by omega), (b4 0).2.2.2.1 30 (by omega) (by omega) (by omega) (by omega), wr_cell (by omega)]; exact h30
      rcases expr_ok (P := 0) (S0 := []) hG hn hc Hb (by omega) (by decide) with ⟨k2, z2, μ2, ρ2, x2, a1, a2, a3, a4, a5, a6, a7, a8⟩ | ⟨μ2, ρ2, a1, a2, a3⟩
      · have kK2 := a3.1
        have zz2 : z ≤ z2 := a7.1
        have H2 := LR_w (ρ1 := wr ρ2 15 (32 + l) (nI z2)) a3 (fun y hy => wr_off (by omega))
        have z229 : ρ2 0 29 = nI z2 := a3.2.2.2.2.1
        have C2 := cF_e a4
        have T2 : TC μ μ2 := TC_tr TC1 (TC_f a4.1)
        have R2 : TR ρ (wr ρ2 15 (32 + l) (nI z2)) := TR_tr (TR_tr TR1 (TR_c C2)) (TR_w (by omega) (by omega) (by omega))
        have rows : ∀ x, 13 ≤ x → x ≤ 16 → ρ2 x = (wr ρ1 14 (32 + l) (nI z)) x := fun x p q => a4.2.2.1 x (by omega) (by omega) (by omega)
        have LN2 : LnsR l z2 μ2 (wr ρ2 15 (32 + l) (nI z2)) := LnsR_o (LnsR_c LN1 zz2 C2) (Nat.le_refl _) (fun _ _ _ _ _ => rfl) (fun x p q i hi => by
          by_cases x15 : x = 15
          · rw [x15, wr_slot (by omega)]
          · rw [wr_cell x15]) (fun i _ => ⟨by rw [wr_cell (by omega)], by rw [wr_cell (by omega)]⟩)
        have ty2 : Ty (wr ρ2 15 (32 + l) (nI z2)) z z2 [] [x2] := by
          refine ⟨a7.1, ?_⟩
          rw [← a7.2]
          exact trn_c _ _ _ (fun j _ _ => ⟨by show (wr ρ2 15 (32 + l) (nI z2)) 17 _ = _; rw [wr_cell (by omega)], by show (wr ρ2 15 (32 + l) (nI z2)) 18 _ = _; rw [wr_cell (by omega)]⟩)
        have p13 : (wr ρ2 15 (32 + l) (nI z2)) 13 (32 + l) = nI e := by rw [wr_cell (by omega), rows 13 (by omega) (by omega)]; exact row1.1
        have p14 : (wr ρ2 15 (32 + l) (nI z2)) 14 (32 + l) = nI z := by rw [wr_cell (by omega), rows 14 (by omega) (by omega)]; exact row1.2
        have o2 : (wr ρ2 15 (32 + l) (nI z2)) 0 30 = nI 0 := by rw [wr_cell (by omega), a4.2.2.2.1 30 (by omega) (by omega) (by omega) (by omega)]; exact o1
        have h62 : μ2 45 6 = nI l := by rw [a4.1.2.2 6 (by omega)]; exact h61
        have w3 : f_X12_isWord (wr ρ2 15 (32 + l) (nI z2)) 3 = if tV c n k2 = nI 10003 then 1 else 0 := isW_r (w := 3) H2 (by omega)
        rw [a1, bndV_s, if_pos (flt_c a3), tok_c a3, a3.2.2.1, a2, bndE_s, if_neg (show ¬ (0 : Int32) = -1 by decide), z229, w3]
        by_cases tw : tV c n k2 = nI 10003
        · have kk2 := LR_end hc H2 (by rw [tw]; decide)
          obtain ⟨μ3, ρ3, d1, d2, d3, d4⟩ := L_adv hG hn hc H2 kk2
          have H3 : CQ c n (k2 + 1) z2 0 [] μ3 (wr ρ3 0 32 0) := ⟨LR_o d3 (fun y a b => wr_off a) (fun j a b => wr_slot b), ⟨wr_same, fun i x hx => by cases hx⟩, by rw [wr_slot (by omega), (d4 0).2.2.2.1 30 (by omega) (by omega) (by omega) (by omega)]; exact o2⟩
          have c03 : cF z2 μ2 (wr ρ2 15 (32 + l) (nI z2)) μ3 (wr ρ3 0 32 0) := cF_tr (cF_e (d4 z2)) (cF_o (fun y a b => wr_off a) (fun j a b => wr_slot b)) (Nat.le_refl _)
          rw [if_pos (show tV c n k2 = 10003 from tw), if_pos tw, if_neg (show ¬ (1 : Int32) = 0 by decide), d1, bndV_s, d2, bndV_s]
          show (∃ k' z' μ' ρ', bndV (f_cond G 10 (nI 0) μ3) _ = some μ' ∧ bndE (f_X12_readAny_L9 G G (nI 0) 1 (wr ρ3 0 32 0)) _ = _ ∧ _) ∨ ∃ μ' ρ', bndV (f_cond G 10 (nI 0) μ3) _ = some μ' ∧ bndE (f_X12_readAny_L9 G G (nI 0) 1 (wr ρ3 0 32 0)) _ = _ ∧ _
          rcases fcond_ok hG hn hc 10 0 (by omega) (by omega) (k2 + 1) z2 [] μ3 (wr ρ3 0 32 0) 0 G [] H3 (by simp; omega) (by decide) (fun x hx => by cases hx) (by decide) (by omega) (by omega) with ⟨k4, z4, μ4, ρ4, g4, f1, f2, f3, f4, f5, f6, f7, f8⟩ | ⟨μ4, ρ4, f1, f2, f3⟩
          · have f6 : z4 ≤ k4 := f6
            have zz4 : z2 ≤ z4 := f7.1
            have C4 := cF_tr c03 f4 (Nat.le_refl _)
            rw [f1, bndV_s, f2]
            unfold EL
            rw [if_pos (show nI 0 = 0 from rfl), bndE_s, if_neg (by decide)]
            refine tail k4 z4 z2 x2 μ4 ρ4 f3.1 (by rw [C4.1.2.2 6 (by omega)]; exact h62) f3.2.2 (LnsR_c LN2 zz4 C4) f6 (by omega) (TC_tr T2 (TC_f C4.1)) (TR_tr R2 (TR_c C4)) (by rw [C4.2.2.1 13 (by omega) (by omega) (by omega) (by omega)]; exact p13) (by rw [C4.2.2.1 14 (by omega) (by omega) (by omega) (by omega)]; exact p14) (by rw [C4.2.2.1 15 (by omega) (by omega) (by omega) (by omega), wr_same]) zz4 (Ty_d ty2 C4 (Nat.le_refl _)) a8 (fun _ => f7)
          · rw [f1, bndV_s, f2, bndE_s, if_pos rfl]
            exact Or.inr ⟨μ4, ρ4, j93_k f3.1, rfl, f3.1, f3.2.1, TC_tr T2 (TC_tr (TC_f c03.1) (TC_f f3.2.2.1)), TR_tr R2 (TR_tr (TR_c c03) (TR_l f3))⟩
        · rw [if_neg (show ¬ tV c n k2 = 10003 from tw), if_neg tw, if_pos rfl]
          exact tail k2 z2 z2 x2 μ2 _ H2 h62 o2 LN2 a6 (by omega) T2 R2 p13 p14 wr_same (Nat.le_refl _) ty2 a8 (fun q => absurd q (by omega))
      · refine Or.inr ⟨μ2, ρ2, ?_, ?_, a3.1, a3.2.1, TC_tr TC1 (TC_f a3.2.2.1), TR_tr TR1 (TR_l (FlC_f a3))⟩
        · rw [a1, bndV_s, if_neg a3.1.1, j93_k a3.1]
        · rw [a2, bndE_s, if_pos rfl]
  · have lw : f_X12_isLineWord ρ = 0 := by
      unfold f_X12_isLineWord
      by_cases q : ρ 0 18 = 2
      · rw [if_pos q, ni q, if_pos rfl]
      · rw [if_neg q]
    obtain ⟨μ1, ρ1, b1, b2, b3, b4, b5⟩ := L_fail (G := G) (v := 1) hn h (by omega) (by decide)
    have nE : ¬ ρ 0 18 = 0 := fun q => by
      have := (tV_end hc h.1).mp ((tk_e T).mp q)
      omega
    refine Or.inr ⟨μ1, ρ1, ?_, ?_, b3, b4, TC_f (b5 0).1, TR_c (cF_e (b5 0))⟩
    · unfold f_X5_lawLine
      rw [tc, if_neg n0, if_neg n1, if_neg n2, b1, bndV_s, f_X5_lawLine_j31, f_X5_beginLine]
      have : ∀ p, (if μ1 41 10 = tV c n k then (if p < (16 : Int32) then bndE (f_X5_expect G (tV c n k) μ1) (fun w9 m8 => bkk w9 (some (w9, m8))) else bndV (f_X5_fail G 3 μ1) (fun m12 => bndE (f_X5_expect G (tV c n k) m12) (fun w15 m14 => bkk w15 (some (w15, m14))))) else bndE (f_X5_expect G (tV c n k) μ1) (fun w4 m3 => bkk w4 (some (w4, m3)))) = some (0, μ1) := fun p => by
        rw [fail_k b3, bndV_s, expect_k b3, bndE_s, bkk0]
        split
        · split <;> rfl
        · rfl
      rw [this, bndE_s, if_pos rfl]
    · rw [f_X12_readLaw_L2, lw, if_pos rfl, f_X12_readLaw_j128, if_neg nE, b2, bndE_s]
end
