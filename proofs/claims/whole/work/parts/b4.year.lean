section
variable {G n : Nat} {c : Nat → Nat}
def yF (G : Nat) (w35 : Int32) (m : Mem) : Option Mem := bndV (f_X2_put G 52 96 5 w35 m) (fun m37 => bndE (f_X5_expect G 20059 m37) (fun _ m39 => some m39))
def yE (G : Nat) (w25 w28 : Int32) (m : Mem) : Option Mem := bndE (f_X5_numberUnlike G (m 41 11) w25 w28 m) (fun w35 m34 => yF G w35 m34)
def yD (G : Nat) (w25 w28 : Int32) (m : Mem) : Option Mem := bndV (f_X2_put G 52 96 3 w25 m) (fun m30 => bndV (f_X2_put G 52 96 4 w28 m30) (fun m32 => yE G w25 w28 m32))
def yC (G : Nat) (w25 : Int32) (m : Mem) : Option Mem := bndE (f_X5_numberUnlike G (m 41 11) w25 (-1) m) (fun w28 m27 => yD G w25 w28 m27)
def yB (G : Nat) (m : Mem) : Option Mem := bndE (f_X5_numberBelow G (m 41 11) m) (fun w25 m24 => yC G w25 m24)
def yA (G : Nat) (v1 v2 w15 : Int32) (m : Mem) : Option Mem := bndE (f_X2_add G 52 96 v1 v2 w15 0 m) (fun _ m17 => if v2 = 10020 then yB G m17 else bndE (f_X5_expect G 20059 m17) (fun _ m21 => some m21))
theorem j89_y {v1 v2 s0 : Int32} {μ : Mem} : f_X5_yearLine_j89 G v1 v2 s0 μ = bndE (f_X5_numberBelow G s0 μ) (fun w15 m14 => yA G v1 v2 w15 m14) := rfl
def dX (μ μ' : Mem) : Prop := ∀ x, x ≠ 52 → x ≠ 53 → μ' x = μ x
theorem SK_d {μ μ' : Mem} (h : SK μ) (d : dX μ μ') : SK μ' := by
  unfold SK at h ⊢
  rw [d 41 (by omega) (by omega), d 45 (by omega) (by omega)]
  exact h
theorem putd {l j : Nat} {v : Int32} {μ : Mem} (h : LnR μ 52 16 6 (l + 1)) (hj : j < 6) : f_X2_put G 52 96 (nI j) v μ = some (wr μ 53 (l * 6 + j) v) ∧ LnR (wr μ 53 (l * 6 + j) v) 52 16 6 (l + 1) :=
  ⟨putn h (by omega) (by omega) (by omega) (by omega) hj, LnR_o h (wr_off (by omega))⟩
theorem yF_k {l : Nat} {w35 : Int32} {μ : Mem} (h : SK μ) (hL : LnR μ 52 16 6 (l + 1)) : ∃ μ', yF G w35 μ = some μ' ∧ dX μ μ' ∧ LnR μ' 52 16 6 (l + 1) := by
  obtain ⟨p1, p2⟩ := putd (G := G) (j := 5) (v := w35) hL (by omega)
  have p1 : f_X2_put G 52 96 5 w35 μ = some (wr μ 53 (l * 6 + 5) w35) := p1
  have d : dX μ (wr μ 53 (l * 6 + 5) w35) := fun x a b => wr_off b
  exact ⟨_, by rw [yF, p1, bndV_s, expect_k (SK_d h d), bndE_s], d, p2⟩
theorem yE_k {l : Nat} {a b : Int32} {μ : Mem} (h : SK μ) (hL : LnR μ 52 16 6 (l + 1)) : ∃ μ', yE G a b μ = some μ' ∧ dX μ μ' ∧ LnR μ' 52 16 6 (l + 1) := by
  rw [yE, numU_k h, bndE_s]
  exact yF_k h hL
theorem yD_k {l : Nat} {a b : Int32} {μ : Mem} (h : SK μ) (hL : LnR μ 52 16 6 (l + 1)) : ∃ μ', yD G a b μ = some μ' ∧ dX μ μ' ∧ LnR μ' 52 16 6 (l + 1) := by
  obtain ⟨p1, p2⟩ := putd (G := G) (j := 3) (v := a) hL (by omega)
  have p1 : f_X2_put G 52 96 3 a μ = some (wr μ 53 (l * 6 + 3) a) := p1
  obtain ⟨q1, q2⟩ := putd (G := G) (j := 4) (v := b) p2 (by omega)
  have q1 : f_X2_put G 52 96 4 b (wr μ 53 (l * 6 + 3) a) = some (wr (wr μ 53 (l * 6 + 3) a) 53 (l * 6 + 4) b) := q1
  have d : dX μ (wr (wr μ 53 (l * 6 + 3) a) 53 (l * 6 + 4) b) := fun x _ y => by rw [wr_off y, wr_off y]
  obtain ⟨μ', r1, r2, r3⟩ := yE_k (G := G) (a := a) (b := b) (SK_d h d) q2
  exact ⟨μ', by rw [yD, p1, bndV_s, q1, bndV_s, r1], fun x y z => by rw [r2 x y z, d x y z], r3⟩
theorem yC_k {l : Nat} {a : Int32} {μ : Mem} (h : SK μ) (hL : LnR μ 52 16 6 (l + 1)) : ∃ μ', yC G a μ = some μ' ∧ dX μ μ' ∧ LnR μ' 52 16 6 (l + 1) := by
  rw [yC, numU_k h, bndE_s]
  exact yD_k h hL
theorem yA_k {l : Nat} {a b w : Int32} {μ : Mem} (hG : 500 ≤ G) (h : SK μ) (hL : LnR μ 52 16 6 l) (hl : l < 16) : ∃ μ', yA G a b w μ = some μ' ∧ dX μ μ' ∧ LnR μ' 52 16 6 (l + 1) := by
  obtain ⟨μ5, a1, a2, a3, a4, a5⟩ := addn (G := G) (N := 96) (p := a) (q := b) (r := w) (s := 0) hL (by omega) (by omega) (by omega) (by omega) (by omega) hl
  have d : dX μ μ5 := fun x q r => a2 x q r
  have s := SK_d h d
  rw [yA, a1, bndE_s]
  split
  · rw [yB, numB_k s, bndE_s]
    obtain ⟨μ', r1, r2, r3⟩ := yC_k (G := G) (a := 0) s a3
    exact ⟨μ', r1, fun x y z => by rw [r2 x y z, d x y z], r3⟩
  · exact ⟨μ5, by rw [expect_k s, bndE_s], d, a3⟩
theorem j89_k {l : Nat} {a b w : Int32} {μ : Mem} (hG : 500 ≤ G) (h : SK μ) (hL : LnR μ 52 16 6 l) (hl : l < 16) : ∃ μ', f_X5_yearLine_j89 G a b w μ = some μ' ∧ dX μ μ' ∧ LnR μ' 52 16 6 (l + 1) := by
  rw [j89_y, numB_k h, bndE_s]
  exact yA_k hG h hL hl
theorem j64_k {l : Nat} {a b : Int32} {μ : Mem} (hG : 500 ≤ G) (h : SK μ) (hL : LnR μ 52 16 6 l) (hl : l < 16) : ∃ μ', f_X5_yearLine_j64 G a b μ = some μ' ∧ dX μ μ' ∧ LnR μ' 52 16 6 (l + 1) := by
  rw [f_X5_yearLine_j64, expect_k h, bndE_s]
  split
  · exact j89_k hG h hL hl
  · exact j89_k hG h hL hl
theorem TR_21 {i : Nat} {v : Int32} {ρ : Mem} (hi : 96 ≤ i) : TR ρ (wr ρ 21 i v) :=
  ⟨fun x _ b => wr_off (by omega), fun j _ _ => wr_cell (by omega), fun x a b j _ => wr_cell (by omega), fun j _ => ⟨wr_cell (by omega), wr_cell (by omega)⟩, fun j hj => wr_cell (by omega), fun j hj => wr_slot (by omega), fun j hj => wr_cell (by omega)⟩
theorem tk_y {t k v : Int32} (h : TkR t k v) : (∃ e, e < 3 ∧ t = nI (10020 + e) ∧ k = 2 ∧ v = nI (20 + e) ∧ f_X12_isIn v 20 22 = 1) ∨ (t ≠ 10020 ∧ t ≠ 10021 ∧ t ≠ 10022 ∧ (k = 2 → f_X12_isIn v 20 22 = 0)) := by
  have ne : ∀ x y : Nat, x < 2 ^ 31 → y < 2 ^ 31 → x ≠ y → nI x ≠ nI y := fun x y hx hy e q => e ((nI_eq hx hy).mp q)
  rcases h with ⟨x, hx, rfl, rfl, rfl⟩ | ⟨x, hx, rfl, rfl, rfl⟩ | ⟨x, hx, _, rfl, rfl, rfl⟩ | ⟨rfl, rfl⟩ | ⟨rfl, rfl⟩
  · exact Or.inr ⟨ne _ 10020 (by omega) (by omega) (by omega), ne _ 10021 (by omega) (by omega) (by omega), ne _ 10022 (by omega) (by omega) (by omega), fun q => absurd q (by decide)⟩
  · by_cases e : 20 ≤ x ∧ x < 23
    · refine Or.inl ⟨x - 20, by omega, by rw [show 10020 + (x - 20) = 10000 + x by omega], rfl, by rw [show 20 + (x - 20) = x by omega], ?_⟩
      rw [isI, if_pos ⟨nI_le (a := 20) (by omega) (by omega), nI_le (b := 22) (by omega) (by omega)⟩]
    · refine Or.inr ⟨ne _ 10020 (by omega) (by omega) (by omega), ne _ 10021 (by omega) (by omega) (by omega), ne _ 10022 (by omega) (by omega) (by omega), fun _ => ?_⟩
      rw [isI, if_neg (fun q => e (by
        have q1 := (nI_leI (a := 20) (by omega) (by omega)).mp q.1
        have q2 := (nI_leI (b := 22) (by omega) (by omega)).mp q.2
        omega))]
  · exact Or.inr ⟨ne _ 10020 (by omega) (by omega) (by omega), ne _ 10021 (by omega) (by omega) (by omega), ne _ 10022 (by omega) (by omega) (by omega), fun q => absurd q (by decide)⟩
  · exact Or.inr ⟨by decide, by decide, by decide, fun q => absurd q (by decide)⟩
  · exact Or.inr ⟨by decide, by decide, by decide, fun q => absurd q (by decide)⟩
def DY (W M l : Nat) (μ ρ : Mem) : Prop := LnR μ 52 16 6 l ∧ μ 41 11 = nI W ∧ μ 41 12 = nI M ∧ ρ 0 6 = nI W ∧ ρ 0 7 = nI M ∧ ∀ i, i < l → DeR (μ 53) (ρ 21) W M (6 * i) (96 + 6 * i)
/-- the sign at a line's end -/
theorem mark_ok {k : Nat} {μ ρ : Mem} (hG : 500 ≤ G) (hn : n ≤ 400) (hc : ∀ j, j < n → c j < 256) (h : LR c n k 0 μ ρ) :
    (∃ μ' ρ', f_X5_expect G 20059 μ = some (1, μ') ∧ f_X12_readMark G 59 ρ = some (0, ρ') ∧ LR c n (k + 1) 0 μ' ρ' ∧ ∀ z0, eF z0 μ ρ μ' ρ') ∨
      ∃ μ' ρ', f_X5_expect G 20059 μ = some (0, μ') ∧ f_X12_readMark G 59 ρ = some (-1, ρ') ∧ SK μ' ∧ FtR μ' ρ' ∧ ∀ z0, eF z0 μ ρ μ' ρ' := by
  have s59 : f_X12_isSign ρ 59 = if tV c n k = nI 20059 then 1 else 0 := isS_r (s := 59) h (by omega)
  unfold f_X12_readMark
  rw [s59]
  rcases expect_ok (v := 20059) hG hn hc h (by omega) with ⟨e4, e5⟩ | ⟨e4, μ6, ρ6, u1, u2, u3, u4, u5⟩
  · obtain ⟨μ6, ρ6, u1, _, u2, u3, u4, u5⟩ := e5 (by decide)
    exact Or.inl ⟨μ6, ρ6, u1, by rw [if_pos (show tV c n k = nI 20059 from e4), if_neg (by decide), u2, bndV_s], u3, u5⟩
  · exact Or.inr ⟨μ6, ρ6, u1, by rw [if_neg (show ¬ tV c n k = nI 20059 from e4), if_pos rfl, u2, bndE_s], u3, u4, u5⟩
end
