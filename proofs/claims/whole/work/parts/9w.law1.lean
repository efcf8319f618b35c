section
/-! reading a text: where the two are -/
def tsL (c : Nat → Nat) (n : Nat) : List (Int32 × Nat) := spl c n n 0
def tV (c : Nat → Nat) (n k : Nat) : Int32 := ((tsL c n).getD k (30000, n)).1
def tP_ (c : Nat → Nat) (n k : Nat) : Nat := ((tsL c n).getD k (30000, n)).2
def tK (c : Nat → Nat) (n : Nat) : Nat := (tsL c n).length - 1
theorem tkV_ne {c : Nat → Nat} {n i : Nat} (h : c i < 256) (hn : i < n) (hc : ∀ j, j < n → c j < 256) : tkV c n i ≠ 30000 := by
  have ne : ∀ x, x < 2 ^ 31 → x ≠ 30000 → nI x ≠ 30000 := fun x hx h q => h ((nI_eq (b := 30000) hx (by omega)).mp q)
  have rb := rE_b (p := fun j => cNum (c j)) (n := n) (n - (i + 1)) (i + 1) (by omega)
  obtain ⟨te1, te2⟩ := tkE_b (c := c) (n := n) (i := i) hn
  unfold tkV
  by_cases ql : cLet (c i) = true
  · rw [if_pos ql]
    cases hk : kfd (kwP (fun k => nI (c k)) i (tkE c n i - i)) 25 0 with
    | none => show (30001 : Int32) ≠ 30000; decide
    | some w =>
      have := kfd_lt 25 0 hk
      exact ne _ (by omega) (by omega)
  · rw [if_neg ql]
    by_cases qn : cNum (c i) = true
    · have ee : tkE c n i = rE (fun j => cNum (c j)) n (n - (i + 1)) (i + 1) := by unfold tkE; rw [if_neg ql, if_pos qn]
      rw [if_pos qn]
      split
      · rename_i le
        have nl := nvF_lt (c := c) (i := i) (tkE c n i - i) (fun t h1 h2 => by
          by_cases z : t = i
          · rw [z]; exact qn
          · exact rb.2.2 t (by omega) (by rw [← ee]; omega)) (fun t h1 h2 => hc t (by omega))
        have p : (10 : Nat) ^ (tkE c n i - i) ≤ 10 ^ 4 := Nat.pow_le_pow_right (by decide) le
        exact ne _ (by omega) (by omega)
      · decide
    · rw [if_neg qn]
      split
      · exact ne _ (by omega) (by omega)
      · decide
theorem spl_end {c : Nat → Nat} {n : Nat} (hc : ∀ j, j < n → c j < 256) : ∀ f i, n - i ≤ f → ∃ m, (spl c n f i).length = m + 1 ∧ (∀ k x, (spl c n f i)[k]? = some x → (x.1 = 30000 ↔ k = m)) := by
  have one : ∃ m, ([((30000 : Int32), n)]).length = m + 1 ∧ (∀ k x, ([((30000 : Int32), n)])[k]? = some x → (x.1 = 30000 ↔ k = m)) := by
    refine ⟨0, rfl, fun k x hx => ?_⟩
    cases k with
    | zero => have hx : ((30000 : Int32), n) = x := Option.some.inj hx; rw [← hx]; exact ⟨fun _ => rfl, fun _ => rfl⟩
    | succ k => cases hx
  intro f
  induction f with
  | zero => intro i _; exact one
  | succ f ih =>
    intro i h
    rw [spl]
    by_cases e : n ≤ i
    · rw [if_pos e]; exact one
    · rw [if_neg e]
      by_cases b : cBlk (c i) = true
      · rw [if_pos b]; exact ih (i + 1) (by omega)
      · rw [if_neg b]
        obtain ⟨te1, te2⟩ := tkE_b (c := c) (n := n) (i := i) (by omega)
        obtain ⟨m, m1, m2⟩ := ih (tkE c n i) (by omega)
        refine ⟨m + 1, by rw [List.length_cons, m1], fun k x hx => ?_⟩
        cases k with
        | zero =>
          have hx : (tkV c n i, i) = x := Option.some.inj hx
          rw [← hx]
          exact ⟨fun q => absurd q (tkV_ne (hc i (by omega)) (by omega) hc), fun q => absurd q (by omega)⟩
        | succ k =>
          have := m2 k x hx
          exact ⟨fun q => by rw [this.mp q], fun q => this.mpr (by omega)⟩
theorem tK_len {c : Nat → Nat} {n : Nat} (hc : ∀ j, j < n → c j < 256) : (tsL c n).length = tK c n + 1 := by
  obtain ⟨m, m1, _⟩ := spl_end hc n 0 (by omega)
  unfold tK tsL
  omega
theorem tV_end {c : Nat → Nat} {n k : Nat} (hc : ∀ j, j < n → c j < 256) (hk : k ≤ tK c n) : tV c n k = 30000 ↔ k = tK c n := by
  obtain ⟨m, m1, m2⟩ := spl_end hc n 0 (by omega)
  have l := tK_len hc
  have m1 : (tsL c n).length = m + 1 := m1
  have hg : (tsL c n)[k]? = some ((tsL c n).getD k (30000, n)) := by
    rw [List.getD_eq_getElem?_getD, List.getElem?_eq_getElem (by omega)]
    rfl
  have := m2 k _ hg
  rw [show m = tK c n by omega] at this
  exact this
theorem drop_c {c : Nat → Nat} {n k : Nat} (hc : ∀ j, j < n → c j < 256) (hk : k ≤ tK c n) : (tsL c n).drop k = (tV c n k, tP_ c n k) :: (tsL c n).drop (k + 1) := by
  have l := tK_len hc
  rw [List.drop_eq_getElem_cons (by omega)]
  congr 1
  unfold tV tP_
  rw [List.getD_eq_getElem?_getD, List.getElem?_eq_getElem (by omega)]
  rfl
def AtR (c : Nat → Nat) (n k : Nat) (ρ : Mem) : Prop := TpA c n ρ ∧ ρ 0 17 = nI (tP_ c n k) ∧ TkR (tV c n k) (ρ 0 18) (ρ 0 19) ∧ (k < tK c n → ∃ f ε, (tsL c n).drop (k + 1) = spl c n f ε ∧ ρ 0 16 = nI ε ∧ n - ε ≤ f ∧ ε ≤ n)
theorem AtR_o {c : Nat → Nat} {n k : Nat} {ρ ρ' : Mem} (h : AtR c n k ρ) (h0 : ∀ j, 15 ≤ j → j ≤ 19 → ρ' 0 j = ρ 0 j) (h2 : ρ' 10 = ρ 10) (h3 : ρ' 11 = ρ 11) : AtR c n k ρ' := by
  obtain ⟨a, b, d, e⟩ := h
  refine ⟨TpA_o a (h0 15 (by omega) (by omega)) h2 h3, by rw [h0 17 (by omega) (by omega)]; exact b, by rw [h0 18 (by omega) (by omega), h0 19 (by omega) (by omega)]; exact d, ?_⟩
  rw [h0 16 (by omega) (by omega)]
  exact e
def fR0 (ρ ρ' : Mem) : Prop := (∀ x, x ≠ 0 → ρ' x = ρ x) ∧ ∀ j, ¬ (16 ≤ j ∧ j ≤ 19) → ρ' 0 j = ρ 0 j
theorem reads_ok {G n k : Nat} {c : Nat → Nat} {ρ : Mem} (hG : 500 ≤ G) (hn : n ≤ 400) (hc : ∀ j, j < n → c j < 256) (hk : k < tK c n) (h : AtR c n k ρ) : ∃ ρ', f_X12_reads G ρ = some ρ' ∧ AtR c n (k + 1) ρ' ∧ fR0 ρ ρ' := by
  obtain ⟨a, b, d, e⟩ := h
  obtain ⟨f, ε, e1, e2, e3, e4⟩ := e hk
  obtain ⟨ρ', τ, π, rest, r1, r2, r3, r4, r5, r6, r7⟩ := reads_r (G := G) (c := c) hG hn f ε G ρ e3 e4 (by omega) e2 a
  have dc := drop_c hc (show k + 1 ≤ tK c n by omega)
  rw [e1, r2] at dc
  obtain ⟨d1, d2⟩ := List.cons.inj dc
  obtain ⟨d3, d4⟩ := Prod.mk.inj d1
  refine ⟨ρ', r1, ⟨TpA_o a (r6 15 (by omega)) (r5 10 (by omega)) (r5 11 (by omega)), by rw [r3, d4], by rw [← d3]; exact r4, fun hk2 => ?_⟩, r5, r6⟩
  obtain ⟨f', ε', q1, q2, q3, q4⟩ := r7 (fun q => by
    rw [d3, tV_end hc (by omega)] at q
    omega)
  exact ⟨f', ε', by rw [← d2, q1], q2, q3, q4⟩
/-- the first token -/
theorem reads_0 {G n : Nat} {c : Nat → Nat} {ρ : Mem} (hG : 500 ≤ G) (hn : n ≤ 400) (hc : ∀ j, j < n → c j < 256) (h : TpA c n ρ) (h16 : ρ 0 16 = nI 0) : ∃ ρ', f_X12_reads G ρ = some ρ' ∧ AtR c n 0 ρ' ∧ fR0 ρ ρ' := by
  obtain ⟨ρ', τ, π, rest, r1, r2, r3, r4, r5, r6, r7⟩ := reads_r (G := G) (c := c) hG hn n 0 G ρ (by omega) (by omega) (by omega) h16 h
  have dc := drop_c hc (show 0 ≤ tK c n by omega)
  rw [List.drop_zero] at dc
  rw [show spl c n n 0 = tsL c n from rfl, dc] at r2
  obtain ⟨d1, d2⟩ := List.cons.inj r2
  obtain ⟨d3, d4⟩ := Prod.mk.inj d1
  refine ⟨ρ', r1, ⟨TpA_o h (r6 15 (by omega)) (r5 10 (by omega)) (r5 11 (by omega)), by rw [r3, d4], by rw [d3]; exact r4, fun hk2 => ?_⟩, r5, r6⟩
  obtain ⟨f', ε', q1, q2, q3, q4⟩ := r7 (fun q => by
    rw [← d3, tV_end hc (by omega)] at q
    omega)
  exact ⟨f', ε', by rw [d2, q1], q2, q3, q4⟩
/-! the class's -/
def AtC (c : Nat → Nat) (n k : Nat) (μ : Mem) : Prop := μ 41 8 = nI (tK c n + 1) ∧ (∀ j, j ≤ tK c n → μ 43 j = tV c n j ∧ μ 44 j = nI (tP_ c n j)) ∧ μ 41 9 = nI k ∧ μ 41 10 = tV c n k ∧ μ 41 6 = 0 ∧ μ 41 7 = -1
theorem AtC_o {c : Nat → Nat} {n k : Nat} {μ μ' : Mem} (h : AtC c n k μ) (h0 : μ' 41 = μ 41) (h2 : μ' 43 = μ 43) (h3 : μ' 44 = μ 44) : AtC c n k μ' := by
  unfold AtC at h ⊢
  rw [h0, h2, h3]
  exact h
/-- after a fault -/
def SK (μ : Mem) : Prop := μ 41 6 ≠ 0 ∧ (∃ a, a ≤ 400 ∧ μ 41 9 = nI a) ∧ ∃ z, z ≤ 400 ∧ μ 45 7 = nI z
/-- what reading the law leaves -/
def fC (μ μ' : Mem) : Prop := (∀ x, x ≠ 41 → x ≠ 45 → x ≠ 46 → μ' x = μ x) ∧ (∀ j, j ≠ 6 → j ≠ 7 → j ≠ 9 → j ≠ 10 → μ' 41 j = μ 41 j) ∧ ∀ j, j ≠ 7 → μ' 45 j = μ 45 j
theorem fC_rfl {μ : Mem} : fC μ μ := ⟨fun _ _ _ _ => rfl, fun _ _ _ _ _ => rfl, fun _ _ => rfl⟩
theorem fC_tr {μ μ1 μ2 : Mem} (h : fC μ μ1) (h' : fC μ1 μ2) : fC μ μ2 := ⟨fun x a b d => by rw [h'.1 x a b d, h.1 x a b d], fun j a b d e => by rw [h'.2.1 j a b d e, h.2.1 j a b d e], fun j a => by rw [h'.2.2 j a, h.2.2 j a]⟩
/-- a step after a fault -/
def SkR (μ μ' : Mem) : Prop := SK μ' ∧ μ' 41 6 = μ 41 6 ∧ μ' 41 7 = μ 41 7 ∧ fC μ μ'
theorem SkR_rfl {μ : Mem} (h : SK μ) : SkR μ μ := ⟨h, rfl, rfl, fC_rfl⟩
theorem SkR_tr {μ μ1 μ2 : Mem} (h : SkR μ μ1) (h' : SkR μ1 μ2) : SkR μ μ2 := ⟨h'.1, by rw [h'.2.1, h.2.1], by rw [h'.2.2.1, h.2.2.1], fC_tr h.2.2.2 h'.2.2.2⟩
theorem adv_k {G : Nat} {μ : Mem} (h : SK μ) : ∃ μ', f_X5_advance G μ = some μ' ∧ SkR μ μ' := by
  obtain ⟨h1, ⟨a, a1, a2⟩, z, z1, z2⟩ := id h
  unfold f_X5_advance
  rw [a2]
  by_cases q : μ 41 8 ≤ nI a + 1
  · rw [if_pos q]; exact ⟨μ, rfl, SkR_rfl h⟩
  · rw [if_neg q]
    by_cases q4 : a = 400
    · rw [if_pos (show (400 : Int32) ≤ nI a by rw [q4]; exact Int32.le_refl _)]
      exact ⟨μ, rfl, SkR_rfl h⟩
    · rw [if_neg (show ¬ (400 : Int32) ≤ nI a from nI_ge (b := 400) (by omega) (by omega)), nI_1]
      show ∃ μ', chk ((wr μ 41 9 (nI (a + 1))) 41 9) 401 (some (wr (wr μ 41 9 (nI (a + 1))) 41 10 ((wr μ 41 9 (nI (a + 1))) 43 (ix ((wr μ 41 9 (nI (a + 1))) 41 9))))) = some μ' ∧ _
      rw [wr_same, chkn (by omega) (by omega)]
      refine ⟨_, rfl, ⟨by rw [wr_slot (by omega), wr_slot (by omega)]; exact h1, ⟨a + 1, by omega, by rw [wr_slot (by omega), wr_same]⟩, z, z1, by rw [wr_cell (by omega), wr_cell (by omega)]; exact z2⟩, by rw [wr_slot (by omega), wr_slot (by omega)], by rw [wr_slot (by omega), wr_slot (by omega)], fun x g1 g2 g3 => by rw [wr_off g1, wr_off g1], fun j g1 g2 g3 g4 => by rw [wr_slot g4, wr_slot g3], fun j g1 => by rw [wr_cell (by omega), wr_cell (by omega)]⟩
theorem put_k {G : Nat} {v : Int32} {μ : Mem} (h : SK μ) : ∃ μ', f_X1_put G 45 v μ = some μ' ∧ SkR μ μ' := by
  obtain ⟨h1, ⟨a, a1, a2⟩, z, z1, z2⟩ := id h
  unfold f_X1_put
  rw [z2]
  by_cases q4 : z = 400
  · rw [if_pos (show (400 : Int32) ≤ nI z by rw [q4]; exact Int32.le_refl _)]
    exact ⟨μ, rfl, SkR_rfl h⟩
  · rw [if_neg (show ¬ (400 : Int32) ≤ nI z from nI_ge (b := 400) (by omega) (by omega)), chkn (by omega) (by omega), ixn (by omega)]
    show ∃ μ', some (wr (wr μ 46 z v) 45 7 ((wr μ 46 z v) 45 7 + 1)) = some μ' ∧ _
    rw [wr_cell (by omega), z2, nI_1]
    exact ⟨_, rfl, ⟨by rw [wr_cell (by omega), wr_cell (by omega)]; exact h1, ⟨a, a1, by rw [wr_cell (by omega), wr_cell (by omega)]; exact a2⟩, z + 1, by omega, wr_same⟩, by rw [wr_cell (by omega), wr_cell (by omega)], by rw [wr_cell (by omega), wr_cell (by omega)], fun x g1 g2 g3 => by rw [wr_off g2, wr_off g3], fun j g1 g2 g3 g4 => by rw [wr_cell (by omega), wr_cell (by omega)], fun j g1 => by rw [wr_slot g1, wr_cell (by omega)]⟩
theorem fail_k {G : Nat} {v : Int32} {μ : Mem} (h : SK μ) : f_X5_fail G v μ = some μ := by
  unfold f_X5_fail
  rw [if_neg h.1]
theorem expect_k {G : Nat} {v : Int32} {μ : Mem} (h : SK μ) : f_X5_expect G v μ = some (0, μ) := by
  unfold f_X5_expect f_X5_expect_j20
  rw [if_neg h.1, if_neg h.1]
theorem opens_k {G : Nat} {v : Int32} {μ : Mem} (h : SK μ) : f_X5_opens G v μ = some (0, μ) := by
  unfold f_X5_opens
  rw [fail_k h, bndV_s, expect_k h, bndE_s]
  split <;> rfl
theorem unit_k {G : Nat} {μ : Mem} (h : SK μ) : f_X5_unit G μ = some (0, μ) := by
  unfold f_X5_unit f_X5_unit_j32
  rw [if_neg h.1, if_neg h.1]
theorem parts_k {G : Nat} {μ : Mem} (hG : 500 ≤ G) (h : SK μ) : f_X5_partings G μ = some μ := by
  unfold f_X5_partings
  obtain ⟨G', rfl⟩ : ∃ y, G = y + 1 := ⟨G - 1, by omega⟩
  rw [f_X5_partings_L2, if_neg (by decide), if_neg h.1]
theorem exprL_k {G g : Nat} {v1 v2 v3 : Int32} {μ : Mem} (hg : 0 < g) (h : SK μ) : f_X5_expression_L8 G g v1 v2 v3 μ = some μ := by
  obtain ⟨g, rfl⟩ : ∃ y, g = y + 1 := ⟨g - 1, by omega⟩
  rw [f_X5_expression_L8, unit_k h, bndE_s, if_pos rfl]
  split <;> rfl
theorem expr_k {G : Nat} {μ : Mem} (hG : 500 ≤ G) (h : SK μ) : f_X5_expression G μ = some μ := exprL_k (by omega) h
end
