section
/-! lines -/
theorem mulb {i m j w : Nat} (hi : i < m) (hj : j < w) : i * w + j < m * w := by
  have h1 : (i + 1) * w ≤ m * w := Nat.mul_le_mul_right w hi
  rw [Nat.succ_mul] at h1
  omega
theorem atn {G a N m w n i j : Nat} {μ : Mem} (h : LnR μ a m w n) (hN : m * w ≤ N) (hb : N < 2 ^ 20) (hw : w < 2 ^ 20) (hm : m < 2 ^ 20) (hi : i < n) (hj : j < w) : f_X2_at G a N μ (nI i) (nI j) = some (μ (a + 1) (i * w + j)) := by
  obtain ⟨h0, h1, h3, hle⟩ := h
  have hx := mulb (show i < m by omega) hj
  unfold f_X2_at
  simp (disch := omega) only [lit, neg1, nI_1, nI_add, pk_mul, pk_sub, nI_leI, nI_ltI, nI_eq, nI_eqm, chkn, ixn, if_pos, if_neg, bndV_s, bndE_s, bndO_s, reduceIte, irmn, iminn, imaxn, h1, h3, isB]
theorem atO {G a N m w n i : Nat} {v : Int32} {μ : Mem} (h : LnR μ a m w n) (hm : m < 2 ^ 20) (hi : n ≤ i) (hi2 : i < 2 ^ 20) : f_X2_at G a N μ (nI i) v = some 0 := by
  obtain ⟨h0, h1, h3, hle⟩ := h
  unfold f_X2_at
  simp (disch := omega) only [lit, neg1, nI_1, nI_add, pk_mul, pk_sub, nI_leI, nI_ltI, nI_eq, nI_eqm, chkn, ixn, if_pos, if_neg, bndV_s, bndE_s, bndO_s, reduceIte, irmn, iminn, imaxn, h3, isB]
theorem putn {G a N m w n j : Nat} {v : Int32} {μ : Mem} (h : LnR μ a m w (n + 1)) (hN : m * w ≤ N) (hb : N < 2 ^ 20) (hw : w < 2 ^ 20) (hm : m < 2 ^ 20) (hj : j < w) : f_X2_put G a N (nI j) v μ = some (wr μ (a + 1) (n * w + j) v) := by
  obtain ⟨h0, h1, h3, hle⟩ := h
  have hx := mulb (show n < m by omega) hj
  unfold f_X2_put
  simp (disch := omega) only [lit, neg1, nI_1, nI_add, pk_mul, pk_sub, nI_leI, nI_ltI, nI_eq, nI_eqm, chkn, ixn, if_pos, if_neg, bndV_s, bndE_s, bndO_s, reduceIte, irmn, iminn, imaxn, h1, h3, isB, Nat.add_sub_cancel]
theorem putO {G a N m w n j : Nat} {v : Int32} {μ : Mem} (h : LnR μ a m w n) (hw : w < 2 ^ 20) (hm : m < 2 ^ 20) (hj : w ≤ j) (hj2 : j < 2 ^ 20) : f_X2_put G a N (nI j) v μ = some μ := by
  obtain ⟨h0, h1, h3, hle⟩ := h
  unfold f_X2_put
  by_cases e : n = 0
  · subst e
    simp (disch := omega) only [lit, neg1, nI_1, nI_add, pk_mul, pk_sub, nI_leI, nI_ltI, nI_eq, nI_eqm, chkn, ixn, if_pos, if_neg, bndV_s, bndE_s, bndO_s, reduceIte, irmn, iminn, imaxn, h1, h3, isB]
  · simp (disch := omega) only [lit, neg1, nI_1, nI_add, pk_mul, pk_sub, nI_leI, nI_ltI, nI_eq, nI_eqm, chkn, ixn, if_pos, if_neg, bndV_s, bndE_s, bndO_s, reduceIte, irmn, iminn, imaxn, h1, h3, isB]
theorem LnR_o {μ μ' : Mem} {a m w n : Nat} (h : LnR μ a m w n) (h' : μ' a = μ a) : LnR μ' a m w n := by
  unfold LnR
  rw [h']
  exact h
theorem LnR_n {μ : Mem} {a m w n n' : Nat} (h : LnR μ a m w n) (hn : n' ≤ m) : LnR (wr μ a 3 (nI n')) a m w n' := ⟨by rw [wr_slot (by omega)]; exact h.1, by rw [wr_slot (by omega)]; exact h.2.1, wr_same, hn⟩
theorem LnR_w {μ : Mem} {a m w n b k : Nat} {v : Int32} (h : LnR μ a m w n) (hn : a ≠ b) : LnR (wr μ b k v) a m w n := LnR_o h (wr_off hn)
theorem begn {G a N m w n : Nat} {μ : Mem} (h : LnR μ a m w n) (hN : m * w ≤ N) (hb : N < 2 ^ 20) (hw : w < 2 ^ 20) (hm : m < 2 ^ 20) (hG : w < G) (hn : n < m) :
    ∃ μ', f_X2_begin G a N μ = some (1, μ') ∧ (∀ x, x ≠ a → x ≠ a + 1 → μ' x = μ x) ∧ LnR μ' a m w (n + 1) ∧ (∀ j, j < n * w → μ' (a + 1) j = μ (a + 1) j) ∧ (∀ j, j < w → μ' (a + 1) (n * w + j) = 0) := by
  obtain ⟨h0, h1, h3, hle⟩ := id h
  obtain ⟨g', s', k1, k2, k3, k4⟩ := loopZ (f_X2_begin_L22 G a N) w (fun k s => (∀ x, x ≠ a + 1 → s x = μ x) ∧ (∀ j, j < n * w → s (a + 1) j = μ (a + 1) j) ∧ (∀ j, j < k → s (a + 1) (n * w + j) = 0)) (by
      intro g k s hk ⟨i1, i2, i3⟩
      have hx := mulb (show n < m by omega) hk
      have e1 : s a 1 = nI w := by rw [i1 a (by omega), h1]
      have e3 : s a 3 = nI n := by rw [i1 a (by omega), h3]
      refine ⟨wr s (a + 1) (n * w + k) 0, ?_, ?_, ?_, ?_⟩
      · simp (disch := omega) only [lit, neg1, nI_1, nI_add, pk_mul, pk_sub, nI_leI, nI_ltI, nI_eq, nI_eqm, chkn, ixn, if_pos, if_neg, bndV_s, bndE_s, bndO_s, reduceIte, irmn, iminn, imaxn, f_X2_begin_L22, e1, e3]
      · intro x hx; rw [wr_off hx]; exact i1 x hx
      · intro j hj; rw [wr_slot (by omega)]; exact i2 j hj
      · intro j hj
        by_cases e : j = k
        · subst e; exact wr_same
        · rw [wr_slot (by omega)]; exact i3 j (by omega)) hG (s := μ) ⟨fun _ _ => rfl, fun _ _ => rfl, fun j hj => absurd hj (by omega)⟩
  have e1 : s' a 1 = nI w := by rw [k2 a (by omega), h1]
  have e3 : s' a 3 = nI n := by rw [k2 a (by omega), h3]
  refine ⟨wr s' a 3 (nI (n + 1)), ?_, ?_, ?_, ?_, ?_⟩
  · simp (disch := omega) only [lit, neg1, nI_1, nI_add, pk_mul, pk_sub, nI_leI, nI_ltI, nI_eq, nI_eqm, chkn, ixn, if_pos, if_neg, bndV_s, bndE_s, bndO_s, reduceIte, irmn, iminn, imaxn, f_X2_begin, h0, h3]
    refine Eq.trans k1 ?_
    simp (disch := omega) only [lit, neg1, nI_1, nI_add, pk_mul, pk_sub, nI_leI, nI_ltI, nI_eq, nI_eqm, chkn, ixn, if_pos, if_neg, bndV_s, bndE_s, bndO_s, reduceIte, irmn, iminn, imaxn, f_X2_begin_L22, e1, e3]
  · intro x hx hx1; rw [wr_off hx, k2 x hx1]
  · exact LnR_n (LnR_o h (k2 a (by omega))) (by omega)
  · intro j hj; rw [wr_cell (by omega), k3 j hj]
  · intro j hj; rw [wr_cell (by omega), k4 j hj]
theorem begF {G a N m w : Nat} {μ : Mem} (h : LnR μ a m w m) (hm : m < 2 ^ 20) : f_X2_begin G a N μ = some (0, μ) := by
  obtain ⟨h0, h1, h3, hle⟩ := h
  unfold f_X2_begin
  simp (disch := omega) only [lit, neg1, nI_1, nI_add, pk_mul, pk_sub, nI_leI, nI_ltI, nI_eq, nI_eqm, chkn, ixn, if_pos, if_neg, bndV_s, bndE_s, bndO_s, reduceIte, irmn, iminn, imaxn, h0, h3]
theorem addF {G a N m w : Nat} {μ : Mem} {p q r s : Int32} (h : LnR μ a m w m) (hm : m < 2 ^ 20) : f_X2_add G a N p q r s μ = some (-1, μ) := by
  unfold f_X2_add
  rw [begF h hm]
  rfl
/-- a new line: what it holds -/
def lv4 (p q r s : Int32) (j : Nat) : Int32 := if j = 0 then p else if j = 1 then q else if j = 2 then r else if j = 3 then s else 0
theorem put4 {G a N m w n j : Nat} {v : Int32} {μ : Mem} (h : LnR μ a m w (n + 1)) (hN : m * w ≤ N) (hb : N < 2 ^ 20) (hw : w < 2 ^ 20) (hm : m < 2 ^ 20) (hj : j < 2 ^ 20) :
    ∃ μ', f_X2_put G a N (nI j) v μ = some μ' ∧ (∀ x, x ≠ a + 1 → μ' x = μ x) ∧ (∀ i, i < n * w → μ' (a + 1) i = μ (a + 1) i) ∧ (∀ i, i < w → μ' (a + 1) (n * w + i) = if i = j then v else μ (a + 1) (n * w + i)) := by
  by_cases e : j < w
  · refine ⟨_, putn h hN hb hw hm e, fun x hx => wr_off hx, fun i hi => wr_slot (by omega), fun i hi => ?_⟩
    by_cases e2 : i = j
    · rw [if_pos e2, e2]; exact wr_same
    · rw [if_neg e2]; exact wr_slot (by omega)
  · exact ⟨_, putO h hw hm (by omega) hj, fun _ _ => rfl, fun _ _ => rfl, fun i hi => by rw [if_neg (by omega)]⟩
theorem addn {G a N m w n : Nat} {μ : Mem} {p q r s : Int32} (h : LnR μ a m w n) (hN : m * w ≤ N) (hb : N < 2 ^ 20) (hw : w < 2 ^ 20) (hm : m < 2 ^ 20) (hG : w < G) (hn : n < m) :
    ∃ μ', f_X2_add G a N p q r s μ = some (nI (n + 1), μ') ∧ (∀ x, x ≠ a → x ≠ a + 1 → μ' x = μ x) ∧ LnR μ' a m w (n + 1) ∧ (∀ j, j < n * w → μ' (a + 1) j = μ (a + 1) j) ∧ (∀ j, j < w → μ' (a + 1) (n * w + j) = lv4 p q r s j) := by
  obtain ⟨μ0, a1, a2, a3, a4, a5⟩ := begn (G := G) h hN hb hw hm hG hn
  obtain ⟨μ1, b1, b2, b3, b4⟩ := put4 (G := G) (j := 0) (v := p) a3 hN hb hw hm (by omega)
  have a3' := LnR_o a3 (b2 a (by omega))
  obtain ⟨μ2, c1, c2, c3, c4⟩ := put4 (G := G) (j := 1) (v := q) a3' hN hb hw hm (by omega)
  have a3'' := LnR_o a3' (c2 a (by omega))
  obtain ⟨μ3, d1, d2, d3, d4⟩ := put4 (G := G) (j := 2) (v := r) a3'' hN hb hw hm (by omega)
  have a3''' := LnR_o a3'' (d2 a (by omega))
  obtain ⟨μ4, e1, e2, e3, e4⟩ := put4 (G := G) (j := 3) (v := s) a3''' hN hb hw hm (by omega)
  have a4' := LnR_o a3''' (e2 a (by omega))
  refine ⟨μ4, ?_, ?_, a4', ?_, ?_⟩
  · simp (disch := omega) only [lit, neg1, nI_1, nI_add, pk_mul, pk_sub, nI_leI, nI_ltI, nI_eq, nI_eqm, chkn, ixn, if_pos, if_neg, bndV_s, bndE_s, bndO_s, reduceIte, irmn, iminn, imaxn, f_X2_add, a1, b1, c1, d1, e1, a4'.2.2.1]
  · intro x hx hx1; rw [e2 x hx1, d2 x hx1, c2 x hx1, b2 x hx1, a2 x hx hx1]
  · intro j hj; rw [e3 j hj, d3 j hj, c3 j hj, b3 j hj, a4 j hj]
  · intro j hj
    rw [e4 j hj, d4 j hj, c4 j hj, b4 j hj, a5 j hj]
    unfold lv4
    grind
theorem cpyLn {G a b Na Nb ma wa mb wb k n : Nat} {μ : Mem} (h : LnR μ a ma wa k) (h' : LnR μ b mb wb n) (hN : ma * wa ≤ Na) (hb : Na < 2 ^ 20) (hw : wa < 2 ^ 20) (hm : ma < 2 ^ 20) (hN' : mb * wb ≤ Nb) (hb' : Nb < 2 ^ 20) (hw' : wb < 2 ^ 20) (hm' : mb < 2 ^ 20)
    (hww : wa ≤ wb) (hn : n ≤ ma) (hd : a + 1 < b ∨ b + 1 < a) (hG : wa < G) (hG2 : n < G) :
    ∃ μ', f_X2_copyFrom G a Na b Nb μ = some μ' ∧ (∀ x, x ≠ a → x ≠ a + 1 → μ' x = μ x) ∧ LnR μ' a ma wa n ∧ (∀ i j, i < n → j < wa → μ' (a + 1) (i * wa + j) = μ (b + 1) (i * wb + j)) := by
  have hc : f_X2_clear G a Na μ = some (0, wr μ a 3 (nI 0)) := rfl
  have H0 : LnR (wr μ a 3 (nI 0)) a ma wa 0 := LnR_n h (by omega)
  obtain ⟨g', s', k1, k2, k3, k4⟩ := loopZ (f_X2_copyFrom_L7 G a Na b Nb) n (fun i s => (∀ x, x ≠ a → x ≠ a + 1 → s x = μ x) ∧ LnR s a ma wa i ∧ (∀ i' j, i' < i → j < wa → s (a + 1) (i' * wa + j) = μ (b + 1) (i' * wb + j))) (by
      intro g i s hi ⟨i1, i2, i3⟩
      have hB : LnR s b mb wb n := LnR_o h' (i1 b (by omega) (by omega))
      obtain ⟨s0, a1, a2, a3, a4, a5⟩ := begn (G := G) i2 hN hb hw hm hG (by omega)
      have hB0 : LnR s0 b mb wb n := LnR_o hB (a2 b (by omega) (by omega))
      obtain ⟨g2, s2, l1, l2, l3, l4, l5⟩ := loopZ (fun g' v m => f_X2_copyFrom_L24 G a Na b Nb (f_X2_copyFrom_L7 G a Na b Nb g) (f_X2_copyFrom_j49 G a Na b Nb (f_X2_copyFrom_L7 G a Na b Nb g)) g' (nI i) v m) wa
        (fun j t => (∀ x, x ≠ a + 1 → t x = s0 x) ∧ LnR t a ma wa (i + 1) ∧ (∀ j', j' < i * wa → t (a + 1) j' = s0 (a + 1) j') ∧ (∀ j', j' < j → t (a + 1) (i * wa + j') = μ (b + 1) (i * wb + j'))) (by
        intro g2 j t hj ⟨j1, j2, j3, j4⟩
        have hBt : LnR t b mb wb n := LnR_o hB0 (j1 b (by omega))
        have q1 := atn (G := G) (i := i) (j := j) hBt hN' hb' hw' hm' hi (by omega)
        have q2 := putn (G := G) (j := j) (v := t (b + 1) (i * wb + j)) j2 hN hb hw hm hj
        have q3 : t a 1 = nI wa := j2.2.1
        refine ⟨wr t (a + 1) (i * wa + j) (t (b + 1) (i * wb + j)), ?_, ?_, ?_, ?_, ?_⟩
        · simp (disch := omega) only [lit, neg1, nI_1, nI_add, pk_mul, pk_sub, nI_leI, nI_ltI, nI_eq, nI_eqm, chkn, ixn, if_pos, if_neg, bndV_s, bndE_s, bndO_s, reduceIte, irmn, iminn, imaxn, f_X2_copyFrom_L24, q1, q2, q3]
        · intro x hx; rw [wr_off hx]; exact j1 x hx
        · exact LnR_w j2 (by omega)
        · intro j' hj'; rw [wr_slot (by omega)]; exact j3 j' hj'
        · intro j' hj'
          by_cases e : j' = j
          · subst e; rw [wr_same, j1 (b + 1) (by omega), a2 (b + 1) (by omega) (by omega), i1 (b + 1) (by omega) (by omega)]
          · rw [wr_slot (by omega)]; exact j4 j' (by omega)) hG (s := s0) ⟨fun _ _ => rfl, a3, fun _ _ => rfl, fun j' hj' => absurd hj' (by omega)⟩
      refine ⟨s2, ?_, ?_, l3, ?_⟩
      · have q1 : s b 3 = nI n := hB.2.2.1
        have q2 : s2 a 1 = nI wa := l3.2.1
        simp (disch := omega) only [lit, neg1, nI_1, nI_add, pk_mul, pk_sub, nI_leI, nI_ltI, nI_eq, nI_eqm, chkn, ixn, if_pos, if_neg, bndV_s, bndE_s, bndO_s, reduceIte, irmn, iminn, imaxn, f_X2_copyFrom_L7, q1, a1]
        refine Eq.trans l1 ?_
        simp (disch := omega) only [lit, neg1, nI_1, nI_add, pk_mul, pk_sub, nI_leI, nI_ltI, nI_eq, nI_eqm, chkn, ixn, if_pos, if_neg, bndV_s, bndE_s, bndO_s, reduceIte, irmn, iminn, imaxn, f_X2_copyFrom_L24, q2, f_X2_copyFrom_j49]
      · intro x hx hx1; rw [l2 x hx1, a2 x hx hx1, i1 x hx hx1]
      · intro i' j hi' hj
        by_cases e : i' = i
        · subst e; exact l5 j hj
        · have := mulb (show i' < i by omega) hj
          rw [l4 _ this, a4 _ this]
          exact i3 i' j (by omega) hj) hG2 (s := wr μ a 3 (nI 0)) ⟨fun x hx _ => wr_off hx, H0, fun i' j hi' => absurd hi' (by omega)⟩
  refine ⟨s', ?_, k2, k3, k4⟩
  simp (disch := omega) only [lit, neg1, nI_1, nI_add, pk_mul, pk_sub, nI_leI, nI_ltI, nI_eq, nI_eqm, chkn, ixn, if_pos, if_neg, bndV_s, bndE_s, bndO_s, reduceIte, irmn, iminn, imaxn, f_X2_copyFrom, hc]
  refine Eq.trans k1 ?_
  simp (disch := omega) only [lit, neg1, nI_1, nI_add, pk_mul, pk_sub, nI_leI, nI_ltI, nI_eq, nI_eqm, chkn, ixn, if_pos, if_neg, bndV_s, bndE_s, bndO_s, reduceIte, irmn, iminn, imaxn, f_X2_copyFrom_L7, (LnR_o h' (k2 b (by omega) (by omega))).2.2.1]
end
