section
def bsM (x : Nat → Int32) : Nat → Int32
  | 0 => -1
  | n + 1 => imax (bsM x n) (x n)
theorem bsM_le {x : Nat → Int32} : ∀ {n i}, i < n → x i ≤ bsM x n
  | n + 1, i, h => by
    rw [bsM]
    by_cases e : i = n
    · subst e; unfold imax; grind
    · have := bsM_le (x := x) (n := n) (i := i) (by omega)
      unfold imax; grind
def bs0 (x : Nat → Int32) : Nat → Int32
  | 0 => 0
  | n + 1 => imax (bs0 x n) (x n)
theorem bs0_e {x : Nat → Int32} : ∀ n, bs0 x n = imax 0 (bsM x n)
  | 0 => (by decide : (0 : Int32) = imax 0 (-1))
  | n + 1 => by
    rw [bs0, bsM, bs0_e n]
    unfold imax; grind
theorem bs0_b {x : Nat → Int32} {n : Nat} (h : 0 < n) (hx : 0 ≤ x 0) : bs0 x n = bsM x n := by
  have := bsM_le (x := x) (n := n) h
  rw [bs0_e]
  unfold imax; grind
theorem hiM_0 {x : Nat → Int32} : ∀ n, hiM x 0 n = -1
  | 0 => rfl
  | n + 1 => by rw [hiM, Nat.zero_testBit, hiM_0 n]; rfl
/-- how many orders let k go and have the best -/
def gdN (x : Nat → Int32) (n k t : Nat) : Nat := nsm (fun t => ind x (bsM x n) k (nI 4294967295) (prm n n 0 t)) t
theorem gdN_all {x : Nat → Int32} {n k : Nat} (hk : k < n) : gdN x n k (fac n) = fac k * lvl n k (tcN x (bsM x n) n) := by
  rw [← cntN_0, ← cnt_ok k n 0 (by rw [pcn_z, Nat.add_zero]) hk, hiM_0]
  rfl
theorem ord_0 : ∀ n, n < 7 → ∀ j, j < n + 1 → ordL (n + 1) 0 j = j := by decide +kernel
theorem fac_le : ∀ n, n < 7 → fac (n + 1) ≤ 5040 := by decide +kernel
theorem good_ok {G n : Nat} {ρ : Mem} (hG : 6000 ≤ G) (hn : n < 7) (e : ρ 0 68 = nI (n + 1)) (hx : 0 ≤ ρ 42 0) :
    ∃ ρ', f_X12_findsGood G ρ = some ρ' ∧ (∀ x, x ≠ 43 → x ≠ 44 → ρ' x = ρ x) ∧ ∀ k, k < n + 1 → ρ' 44 k = nI (gdN (ρ 42) (n + 1) k (fac (n + 1))) := by
  obtain ⟨g1, ⟨v, μ1⟩, k1, ⟨rfl, i1, i2, i3⟩⟩ := loopZ (fun g v (s : Int32 × Mem) => f_X12_findsGood_L4 G (f_X12_findsGood_j44 G) g s.1 v s.2) (n + 1) (fun k s => s.1 = bs0 (ρ 42) k ∧ (∀ x, x ≠ 43 → x ≠ 44 → s.2 x = ρ x) ∧ (∀ j, j < k → s.2 43 j = nI j) ∧ (∀ j, j < k → s.2 44 j = nI 0)) (by
    rintro g i ⟨v, μ⟩ hi ⟨rfl, i1, i2, i3⟩
    have i1 : ∀ x, x ≠ 43 → x ≠ 44 → μ x = ρ x := i1
    have i2 : ∀ j, j < i → μ 43 j = nI j := i2
    have i3 : ∀ j, j < i → μ 44 j = nI 0 := i3
    have e2 : μ 0 68 = nI (n + 1) := by rw [i1 0 (by omega) (by omega)]; exact e
    have e3 : ∀ (f : Int32), (wr (wr μ 43 i f) 44 i (nI 0)) 42 i = ρ 42 i := fun f => by rw [wr_off (by omega), wr_off (by omega), i1 42 (by omega) (by omega)]
    refine ⟨(bs0 (ρ 42) (i + 1), wr (wr μ 43 i (nI i)) 44 i (nI 0)), ?_, rfl, fun x h1 h2 => ?_, fun j hj => ?_, fun j hj => ?_⟩
    · show f_X12_findsGood_L4 G _ (g + 1) (bs0 (ρ 42) i) (nI i) μ = f_X12_findsGood_L4 G _ g (imax (bs0 (ρ 42) i) (ρ 42 i)) (nI (i + 1)) _
      rw [show ρ 42 i = μ 42 i by rw [i1 42 (by omega) (by omega)]]
      simp (disch := omega) only [lit, neg1, nI_1, nI_add, pk_mul, pk_sub, nI_leI, nI_ltI, nI_eq, nI_eqm, chkn, ixn, if_pos, if_neg, bndV_s, bndE_s, bndO_s, reduceIte, irmn, iminn, imaxn, and_self, true_and, and_true, false_and, and_false, f_X12_findsGood_L4, e2, gr12]
    · show wr (wr μ 43 i (nI i)) 44 i (nI 0) x = _
      rw [wr_off h2, wr_off h1]
      exact i1 x h1 h2
    · show wr (wr μ 43 i (nI i)) 44 i (nI 0) 43 j = _
      rw [wr_off (by omega)]
      by_cases c : j = i
      · subst c; exact wr_same
      · rw [wr_slot c]; exact i2 j (by omega)
    · show wr (wr μ 43 i (nI i)) 44 i (nI 0) 44 j = _
      by_cases c : j = i
      · subst c; exact wr_same
      · rw [wr_slot c, wr_off (by omega)]; exact i3 j (by omega)) (by omega : n + 1 < G) (s := ((0 : Int32), ρ)) ⟨rfl, fun x _ _ => rfl, fun j hj => absurd hj (by omega), fun j hj => absurd hj (by omega)⟩
  have i1 : ∀ x, x ≠ 43 → x ≠ 44 → μ1 x = ρ x := i1
  have i2 : ∀ j, j < n + 1 → μ1 43 j = nI j := i2
  have i3 : ∀ j, j < n + 1 → μ1 44 j = nI 0 := i3
  have hb : bs0 (ρ 42) (n + 1) = bsM (ρ 42) (n + 1) := bs0_b (by omega) hx
  obtain ⟨nc1, nc2⟩ := nextC n hn
  have fp := fac_pos (n + 1)
  have fl := fac_le n hn
  have inner : ∀ t μ, t < fac (n + 1) → (∀ x, x ≠ 43 → x ≠ 44 → μ x = ρ x) → (∀ j, j < n + 1 → μ 43 j = nI (ordL (n + 1) t j)) → (∀ k, k < n + 1 → μ 44 k = nI (gdN (ρ 42) (n + 1) k t)) → ∀ r k,
      ∃ μ', f_X12_findsGood_L52 G r k G (bsM (ρ 42) (n + 1)) (nI 0) μ = k (bsM (ρ 42) (n + 1)) μ' ∧ (∀ x, x ≠ 44 → μ' x = μ x) ∧ ∀ k, k < n + 1 → μ' 44 k = nI (gdN (ρ 42) (n + 1) k (t + 1)) := by
    intro t μ ht q1 q2 q3 r k
    obtain ⟨g', μ', h1, ⟨h2, h3⟩⟩ := loopZ (fun g v (s : Mem) => f_X12_findsGood_L52 G r k g (bsM (ρ 42) (n + 1)) v s) (n + 1) (fun k s => (∀ x, x ≠ 44 → s x = μ x) ∧ ∀ j, j < n + 1 → s 44 j = nI (gdN (ρ 42) (n + 1) j (if j < k then t + 1 else t))) (by
      rintro g i s hi ⟨h2, h3⟩
      have e2 : s 0 68 = nI (n + 1) := by rw [h2 0 (by omega), q1 0 (by omega) (by omega)]; exact e
      have e42 : s 42 = ρ 42 := by rw [h2 42 (by omega), q1 42 (by omega) (by omega)]
      have tk := tkn_ok (G := G) (l := prm (n + 1) (n + 1) 0 t) (ρ := s) (by omega) (by omega) e2 (prm_len _ _ _) (fun j hj => ⟨by have : ordL (n + 1) t j < n + 1 := ordL_lt ht hj; unfold ordL at this; omega, by rw [h2 43 (by omega)]; exact q2 j hj⟩) hi
      rw [e42] at tk
      have hi3 := h3 i hi
      rw [if_neg (by omega)] at hi3
      have gs : gdN (ρ 42) (n + 1) i (t + 1) = gdN (ρ 42) (n + 1) i t + ind (ρ 42) (bsM (ρ 42) (n + 1)) i (nI 4294967295) (prm (n + 1) (n + 1) 0 t) := rfl
      by_cases c : tkn (ρ 42) i (nI 4294967295) (prm (n + 1) (n + 1) 0 t) = bsM (ρ 42) (n + 1)
      · rw [show ind (ρ 42) (bsM (ρ 42) (n + 1)) i (nI 4294967295) (prm (n + 1) (n + 1) 0 t) = 1 from if_pos c] at gs
        refine ⟨wr s 44 i (nI (gdN (ρ 42) (n + 1) i t + 1)), ?_, fun x hx => by rw [wr_off hx]; exact h2 x hx, fun j hj => ?_⟩
        · simp (disch := omega) only [lit, neg1, nI_1, nI_add, pk_mul, pk_sub, nI_leI, nI_ltI, nI_eq, nI_eqm, chkn, ixn, if_pos, if_neg, bndV_s, bndE_s, bndO_s, reduceIte, irmn, iminn, imaxn, and_self, true_and, and_true, false_and, and_false, f_X12_findsGood_L52, e2, tk, c, hi3, f_X12_findsGood_j83]
        · by_cases cj : j = i
          · rw [cj, wr_same, if_pos (by omega), gs]
          · rw [wr_slot cj, h3 j hj]
            congr 2
            split <;> split <;> omega
      · rw [show ind (ρ 42) (bsM (ρ 42) (n + 1)) i (nI 4294967295) (prm (n + 1) (n + 1) 0 t) = 0 from if_neg c] at gs
        refine ⟨s, ?_, h2, fun j hj => ?_⟩
        · simp (disch := omega) only [lit, neg1, nI_1, nI_add, pk_mul, pk_sub, nI_leI, nI_ltI, nI_eq, nI_eqm, chkn, ixn, if_pos, if_neg, bndV_s, bndE_s, bndO_s, reduceIte, irmn, iminn, imaxn, and_self, true_and, and_true, false_and, and_false, f_X12_findsGood_L52, e2, tk, c, f_X12_findsGood_j83]
        · by_cases cj : j = i
          · rw [cj, hi3, if_pos (by omega), gs]
            rfl
          · rw [h3 j hj]
            congr 2
            split <;> split <;> omega) (by omega : n + 1 < G) (s := μ) ⟨fun x _ => rfl, fun j hj => by rw [if_neg (by omega)]; exact q3 j hj⟩
    refine ⟨μ', ?_, h2, fun j hj => by rw [h3 j hj, if_pos hj]⟩
    refine Eq.trans h1 ?_
    show f_X12_findsGood_L52 G r k (g' + 1) (bsM (ρ 42) (n + 1)) (nI (n + 1)) μ' = _
    have e2 : μ' 0 68 = nI (n + 1) := by rw [h2 0 (by omega), q1 0 (by omega) (by omega)]; exact e
    rw [f_X12_findsGood_L52, if_pos (by rw [e2]; exact nI_le (Nat.le_refl _) (by omega))]
  have main : ∀ m t f μ, t + m + 1 = fac (n + 1) → m + 1 < f → (∀ x, x ≠ 43 → x ≠ 44 → μ x = ρ x) → (∀ j, j < n + 1 → μ 43 j = nI (ordL (n + 1) t j)) → (∀ k, k < n + 1 → μ 44 k = nI (gdN (ρ 42) (n + 1) k t)) →
      ∃ ρ', f_X12_findsGood_L46 G f (bsM (ρ 42) (n + 1)) (nI 1) μ = some ρ' ∧ (∀ x, x ≠ 43 → x ≠ 44 → ρ' x = ρ x) ∧ ∀ k, k < n + 1 → ρ' 44 k = nI (gdN (ρ 42) (n + 1) k (fac (n + 1))) := by
    intro m
    induction m with
    | zero =>
      intro t f μ ht hf q1 q2 q3
      obtain ⟨f, rfl⟩ : ∃ x, f = x + 2 := ⟨f - 2, by omega⟩
      obtain ⟨μ', i1, i2, i3⟩ := inner t μ (by omega) q1 q2 q3 (f_X12_findsGood_L46 G (f + 1)) (f_X12_findsGood_j89 G (f_X12_findsGood_L46 G (f + 1)))
      have e2 : μ' 0 68 = nI (n + 1) := by rw [i2 0 (by omega), q1 0 (by omega) (by omega)]; exact e
      obtain ⟨s1, s2⟩ := next_sim (G := G) (o := ordL (n + 1) t) (ρ := μ') (by omega) hn e2 (fun j hj => ⟨by have := ordL_lt (n := n + 1) (t := t) (by omega) hj; omega, by rw [i2 43 (by omega)]; exact q2 j hj⟩)
      have s1 := s1 (by rw [show t = fac (n + 1) - 1 by omega]; exact nc2)
      refine ⟨μ', ?_, fun x h1 h2 => by rw [i2 x h2]; exact q1 x h1 h2, fun k hk => by rw [i3 k hk, show t + 1 = fac (n + 1) by omega]⟩
      rw [f_X12_findsGood_L46, if_neg (by decide)]
      refine Eq.trans i1 ?_
      rw [f_X12_findsGood_j89, s1, bndE_s, f_X12_findsGood_L46, if_pos (by decide)]
    | succ m ih =>
      intro t f μ ht hf q1 q2 q3
      obtain ⟨f, rfl⟩ : ∃ x, f = x + 1 := ⟨f - 1, by omega⟩
      obtain ⟨μ', i1, i2, i3⟩ := inner t μ (by omega) q1 q2 q3 (f_X12_findsGood_L46 G f) (f_X12_findsGood_j89 G (f_X12_findsGood_L46 G f))
      have e2 : μ' 0 68 = nI (n + 1) := by rw [i2 0 (by omega), q1 0 (by omega) (by omega)]; exact e
      obtain ⟨s1, s2⟩ := next_sim (G := G) (o := ordL (n + 1) t) (ρ := μ') (by omega) hn e2 (fun j hj => ⟨by have := ordL_lt (n := n + 1) (t := t) (by omega) hj; omega, by rw [i2 43 (by omega)]; exact q2 j hj⟩)
      obtain ⟨p, p1, p2, p3⟩ := nc1 t (by omega)
      obtain ⟨μ2, j1, j2, j3⟩ := s2 p p1 p2
      obtain ⟨ρ', r1, r2, r3⟩ := ih (t + 1) f μ2 (by omega) (by omega) (fun x h1 h2 => by rw [j2 x h1, i2 x h2]; exact q1 x h1 h2) (fun j hj => by rw [j3 j hj]; exact congrArg nI (p3 j hj)) (fun k hk => by rw [j2 44 (by omega)]; exact i3 k hk)
      refine ⟨ρ', ?_, r2, r3⟩
      rw [← r1, f_X12_findsGood_L46, if_neg (by decide)]
      refine Eq.trans i1 ?_
      rw [f_X12_findsGood_j89, j1, bndE_s]
  obtain ⟨ρ', m1, m2, m3⟩ := main (fac (n + 1) - 1) 0 G μ1 (by omega) (by omega) i1 (fun j hj => by rw [i2 j hj, ord_0 n hn j hj]) (fun k hk => by rw [i3 k hk]; rfl)
  refine ⟨ρ', ?_, m2, m3⟩
  refine Eq.trans k1 ?_
  show f_X12_findsGood_L4 G (f_X12_findsGood_j44 G) (g1 + 1) (bs0 (ρ 42) (n + 1)) (nI (n + 1)) μ1 = _
  have e2 : μ1 0 68 = nI (n + 1) := by rw [i1 0 (by omega) (by omega)]; exact e
  rw [f_X12_findsGood_L4, if_pos (by rw [e2]; exact nI_le (Nat.le_refl _) (by omega)), f_X12_findsGood_j44, hb]
  exact m1
end
