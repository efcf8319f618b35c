section
theorem L7_ok {G n : Nat} {o : Nat → Nat} {ρ : Mem} {k7 : Int32 → Mem → Option (Int32 × Mem)} (hn : n < 7) (ho : ∀ j, j < n + 1 → o j < 100 ∧ ρ 43 j = nI (o j)) : ∀ c g, c ≤ n → c < g → f_X12_goesToNextOrder_L7 G k7 g (nI c - nI 1) ρ = (match pivF o c with | none => k7 (nI 4294967295) ρ | some p => k7 (nI p) ρ) := by
  intro c
  induction c with
  | zero =>
    intro g _ hg
    obtain ⟨g, rfl⟩ : ∃ x, g = x + 1 := ⟨g - 1, by omega⟩
    rw [f_X12_goesToNextOrder_L7, if_pos (by decide)]
    rfl
  | succ c ih =>
    intro g hc hg
    obtain ⟨g, rfl⟩ : ∃ x, g = x + 1 := ⟨g - 1, by omega⟩
    have h1 := ho c (by omega)
    have h2 := ho (c + 1) (by omega)
    have ih := ih g (by omega) (by omega)
    rw [pk_sub (by omega), Nat.add_sub_cancel]
    rw [pivF]
    by_cases d : o c ≤ o (c + 1)
    · rw [if_pos d]
      simp (disch := omega) only [lit, neg1, nI_1, nI_add, pk_mul, pk_sub, nI_leI, nI_ltI, nI_eq, nI_eqm, chkn, ixn, if_pos, if_neg, bndV_s, bndE_s, bndO_s, reduceIte, irmn, iminn, imaxn, and_self, true_and, and_true, false_and, and_false, f_X12_goesToNextOrder_L7, h1.2, h2.2]
    · rw [if_neg d, ← ih]
      rw [f_X12_goesToNextOrder_L7, if_neg (nI_pos (by omega)), chkn (by omega) (by omega), show (1 : Int32) = nI 1 from rfl, nI_add, chkn (by omega) (by omega), ixn (by omega), ixn (by omega), h1.2, h2.2, if_neg (nI_ge (by omega) (by omega))]
theorem L48_ok {G n p : Nat} {o : Nat → Nat} {ρ : Mem} {k : Int32 → Int32 → Mem → Option (Int32 × Mem)} (hn : n < 7) (ho : ∀ j, j < n + 1 → o j < 100 ∧ ρ 43 j = nI (o j)) : ∀ j g, p ≤ j → j ≤ n → j < g → f_X12_goesToNextOrder_L48 G k g (nI p) (nI j) ρ = k (nI p) (nI (sucF o p j)) ρ := by
  intro j
  induction j with
  | zero =>
    intro g h1 _ hg
    obtain ⟨g, rfl⟩ : ∃ x, g = x + 1 := ⟨g - 1, by omega⟩
    obtain rfl : p = 0 := by omega
    simp (disch := omega) only [lit, neg1, nI_1, nI_add, pk_mul, pk_sub, nI_leI, nI_ltI, nI_eq, nI_eqm, chkn, ixn, if_pos, if_neg, bndV_s, bndE_s, bndO_s, reduceIte, irmn, iminn, imaxn, and_self, true_and, and_true, false_and, and_false, f_X12_goesToNextOrder_L48, Int32.le_refl]
    rfl
  | succ j ih =>
    intro g h1 h2 hg
    obtain ⟨g, rfl⟩ : ∃ x, g = x + 1 := ⟨g - 1, by omega⟩
    have a1 := ho p (by omega)
    have a2 := ho (j + 1) (by omega)
    rw [sucF_s]
    by_cases d : o p ≤ o (j + 1)
    · rw [if_pos d]
      simp (disch := omega) only [lit, neg1, nI_1, nI_add, pk_mul, pk_sub, nI_leI, nI_ltI, nI_eq, nI_eqm, chkn, ixn, if_pos, if_neg, bndV_s, bndE_s, bndO_s, reduceIte, irmn, iminn, imaxn, and_self, true_and, and_true, false_and, and_false, f_X12_goesToNextOrder_L48, a1.2, a2.2]
    · have : p ≠ j + 1 := fun e => d (by rw [e]; exact Nat.le_refl _)
      rw [if_neg d, ← ih g (by omega) (by omega) (by omega)]
      simp (disch := omega) only [lit, neg1, nI_1, nI_add, pk_mul, pk_sub, nI_leI, nI_ltI, nI_eq, nI_eqm, chkn, ixn, if_pos, if_neg, bndV_s, bndE_s, bndO_s, reduceIte, irmn, iminn, imaxn, and_self, true_and, and_true, false_and, and_false, f_X12_goesToNextOrder_L48, a1.2, a2.2, d, Nat.add_sub_cancel]
theorem L109_ok {G n p : Nat} {b : Nat → Nat} {ρ : Mem} (hn : n < 7) : ∀ m r f μ, n ≤ p + 1 + r + r + 2 * m → m < f → p + r ≤ n → r ≤ n → (∀ x, x ≠ 43 → μ x = ρ x) → (∀ s, s < n + 1 → μ 43 s = nI (b (if p < s ∧ (s < p + 1 + r ∨ n - r < s) then n + 1 + p - s else s))) →
    ∃ μ', f_X12_goesToNextOrder_L109 G f (nI (p + 1 + r)) (nI (n - r)) μ = some (nI 1, μ') ∧ (∀ x, x ≠ 43 → μ' x = ρ x) ∧ ∀ s, s < n + 1 → μ' 43 s = nI (b (if p < s then n + 1 + p - s else s)) := by
  intro m
  induction m with
  | zero =>
    intro r f μ h1 hf h2 h3 h4 h5
    obtain ⟨f, rfl⟩ : ∃ x, f = x + 1 := ⟨f - 1, by omega⟩
    refine ⟨μ, by simp (disch := omega) only [lit, neg1, nI_1, nI_add, pk_mul, pk_sub, nI_leI, nI_ltI, nI_eq, nI_eqm, chkn, ixn, if_pos, if_neg, bndV_s, bndE_s, bndO_s, reduceIte, irmn, iminn, imaxn, and_self, true_and, and_true, false_and, and_false, f_X12_goesToNextOrder_L109], h4, fun s hs => ?_⟩
    rw [h5 s hs]
    congr 2
    split <;> split <;> omega
  | succ m ih =>
    intro r f μ h1 hf h2 h3 h4 h5
    obtain ⟨f, rfl⟩ : ∃ x, f = x + 1 := ⟨f - 1, by omega⟩
    by_cases d : n - r ≤ p + 1 + r
    · refine ⟨μ, by simp (disch := omega) only [lit, neg1, nI_1, nI_add, pk_mul, pk_sub, nI_leI, nI_ltI, nI_eq, nI_eqm, chkn, ixn, if_pos, if_neg, bndV_s, bndE_s, bndO_s, reduceIte, irmn, iminn, imaxn, and_self, true_and, and_true, false_and, and_false, f_X12_goesToNextOrder_L109], h4, fun s hs => ?_⟩
      rw [h5 s hs]
      congr 2
      split <;> split <;> omega
    · obtain ⟨μ', k1, k2, k3⟩ := ih (r + 1) f (wr (wr μ 43 (p + 1 + r) (μ 43 (n - r))) 43 (n - r) (μ 43 (p + 1 + r))) (by omega) (by omega) (by omega) (by omega) (fun x hx => by rw [wr_off hx, wr_off hx]; exact h4 x hx) (fun s hs => by
        have e1 := h5 (n - r) (by omega)
        have e2 := h5 (p + 1 + r) (by omega)
        rw [if_neg (by omega)] at e1 e2
        by_cases c1 : s = n - r
        · rw [c1, wr_same, e2, if_pos (by omega)]
          congr 2
          omega
        · rw [wr_slot c1]
          by_cases c2 : s = p + 1 + r
          · rw [c2, wr_same, e1, if_pos (by omega)]
            congr 2
            omega
          · rw [wr_slot c2, h5 s hs]
            congr 2
            split <;> split <;> omega)
      refine ⟨μ', ?_, k2, k3⟩
      rw [← k1, show n - (r + 1) = n - r - 1 by omega, show p + 1 + (r + 1) = p + 1 + r + 1 by omega]
      simp (disch := omega) only [lit, neg1, nI_1, nI_add, pk_mul, pk_sub, nI_leI, nI_ltI, nI_eq, nI_eqm, chkn, ixn, if_pos, if_neg, bndV_s, bndE_s, bndO_s, reduceIte, irmn, iminn, imaxn, and_self, true_and, and_true, false_and, and_false, f_X12_goesToNextOrder_L109, d]
theorem next_sim {G n : Nat} {o : Nat → Nat} {ρ : Mem} (hG : 500 ≤ G) (hn : n < 7) (e : ρ 0 68 = nI (n + 1)) (ho : ∀ j, j < n + 1 → o j < 100 ∧ ρ 43 j = nI (o j)) :
    (pivF o n = none → f_X12_goesToNextOrder G ρ = some (nI 0, ρ)) ∧ (∀ p, pivF o n = some p → p < n → ∃ ρ', f_X12_goesToNextOrder G ρ = some (nI 1, ρ') ∧ (∀ x, x ≠ 43 → ρ' x = ρ x) ∧ ∀ s, s < n + 1 → ρ' 43 s = nI (nxF (n + 1) o p (sucF o p n) s)) := by
  have st : f_X12_goesToNextOrder G ρ = f_X12_goesToNextOrder_L7 G (f_X12_goesToNextOrder_j35 G) G (nI n - nI 1) ρ := by
    unfold f_X12_goesToNextOrder
    rw [e, show nI (n + 1) - (2 : Int32) = nI n - nI 1 by
      have : nI (n + 1) = nI n + 1 := nI_succ n
      have h1 : nI 1 = (1 : Int32) := rfl
      grind]
  rw [st, L7_ok hn ho n G (Nat.le_refl _) (by omega)]
  constructor
  · intro h
    rw [h]
    show f_X12_goesToNextOrder_j35 G (nI 4294967295) ρ = _
    rw [f_X12_goesToNextOrder_j35, if_neg (by decide)]
    rfl
  · intro p h hp
    rw [h]
    show ∃ ρ', f_X12_goesToNextOrder_j35 G (nI p) ρ = _ ∧ _
    rw [f_X12_goesToNextOrder_j35, if_pos (nI_pos' (by omega)), e, show (1 : Int32) = nI 1 from rfl, pk_sub (by omega), Nat.add_sub_cancel, L48_ok hn ho n G (by omega) (Nat.le_refl _) (by omega)]
    have hj := sucF_le (o := o) (p := p) (k := n) (by omega)
    have hpj : p ≠ sucF o p n ∨ p = sucF o p n := by omega
    generalize sucF o p n = j at *
    have e2 : (wr (wr ρ 43 p (ρ 43 j)) 43 j (ρ 43 p)) 0 68 = nI (n + 1) := by rw [wr_off (by omega), wr_off (by omega)]; exact e
    rw [f_X12_goesToNextOrder_j70, chkn (by omega) (by omega), chkn (by omega) (by omega), chkn (by omega) (by omega)]
    show ∃ ρ', chk (nI j) 7 _ = _ ∧ _
    rw [chkn (by omega) (by omega)]
    rw [ixn (by omega), ixn (by omega)]
    show ∃ ρ', f_X12_goesToNextOrder_L109 G G (nI p + nI 1) ((wr (wr ρ 43 p (ρ 43 j)) 43 j (ρ 43 p)) 0 68 - nI 1) _ = _ ∧ _
    rw [e2, pk_sub (by omega), nI_add, Nat.add_sub_cancel]
    have q := L109_ok (G := G) (n := n) (p := p) (b := swF o p j) (ρ := ρ) hn 10 0 G (wr (wr ρ 43 p (ρ 43 j)) 43 j (ρ 43 p)) (by omega) (by omega) (by omega) (by omega) (fun x hx => by rw [wr_off hx, wr_off hx]) (fun s hs => by
      rw [if_neg (by omega)]
      unfold swF
      by_cases c1 : s = j
      · rw [c1, wr_same, (ho p (by omega)).2]
        split
        · rename_i h; rw [h]
        · rw [if_pos rfl]
      · rw [wr_slot c1]
        by_cases c2 : s = p
        · rw [c2, wr_same, if_pos rfl, (ho j (by omega)).2]
        · rw [wr_slot c2, if_neg c2, if_neg c1, (ho s (by omega)).2])
    exact q
theorem tkn_ok {G n : Nat} {l : List Nat} {ρ : Mem} (hG : 500 ≤ G) (hn : n ≤ 7) (e : ρ 0 68 = nI n) (hl : l.length = n) (ho : ∀ j, j < n → l.getD j 0 < 7 ∧ ρ 43 j = nI (l.getD j 0)) {k : Nat} (hk : k < n) : f_X12_takenBy G ρ (nI k) = some (tkn (ρ 42) k (nI 4294967295) l) := by
  have dr : ∀ j, j < n → l.drop j = l.getD j 0 :: l.drop (j + 1) := by
    intro j hj
    rw [List.drop_eq_getElem_cons (by omega), List.getD_eq_getElem?_getD, List.getElem?_eq_getElem (by omega)]
    rfl
  have b : ∀ r j g hi, j + r + 1 = n → r + 1 < g → f_X12_takenBy_L34 G ρ g hi (nI j) = some (tkn (ρ 42) 0 hi (l.drop j)) := by
    intro r
    induction r with
    | zero =>
      intro j g hi hj hg
      obtain ⟨g, rfl⟩ : ∃ x, g = x + 2 := ⟨g - 2, by omega⟩
      obtain ⟨h1, h2⟩ := ho j (by omega)
      rw [dr j (by omega), List.drop_eq_nil_of_le (by omega)]
      have en : nI n - nI 1 = nI j := by rw [pk_sub (by omega)]; congr 1; omega
      by_cases c : ρ 42 (l.getD j 0) ≤ hi
      · rw [show tkn (ρ 42) 0 hi [l.getD j 0] = ρ 42 (l.getD j 0) from if_pos c]
        rw [f_X12_takenBy_L34, if_neg (by rw [e]; exact nI_ge (by omega) (by omega)), chkn (by omega) (by omega), ixn (by omega), h2, chkn (by omega) (by omega), ixn (by omega), if_pos c, show (1 : Int32) = nI 1 from rfl, nI_add]
        rw [f_X12_takenBy_L34, if_pos (by rw [e]; exact nI_le (by omega) (by omega)), e, show (1 : Int32) = nI 1 from rfl, en, chkn (by omega) (by omega), ixn (by omega), h2, chkn (by omega) (by omega), ixn (by omega)]
      · rw [show tkn (ρ 42) 0 hi [l.getD j 0] = ρ 42 (l.getD j 0) from if_neg c]
        rw [f_X12_takenBy_L34, if_neg (by rw [e]; exact nI_ge (by omega) (by omega)), chkn (by omega) (by omega), ixn (by omega), h2, chkn (by omega) (by omega), ixn (by omega), if_neg c, chkn (by omega) (by omega), chkn (by omega) (by omega)]
    | succ r ih =>
      intro j g hi hj hg
      obtain ⟨g, rfl⟩ : ∃ x, g = x + 1 := ⟨g - 1, by omega⟩
      obtain ⟨h1, h2⟩ := ho j (by omega)
      have ih := ih (j + 1) g hi (by omega) (by omega)
      rw [dr (j + 1) (by omega)] at ih
      rw [dr j (by omega), dr (j + 1) (by omega)]
      by_cases c : ρ 42 (l.getD j 0) ≤ hi
      · rw [show tkn (ρ 42) 0 hi (l.getD j 0 :: l.getD (j + 1) 0 :: l.drop (j + 1 + 1)) = tkn (ρ 42) 0 hi (l.getD (j + 1) 0 :: l.drop (j + 1 + 1)) from if_pos c, ← ih]
        rw [f_X12_takenBy_L34, if_neg (by rw [e]; exact nI_ge (by omega) (by omega)), chkn (by omega) (by omega), ixn (by omega), h2, chkn (by omega) (by omega), ixn (by omega), if_pos c, show (1 : Int32) = nI 1 from rfl, nI_add]
      · rw [show tkn (ρ 42) 0 hi (l.getD j 0 :: l.getD (j + 1) 0 :: l.drop (j + 1 + 1)) = ρ 42 (l.getD j 0) from if_neg c]
        rw [f_X12_takenBy_L34, if_neg (by rw [e]; exact nI_ge (by omega) (by omega)), chkn (by omega) (by omega), ixn (by omega), h2, chkn (by omega) (by omega), ixn (by omega), if_neg c, chkn (by omega) (by omega), chkn (by omega) (by omega)]
  have a : ∀ r j g hi, j + r = k → r < g → f_X12_takenBy_L4 G ρ (f_X12_takenBy_j32 G ρ) g (nI k) hi (nI j) = some (tkn (ρ 42) r hi (l.drop j)) := by
    intro r
    induction r with
    | zero =>
      intro j g hi hj hg
      obtain ⟨g, rfl⟩ : ∃ x, g = x + 1 := ⟨g - 1, by omega⟩
      rw [f_X12_takenBy_L4, if_pos (nI_le (by omega) (by omega)), f_X12_takenBy_j32, show k = j by omega]
      exact b (n - j - 1) j G hi (by omega) (by omega)
    | succ r ih =>
      intro j g hi hj hg
      obtain ⟨g, rfl⟩ : ∃ x, g = x + 1 := ⟨g - 1, by omega⟩
      obtain ⟨h1, h2⟩ := ho j (by omega)
      rw [dr j (by omega)]
      show _ = some (tkn (ρ 42) r (imax hi (ρ 42 (l.getD j 0))) (l.drop (j + 1)))
      rw [← ih (j + 1) g _ (by omega) (by omega)]
      rw [f_X12_takenBy_L4, if_neg (nI_ge (by omega) (by omega)), chkn (by omega) (by omega), ixn (by omega), h2, chkn (by omega) (by omega), ixn (by omega), gr12, show (1 : Int32) = nI 1 from rfl, nI_add]
  exact a k 0 G (nI 4294967295) (by omega) (by omega)
end
