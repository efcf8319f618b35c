section
/-! the words of a text -/
def kwT : List (Nat × Nat) := [(0, 3), (4, 6), (11, 3), (15, 4), (20, 2), (23, 3), (27, 3), (31, 4), (36, 5), (42, 4), (47, 3), (51, 4), (56, 8), (65, 5), (71, 5), (77, 4), (82, 8), (91, 4), (96, 3), (100, 2), (103, 3), (107, 5), (113, 4), (118, 5), (124, 6)]
def kwS (w : Nat) : Nat := (kwT.getD w (131, 0)).1
def kwL (w : Nat) : Nat := (kwT.getD w (131, 0)).2
theorem kw_1 : ∀ w, w < 25 → keyC (kwS w + kwL w) = 32 ∧ kwS (w + 1) = kwS w + kwL w + 1 ∧ kwS w + kwL w < 131 ∧ 0 < kwL w := by decide +kernel
theorem kw_2 : ∀ w, w < 25 → ∀ j, j < 9 → j < kwL w → keyC (kwS w + j) ≠ 32 := by decide +kernel
theorem kw_3 : ∀ w, w < 25 → kwL w < 9 := by decide +kernel
theorem wdA_s (k : Nat) : wdA (k + 1) = keyC k := by
  unfold wdA keyC
  rw [if_neg (by omega), Nat.add_sub_cancel]
/-- the word w stands at a, L long -/
def kwP (T : Nat → Int32) (a L w : Nat) : Bool := decide (L = kwL w) && (List.range L).all (fun i => keyC (kwS w + i) == T (a + i))
theorem allK {p : Nat → Bool} (n : Nat) : (List.range n).all p = true ↔ ∀ v, v < n → p v = true := by
  rw [List.all_eq_true]
  exact ⟨fun h v hv => h v (List.mem_range.mpr hv), fun h v hv => h v (List.mem_range.mp hv)⟩
def kfd (p : Nat → Bool) : Nat → Nat → Option Nat
  | 0, _ => none
  | m + 1, w => if p w = true then some w else kfd p m (w + 1)
theorem spelled_ok {G a L s : Nat} {μ : Mem} (hG : 500 ≤ G) (ha : a + L ≤ 400) (hs : s + L < 131) : f_X5_isSpelled G μ (nI s) (nI a) (nI (a + L)) = some (if (List.range L).all (fun i => keyC (s + i) == μ 42 (a + i)) = true then nI 1 else nI 0) := by
  have key : ∀ m j g, j + m = L → m < g → (∀ i, i < j → keyC (s + i) = μ 42 (a + i)) → f_X5_isSpelled_L3 G μ g (nI s) (nI a) (nI (a + L)) (nI (a + j)) = some (if (List.range L).all (fun i => keyC (s + i) == μ 42 (a + i)) = true then nI 1 else nI 0) := by
    intro m
    induction m with
    | zero =>
      intro j g hj hg h
      obtain ⟨g, rfl⟩ : ∃ y, g = y + 1 := ⟨g - 1, by omega⟩
      obtain rfl : j = L := by omega
      rw [f_X5_isSpelled_L3, if_pos (Int32.le_refl _), if_pos ((allK _).mpr (fun v hv => by rw [h v hv]; exact beq_self_eq_true _))]
      rfl
    | succ m ih =>
      intro j g hj hg h
      obtain ⟨g, rfl⟩ : ∃ y, g = y + 1 := ⟨g - 1, by omega⟩
      have e1 : nI s + nI (a + j) - nI a = nI (s + j) := by
        rw [nI_add, pk_sub (by omega), show s + (a + j) - a = s + j by omega]
      have bl : f_X11_isBelow (nI (s + j)) 131 = 1 := by rw [isB, if_pos ⟨nI_pos' (by omega), nI_lt (b := 131) (by omega) (by omega)⟩]
      rw [f_X5_isSpelled_L3, if_neg (nI_ge (by omega) (by omega)), if_neg (show ¬ (400 : Int32) ≤ nI (a + j) from nI_ge (b := 400) (by omega) (by omega)), e1, bl, if_neg (show ¬ (1 : Int32) = 0 by decide), chkn (by omega) (by omega), chkn (by omega) (by omega), ixn (by omega), ixn (by omega)]
      by_cases e : keyC (s + j) = μ 42 (a + j)
      · rw [if_pos e, nI_1]
        exact ih (j + 1) g (by omega) (by omega) (fun i hi => by
          by_cases q : i = j
          · rw [q]; exact e
          · exact h i (by omega))
      · rw [if_neg e, if_neg (fun q => e (eq_of_beq ((allK _).mp q j (by omega))))]
        rfl
  exact key L 0 G (by omega) (by omega) (fun i hi => absurd hi (by omega))
theorem keyw_c {G a L : Nat} {μ : Mem} (hG : 500 ≤ G) (ha : a + L ≤ 400) : f_X5_keyword G μ (nI a) (nI (a + L)) = some (match kfd (kwP (μ 42) a L) 25 0 with
  | some w => nI (10000 + w)
  | none => 30001) := by
  have key : ∀ m w g, w + m = 25 → 131 - kwS w < g → f_X5_keyword_L8 G μ g (nI a) (nI (a + L)) (nI w) (nI (kwS w)) (nI (kwS w)) = some (match kfd (kwP (μ 42) a L) m w with
      | some w => nI (10000 + w)
      | none => 30001) := by
    intro m
    induction m with
    | zero =>
      intro w g hw hg
      obtain ⟨g, rfl⟩ : ∃ y, g = y + 1 := ⟨g - 1, by omega⟩
      obtain rfl : w = 25 := by omega
      rw [f_X5_keyword_L8, if_pos (by decide)]
      rfl
    | succ m ih =>
      intro w g hw hg
      obtain ⟨q1, q2, q3, q4⟩ := kw_1 w (by omega)
      have q5 := kw_3 w (by omega)
      -- to the blank behind it
      have walk : ∀ r j g, j + r = kwL w → r + (131 - kwS (w + 1)) + 1 < g → ∃ g', 131 - kwS (w + 1) + 1 < g' ∧ f_X5_keyword_L8 G μ g (nI a) (nI (a + L)) (nI w) (nI (kwS w)) (nI (kwS w + j)) = f_X5_keyword_L8 G μ g' (nI a) (nI (a + L)) (nI w) (nI (kwS w)) (nI (kwS w + kwL w)) := by
        intro r
        induction r with
        | zero => intro j g hj hg; exact ⟨g, by omega, by rw [show j = kwL w by omega]⟩
        | succ r ihr =>
          intro j g hj hg
          obtain ⟨g, rfl⟩ : ∃ y, g = y + 1 := ⟨g - 1, by omega⟩
          obtain ⟨g', h1, h2⟩ := ihr (j + 1) g (by omega) (by omega)
          refine ⟨g', h1, ?_⟩
          rw [f_X5_keyword_L8, if_neg (show ¬ (131 : Int32) ≤ nI (kwS w + j) from nI_ge (b := 131) (by omega) (by omega)), chkn (by omega) (by omega), ixn (by omega), if_neg (kw_2 w (by omega) j (by omega) (by omega)), f_X5_keyword_j67, nI_1]
          exact h2
      obtain ⟨g', h1, h2⟩ := walk (kwL w) 0 g (by omega) (by omega)
      rw [Nat.add_zero] at h2
      rw [h2]
      obtain ⟨g', rfl⟩ : ∃ y, g' = y + 1 := ⟨g' - 1, by omega⟩
      have nx : ∀ g, 131 - kwS (w + 1) < g → f_X5_keyword_j58 G μ (f_X5_keyword_L8 G μ g) (nI a) (nI (a + L)) (nI w) (nI (kwS w + kwL w)) = some (match kfd (kwP (μ 42) a L) m (w + 1) with
          | some w => nI (10000 + w)
          | none => 30001) := fun g hg => by
        rw [f_X5_keyword_j58, f_X5_keyword_j67, nI_1, nI_1, ← q2]
        exact ih (w + 1) g (by omega) hg
      have d1 : nI (kwS w + kwL w) - nI (kwS w) = nI (kwL w) := by rw [pk_sub (by omega), Nat.add_sub_cancel_left]
      have d2 : nI (a + L) - nI a = nI L := by rw [pk_sub (by omega), Nat.add_sub_cancel_left]
      rw [f_X5_keyword_L8, if_neg (show ¬ (131 : Int32) ≤ nI (kwS w + kwL w) from nI_ge (b := 131) (by omega) (by omega)), chkn (by omega) (by omega), ixn (by omega), if_pos q1, d1, d2, kfd]
      by_cases e : L = kwL w
      · rw [if_pos (by rw [e]), spelled_ok hG ha (by omega), bndO_s]
        by_cases al : (List.range L).all (fun i => keyC (kwS w + i) == μ 42 (a + i)) = true
        · have p : kwP (μ 42) a L w = true := by unfold kwP; rw [al, decide_eq_true e]; rfl
          rw [if_pos al, if_neg (by decide), if_pos p]
          exact congrArg some (nI_add 10000 w)
        · have p : ¬ kwP (μ 42) a L w = true := by unfold kwP; rw [bool_ne al, Bool.and_false]; decide
          rw [if_neg al, if_pos (show nI 0 = 0 from rfl), if_neg p]
          exact nx g' (by omega)
      · have p : ¬ kwP (μ 42) a L w = true := by unfold kwP; rw [decide_eq_false e, Bool.false_and]; decide
        rw [if_neg (show ¬ nI (kwL w) = nI L by rw [nI_eq (by omega) (by omega)]; exact fun q => e q.symm), if_neg p]
        exact nx g' (by omega)
  exact key 25 0 G (by omega) (by omega)
theorem keyw_r {G a L : Nat} {ρ : Mem} (hG : 500 ≤ G) (ha : a + L ≤ 400) (hL : 0 < L) (hw : ∀ k, k < 132 → ρ 11 k = wdA k) (nb : ∀ i, i < L → ρ 10 (a + i) ≠ 32) : f_X12_wordAt G ρ (nI a) (nI (a + L)) = some (match kfd (kwP (ρ 10) a L) 25 0 with
  | some w => nI w
  | none => -1) := by
  have key : ∀ m w g, w + m = 25 → m < g → f_X12_wordAt_L5 G ρ g (nI a) (nI (a + L)) (nI w - 1) (nI (kwS w)) = some (match kfd (kwP (ρ 10) a L) m w with
      | some w => nI w
      | none => -1) := by
    intro m
    induction m with
    | zero =>
      intro w g hw hg
      obtain ⟨g, rfl⟩ : ∃ y, g = y + 1 := ⟨g - 1, by omega⟩
      obtain rfl : w = 25 := by omega
      rw [f_X12_wordAt_L5, if_pos (by decide)]
      rfl
    | succ m ih =>
      intro w g hww hg
      obtain ⟨g, rfl⟩ : ∃ y, g = y + 1 := ⟨g - 1, by omega⟩
      obtain ⟨q1, q2, q3, q4⟩ := kw_1 w (by omega)
      have q5 := kw_3 w (by omega)
      -- on to the next blank
      have skip : f_X12_wordAt_j88 G ρ (f_X12_wordAt_L5 G ρ g) (nI a) (nI (a + L)) (nI w) (nI (kwS w)) = some (match kfd (kwP (ρ 10) a L) m (w + 1) with
          | some w => nI w
          | none => -1) := by
        have walk : ∀ r j g2, j + r = kwL w → r < g2 → f_X12_wordAt_L94 G ρ (f_X12_wordAt_L5 G ρ g) (f_X12_wordAt_j115 G ρ (f_X12_wordAt_L5 G ρ g)) g2 (nI a) (nI (a + L)) (nI w) (nI (kwS w + j + 1)) = f_X12_wordAt_L5 G ρ g (nI a) (nI (a + L)) (nI w) (nI (kwS (w + 1))) := by
          intro r
          induction r with
          | zero =>
            intro j g2 hj hg2
            obtain ⟨g2, rfl⟩ : ∃ y, g2 = y + 1 := ⟨g2 - 1, by omega⟩
            obtain rfl : j = kwL w := by omega
            rw [f_X12_wordAt_L94, chkn (by omega) (by omega), ixn (by omega), hw _ (by omega), wdA_s, if_pos q1, f_X12_wordAt_j115, q2]
          | succ r ihr =>
            intro j g2 hj hg2
            obtain ⟨g2, rfl⟩ : ∃ y, g2 = y + 1 := ⟨g2 - 1, by omega⟩
            rw [f_X12_wordAt_L94, chkn (by omega) (by omega), ixn (by omega), hw _ (by omega), wdA_s, if_neg (kw_2 w (by omega) j (by omega) (by omega)), nI_1]
            exact ihr (j + 1) g2 (by omega) (by omega)
        rw [f_X12_wordAt_j88, nI_1]
        refine (walk (kwL w) 0 G (by omega) (by omega)).trans ?_
        have e : nI w = nI (w + 1) - 1 := (nI_pred w).symm
        rw [e]
        exact ih (w + 1) g (by omega) (by omega)
      have cmp : ∀ r j g2, j + r = L → r < g2 → j ≤ kwL w → (∀ i, i < j → keyC (kwS w + i) = ρ 10 (a + i)) → f_X12_wordAt_L20 G ρ (f_X12_wordAt_L5 G ρ g) (f_X12_wordAt_j61 G ρ (f_X12_wordAt_L5 G ρ g)) g2 (nI a) (nI (a + L)) (nI w) (nI (kwS w)) (nI j) = some (match kfd (kwP (ρ 10) a L) (m + 1) w with
          | some w => nI w
          | none => -1) := by
        intro r
        induction r with
        | zero =>
          intro j g2 hj hg2 hjk h
          obtain ⟨g2, rfl⟩ : ∃ y, g2 = y + 1 := ⟨g2 - 1, by omega⟩
          obtain rfl : j = L := by omega
          have e1 : nI (kwS w) + 1 + nI j = nI (kwS w + j + 1) := by rw [nI_1, nI_add, show kwS w + 1 + j = kwS w + j + 1 by omega]
          have al : (List.range j).all (fun i => keyC (kwS w + i) == ρ 10 (a + i)) = true := (allK _).mpr (fun v hv => by rw [h v hv]; exact beq_self_eq_true _)
          rw [f_X12_wordAt_L20, nI_add, if_pos (Int32.le_refl _), f_X12_wordAt_j61, nI_add, if_pos rfl, e1, chkn (by omega) (by omega), ixn (by omega), hw _ (by omega), wdA_s, kfd]
          by_cases e : j = kwL w
          · have p : kwP (ρ 10) a j w = true := by unfold kwP; rw [al, decide_eq_true e]; rfl
            rw [if_pos (by rw [e]; exact q1), if_pos p]
          · have p : ¬ kwP (ρ 10) a j w = true := by unfold kwP; rw [decide_eq_false e, Bool.false_and]; decide
            rw [if_neg (kw_2 w (by omega) j (by omega) (by omega)), if_neg p]
            exact skip
        | succ r ihr =>
          intro j g2 hj hg2 hjk h
          obtain ⟨g2, rfl⟩ : ∃ y, g2 = y + 1 := ⟨g2 - 1, by omega⟩
          have e1 : nI (kwS w) + 1 + nI j = nI (kwS w + j + 1) := by rw [nI_1, nI_add, show kwS w + 1 + j = kwS w + j + 1 by omega]
          rw [f_X12_wordAt_L20, nI_add, if_neg (nI_ge (by omega) (by omega)), e1, chkn (by omega) (by omega), chkn (by omega) (by omega), ixn (by omega), ixn (by omega), hw _ (by omega), wdA_s]
          by_cases e : keyC (kwS w + j) = ρ 10 (a + j)
          · rw [if_pos e, nI_1]
            have jl : j < kwL w := by
              rcases Nat.lt_or_ge j (kwL w) with q | q
              · exact q
              · have : j = kwL w := by omega
                rw [this, q1] at e
                exact absurd e.symm (by rw [← this]; exact nb j (by omega))
            exact ihr (j + 1) g2 (by omega) (by omega) (by omega) (fun i hi => by
              by_cases q : i = j
              · rw [q]; exact e
              · exact h i (by omega))
          · have p : ¬ kwP (ρ 10) a L w = true := by
              intro p
              unfold kwP at p
              rw [Bool.and_eq_true] at p
              exact e (eq_of_beq ((allK _).mp p.2 j (by omega)))
            have ne : ¬ nI (a + j) = nI (a + L) := by rw [nI_eq (by omega) (by omega)]; omega
            rw [if_neg e, f_X12_wordAt_j61, nI_add, if_neg ne, kfd, if_neg p]
            exact skip
      rw [f_X12_wordAt_L5, if_neg (show ¬ (131 : Int32) ≤ nI (kwS w) from nI_ge (b := 131) (by omega) (by omega)), show nI w - 1 + 1 = nI w by grind]
      exact cmp L 0 G (by omega) (by omega) (by omega) (fun i hi => absurd hi (by omega))
  exact key 25 0 G (by omega) (by omega)
end
