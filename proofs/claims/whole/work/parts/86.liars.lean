section
theorem men_eq {G : Nat} {μ ρ : Mem} {v : Int32} (hG : 500 ≤ G) (h : MeR 1 μ ρ) : ∃ b : Bool, f_X6_canAllBeSaid G μ v = some (if b = true then nI 1 else nI 0) ∧ f_X12_canLie G ρ v = some (if b = true then nI 1 else nI 0) := by
  obtain ⟨n, n1, n2, n3⟩ := h
  have n1 : LnR μ 28 10 3 n := n1
  have hn := n1.2.2.2
  have e1 : μ 28 3 = nI n := n1.2.2.1
  have key : ∀ m k g f, k + m = n → m < g → m < f → ∃ b : Bool, f_X6_canAllBeSaid_L2 G μ g v (nI k) = some (if b = true then nI 1 else nI 0) ∧ f_X12_canLie_L2 G ρ f v (nI k) = some (if b = true then nI 1 else nI 0) := by
    intro m
    induction m with
    | zero =>
      intro k g f hk hg hf
      obtain ⟨g, rfl⟩ : ∃ x, g = x + 1 := ⟨g - 1, by omega⟩
      obtain ⟨f, rfl⟩ : ∃ x, f = x + 1 := ⟨f - 1, by omega⟩
      exact ⟨true, by simp (disch := omega) only [lit, neg1, nI_1, nI_add, pk_mul, pk_sub, nI_leI, nI_ltI, nI_eq, nI_eqm, chkn, ixn, if_pos, if_neg, bndV_s, bndE_s, bndO_s, reduceIte, irmn, iminn, imaxn, and_self, true_and, and_true, false_and, and_false, f_X6_canAllBeSaid_L2, e1], by simp (disch := omega) only [lit, neg1, nI_1, nI_add, pk_mul, pk_sub, nI_leI, nI_ltI, nI_eq, nI_eqm, chkn, ixn, if_pos, if_neg, bndV_s, bndE_s, bndO_s, reduceIte, irmn, iminn, imaxn, and_self, true_and, and_true, false_and, and_false, f_X12_canLie_L2, n2]⟩
    | succ m ih =>
      intro k g f hk hg hf
      obtain ⟨g, rfl⟩ : ∃ x, g = x + 1 := ⟨g - 1, by omega⟩
      obtain ⟨f, rfl⟩ : ∃ x, f = x + 1 := ⟨f - 1, by omega⟩
      obtain ⟨b, b1, b2⟩ := ih (k + 1) g f (by omega) (by omega) (by omega)
      obtain ⟨w1, w2, w3⟩ := n3 k (by omega)
      have at' : ∀ j, j < 3 → f_X2_at G 28 30 μ (nI k) (nI j) = some (μ 29 (3 * k + j)) := fun j hj => by
        rw [atn n1 (by omega) (by omega) (by omega) (by omega) (show k < n by omega) hj, Nat.mul_comm]
      have a0 := at' 0 (by omega)
      have a1 := at' 1 (by omega)
      have a2 := at' 2 (by omega)
      rw [Nat.add_zero, show μ 29 (3 * k) = ρ 27 k from w1] at a0
      rw [show μ 29 (3 * k + 1) = ρ 28 k from w2] at a1
      rw [show μ 29 (3 * k + 2) = ρ 29 k from w3] at a2
      have tail : ∀ s : Int32, ∃ b : Bool, f_X6_canAllBeSaid_j43 G μ (f_X6_canAllBeSaid_L2 G μ g) v (nI k) s = some (if b = true then nI 1 else nI 0) ∧ f_X12_canLie_j44 G ρ (f_X12_canLie_L2 G ρ f) v (nI k) s = some (if b = true then nI 1 else nI 0) := by
        intro s
        by_cases e : s = f_X11_has v (ρ 27 k)
        · exact ⟨false, by (simp (disch := omega) only [lit, neg1, nI_1, nI_add, pk_mul, pk_sub, nI_leI, nI_ltI, nI_eq, nI_eqm, chkn, ixn, if_pos, if_neg, bndV_s, bndE_s, bndO_s, reduceIte, irmn, iminn, imaxn, and_self, true_and, and_true, false_and, and_false, f_X6_canAllBeSaid_j43, a0, ← e]; rfl), by (simp (disch := omega) only [lit, neg1, nI_1, nI_add, pk_mul, pk_sub, nI_leI, nI_ltI, nI_eq, nI_eqm, chkn, ixn, if_pos, if_neg, bndV_s, bndE_s, bndO_s, reduceIte, irmn, iminn, imaxn, and_self, true_and, and_true, false_and, and_false, f_X12_canLie_j44, has12, ← e]; rfl)⟩
        · exact ⟨b, by rw [← b1]; simp (disch := omega) only [lit, neg1, nI_1, nI_add, pk_mul, pk_sub, nI_leI, nI_ltI, nI_eq, nI_eqm, chkn, ixn, if_pos, if_neg, bndV_s, bndE_s, bndO_s, reduceIte, irmn, iminn, imaxn, and_self, true_and, and_true, false_and, and_false, f_X6_canAllBeSaid_j43, a0, e], by rw [← b2]; simp (disch := omega) only [lit, neg1, nI_1, nI_add, pk_mul, pk_sub, nI_leI, nI_ltI, nI_eq, nI_eqm, chkn, ixn, if_pos, if_neg, bndV_s, bndE_s, bndO_s, reduceIte, irmn, iminn, imaxn, and_self, true_and, and_true, false_and, and_false, f_X12_canLie_j44, has12, e]⟩
      by_cases t : ρ 29 k = nI 1
      · by_cases u : f_X11_has v (ρ 28 k) = nI 1
        · obtain ⟨b, t1, t2⟩ := tail (nI 1)
          exact ⟨b, by rw [← t1]; simp (disch := omega) only [lit, neg1, nI_1, nI_add, pk_mul, pk_sub, nI_leI, nI_ltI, nI_eq, nI_eqm, chkn, ixn, if_pos, if_neg, bndV_s, bndE_s, bndO_s, reduceIte, irmn, iminn, imaxn, and_self, true_and, and_true, false_and, and_false, f_X6_canAllBeSaid_L2, e1, a1, a2, t, f_X6_canAllBeSaid_j35, u], by rw [← t2]; simp (disch := omega) only [lit, neg1, nI_1, nI_add, pk_mul, pk_sub, nI_leI, nI_ltI, nI_eq, nI_eqm, chkn, ixn, if_pos, if_neg, bndV_s, bndE_s, bndO_s, reduceIte, irmn, iminn, imaxn, and_self, true_and, and_true, false_and, and_false, f_X12_canLie_L2, n2, t, f_X12_canLie_j36, has12, u]⟩
        · obtain ⟨b, t1, t2⟩ := tail (nI 0)
          exact ⟨b, by rw [← t1]; simp (disch := omega) only [lit, neg1, nI_1, nI_add, pk_mul, pk_sub, nI_leI, nI_ltI, nI_eq, nI_eqm, chkn, ixn, if_pos, if_neg, bndV_s, bndE_s, bndO_s, reduceIte, irmn, iminn, imaxn, and_self, true_and, and_true, false_and, and_false, f_X6_canAllBeSaid_L2, e1, a1, a2, t, f_X6_canAllBeSaid_j35, u], by rw [← t2]; simp (disch := omega) only [lit, neg1, nI_1, nI_add, pk_mul, pk_sub, nI_leI, nI_ltI, nI_eq, nI_eqm, chkn, ixn, if_pos, if_neg, bndV_s, bndE_s, bndO_s, reduceIte, irmn, iminn, imaxn, and_self, true_and, and_true, false_and, and_false, f_X12_canLie_L2, n2, t, f_X12_canLie_j36, has12, u]⟩
      · by_cases u : f_X11_has v (ρ 28 k) = nI 0
        · obtain ⟨b, t1, t2⟩ := tail (nI 1)
          exact ⟨b, by rw [← t1]; simp (disch := omega) only [lit, neg1, nI_1, nI_add, pk_mul, pk_sub, nI_leI, nI_ltI, nI_eq, nI_eqm, chkn, ixn, if_pos, if_neg, bndV_s, bndE_s, bndO_s, reduceIte, irmn, iminn, imaxn, and_self, true_and, and_true, false_and, and_false, f_X6_canAllBeSaid_L2, e1, a1, a2, t, f_X6_canAllBeSaid_j35, u], by rw [← t2]; simp (disch := omega) only [lit, neg1, nI_1, nI_add, pk_mul, pk_sub, nI_leI, nI_ltI, nI_eq, nI_eqm, chkn, ixn, if_pos, if_neg, bndV_s, bndE_s, bndO_s, reduceIte, irmn, iminn, imaxn, and_self, true_and, and_true, false_and, and_false, f_X12_canLie_L2, n2, t, f_X12_canLie_j36, has12, u]⟩
        · obtain ⟨b, t1, t2⟩ := tail (nI 0)
          exact ⟨b, by rw [← t1]; simp (disch := omega) only [lit, neg1, nI_1, nI_add, pk_mul, pk_sub, nI_leI, nI_ltI, nI_eq, nI_eqm, chkn, ixn, if_pos, if_neg, bndV_s, bndE_s, bndO_s, reduceIte, irmn, iminn, imaxn, and_self, true_and, and_true, false_and, and_false, f_X6_canAllBeSaid_L2, e1, a1, a2, t, f_X6_canAllBeSaid_j35, u], by rw [← t2]; simp (disch := omega) only [lit, neg1, nI_1, nI_add, pk_mul, pk_sub, nI_leI, nI_ltI, nI_eq, nI_eqm, chkn, ixn, if_pos, if_neg, bndV_s, bndE_s, bndO_s, reduceIte, irmn, iminn, imaxn, and_self, true_and, and_true, false_and, and_false, f_X12_canLie_L2, n2, t, f_X12_canLie_j36, has12, u]⟩
  exact key n 0 G G (by omega) (by omega) (by omega)
/-- what both loops over the 64 ways have: c ways, x the fewest, al always, ev ever, y lying (the man a, or none counted) -/
def LiI (w : Int32) (k : Nat) (s : Int32 × Int32 × Int32 × Int32) (t : Int32 × Int32 × Int32) : Prop :=
  ∃ c x al ev y, c ≤ k ∧ al < 64 ∧ ev < 64 ∧ y ≤ c ∧ s = (nI c, (if c = 0 then nI 6 else nI x), nI al, nI ev) ∧ t = (nI c, (if c = 0 then nI 100000000 else nI x), nI y) ∧ x ≤ 6 ∧
    (∀ a, a < 6 → w = nI (10 + a) → (y = c ↔ al.testBit a = true) ∧ (y = 0 ↔ ev.testBit a = false))
theorem s_liars {G : Nat} {bb : Bool} {μ ρ : Mem} (hG : 500 ≤ G) (h : AR bb μ ρ) (p : Int32) : ∃ r ρ', f_X11_liars G μ p = some r ∧ f_X12_liars G p ρ = some (r, ρ') ∧ AR bb μ ρ' := by
  have h0 : AR bb μ (wr ρ 0 0 (nI 0)) := AR_told h
  have Me := (AR_ch h0).1
  by_cases hv : (nI 0 ≤ p ∧ p ≤ nI 1) ∨ (nI 10 ≤ p ∧ p ≤ nI 15)
  · have pv : p = nI 0 ∨ p = nI 1 ∨ ∃ a, a < 6 ∧ p = nI (10 + a) := by
      have n0 : nI 10 = (10 : Int32) := rfl
      rcases hv with ⟨c1, c2⟩ | ⟨c1, c2⟩
      · obtain ⟨k, hk, rfl⟩ := in_of 1 rfl (by omega) c1 c2
        rcases (by omega : k = 0 ∨ k = 1) with e | e
        · exact Or.inl (by rw [e])
        · exact Or.inr (Or.inl (by rw [e]))
      · obtain ⟨k, hk, rfl⟩ := in_of 15 rfl (by omega) (show 0 ≤ p by grind) c2
        have : 10 ≤ k := (nI_leI (by omega) (by omega)).mp c1
        exact Or.inr (Or.inr ⟨k - 10, by omega, by rw [show 10 + (k - 10) = k by omega]⟩)
    obtain ⟨g', f', s, t, k1, k2, ⟨c, x, al, ev, y, i1, i2, i3, i4, rfl, rfl, i5, i6⟩⟩ := loop2Z (fun g v (s : Int32 × Int32 × Int32 × Int32) => f_X6_whoLies_L15 G μ (f_X6_whoLies_j64 G μ) g p s.1 s.2.1 s.2.2.1 s.2.2.2 v) (fun g v (t : Int32 × Int32 × Int32) => f_X12_liars_L41 G (f_X12_liars_j106 G) g p t.1 t.2.1 t.2.2 v (wr ρ 0 0 (nI 0))) 64 (LiI p) (by
      rintro g f i s t hi ⟨c, x, al, ev, y, i1, i2, i3, i4, rfl, rfl, i5, i6⟩
      show ∃ s' t', f_X6_whoLies_L15 G μ (f_X6_whoLies_j64 G μ) (g + 1) p (nI c) (if c = 0 then nI 6 else nI x) (nI al) (nI ev) (nI i) = f_X6_whoLies_L15 G μ (f_X6_whoLies_j64 G μ) g p (Prod.fst s') (Prod.fst (Prod.snd s')) (Prod.fst (Prod.snd (Prod.snd s'))) (Prod.snd (Prod.snd (Prod.snd s'))) (nI (i + 1)) ∧ f_X12_liars_L41 G (f_X12_liars_j106 G) (f + 1) p (nI c) (if c = 0 then nI 100000000 else nI x) (nI y) (nI i) (wr ρ 0 0 (nI 0)) = f_X12_liars_L41 G (f_X12_liars_j106 G) f p (Prod.fst t') (Prod.fst (Prod.snd t')) (Prod.snd (Prod.snd t')) (nI (i + 1)) (wr ρ 0 0 (nI 0)) ∧ _
      obtain ⟨b, b1, b2⟩ := men_eq (v := nI i) hG Me
      cases b with
      | false =>
        rw [if_neg (by decide)] at b1 b2
        refine ⟨_, _, ?_, ?_, c, x, al, ev, y, by omega, i2, i3, i4, rfl, rfl, i5, i6⟩
        · simp (disch := omega) only [lit, neg1, nI_1, nI_add, pk_mul, pk_sub, nI_leI, nI_ltI, nI_eq, nI_eqm, chkn, ixn, if_pos, if_neg, bndV_s, bndE_s, bndO_s, reduceIte, irmn, iminn, imaxn, and_self, true_and, and_true, false_and, and_false, f_X6_whoLies_L15, b1, f_X6_whoLies_j58]
        · simp (disch := omega) only [lit, neg1, nI_1, nI_add, pk_mul, pk_sub, nI_leI, nI_ltI, nI_eq, nI_eqm, chkn, ixn, if_pos, if_neg, bndV_s, bndE_s, bndO_s, reduceIte, irmn, iminn, imaxn, and_self, true_and, and_true, false_and, and_false, f_X12_liars_L41, b2, f_X12_liars_j100]
      | true =>
        rw [if_pos rfl] at b1 b2
        have bc := bc12 i (by omega)
        have oo := ones_ok (ρ := wr ρ 0 0 (nI 0)) hG (show i < 4096 by omega)
        have pm : pcn i 12 ≤ 6 := by
          have : ∀ n, n < 64 → pcn n 12 ≤ 6 := by decide +kernel
          exact this i hi
        have fw : imin (if c = 0 then nI 6 else nI x) (nI (pcn i 12)) = nI (if c = 0 then pcn i 12 else min x (pcn i 12)) := by
          by_cases e : c = 0
          · rw [if_pos e, if_pos e, iminn (by omega) (by omega), show min 6 (pcn i 12) = pcn i 12 by omega]
          · rw [if_neg e, if_neg e, iminn (by omega) (by omega)]
        have fr : imin (if c = 0 then nI 100000000 else nI x) (nI (pcn i 12)) = nI (if c = 0 then pcn i 12 else min x (pcn i 12)) := by
          by_cases e : c = 0
          · rw [if_pos e, if_pos e, iminn (by omega) (by omega), show min 100000000 (pcn i 12) = pcn i 12 by omega]
          · rw [if_neg e, if_neg e, iminn (by omega) (by omega)]
        have i64 : i < 2 ^ 6 := hi
        have lt1 : al &&& i < 64 := Nat.lt_of_le_of_lt Nat.and_le_left i2
        have lt2 : ev ||| i < 64 := or_lt (k := 6) i3 i64
        have hx' : (if c = 0 then pcn i 12 else min x (pcn i 12)) ≤ 6 := by split <;> omega
        rcases pv with rfl | rfl | ⟨a, ha, rfl⟩
        · refine ⟨(nI (c + 1), nI (if c = 0 then pcn i 12 else min x (pcn i 12)), nI (al &&& i), nI (ev ||| i)), (nI (c + 1), nI (if c = 0 then pcn i 12 else min x (pcn i 12)), nI y), ?_, ?_, c + 1, _, _, _, y, by omega, lt1, lt2, by omega, by rw [if_neg (show ¬ c + 1 = 0 by omega)], by rw [if_neg (show ¬ c + 1 = 0 by omega)], hx', fun a ha e => absurd ((nI_eq (by omega) (by omega)).mp e) (by omega)⟩
          · simp (disch := omega) only [lit, neg1, nI_1, nI_add, pk_mul, pk_sub, nI_leI, nI_ltI, nI_eq, nI_eqm, chkn, ixn, if_pos, if_neg, bndV_s, bndE_s, bndO_s, reduceIte, irmn, iminn, imaxn, and_self, true_and, and_true, false_and, and_false, f_X6_whoLies_L15, b1, f_X6_whoLies_j58, bc, fw, b_nand, b_nor]
          · simp (disch := omega) only [lit, neg1, nI_1, nI_add, pk_mul, pk_sub, nI_leI, nI_ltI, nI_eq, nI_eqm, chkn, ixn, if_pos, if_neg, bndV_s, bndE_s, bndO_s, reduceIte, irmn, iminn, imaxn, and_self, true_and, and_true, false_and, and_false, f_X12_liars_L41, b2, oo, ls12, fr, f_X12_liars_j100]
        · refine ⟨(nI (c + 1), nI (if c = 0 then pcn i 12 else min x (pcn i 12)), nI (al &&& i), nI (ev ||| i)), (nI (c + 1), nI (if c = 0 then pcn i 12 else min x (pcn i 12)), nI y), ?_, ?_, c + 1, _, _, _, y, by omega, lt1, lt2, by omega, by rw [if_neg (show ¬ c + 1 = 0 by omega)], by rw [if_neg (show ¬ c + 1 = 0 by omega)], hx', fun a ha e => absurd ((nI_eq (by omega) (by omega)).mp e) (by omega)⟩
          · simp (disch := omega) only [lit, neg1, nI_1, nI_add, pk_mul, pk_sub, nI_leI, nI_ltI, nI_eq, nI_eqm, chkn, ixn, if_pos, if_neg, bndV_s, bndE_s, bndO_s, reduceIte, irmn, iminn, imaxn, and_self, true_and, and_true, false_and, and_false, f_X6_whoLies_L15, b1, f_X6_whoLies_j58, bc, fw, b_nand, b_nor]
          · simp (disch := omega) only [lit, neg1, nI_1, nI_add, pk_mul, pk_sub, nI_leI, nI_ltI, nI_eq, nI_eqm, chkn, ixn, if_pos, if_neg, bndV_s, bndE_s, bndO_s, reduceIte, irmn, iminn, imaxn, and_self, true_and, and_true, false_and, and_false, f_X12_liars_L41, b2, oo, ls12, fr, f_X12_liars_j100]
        · obtain ⟨j1, j2⟩ := i6 a ha rfl
          have hh := hasn (a := i) (w := a) (by omega) (by omega)
          rw [← has12] at hh
          have es : nI (10 + a) - nI 10 = nI a := by rw [pk_sub (by omega), show 10 + a - 10 = a by omega]
          by_cases bit : i.testBit a = true
          · rw [if_pos bit] at hh
            refine ⟨(nI (c + 1), nI (if c = 0 then pcn i 12 else min x (pcn i 12)), nI (al &&& i), nI (ev ||| i)), (nI (c + 1), nI (if c = 0 then pcn i 12 else min x (pcn i 12)), nI (y + 1)), ?_, ?_, c + 1, _, _, _, y + 1, by omega, lt1, lt2, by omega, by rw [if_neg (show ¬ c + 1 = 0 by omega)], by rw [if_neg (show ¬ c + 1 = 0 by omega)], hx', fun a' ha' e => ?_⟩
            · simp (disch := omega) only [lit, neg1, nI_1, nI_add, pk_mul, pk_sub, nI_leI, nI_ltI, nI_eq, nI_eqm, chkn, ixn, if_pos, if_neg, bndV_s, bndE_s, bndO_s, reduceIte, irmn, iminn, imaxn, and_self, true_and, and_true, false_and, and_false, f_X6_whoLies_L15, b1, f_X6_whoLies_j58, bc, fw, b_nand, b_nor]
            · simp (disch := omega) only [lit, neg1, nI_1, nI_add, pk_mul, pk_sub, nI_leI, nI_ltI, nI_eq, nI_eqm, chkn, ixn, if_pos, if_neg, bndV_s, bndE_s, bndO_s, reduceIte, irmn, iminn, imaxn, and_self, true_and, and_true, false_and, and_false, f_X12_liars_L41, b2, oo, ls12, fr, f_X12_liars_j100, es, hh]
            · have : a' = a := by have := (nI_eq (by omega) (by omega)).mp e; omega
              subst this
              rw [Nat.testBit_and, Nat.testBit_or, bit, Bool.and_true, Bool.or_true]
              constructor
              · rw [← j1]; omega
              · simp
          · rw [if_neg bit] at hh
            refine ⟨(nI (c + 1), nI (if c = 0 then pcn i 12 else min x (pcn i 12)), nI (al &&& i), nI (ev ||| i)), (nI (c + 1), nI (if c = 0 then pcn i 12 else min x (pcn i 12)), nI y), ?_, ?_, c + 1, _, _, _, y, by omega, lt1, lt2, by omega, by rw [if_neg (show ¬ c + 1 = 0 by omega)], by rw [if_neg (show ¬ c + 1 = 0 by omega)], hx', fun a' ha' e => ?_⟩
            · simp (disch := omega) only [lit, neg1, nI_1, nI_add, pk_mul, pk_sub, nI_leI, nI_ltI, nI_eq, nI_eqm, chkn, ixn, if_pos, if_neg, bndV_s, bndE_s, bndO_s, reduceIte, irmn, iminn, imaxn, and_self, true_and, and_true, false_and, and_false, f_X6_whoLies_L15, b1, f_X6_whoLies_j58, bc, fw, b_nand, b_nor]
            · simp (disch := omega) only [lit, neg1, nI_1, nI_add, pk_mul, pk_sub, nI_leI, nI_ltI, nI_eq, nI_eqm, chkn, ixn, if_pos, if_neg, bndV_s, bndE_s, bndO_s, reduceIte, irmn, iminn, imaxn, and_self, true_and, and_true, false_and, and_false, f_X12_liars_L41, b2, oo, ls12, fr, f_X12_liars_j100, es, hh]
            · have : a' = a := by have := (nI_eq (by omega) (by omega)).mp e; omega
              subst this
              have bf : i.testBit a' = false := by cases hb : i.testBit a' <;> simp_all
              rw [Nat.testBit_and, Nat.testBit_or, bf, Bool.and_false, Bool.or_false]
              constructor
              · constructor
                · intro q; omega
                · intro q; cases q
              · exact j2) (by omega : 64 < G) (by omega : 64 < G) (s := (nI 0, nI 6, nI 63, nI 0)) (t := (nI 0, nI 100000000, nI 0)) ⟨0, 0, 63, 0, 0, by omega, by omega, by omega, by omega, rfl, rfl, by omega, fun a ha _ => by
        rcases (by omega : a = 0 ∨ a = 1 ∨ a = 2 ∨ a = 3 ∨ a = 4 ∨ a = 5) with e | e | e | e | e | e <;> subst e <;> decide⟩
    have fin : f_X11_liars G μ p = f_X6_whoLies_j64 G μ p (nI c) (if c = 0 then nI 6 else nI x) (nI al) (nI ev) := by
      have : f_X6_whoLies G μ p = f_X6_whoLies_j64 G μ p (nI c) (if c = 0 then nI 6 else nI x) (nI al) (nI ev) := by
        refine Eq.trans k1 ?_
        show f_X6_whoLies_L15 G μ (f_X6_whoLies_j64 G μ) (g' + 1) p (nI c) (if c = 0 then nI 6 else nI x) (nI al) (nI ev) (nI 64) = _
        generalize (if c = 0 then nI 6 else nI x) = fx
        simp (disch := omega) only [lit, neg1, nI_1, nI_add, pk_mul, pk_sub, nI_leI, nI_ltI, nI_eq, nI_eqm, chkn, ixn, if_pos, if_neg, bndV_s, bndE_s, bndO_s, reduceIte, irmn, iminn, imaxn, and_self, true_and, and_true, false_and, and_false, f_X6_whoLies_L15]
      unfold f_X11_liars
      rw [this]
      cases f_X6_whoLies_j64 G μ p (nI c) (if c = 0 then nI 6 else nI x) (nI al) (nI ev) <;> rfl
    have fin2 : f_X12_liars G p ρ = f_X12_liars_j106 G p (nI c) (if c = 0 then nI 100000000 else nI x) (nI y) (wr ρ 0 0 (nI 0)) := by
      have : f_X12_liars_L41 G (f_X12_liars_j106 G) G p (nI 0) (nI 100000000) (nI 0) (nI 0) (wr ρ 0 0 (nI 0)) = f_X12_liars_j106 G p (nI c) (if c = 0 then nI 100000000 else nI x) (nI y) (wr ρ 0 0 (nI 0)) := by
        refine Eq.trans k2 ?_
        show f_X12_liars_L41 G (f_X12_liars_j106 G) (f' + 1) p (nI c) (if c = 0 then nI 100000000 else nI x) (nI y) (nI 64) (wr ρ 0 0 (nI 0)) = _
        generalize (if c = 0 then nI 100000000 else nI x) = fx
        simp (disch := omega) only [lit, neg1, nI_1, nI_add, pk_mul, pk_sub, nI_leI, nI_ltI, nI_eq, nI_eqm, chkn, ixn, if_pos, if_neg, bndV_s, bndE_s, bndO_s, reduceIte, irmn, iminn, imaxn, and_self, true_and, and_true, false_and, and_false, f_X12_liars_L41]
      rw [← this]
      rcases pv with rfl | rfl | ⟨a, ha, rfl⟩
      · simp (disch := omega) only [lit, neg1, nI_1, nI_add, pk_mul, pk_sub, nI_leI, nI_ltI, nI_eq, nI_eqm, chkn, ixn, if_pos, if_neg, bndV_s, bndE_s, bndO_s, reduceIte, irmn, iminn, imaxn, and_self, true_and, and_true, false_and, and_false, f_X12_liars, isI, f_X12_liars_j29]
      · simp (disch := omega) only [lit, neg1, nI_1, nI_add, pk_mul, pk_sub, nI_leI, nI_ltI, nI_eq, nI_eqm, chkn, ixn, if_pos, if_neg, bndV_s, bndE_s, bndO_s, reduceIte, irmn, iminn, imaxn, and_self, true_and, and_true, false_and, and_false, f_X12_liars, isI, f_X12_liars_j29]
      · simp (disch := omega) only [lit, neg1, nI_1, nI_add, pk_mul, pk_sub, nI_leI, nI_ltI, nI_eq, nI_eqm, chkn, ixn, if_pos, if_neg, bndV_s, bndE_s, bndO_s, reduceIte, irmn, iminn, imaxn, and_self, true_and, and_true, false_and, and_false, f_X12_liars, isI, f_X12_liars_j29]
    rw [fin, fin2]
    rcases pv with rfl | rfl | ⟨a, ha, rfl⟩
    · exact ⟨nI c, _, by simp (disch := omega) only [lit, neg1, nI_1, nI_add, pk_mul, pk_sub, nI_leI, nI_ltI, nI_eq, nI_eqm, chkn, ixn, if_pos, if_neg, bndV_s, bndE_s, bndO_s, reduceIte, irmn, iminn, imaxn, and_self, true_and, and_true, false_and, and_false, f_X6_whoLies_j64], by simp (disch := omega) only [lit, neg1, nI_1, nI_add, pk_mul, pk_sub, nI_leI, nI_ltI, nI_eq, nI_eqm, chkn, ixn, if_pos, if_neg, bndV_s, bndE_s, bndO_s, reduceIte, irmn, iminn, imaxn, and_self, true_and, and_true, false_and, and_false, f_X12_liars_j106], h0⟩
    · by_cases c0 : c = 0
      · subst c0
        exact ⟨nI 4294967295, _, by simp (disch := omega) only [lit, neg1, nI_1, nI_add, pk_mul, pk_sub, nI_leI, nI_ltI, nI_eq, nI_eqm, chkn, ixn, if_pos, if_neg, bndV_s, bndE_s, bndO_s, reduceIte, irmn, iminn, imaxn, and_self, true_and, and_true, false_and, and_false, f_X6_whoLies_j64], by simp (disch := omega) only [lit, neg1, nI_1, nI_add, pk_mul, pk_sub, nI_leI, nI_ltI, nI_eq, nI_eqm, chkn, ixn, if_pos, if_neg, bndV_s, bndE_s, bndO_s, reduceIte, irmn, iminn, imaxn, and_self, true_and, and_true, false_and, and_false, f_X12_liars_j106], h0⟩
      · rw [if_neg c0, if_neg c0]
        exact ⟨nI x, _, by simp (disch := omega) only [lit, neg1, nI_1, nI_add, pk_mul, pk_sub, nI_leI, nI_ltI, nI_eq, nI_eqm, chkn, ixn, if_pos, if_neg, bndV_s, bndE_s, bndO_s, reduceIte, irmn, iminn, imaxn, and_self, true_and, and_true, false_and, and_false, f_X6_whoLies_j64, f_X6_whoLies_j93], by simp (disch := omega) only [lit, neg1, nI_1, nI_add, pk_mul, pk_sub, nI_leI, nI_ltI, nI_eq, nI_eqm, chkn, ixn, if_pos, if_neg, bndV_s, bndE_s, bndO_s, reduceIte, irmn, iminn, imaxn, and_self, true_and, and_true, false_and, and_false, f_X12_liars_j106], h0⟩
    · by_cases c0 : c = 0
      · subst c0
        exact ⟨nI 4294967295, _, by simp (disch := omega) only [lit, neg1, nI_1, nI_add, pk_mul, pk_sub, nI_leI, nI_ltI, nI_eq, nI_eqm, chkn, ixn, if_pos, if_neg, bndV_s, bndE_s, bndO_s, reduceIte, irmn, iminn, imaxn, and_self, true_and, and_true, false_and, and_false, f_X6_whoLies_j64], by simp (disch := omega) only [lit, neg1, nI_1, nI_add, pk_mul, pk_sub, nI_leI, nI_ltI, nI_eq, nI_eqm, chkn, ixn, if_pos, if_neg, bndV_s, bndE_s, bndO_s, reduceIte, irmn, iminn, imaxn, and_self, true_and, and_true, false_and, and_false, f_X12_liars_j106], h0⟩
      · rw [if_neg c0, if_neg c0]
        obtain ⟨j1, j2⟩ := i6 a ha rfl
        have ha1 := hasn (a := al) (w := a) (by omega) (by omega)
        have ha2 := hasn (a := ev) (w := a) (by omega) (by omega)
        have es : nI (10 + a) - nI 10 = nI a := by rw [pk_sub (by omega), show 10 + a - 10 = a by omega]
        by_cases b1 : al.testBit a = true
        · rw [if_pos b1] at ha1
          have := j1.mpr b1
          subst this
          exact ⟨nI 1, _, by simp (disch := omega) only [lit, neg1, nI_1, nI_add, pk_mul, pk_sub, nI_leI, nI_ltI, nI_eq, nI_eqm, chkn, ixn, if_pos, if_neg, bndV_s, bndE_s, bndO_s, reduceIte, irmn, iminn, imaxn, and_self, true_and, and_true, false_and, and_false, f_X6_whoLies_j64, f_X6_whoLies_j93, isB, es, ha1], by simp (disch := omega) only [lit, neg1, nI_1, nI_add, pk_mul, pk_sub, nI_leI, nI_ltI, nI_eq, nI_eqm, chkn, ixn, if_pos, if_neg, bndV_s, bndE_s, bndO_s, reduceIte, irmn, iminn, imaxn, and_self, true_and, and_true, false_and, and_false, f_X12_liars_j106], h0⟩
        · rw [if_neg b1] at ha1
          have ny : ¬ y = c := fun q => b1 (j1.mp q)
          by_cases b2 : ev.testBit a = true
          · rw [if_pos b2] at ha2
            have ny0 : ¬ y = 0 := fun q => by rw [j2.mp q] at b2; cases b2
            exact ⟨nI 4294967295, _, by simp (disch := omega) only [lit, neg1, nI_1, nI_add, pk_mul, pk_sub, nI_leI, nI_ltI, nI_eq, nI_eqm, chkn, ixn, if_pos, if_neg, bndV_s, bndE_s, bndO_s, reduceIte, irmn, iminn, imaxn, and_self, true_and, and_true, false_and, and_false, f_X6_whoLies_j64, f_X6_whoLies_j93, isB, es, ha1, ha2], by simp (disch := omega) only [lit, neg1, nI_1, nI_add, pk_mul, pk_sub, nI_leI, nI_ltI, nI_eq, nI_eqm, chkn, ixn, if_pos, if_neg, bndV_s, bndE_s, bndO_s, reduceIte, irmn, iminn, imaxn, and_self, true_and, and_true, false_and, and_false, f_X12_liars_j106], h0⟩
          · rw [if_neg b2] at ha2
            have y0 : y = 0 := j2.mpr (by cases hb : ev.testBit a <;> simp_all)
            subst y0
            exact ⟨nI 0, _, by simp (disch := omega) only [lit, neg1, nI_1, nI_add, pk_mul, pk_sub, nI_leI, nI_ltI, nI_eq, nI_eqm, chkn, ixn, if_pos, if_neg, bndV_s, bndE_s, bndO_s, reduceIte, irmn, iminn, imaxn, and_self, true_and, and_true, false_and, and_false, f_X6_whoLies_j64, f_X6_whoLies_j93, isB, es, ha1, ha2], by simp (disch := omega) only [lit, neg1, nI_1, nI_add, pk_mul, pk_sub, nI_leI, nI_ltI, nI_eq, nI_eqm, chkn, ixn, if_pos, if_neg, bndV_s, bndE_s, bndO_s, reduceIte, irmn, iminn, imaxn, and_self, true_and, and_true, false_and, and_false, f_X12_liars_j106], h0⟩
  · have p0 : ¬ p = nI 0 := fun e => hv (Or.inl (by rw [e]; decide))
    have p1 : ¬ p = nI 1 := fun e => hv (Or.inl (by rw [e]; decide))
    have n0 : nI 0 = (0 : Int32) := rfl
    have n6 : nI 6 = (6 : Int32) := rfl
    have n10 : nI 10 = (10 : Int32) := rfl
    have n15 : nI 15 = (15 : Int32) := rfl
    have pb : ¬ (nI 0 ≤ p - nI 10 ∧ p - nI 10 < nI 6) := by
      rintro ⟨c1, c2⟩
      apply hv
      right
      obtain ⟨k, hk, e⟩ := lt_of 6 rfl (by omega) c1 c2
      have : p = nI (k + 10) := by rw [← nI_add]; grind
      rw [this]
      exact ⟨nI_le (by omega) (by omega), nI_le (by omega) (by omega)⟩
    obtain ⟨g', s, k1, ⟨c, x, al, ev, i1, rfl⟩⟩ := loopZ (fun g v (s : Int32 × Int32 × Int32 × Int32) => f_X6_whoLies_L15 G μ (f_X6_whoLies_j64 G μ) g p s.1 s.2.1 s.2.2.1 s.2.2.2 v) 64 (fun k s => ∃ c x al ev, c ≤ k ∧ s = (nI c, x, al, ev)) (by
      rintro g i s hi ⟨c, x, al, ev, i1, rfl⟩
      show ∃ s', f_X6_whoLies_L15 G μ (f_X6_whoLies_j64 G μ) (g + 1) p (nI c) x al ev (nI i) = f_X6_whoLies_L15 G μ (f_X6_whoLies_j64 G μ) g p (Prod.fst s') (Prod.fst (Prod.snd s')) (Prod.fst (Prod.snd (Prod.snd s'))) (Prod.snd (Prod.snd (Prod.snd s'))) (nI (i + 1)) ∧ _
      obtain ⟨b, b1, b2⟩ := men_eq (v := nI i) hG Me
      cases b with
      | false =>
        rw [if_neg (by decide)] at b1
        exact ⟨(nI c, x, al, ev), by simp (disch := omega) only [lit, neg1, nI_1, nI_add, pk_mul, pk_sub, nI_leI, nI_ltI, nI_eq, nI_eqm, chkn, ixn, if_pos, if_neg, bndV_s, bndE_s, bndO_s, reduceIte, irmn, iminn, imaxn, and_self, true_and, and_true, false_and, and_false, f_X6_whoLies_L15, b1, f_X6_whoLies_j58], c, x, al, ev, by omega, rfl⟩
      | true =>
        rw [if_pos rfl] at b1
        exact ⟨(nI (c + 1), _, _, _), by simp (disch := omega) only [lit, neg1, nI_1, nI_add, pk_mul, pk_sub, nI_leI, nI_ltI, nI_eq, nI_eqm, chkn, ixn, if_pos, if_neg, bndV_s, bndE_s, bndO_s, reduceIte, irmn, iminn, imaxn, and_self, true_and, and_true, false_and, and_false, f_X6_whoLies_L15, b1, f_X6_whoLies_j58]; rfl, c + 1, _, _, _, by omega, rfl⟩) (by omega : 64 < G) (s := (nI 0, nI 6, nI 63, nI 0)) ⟨0, nI 6, nI 63, nI 0, by omega, rfl⟩
    have fin : f_X6_whoLies G μ p = f_X6_whoLies_j64 G μ p (nI c) x al ev := by
      refine Eq.trans k1 ?_
      show f_X6_whoLies_L15 G μ (f_X6_whoLies_j64 G μ) (g' + 1) p (nI c) x al ev (nI 64) = _
      simp (disch := omega) only [lit, neg1, nI_1, nI_add, pk_mul, pk_sub, nI_leI, nI_ltI, nI_eq, nI_eqm, chkn, ixn, if_pos, if_neg, bndV_s, bndE_s, bndO_s, reduceIte, irmn, iminn, imaxn, and_self, true_and, and_true, false_and, and_false, f_X6_whoLies_L15]
    refine no_r h (r := nI 4294967295) ?_ ?_
    · unfold f_X11_liars
      rw [fin]
      by_cases c0 : c = 0
      · subst c0
        simp (disch := omega) only [lit, neg1, nI_1, nI_add, pk_mul, pk_sub, nI_leI, nI_ltI, nI_eq, nI_eqm, chkn, ixn, if_pos, if_neg, bndV_s, bndE_s, bndO_s, reduceIte, irmn, iminn, imaxn, and_self, true_and, and_true, false_and, and_false, f_X6_whoLies_j64, p0]
      · simp (disch := omega) only [lit, neg1, nI_1, nI_add, pk_mul, pk_sub, nI_leI, nI_ltI, nI_eq, nI_eqm, chkn, ixn, if_pos, if_neg, bndV_s, bndE_s, bndO_s, reduceIte, irmn, iminn, imaxn, and_self, true_and, and_true, false_and, and_false, f_X6_whoLies_j64, p0, p1, isB, pb]
    · have h1 : ¬ (nI 0 ≤ p ∧ p ≤ nI 1) := fun q => hv (Or.inl q)
      have h2 : ¬ (nI 10 ≤ p ∧ p ≤ nI 15) := fun q => hv (Or.inr q)
      simp (disch := omega) only [lit, neg1, nI_1, nI_add, pk_mul, pk_sub, nI_leI, nI_ltI, nI_eq, nI_eqm, chkn, ixn, if_pos, if_neg, bndV_s, bndE_s, bndO_s, reduceIte, irmn, iminn, imaxn, and_self, true_and, and_true, false_and, and_false, f_X12_liars, isI, h1, h2]
end
