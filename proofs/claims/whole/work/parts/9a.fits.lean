section
def GuD (μ ρ : Mem) (n : Nat) (Q R E : Nat → Nat) : Prop := LnR μ 30 8 3 n ∧ ρ 0 51 = nI n ∧ ∀ i, i < n → Q i < 216 ∧ R i + E i ≤ 3 ∧ μ 31 (3 * i) = nI (Q i) ∧ ρ 30 i = nI (dgt (Q i)) ∧ μ 31 (3 * i + 1) = nI (R i) ∧ μ 31 (3 * i + 2) = nI (E i) ∧ ρ 31 i = nI (4 * R i + E i)
theorem guD_of {μ ρ : Mem} (h : GuR 1 μ ρ) : ∃ n Q R E, GuD μ ρ n Q R E := by
  obtain ⟨n, n1, n2, n3⟩ := h
  refine ⟨n, fun i => if h : i < n then (n3 i h).choose else 0, fun i => if h : i < n then (n3 i h).choose_spec.choose else 0, fun i => if h : i < n then (n3 i h).choose_spec.choose_spec.choose else 0, n1, n2, fun i hi => ?_⟩
  simp only [dif_pos hi]
  exact (n3 i hi).choose_spec.choose_spec.choose_spec
/-- does the row fit -/
def ftB (n : Nat) (Q R E : Nat → Nat) (row : Nat) : Bool := (List.range n).all (fun i => t5 (Q i) row == 5 * R i + E i)
theorem ftB_ok {n : Nat} {Q R E : Nat → Nat} {row : Nat} : ftB n Q R E row = true ↔ ∀ i, i < n → t5 (Q i) row = 5 * R i + E i := by
  unfold ftB
  rw [List.all_eq_true]
  simp only [List.mem_range, beq_iff_eq]
theorem fitC_ft {n : Nat} {μ ρ : Mem} {Q R E : Nat → Nat} (D : GuD μ ρ n Q R E) {row : Nat} (hr : row < 216) : fitC μ n row = ftB n Q R E row := by
  unfold fitC ftB
  have : ∀ l : List Nat, (∀ i, i ∈ l → i < n) → l.all (fun i => nI (t5 (ix (μ 31 (3 * i))) row) == 5 * μ 31 (3 * i + 1) + μ 31 (3 * i + 2)) = l.all (fun i => t5 (Q i) row == 5 * R i + E i) := by
    intro l
    induction l with
    | nil => intro _; rfl
    | cons i l ih =>
      intro h
      rw [List.all_cons, List.all_cons, ih (fun j hj => h j (List.mem_cons_of_mem _ hj))]
      congr 1
      obtain ⟨d1, d2, d3, d4, d5, d6, d7⟩ := D.2.2 i (h i List.mem_cons_self)
      have := rt_al d1 hr
      have t16 : t5 (Q i) row < 16 := by unfold t5; omega
      rw [d3, d5, d6, ixn (by omega), show (5 : Int32) = nI 5 from rfl, pk_mul, nI_add]
      have e : (nI (t5 (Q i) row) = nI (5 * R i + E i)) ↔ t5 (Q i) row = 5 * R i + E i := nI_eq (by omega) (by omega)
      rw [Bool.eq_iff_iff, beq_iff_eq, beq_iff_eq]
      exact e
  exact this _ (fun i hi => List.mem_range.mp hi)
theorem canBe_ok {G n row : Nat} {μ ρ : Mem} {Q R E : Nat → Nat} (hG : 500 ≤ G) (D : GuD μ ρ n Q R E) (P : ∀ r, r < 216 → μ 106 r = plA r ∧ μ 107 r = taA r) (hr : row < 216) : f_X4_canBe G μ (nI row) = some (if ftB n Q R E row = true then nI 1 else nI 0) := by
  have hn : n ≤ 8 := D.1.2.2.2
  have e1 : μ 30 3 = nI n := D.1.2.2.1
  have key : ∀ m i g, i + m = n → m < g → (∀ j, j < i → t5 (Q j) row = 5 * R j + E j) → f_X4_canBe_L2 G μ g (nI row) (nI i) = some (if ftB n Q R E row = true then nI 1 else nI 0) := by
    intro m
    induction m with
    | zero =>
      intro i g hi hg h
      obtain ⟨g, rfl⟩ : ∃ x, g = x + 1 := ⟨g - 1, by omega⟩
      rw [if_pos (ftB_ok.mpr (fun j hj => h j (by omega)))]
      simp (disch := omega) only [lit, neg1, nI_1, nI_add, pk_mul, pk_sub, nI_leI, nI_ltI, nI_eq, nI_eqm, chkn, ixn, if_pos, if_neg, bndV_s, bndE_s, bndO_s, reduceIte, irmn, iminn, imaxn, and_self, true_and, and_true, false_and, and_false, f_X4_canBe_L2, e1]
    | succ m ih =>
      intro i g hi hg h
      obtain ⟨g, rfl⟩ : ∃ x, g = x + 1 := ⟨g - 1, by omega⟩
      obtain ⟨d1, d2, d3, d4, d5, d6, d7⟩ := D.2.2 i (by omega)
      have at' : ∀ j, j < 3 → f_X2_at G 30 24 μ (nI i) (nI j) = some (μ 31 (3 * i + j)) := fun j hj => by
        rw [atn D.1 (by omega) (by omega) (by omega) (by omega) (show i < n by omega) hj, Nat.mul_comm]
      have a0 := at' 0 (by omega)
      have a1 := at' 1 (by omega)
      have a2 := at' 2 (by omega)
      rw [Nat.add_zero, d3] at a0
      rw [d5] at a1
      rw [d6] at a2
      have tk := told_ok (G := G) P d1 hr
      have := rt_al d1 hr
      have t16 : t5 (Q i) row < 16 := by unfold t5; omega
      have q0 : (0 : Int32) ≤ nI (Q i) := nI_pos' (by omega)
      by_cases c : t5 (Q i) row = 5 * R i + E i
      · rw [← ih (i + 1) g (by omega) (by omega) (fun j hj => by
          by_cases e : j = i
          · rw [e]; exact c
          · exact h j (by omega))]
        rw [c] at tk
        simp (disch := omega) only [lit, neg1, nI_1, nI_add, pk_mul, pk_sub, nI_leI, nI_ltI, nI_eq, nI_eqm, chkn, ixn, if_pos, if_neg, bndV_s, bndE_s, bndO_s, reduceIte, irmn, iminn, imaxn, and_self, true_and, and_true, false_and, and_false, f_X4_canBe_L2, e1, a0, a1, a2, isB, tk, f_X4_canBe_j60]
      · rw [if_neg (fun q => c (ftB_ok.mp q i (by omega)))]
        simp (disch := omega) only [lit, neg1, nI_1, nI_add, pk_mul, pk_sub, nI_leI, nI_ltI, nI_eq, nI_eqm, chkn, ixn, if_pos, if_neg, bndV_s, bndE_s, bndO_s, reduceIte, irmn, iminn, imaxn, and_self, true_and, and_true, false_and, and_false, f_X4_canBe_L2, e1, a0, a1, a2, isB, tk, f_X4_canBe_j60, c]
  exact key n 0 G (by omega) (by omega) (fun j hj => absurd hj (by omega))
theorem fits12 {G n row : Nat} {μ ρ ρ' : Mem} {Q R E : Nat → Nat} (hG : 500 ≤ G) (D : GuD μ ρ n Q R E) (h0 : ρ' 0 51 = ρ 0 51) (h30 : ρ' 30 = ρ 30) (h31 : ρ' 31 = ρ 31) (hr : row < 216) (r7 k22) : f_X12_findsFits_L22 G r7 k22 G (nI (dgt row)) (nI 1) (nI 0) ρ' = k22 (nI (dgt row)) (if ftB n Q R E row = true then nI 1 else nI 0) ρ' := by
  have hn : n ≤ 8 := D.1.2.2.2
  have e1 : ρ' 0 51 = nI n := h0.trans D.2.1
  have key : ∀ m i g, i + m = n → m + 1 < g → (∀ j, j < i → t5 (Q j) row = 5 * R j + E j) → f_X12_findsFits_L22 G r7 k22 g (nI (dgt row)) (nI 1) (nI i) ρ' = k22 (nI (dgt row)) (if ftB n Q R E row = true then nI 1 else nI 0) ρ' := by
    intro m
    induction m with
    | zero =>
      intro i g hi hg h
      obtain ⟨g, rfl⟩ : ∃ x, g = x + 1 := ⟨g - 1, by omega⟩
      rw [if_pos (ftB_ok.mpr (fun j hj => h j (by omega)))]
      simp (disch := omega) only [lit, neg1, nI_1, nI_add, pk_mul, pk_sub, nI_leI, nI_ltI, nI_eq, nI_eqm, chkn, ixn, if_pos, if_neg, bndV_s, bndE_s, bndO_s, reduceIte, irmn, iminn, imaxn, and_self, true_and, and_true, false_and, and_false, f_X12_findsFits_L22, e1]
    | succ m ih =>
      intro i g hi hg h
      obtain ⟨g, rfl⟩ : ∃ x, g = x + 2 := ⟨g - 2, by omega⟩
      obtain ⟨d1, d2, d3, d4, d5, d6, d7⟩ := D.2.2 i (by omega)
      rw [← h30] at d4
      rw [← h31] at d7
      have sk := said_ok (G := G) (ρ := ρ') hG hr d1
      obtain ⟨s1, s2, s3⟩ := sd_re hr d1 d2
      by_cases c : t5 (Q i) row = 5 * R i + E i
      · rw [← ih (i + 1) (g + 1) (by omega) (by omega) (fun j hj => by
          by_cases e : j = i
          · rw [e]; exact c
          · exact h j (by omega))]
        have c2 := s1.mpr c
        rw [c2] at sk
        rw [f_X12_findsFits_L22, if_neg (by rw [e1]; exact nI_ge (by omega) (by omega)), if_neg (by decide), chkn (by omega) (by omega), ixn (by omega), d4, sk, bndO_s, chkn (by omega) (by omega), d7, if_pos rfl, f_X12_findsFits_j59, show (1 : Int32) = nI 1 from rfl, nI_add]
      · rw [if_neg (fun q => c (ftB_ok.mp q i (by omega)))]
        have c2 : ¬ nI (sd row (Q i)) = nI (4 * R i + E i) := fun q => c (s1.mp q)
        rw [f_X12_findsFits_L22, if_neg (by rw [e1]; exact nI_ge (by omega) (by omega)), if_neg (by decide), chkn (by omega) (by omega), ixn (by omega), d4, sk, bndO_s, chkn (by omega) (by omega), d7, if_neg c2, f_X12_findsFits_j59, show (1 : Int32) = nI 1 from rfl, nI_add]
        rw [f_X12_findsFits_L22]
        split
        · rfl
        · rw [if_pos (by decide)]
          rfl
  exact key n 0 G (by omega) (by omega) (fun j hj => absurd hj (by omega))
def rk (v : Nat) : Nat := 36 * (v / 100) + (if v / 10 % 10 < 6 then 6 * (v / 10 % 10) + min (v % 10) 6 else 36)
theorem rk_ok : ∀ v, v < 556 → (f_X12_isRow (nI v) = nI 1 ∧ dgt (rk v) = v ∧ rk (v + 1) = rk v + 1 ∧ rk v < 216) ∨ (f_X12_isRow (nI v) = nI 0 ∧ rk (v + 1) = rk v) := by decide +kernel
theorem lst_s {f : Nat → Bool} {k : Nat} : (List.range (k + 1)).filter f = (List.range k).filter f ++ (if f k = true then [k] else []) := by
  rw [List.range_succ, List.filter_append]
  congr 1
  cases h : f k with
  | true => rw [List.filter_cons_of_pos h]; rfl
  | false => rw [List.filter_cons_of_neg (by simp [h])]; rfl
theorem lst_len {f : Nat → Bool} {k : Nat} : ((List.range k).filter f).length ≤ k := by
  have := List.length_filter_le f (List.range k)
  rwa [List.length_range] at this
/-- the class's rows that can still be -/
theorem study_ok {G n : Nat} {μ ρ : Mem} {Q R E : Nat → Nat} (hG : 500 ≤ G) (D : GuD μ ρ n Q R E) (P : ∀ r, r < 216 → μ 106 r = plA r ∧ μ 107 r = taA r) (h4 : μ 105 4 = nI 0) :
    ∃ μ', f_X4_study_L17 G G (nI 0) μ = some μ' ∧ (∀ x, x ≠ 105 → x ≠ 108 → μ' x = μ x) ∧ (∀ j, j ≠ 4 → μ' 105 j = μ 105 j) ∧ μ' 105 4 = nI ((List.range 216).filter (ftB n Q R E)).length ∧ ∀ j x, ((List.range 216).filter (ftB n Q R E))[j]? = some x → μ' 108 j = nI x := by
  obtain ⟨g', μ', k1, i1, i2, i3, i4⟩ := loopZ (fun g v (s : Mem) => f_X4_study_L17 G g v s) 216 (fun k s => (∀ x, x ≠ 105 → x ≠ 108 → s x = μ x) ∧ (∀ j, j ≠ 4 → s 105 j = μ 105 j) ∧ s 105 4 = nI ((List.range k).filter (ftB n Q R E)).length ∧ ∀ j x, ((List.range k).filter (ftB n Q R E))[j]? = some x → s 108 j = nI x) (by
    rintro g k s hk ⟨i1, i2, i3, i4⟩
    have D' : GuD s ρ n Q R E := by
      unfold GuD LnR at D ⊢
      rw [i1 30 (by omega) (by omega), i1 31 (by omega) (by omega)]
      exact D
    have c := canBe_ok hG D' (fun r hr => by rw [i1 106 (by omega) (by omega), i1 107 (by omega) (by omega)]; exact P r hr) hk
    have ll := lst_len (f := ftB n Q R E) (k := k)
    cases hf : ftB n Q R E k with
    | false =>
      rw [hf, if_neg (by decide)] at c
      refine ⟨s, ?_, i1, i2, ?_, ?_⟩
      · simp (disch := omega) only [lit, neg1, nI_1, nI_add, pk_mul, pk_sub, nI_leI, nI_ltI, nI_eq, nI_eqm, chkn, ixn, if_pos, if_neg, bndV_s, bndE_s, bndO_s, reduceIte, irmn, iminn, imaxn, and_self, true_and, and_true, false_and, and_false, f_X4_study_L17, c, f_X4_study_j53]
      · rw [lst_s, hf, if_neg (by decide), List.append_nil]; exact i3
      · rw [lst_s, hf, if_neg (by decide), List.append_nil]; exact i4
    | true =>
      rw [hf, if_pos rfl] at c
      rw [lst_s, hf, if_pos rfl]
      generalize (List.range k).filter (ftB n Q R E) = L at *
      refine ⟨wr (wr s 108 L.length (nI k)) 105 4 (nI (L.length + 1)), ?_, fun x h1 h2 => by rw [wr_off h1, wr_off h2]; exact i1 x h1 h2, fun j hj => by rw [wr_slot hj, wr_off (by omega)]; exact i2 j hj, ?_, ?_⟩
      · have e4 : (wr s 108 L.length (nI k)) 105 4 = nI L.length := by rw [wr_off (by omega)]; exact i3
        simp (disch := omega) only [lit, neg1, nI_1, nI_add, pk_mul, pk_sub, nI_leI, nI_ltI, nI_eq, nI_eqm, chkn, ixn, if_pos, if_neg, bndV_s, bndE_s, bndO_s, reduceIte, irmn, iminn, imaxn, and_self, true_and, and_true, false_and, and_false, f_X4_study_L17, c, i3, e4, f_X4_study_j53]
      · rw [wr_same, List.length_append]; rfl
      · intro j x hx
        rw [wr_off (by omega)]
        by_cases e : j = L.length
        · rw [e, wr_same]
          rw [e, List.getElem?_append_right (Nat.le_refl _), Nat.sub_self] at hx
          injection hx with hx
          rw [hx]
        · rw [wr_slot e]
          have hl : j < L.length := by
            have := (List.getElem?_eq_some_iff.mp hx).1
            rw [List.length_append] at this
            have t1 : [k].length = 1 := rfl
            omega
          rw [List.getElem?_append_left hl] at hx
          exact i4 j x hx) (by omega : 216 < G) (s := μ) ⟨fun x _ _ => rfl, fun j _ => rfl, h4, fun j x hx => by cases hx⟩
  refine ⟨μ', ?_, i1, i2, i3, i4⟩
  refine Eq.trans k1 ?_
  show f_X4_study_L17 G (g' + 1) (nI 216) μ' = _
  rw [f_X4_study_L17, if_pos (by decide)]
theorem finds_ok {G n : Nat} {μ ρ : Mem} {Q R E : Nat → Nat} (hG : 1000 ≤ G) (D : GuD μ ρ n Q R E) :
    ∃ ρ', f_X12_findsFits G ρ = some ρ' ∧ (∀ x, x ≠ 0 → x ≠ 33 → ρ' x = ρ x) ∧ (∀ j, j ≠ 55 → ρ' 0 j = ρ 0 j) ∧ ρ' 0 55 = nI ((List.range 216).filter (ftB n Q R E)).length ∧ ∀ j x, ((List.range 216).filter (ftB n Q R E))[j]? = some x → ρ' 33 j = nI (dgt x) := by
  obtain ⟨g', ρ', k1, i1, i2, i3, i4⟩ := loopZ (fun g v (s : Mem) => f_X12_findsFits_L7 G g v s) 556 (fun k s => (∀ x, x ≠ 0 → x ≠ 33 → s x = ρ x) ∧ (∀ j, j ≠ 55 → s 0 j = ρ 0 j) ∧ s 0 55 = nI ((List.range (rk k)).filter (ftB n Q R E)).length ∧ ∀ j x, ((List.range (rk k)).filter (ftB n Q R E))[j]? = some x → s 33 j = nI (dgt x)) (by
    rintro g v s hv ⟨i1, i2, i3, i4⟩
    show ∃ s', f_X12_findsFits_L7 G (g + 1) (nI v) s = f_X12_findsFits_L7 G g (nI (v + 1)) s' ∧ _
    have e556 : ¬ (556 : Int32) ≤ nI v := nI_ge (b := 556) hv (by omega)
    rcases rk_ok v hv with ⟨q1, q2, q3, q4⟩ | ⟨q1, q2⟩
    · have f := fits12 (G := G) (ρ' := s) (by omega) D (i2 51 (by omega)) (i1 30 (by omega) (by omega)) (i1 31 (by omega) (by omega)) q4 (f_X12_findsFits_L7 G g) (f_X12_findsFits_j66 G (f_X12_findsFits_L7 G g))
      rw [q2] at f
      have ll := lst_len (f := ftB n Q R E) (k := rk v)
      rw [q3, lst_s]
      cases hf : ftB n Q R E (rk v) with
      | false =>
        rw [hf, if_neg (by decide)] at f
        refine ⟨s, ?_, i1, i2, ?_, ?_⟩
        · rw [f_X12_findsFits_L7, if_neg e556, q1]
          refine Eq.trans f ?_
          rw [f_X12_findsFits_j66, if_pos (by decide), f_X12_findsFits_j93, show (1 : Int32) = nI 1 from rfl, nI_add]
        · rw [if_neg (by decide), List.append_nil]; exact i3
        · rw [if_neg (by decide), List.append_nil]; exact i4
      | true =>
        rw [hf, if_pos rfl] at f
        rw [if_pos rfl]
        generalize (List.range (rk v)).filter (ftB n Q R E) = L at *
        refine ⟨wr (wr s 33 L.length (nI v)) 0 55 (nI (L.length + 1)), ?_, fun x h1 h2 => by rw [wr_off h1, wr_off h2]; exact i1 x h1 h2, fun j hj => by rw [wr_slot hj, wr_off (by omega)]; exact i2 j hj, ?_, ?_⟩
        · have e4 : (wr s 33 L.length (nI v)) 0 55 = nI L.length := by rw [wr_off (by omega)]; exact i3
          rw [f_X12_findsFits_L7, if_neg e556, q1]
          refine Eq.trans f ?_
          simp (disch := omega) only [lit, neg1, nI_1, nI_add, pk_mul, pk_sub, nI_leI, nI_ltI, nI_eq, nI_eqm, chkn, ixn, if_pos, if_neg, bndV_s, bndE_s, bndO_s, reduceIte, irmn, iminn, imaxn, and_self, true_and, and_true, false_and, and_false, f_X12_findsFits_j66, i3, e4, f_X12_findsFits_j93]
        · rw [wr_same, List.length_append]; rfl
        · intro j x hx
          rw [wr_off (by omega)]
          by_cases e : j = L.length
          · rw [e, wr_same]
            rw [e, List.getElem?_append_right (Nat.le_refl _), Nat.sub_self] at hx
            injection hx with hx
            rw [← hx, q2]
          · rw [wr_slot e]
            have hl : j < L.length := by
              have := (List.getElem?_eq_some_iff.mp hx).1
              rw [List.length_append] at this
              have t1 : [rk v].length = 1 := rfl
              omega
            rw [List.getElem?_append_left hl] at hx
            exact i4 j x hx
    · refine ⟨s, ?_, i1, i2, by rw [q2]; exact i3, by rw [q2]; exact i4⟩
      obtain ⟨z, rfl⟩ : ∃ z, G = z + 1 := ⟨G - 1, by omega⟩
      rw [f_X12_findsFits_L7, if_neg e556, q1, f_X12_findsFits_L22]
      have j0 : ∀ r, f_X12_findsFits_j66 (z + 1) r (nI v) (nI 0) s = r (nI v + 1) s := fun r => by
        rw [f_X12_findsFits_j66, if_pos (by decide), f_X12_findsFits_j93]
      split
      · rw [j0, show (1 : Int32) = nI 1 from rfl, nI_add]
      · rw [if_pos (by decide), j0, show (1 : Int32) = nI 1 from rfl, nI_add]) (by omega : 556 < G) (s := wr ρ 0 55 (nI 0)) ⟨fun x h1 _ => wr_off h1, fun j hj => wr_slot hj, wr_same, fun j x hx => by cases hx⟩
  refine ⟨ρ', ?_, i1, i2, i3, i4⟩
  refine Eq.trans k1 ?_
  show f_X12_findsFits_L7 G (g' + 1) (nI 556) ρ' = _
  rw [f_X12_findsFits_L7, if_pos (by decide)]
end
