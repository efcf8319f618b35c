section
def RdD (μ ρ : Mem) (n : Nat) (A B M : Nat → Nat) : Prop := LnR μ 34 16 2 n ∧ (∀ i, i < n → A i < 10 ∧ B i < 10 ∧ A i ≠ B i ∧ μ 35 (2 * i) = nI (A i) ∧ μ 35 (2 * i + 1) = nI (B i)) ∧ ∀ u, u < 10 → M u < 1024 ∧ ρ 36 u = nI (M u) ∧ ∀ v, (M u).testBit v = true ↔ ∃ i, i < n ∧ A i = u ∧ B i = v
theorem rdD_of {μ ρ : Mem} (h : RoR 1 μ ρ) : ∃ n A B M, RdD μ ρ n A B M := by
  obtain ⟨n, A, B, n1, n2, n3, n4⟩ := h
  refine ⟨n, A, B, fun u => if h : u < 10 then (n4 u h).choose else 0, n1, n3, fun u hu => ?_⟩
  simp only [dif_pos hu]
  exact (n4 u hu).choose_spec
theorem lay_ok {G n : Nat} {μ ρ : Mem} {A B M : Nat → Nat} (hG : 500 ≤ G) (D : RdD μ ρ n A B M) : ∃ μ', f_X9_lay G μ = some μ' ∧ (∀ x, x ≠ 111 → μ' x = μ x) ∧ ∀ u, u < 10 → μ' 111 u = nI (M u) := by
  obtain ⟨n1, n2, n3⟩ := D
  have hn : n ≤ 16 := n1.2.2.2
  obtain ⟨μ1, f1, f2, f3⟩ := filln (G := G) (a := 111) (n := 10) (v := nI 0) (μ := μ) (by omega) (by omega)
  obtain ⟨g', μ2, k1, i1, i2⟩ := loopZ (fun g v (s : Mem) => f_X9_lay_L10 G g v s) n (fun k s => (∀ x, x ≠ 111 → s x = μ x) ∧ ∀ u, u < 10 → ∃ r, r < 2 ^ 10 ∧ s 111 u = nI r ∧ ∀ v, r.testBit v = true ↔ ∃ i, i < k ∧ A i = u ∧ B i = v) (by
    rintro g i s hi ⟨i1, i2⟩
    obtain ⟨w1, w2, w3, w4, w5⟩ := n2 i hi
    have n1' : LnR s 34 16 2 n := by
      unfold LnR at n1 ⊢
      rw [i1 34 (by omega)]
      exact n1
    have e1 : s 34 3 = nI n := n1'.2.2.1
    have a0 : f_X2_at G 34 32 s (nI i) (nI 0) = some (nI (A i)) := by
      rw [atn n1' (by omega) (by omega) (by omega) (by omega) hi (by omega), Nat.mul_comm, Nat.add_zero, show 34 + 1 = 35 from rfl, i1 35 (by omega)]
      exact congrArg some w4
    have a1 : f_X2_at G 34 32 s (nI i) (nI 1) = some (nI (B i)) := by
      rw [atn n1' (by omega) (by omega) (by omega) (by omega) hi (by omega), Nat.mul_comm, show 34 + 1 = 35 from rfl, i1 35 (by omega)]
      exact congrArg some w5
    obtain ⟨r, r1, r2, r3⟩ := i2 (A i) w1
    have q0 : (0 : Int32) ≤ nI (A i) := nI_pos' (by omega)
    have sb : sl (nI 1) (nI (B i)) = nI (2 ^ B i) := sl1 (by omega)
    refine ⟨wr s 111 (A i) (nI (r ||| 2 ^ B i)), ?_, fun x hx => by rw [wr_off hx]; exact i1 x hx, fun u hu => ?_⟩
    · simp (disch := omega) only [lit, neg1, nI_1, nI_add, pk_mul, pk_sub, nI_leI, nI_ltI, nI_eq, nI_eqm, chkn, ixn, if_pos, if_neg, bndV_s, bndE_s, bndO_s, reduceIte, irmn, iminn, imaxn, and_self, true_and, and_true, false_and, and_false, f_X9_lay_L10, e1, a0, isB, a1, r2, sb, b_nor, f_X9_lay_j51]
    · by_cases c : u = A i
      · subst c
        refine ⟨r ||| 2 ^ B i, or_lt r1 (pw_lt w2), wr_same, fun v => ?_⟩
        rw [Nat.testBit_or, pw_bit, Bool.or_eq_true, r3 v, decide_eq_true_iff]
        constructor
        · rintro (⟨j, j1, j2⟩ | h)
          · exact ⟨j, by omega, j2⟩
          · exact ⟨i, by omega, rfl, h⟩
        · rintro ⟨j, j1, j2, j3⟩
          by_cases e : j = i
          · subst e; exact Or.inr j3
          · exact Or.inl ⟨j, by omega, j2, j3⟩
      · obtain ⟨q, q1, q2, q3⟩ := i2 u hu
        refine ⟨q, q1, by rw [wr_slot c]; exact q2, fun v => ?_⟩
        rw [q3 v]
        constructor
        · rintro ⟨j, j1, j2⟩
          exact ⟨j, by omega, j2⟩
        · rintro ⟨j, j1, j2, j3⟩
          by_cases e : j = i
          · subst e; exact absurd j2.symm c
          · exact ⟨j, by omega, j2, j3⟩) (by omega : n < G) (s := μ1) ⟨f2, fun u hu => ⟨0, by decide, f3 u hu, fun v => by
      rw [Nat.zero_testBit]
      exact ⟨fun h => absurd h (by decide), fun ⟨j, j1, _⟩ => absurd j1 (by omega)⟩⟩⟩
  refine ⟨μ2, ?_, i1, fun u hu => ?_⟩
  · unfold f_X9_lay
    rw [show (0 : Int32) = nI 0 from rfl, f1, bndV_s]
    refine Eq.trans k1 ?_
    show f_X9_lay_L10 G (g' + 1) (nI n) μ2 = _
    have e1 : μ2 34 3 = nI n := by rw [i1 34 (by omega)]; exact n1.2.2.1
    rw [f_X9_lay_L10, if_pos (by rw [e1]; exact Int32.le_refl _)]
  · obtain ⟨r, r1, r2, r3⟩ := i2 u hu
    obtain ⟨m1, m2, m3⟩ := n3 u hu
    rw [r2]
    congr 1
    apply bits_eq
    intro v
    have : (r.testBit v = true) ↔ ((M u).testBit v = true) := by rw [r3 v, m3 v]
    exact Bool.eq_iff_iff.mpr this
/-- with those that lie one street on -/
def rcN (M : Nat → Nat) (c : Nat) : Nat → Nat
  | 0 => c
  | k + 1 => if c.testBit k = true then rcN M c k ||| M k else rcN M c k
theorem rcN_lt {M : Nat → Nat} {c : Nat} (hc : c < 1024) (hM : ∀ u, u < 10 → M u < 1024) : ∀ k, k ≤ 10 → rcN M c k < 1024
  | 0, _ => hc
  | k + 1, h => by
    have ih := rcN_lt hc hM k (by omega)
    unfold rcN
    split
    · exact or_lt (k := 10) ih (hM k (by omega))
    · exact ih
theorem rcd_ok {G c : Nat} {μ : Mem} {M : Nat → Nat} (hG : 500 ≤ G) (hM : ∀ u, u < 10 → M u < 1024 ∧ μ 111 u = nI (M u)) (hc : c < 1024) : f_X9_reached G μ (nI c) = some (nI (rcN M c 10)) := by
  obtain ⟨g', s, k1, rfl⟩ := loopZ (fun g v x => f_X9_reached_L4 G μ g (nI c) x v) 10 (fun k x => x = nI (rcN M c k)) (by
    rintro g u x hu rfl
    refine ⟨_, ?_, rfl⟩
    have hh := hasn (a := c) (w := u) (by omega) (by omega)
    have m2 := (hM u hu).2
    show f_X9_reached_L4 G μ (g + 1) (nI c) (nI (rcN M c u)) (nI u) = f_X9_reached_L4 G μ g (nI c) (nI (if c.testBit u = true then rcN M c u ||| M u else rcN M c u)) (nI (u + 1))
    by_cases b : c.testBit u = true
    · rw [if_pos b] at hh ⊢
      simp (disch := omega) only [lit, neg1, nI_1, nI_add, pk_mul, pk_sub, nI_leI, nI_ltI, nI_eq, nI_eqm, chkn, ixn, if_pos, if_neg, bndV_s, bndE_s, bndO_s, reduceIte, irmn, iminn, imaxn, and_self, true_and, and_true, false_and, and_false, f_X9_reached_L4, hh, m2, b_nor, f_X9_reached_j27]
    · rw [if_neg b] at hh ⊢
      simp (disch := omega) only [lit, neg1, nI_1, nI_add, pk_mul, pk_sub, nI_leI, nI_ltI, nI_eq, nI_eqm, chkn, ixn, if_pos, if_neg, bndV_s, bndE_s, bndO_s, reduceIte, irmn, iminn, imaxn, and_self, true_and, and_true, false_and, and_false, f_X9_reached_L4, hh, f_X9_reached_j27]) (by omega : 10 < G) (s := nI c) rfl
  refine Eq.trans k1 ?_
  show f_X9_reached_L4 G μ (g' + 1) (nI c) _ (nI 10) = _
  rw [f_X9_reached_L4, if_pos (by decide)]
theorem rcd12 {G c : Nat} {ρ : Mem} {M : Nat → Nat} (hG : 500 ≤ G) (hM : ∀ u, u < 10 → M u < 1024 ∧ ρ 36 u = nI (M u)) (hc : c < 1024) (r7 k32 v2 v4) : f_X12_shortWay_L32 G ρ r7 k32 G v2 (nI c) v4 (nI c) (nI 0) = k32 v2 v4 (nI (rcN M c 10)) := by
  obtain ⟨g', s, k1, rfl⟩ := loopZ (fun g v x => f_X12_shortWay_L32 G ρ r7 k32 g v2 (nI c) v4 x v) 10 (fun k x => x = nI (rcN M c k)) (by
    rintro g u x hu rfl
    refine ⟨_, ?_, rfl⟩
    have hh := hasn (a := c) (w := u) (by omega) (by omega)
    rw [← has12] at hh
    have m2 := (hM u hu).2
    show f_X12_shortWay_L32 G ρ r7 k32 (g + 1) v2 (nI c) v4 (nI (rcN M c u)) (nI u) = f_X12_shortWay_L32 G ρ r7 k32 g v2 (nI c) v4 (nI (if c.testBit u = true then rcN M c u ||| M u else rcN M c u)) (nI (u + 1))
    by_cases b : c.testBit u = true
    · rw [if_pos b] at hh ⊢
      simp (disch := omega) only [lit, neg1, nI_1, nI_add, pk_mul, pk_sub, nI_leI, nI_ltI, nI_eq, nI_eqm, chkn, ixn, if_pos, if_neg, bndV_s, bndE_s, bndO_s, reduceIte, irmn, iminn, imaxn, and_self, true_and, and_true, false_and, and_false, f_X12_shortWay_L32, hh, m2, b_nor, f_X12_shortWay_j61]
    · rw [if_neg b] at hh ⊢
      simp (disch := omega) only [lit, neg1, nI_1, nI_add, pk_mul, pk_sub, nI_leI, nI_ltI, nI_eq, nI_eqm, chkn, ixn, if_pos, if_neg, bndV_s, bndE_s, bndO_s, reduceIte, irmn, iminn, imaxn, and_self, true_and, and_true, false_and, and_false, f_X12_shortWay_L32, hh, f_X12_shortWay_j61]) (by omega : 10 < G) (s := nI c) rfl
  refine Eq.trans k1 ?_
  show f_X12_shortWay_L32 G ρ r7 k32 (g' + 1) v2 (nI c) v4 _ (nI 10) = _
  rw [f_X12_shortWay_L32, if_pos (by decide)]
theorem short_ok {G a b : Nat} {μ ρ : Mem} {M : Nat → Nat} (hG : 500 ≤ G) (hM : ∀ u, u < 10 → M u < 1024 ∧ μ 111 u = nI (M u) ∧ ρ 36 u = nI (M u)) (ha : a < 10) (hb : b < 10) (hab : a ≠ b) :
    ∃ r, f_X9_shortest G μ (nI a) (nI b) = some r ∧ f_X12_shortWay G ρ (nI a) (nI b) = some r := by
  have hM1 := fun u hu => And.intro (hM u hu).1 (hM u hu).2.1
  have hM2 := fun u hu => And.intro (hM u hu).1 (hM u hu).2.2
  have hM3 := fun u hu => (hM u hu).1
  have key : ∀ m k c g f, k + m = 10 → m < g → m < f → c < 1024 → ∃ r, f_X9_shortest_L7 G μ g (nI b) (nI c) (nI k) = some r ∧ f_X12_shortWay_L7 G ρ f (nI b) (nI (rcN M c 10)) (nI k) = some r := by
    intro m
    induction m with
    | zero =>
      intro k c g f hk hg hf hc
      obtain ⟨g, rfl⟩ : ∃ x, g = x + 1 := ⟨g - 1, by omega⟩
      obtain ⟨f, rfl⟩ : ∃ x, f = x + 1 := ⟨f - 1, by omega⟩
      obtain rfl : k = 10 := by omega
      exact ⟨_, by rw [f_X9_shortest_L7, if_pos (by decide)], by rw [f_X12_shortWay_L7, if_pos (by decide)]⟩
    | succ m ih =>
      intro k c g f hk hg hf hc
      obtain ⟨g, rfl⟩ : ∃ x, g = x + 1 := ⟨g - 1, by omega⟩
      obtain ⟨f, rfl⟩ : ∃ x, f = x + 1 := ⟨f - 1, by omega⟩
      have hr := rcN_lt (c := c) hc hM3 10 (by omega)
      obtain ⟨r, r1, r2⟩ := ih (k + 1) (rcN M c 10) g f (by omega) (by omega) (by omega) hr
      have e10 : ¬ (10 : Int32) ≤ nI k := nI_ge (b := 10) (by omega) (by omega)
      have rc := rcd_ok (G := G) hG hM1 hc
      have hh := hasn (a := rcN M c 10) (w := b) (by omega) (by omega)
      by_cases q : (rcN M c 10).testBit b = true
      · rw [if_pos q] at hh
        refine ⟨nI k, ?_, ?_⟩
        · rw [f_X9_shortest_L7, if_neg e10, rc, bndO_s, hh, if_neg (by decide)]
        · rw [f_X12_shortWay_L7, if_neg e10, has12, hh, if_neg (by decide)]
      · rw [if_neg q] at hh
        refine ⟨r, ?_, ?_⟩
        · rw [f_X9_shortest_L7, if_neg e10, rc, bndO_s, hh, if_pos (by decide), show (1 : Int32) = nI 1 from rfl, nI_add, r1]
        · rw [f_X12_shortWay_L7, if_neg e10, has12, hh, if_pos (by decide), show (0 : Int32) = nI 0 from rfl, rcd12 (G := G) hG hM2 hr, f_X12_shortWay_j67, show (1 : Int32) = nI 1 from rfl, nI_add, r2]
  have pa : 2 ^ a < 1024 := pw_lt (k := 10) ha
  have sa : sl (1 : Int32) (nI a) = nI (2 ^ a) := sl1 (by omega)
  obtain ⟨r, r1, r2⟩ := key 9 1 (2 ^ a) G (G - 1) (by omega) (by omega) (by omega) pa
  refine ⟨r, ?_, ?_⟩
  · unfold f_X9_shortest
    rw [sa]
    exact r1
  · unfold f_X12_shortWay
    rw [sa]
    obtain ⟨z, hz⟩ : ∃ z, G = z + 1 := ⟨G - 1, by omega⟩
    have hh := hasn (a := 2 ^ a) (w := b) (by omega) (by omega)
    rw [pw_bit, if_neg (by rw [decide_eq_true_iff]; exact hab), ← has12] at hh
    have st : f_X12_shortWay_L7 G ρ (z + 1) (nI b) (nI (2 ^ a)) 0 = f_X12_shortWay_L7 G ρ z (nI b) (nI (rcN M (2 ^ a) 10)) (nI 1) := by
      rw [f_X12_shortWay_L7, if_neg (by decide), hh, if_pos (by decide)]
      exact rcd12 (G := G) hG hM2 pa (f_X12_shortWay_L7 G ρ z) (f_X12_shortWay_j67 G ρ (f_X12_shortWay_L7 G ρ z)) (nI b) 0
    have : ∀ y, y = z + 1 → f_X12_shortWay_L7 G ρ y (nI b) (nI (2 ^ a)) 0 = some r := by
      rintro y rfl
      rw [st, ← r2, show G - 1 = z by omega]
    exact this G hz
end
