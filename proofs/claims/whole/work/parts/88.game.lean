section
theorem and3 : ∀ n, n < 32 → nI n &&& nI 3 = nI (n % 4) := by decide +kernel
/-- the children of the men, M of them have some -/
def ChD (μ ρ : Mem) (M : Nat) (c : Nat → Nat) : Prop := M ≤ 8 ∧ ρ 0 7 = nI M ∧ ∀ g, g < 8 → c g ≤ 20 ∧ μ 6 g = nI (c g) ∧ ρ 1 (33 + g) = nI (c g) ∧ (M ≤ g → c g = 0)
theorem chD_of {μ ρ : Mem} {W M : Nat} (h : ChR 1 μ ρ W M) : ∃ c, ChD μ ρ M c := by
  obtain ⟨p1, p2, p3, p4, p5, p6, p7⟩ := h.1
  have S := h.2.1.2.2.2.2.2.2.2.2.1
  have I := h.2.2.1.2.2.2.2.2.1
  have e : ∀ g, g < 8 → ρ 1 (33 + g) = ρ 1 (0 + 33 + g) := fun g _ => by rw [Nat.zero_add]
  refine ⟨fun g => if h : g < 8 then (I g h).choose else 0, p6, p5, fun g hg => ?_⟩
  simp only [dif_pos hg]
  obtain ⟨i1, i2, i3⟩ := (I g hg).choose_spec
  exact ⟨i1, (S g hg).trans i2, (e g hg).trans i2, i3⟩
theorem lost_ok {G M g k : Nat} {c : Nat → Nat} {μ ρ : Mem} (hG : 500 ≤ G) (D : ChD μ ρ M c) (hg : g < M) (hk : k ≤ c g) : ∃ b, f_X6_isLostAfter G μ (nI g) (nI k) = some b ∧ f_X12_isLost G ρ (nI g) (nI k) = some b := by
  obtain ⟨hM, e7, hc⟩ := D
  have rst : ∀ j, j < 8 → ∃ r, r < 4 ∧ (M ≤ j → r = 0) ∧ f_X12_restOf G ρ (nI j) (nI g) (nI k) = some (nI r) ∧ ∀ s : Int32, (if j = g then s = nI k else s = nI 0) → (nI (c j) - s) &&& nI 3 = nI r := by
    intro j hj
    obtain ⟨c1, c2, c3, c4⟩ := hc j hj
    by_cases e : j = g
    · subst e
      refine ⟨(c j - k) % 4, by omega, fun h => by omega, ?_, fun s hs => ?_⟩
      · simp (disch := omega) only [lit, neg1, nI_1, nI_add, pk_mul, pk_sub, nI_leI, nI_ltI, nI_eq, nI_eqm, chkn, ixn, if_pos, if_neg, bndV_s, bndE_s, bndO_s, reduceIte, irmn, iminn, imaxn, and_self, true_and, and_true, false_and, and_false, f_X12_restOf, c3]
      · rw [if_pos rfl] at hs
        rw [hs, pk_sub hk, and3 _ (by omega)]
    · refine ⟨c j % 4, by omega, fun h => by rw [c4 h], ?_, fun s hs => ?_⟩
      · simp (disch := omega) only [lit, neg1, nI_1, nI_add, pk_mul, pk_sub, nI_leI, nI_ltI, nI_eq, nI_eqm, chkn, ixn, if_pos, if_neg, bndV_s, bndE_s, bndO_s, reduceIte, irmn, iminn, imaxn, and_self, true_and, and_true, false_and, and_false, f_X12_restOf, c3, e]
      · rw [if_neg e] at hs
        rw [hs, pk_sub (Nat.zero_le _), and3 _ (by omega), Nat.sub_zero]
  have stp : ∀ h j x y, j < 8 → y = nI 0 ∨ y = nI 1 → ∃ r y', r < 4 ∧ (M ≤ j → r = 0) ∧ (y' = nI 0 ∨ y' = nI 1) ∧ f_X12_restOf G ρ (nI j) (nI g) (nI k) = some (nI r) ∧ y' = (if nI r ≤ nI 1 then y else nI 1) ∧ f_X6_isLostAfter_L8 G μ (f_X6_isLostAfter_j64 G μ) (h + 1) (nI g) (nI k) x y (nI j) = f_X6_isLostAfter_L8 G μ (f_X6_isLostAfter_j64 G μ) h (nI g) (nI k) (x ^^^ nI r) y' (nI (j + 1)) := by
    intro h j x y hj hy
    obtain ⟨r, r1, r2, r3, r4⟩ := rst j hj
    obtain ⟨c1, c2, c3, c4⟩ := hc j hj
    have key : ∀ s : Int32, (nI (c j) - s) &&& nI 3 = nI r → f_X6_isLostAfter_j30 G μ (f_X6_isLostAfter_L8 G μ (f_X6_isLostAfter_j64 G μ) h) (f_X6_isLostAfter_j64 G μ) (nI g) (nI k) x y (nI j) s (nI (c j)) = f_X6_isLostAfter_L8 G μ (f_X6_isLostAfter_j64 G μ) h (nI g) (nI k) (x ^^^ nI r) (if nI r ≤ nI 1 then y else nI 1) (nI (j + 1)) := by
      intro s hs
      unfold f_X6_isLostAfter_j30 f_X6_isLostAfter_j51 f_X6_isLostAfter_j56
      rw [show (3 : Int32) = nI 3 from rfl, hs, show (1 : Int32) = nI 1 from rfl, nI_add]
      rcases hy with rfl | rfl
      · rw [if_pos (show nI 0 = 0 from rfl)]
        split
        · rfl
        · rfl
      · rw [if_neg (show ¬ nI 1 = 0 by decide)]
        split <;> rfl
    refine ⟨r, _, r1, r2, ?_, r3, rfl, ?_⟩
    · split
      · exact hy
      · exact Or.inr rfl
    · by_cases e : j = g
      · subst e
        rw [← key (nI k) (r4 _ (by rw [if_pos rfl]))]
        simp (disch := omega) only [lit, neg1, nI_1, pk_mul, pk_sub, nI_leI, nI_ltI, nI_eq, nI_eqm, chkn, ixn, if_pos, if_neg, bndV_s, bndE_s, bndO_s, reduceIte, irmn, iminn, imaxn, f_X6_isLostAfter_L8, c2]
      · rw [← key (nI 0) (r4 _ (by rw [if_neg e]))]
        simp (disch := omega) only [lit, neg1, nI_1, pk_mul, pk_sub, nI_leI, nI_ltI, nI_eq, nI_eqm, chkn, ixn, if_pos, if_neg, bndV_s, bndE_s, bndO_s, reduceIte, irmn, iminn, imaxn, f_X6_isLostAfter_L8, c2, e]
  obtain ⟨⟨x, y⟩, t, k1, k2, ⟨rfl, hy⟩⟩ := loop2E (fun h v (s : Int32 × Int32) => f_X6_isLostAfter_L8 G μ (f_X6_isLostAfter_j64 G μ) h (nI g) (nI k) s.1 s.2 v) (fun h v (s : Int32 × Int32) => f_X12_isLost_L8 G ρ (f_X12_isLost_j49 G ρ) h (nI g) (nI k) s.1 s.2 v) M (fun _ s t => s = t ∧ (s.2 = nI 0 ∨ s.2 = nI 1)) (by
    rintro h f j ⟨x, y⟩ t hj ⟨rfl, hy⟩
    obtain ⟨r, y', r1, r2, r3, r4, r5, r6⟩ := stp h j x y (by omega) hy
    refine ⟨(x ^^^ nI r, y'), (x ^^^ nI r, y'), r6, ?_, rfl, r3⟩
    show f_X12_isLost_L8 G ρ (f_X12_isLost_j49 G ρ) (f + 1) (nI g) (nI k) x y (nI j) = f_X12_isLost_L8 G ρ (f_X12_isLost_j49 G ρ) f (nI g) (nI k) (x ^^^ nI r) y' (nI (j + 1))
    rw [r5]
    rw [f_X12_isLost_L8, if_neg (by rw [e7]; exact nI_ge hj (by omega)), r4, bndO_s, bndO_s]
    unfold f_X12_isLost_j43
    rw [show (1 : Int32) = nI 1 from rfl, nI_add]
    split <;> rfl) M G G 0 (nI 0, nI 0) (nI 0, nI 0) (by omega) (by omega) (by omega) ⟨rfl, Or.inl rfl⟩
  obtain ⟨g2, s2, k3, ⟨_, rfl⟩⟩ := loopI (fun h v (s : Int32 × Int32) => f_X6_isLostAfter_L8 G μ (f_X6_isLostAfter_j64 G μ) h (nI g) (nI k) s.1 s.2 v) 8 (fun j u => M ≤ j ∧ u = (x, y)) (by
    rintro h j s hj ⟨hm, rfl⟩
    obtain ⟨r, y', r1, r2, r3, r4, r5, r6⟩ := stp h j x y (by omega) hy
    refine ⟨(x ^^^ nI r, y'), r6, by omega, ?_⟩
    rw [r5, r2 hm, if_pos (by decide), show x ^^^ nI 0 = x from Int32.xor_zero]) (8 - M) (G - M) M (x, y) (by omega) (by omega) ⟨Nat.le_refl _, rfl⟩
  have a1 : f_X6_isLostAfter G μ (nI g) (nI k) = f_X6_isLostAfter_j64 G μ x y := by
    refine Eq.trans k1 (Eq.trans k3 ?_)
    show f_X6_isLostAfter_L8 G μ (f_X6_isLostAfter_j64 G μ) (g2 + 1) (nI g) (nI k) x y (nI 8) = _
    simp (disch := omega) only [lit, neg1, nI_1, nI_add, pk_mul, pk_sub, nI_leI, nI_ltI, nI_eq, nI_eqm, chkn, ixn, if_pos, if_neg, bndV_s, bndE_s, bndO_s, reduceIte, irmn, iminn, imaxn, and_self, true_and, and_true, false_and, and_false, f_X6_isLostAfter_L8]
  have a2 : f_X12_isLost G ρ (nI g) (nI k) = f_X12_isLost_j49 G ρ x y := by
    refine Eq.trans k2 ?_
    obtain ⟨z, hz⟩ : ∃ z, G - M = z + 1 := ⟨G - M - 1, by omega⟩
    rw [hz]
    show f_X12_isLost_L8 G ρ (f_X12_isLost_j49 G ρ) (z + 1) (nI g) (nI k) x y (nI M) = _
    simp (disch := omega) only [lit, neg1, nI_1, nI_add, pk_mul, pk_sub, nI_leI, nI_ltI, nI_eq, nI_eqm, chkn, ixn, if_pos, if_neg, bndV_s, bndE_s, bndO_s, reduceIte, irmn, iminn, imaxn, and_self, true_and, and_true, false_and, and_false, f_X12_isLost_L8, e7]
  rw [a1, a2]
  unfold f_X6_isLostAfter_j64 f_X12_isLost_j49
  split <;> split <;> exact ⟨_, rfl, rfl⟩
theorem game_in {G M g : Nat} {c : Nat → Nat} {μ ρ : Mem} (hG : 500 ≤ G) (D : ChD μ ρ M c) (hg : g < M) (v : Int32) (r2 k2 k10 k10' r19 k19 k29 k29') :
    ∀ m k h f, k + m = 4 → 1 ≤ k → m < h → m < f → (∃ j, f_X6_goodTaking_L10 G μ r2 k2 k10 k10' h v (nI g) (nI k) = k10 v (nI g) (nI j) ∧ f_X12_game_L29 G r19 k19 k29 k29' f v (nI g) (nI k) ρ = k29 v (nI g) (nI j) ρ) ∨ (f_X6_goodTaking_L10 G μ r2 k2 k10 k10' h v (nI g) (nI k) = k10' v (nI g) ∧ f_X12_game_L29 G r19 k19 k29 k29' f v (nI g) (nI k) ρ = k29' v (nI g) ρ) := by
  have D' := D
  obtain ⟨hM, e7, hc⟩ := D
  obtain ⟨c1, c2, c3, c4⟩ := hc g (by omega)
  intro m
  induction m with
  | zero =>
    intro k h f hk h1 hh hf
    obtain ⟨h, rfl⟩ : ∃ x, h = x + 1 := ⟨h - 1, by omega⟩
    obtain ⟨f, rfl⟩ : ∃ x, f = x + 1 := ⟨f - 1, by omega⟩
    right
    have : min 3 (c g) < k := by omega
    constructor
    · simp (disch := omega) only [lit, neg1, nI_1, nI_add, pk_mul, pk_sub, nI_leI, nI_ltI, nI_eq, nI_eqm, chkn, ixn, if_pos, if_neg, bndV_s, bndE_s, bndO_s, reduceIte, irmn, iminn, imaxn, and_self, true_and, and_true, false_and, and_false, f_X6_goodTaking_L10]
    · simp (disch := omega) only [lit, neg1, nI_1, nI_add, pk_mul, pk_sub, nI_leI, nI_ltI, nI_eq, nI_eqm, chkn, ixn, if_pos, if_neg, bndV_s, bndE_s, bndO_s, reduceIte, irmn, iminn, imaxn, and_self, true_and, and_true, false_and, and_false, f_X12_game_L29, ls12, c3]
  | succ m ih =>
    intro k h f hk h1 hh hf
    obtain ⟨h, rfl⟩ : ∃ x, h = x + 1 := ⟨h - 1, by omega⟩
    obtain ⟨f, rfl⟩ : ∃ x, f = x + 1 := ⟨f - 1, by omega⟩
    by_cases q : c g < k
    · right
      have : min 3 (c g) < k := by omega
      constructor
      · simp (disch := omega) only [lit, neg1, nI_1, nI_add, pk_mul, pk_sub, nI_leI, nI_ltI, nI_eq, nI_eqm, chkn, ixn, if_pos, if_neg, bndV_s, bndE_s, bndO_s, reduceIte, irmn, iminn, imaxn, and_self, true_and, and_true, false_and, and_false, f_X6_goodTaking_L10, c2]
      · simp (disch := omega) only [lit, neg1, nI_1, nI_add, pk_mul, pk_sub, nI_leI, nI_ltI, nI_eq, nI_eqm, chkn, ixn, if_pos, if_neg, bndV_s, bndE_s, bndO_s, reduceIte, irmn, iminn, imaxn, and_self, true_and, and_true, false_and, and_false, f_X12_game_L29, ls12, c3]
    · obtain ⟨b, b1, b2⟩ := lost_ok hG D' hg (show k ≤ c g by omega)
      have hn : ¬ min 3 (c g) < k := by omega
      by_cases b0 : b = nI 0
      · subst b0
        have e1 : f_X6_goodTaking_L10 G μ r2 k2 k10 k10' (h + 1) v (nI g) (nI k) = f_X6_goodTaking_L10 G μ r2 k2 k10 k10' h v (nI g) (nI (k + 1)) := by
          simp (disch := omega) only [lit, neg1, nI_1, nI_add, pk_mul, pk_sub, nI_leI, nI_ltI, nI_eq, nI_eqm, chkn, ixn, if_pos, if_neg, bndV_s, bndE_s, bndO_s, reduceIte, irmn, iminn, imaxn, and_self, true_and, and_true, false_and, and_false, f_X6_goodTaking_L10, c2, b1]
        have e2 : f_X12_game_L29 G r19 k19 k29 k29' (f + 1) v (nI g) (nI k) ρ = f_X12_game_L29 G r19 k19 k29 k29' f v (nI g) (nI (k + 1)) ρ := by
          simp (disch := omega) only [lit, neg1, nI_1, nI_add, pk_mul, pk_sub, nI_leI, nI_ltI, nI_eq, nI_eqm, chkn, ixn, if_pos, if_neg, bndV_s, bndE_s, bndO_s, reduceIte, irmn, iminn, imaxn, and_self, true_and, and_true, false_and, and_false, f_X12_game_L29, ls12, c3, b2]
        rw [e1, e2]
        exact ih (k + 1) h f (by omega) (by omega) (by omega) (by omega)
      · left
        refine ⟨k, ?_, ?_⟩
        · simp (disch := omega) only [lit, neg1, nI_1, nI_add, pk_mul, pk_sub, nI_leI, nI_ltI, nI_eq, nI_eqm, chkn, ixn, if_pos, if_neg, bndV_s, bndE_s, bndO_s, reduceIte, irmn, iminn, imaxn, and_self, true_and, and_true, false_and, and_false, f_X6_goodTaking_L10, c2, b1, b0]
        · simp (disch := omega) only [lit, neg1, nI_1, nI_add, pk_mul, pk_sub, nI_leI, nI_ltI, nI_eq, nI_eqm, chkn, ixn, if_pos, if_neg, bndV_s, bndE_s, bndO_s, reduceIte, irmn, iminn, imaxn, and_self, true_and, and_true, false_and, and_false, f_X12_game_L29, ls12, c3, b2, b0]
theorem game_ok {G M : Nat} {c : Nat → Nat} {μ ρ : Mem} (hG : 500 ≤ G) (D : ChD μ ρ M c) (v : Int32) : ∃ r, f_X6_goodTaking G μ v = some r ∧ f_X12_game_L19 G (f_X12_game_j56 G) G v (nI 0) ρ = some (r, ρ) := by
  have D' := D
  obtain ⟨hM, e7, hc⟩ := D
  have tail : ∀ m g h, g + m = 8 → M ≤ g → m < h → f_X6_goodTaking_L2 G μ (f_X6_goodTaking_j31 G μ) h v (nI g) = some (nI 4294967295) := by
    intro m
    induction m with
    | zero =>
      intro g h hg h1 hh
      obtain ⟨h, rfl⟩ : ∃ x, h = x + 1 := ⟨h - 1, by omega⟩
      obtain rfl : g = 8 := by omega
      simp (disch := omega) only [lit, neg1, nI_1, nI_add, pk_mul, pk_sub, nI_leI, nI_ltI, nI_eq, nI_eqm, chkn, ixn, if_pos, if_neg, bndV_s, bndE_s, bndO_s, reduceIte, irmn, iminn, imaxn, and_self, true_and, and_true, false_and, and_false, f_X6_goodTaking_L2]
    | succ m ih =>
      intro g h hg h1 hh
      obtain ⟨h, rfl⟩ : ∃ x, h = x + 1 := ⟨h - 1, by omega⟩
      obtain ⟨c1, c2, c3, c4⟩ := hc g (by omega)
      rw [c4 h1] at c2
      rw [← ih (g + 1) h (by omega) (by omega) (by omega)]
      obtain ⟨z, rfl⟩ : ∃ x, G = x + 1 := ⟨G - 1, by omega⟩
      simp (disch := omega) only [lit, neg1, nI_1, nI_add, pk_mul, pk_sub, nI_leI, nI_ltI, nI_eq, nI_eqm, chkn, ixn, if_pos, if_neg, bndV_s, bndE_s, bndO_s, reduceIte, irmn, iminn, imaxn, and_self, true_and, and_true, false_and, and_false, f_X6_goodTaking_L2, f_X6_goodTaking_L10, c2, f_X6_goodTaking_j47]
  have key : ∀ m g h f, g + m = M → 10 + m < h → m < f → ∃ r, f_X6_goodTaking_L2 G μ (f_X6_goodTaking_j31 G μ) h v (nI g) = some r ∧ f_X12_game_L19 G (f_X12_game_j56 G) f v (nI g) ρ = some (r, ρ) := by
    intro m
    induction m with
    | zero =>
      intro g h f hg hh hf
      obtain ⟨f, rfl⟩ : ∃ x, f = x + 1 := ⟨f - 1, by omega⟩
      obtain rfl : g = M := by omega
      exact ⟨_, tail (8 - g) g h (by omega) (by omega) (by omega), by simp (disch := omega) only [lit, neg1, nI_1, nI_add, pk_mul, pk_sub, nI_leI, nI_ltI, nI_eq, nI_eqm, chkn, ixn, if_pos, if_neg, bndV_s, bndE_s, bndO_s, reduceIte, irmn, iminn, imaxn, and_self, true_and, and_true, false_and, and_false, f_X12_game_L19, e7]⟩
    | succ m ih =>
      intro g h f hg hh hf
      obtain ⟨h, rfl⟩ : ∃ x, h = x + 1 := ⟨h - 1, by omega⟩
      obtain ⟨f, rfl⟩ : ∃ x, f = x + 1 := ⟨f - 1, by omega⟩
      obtain ⟨r, r1, r2⟩ := ih (g + 1) h f (by omega) (by omega) (by omega)
      have e1 : f_X6_goodTaking_L2 G μ (f_X6_goodTaking_j31 G μ) (h + 1) v (nI g) = f_X6_goodTaking_L10 G μ (f_X6_goodTaking_L2 G μ (f_X6_goodTaking_j31 G μ) h) (f_X6_goodTaking_j31 G μ) (f_X6_goodTaking_j31 G μ) (f_X6_goodTaking_j47 G μ (f_X6_goodTaking_L2 G μ (f_X6_goodTaking_j31 G μ) h) (f_X6_goodTaking_j31 G μ)) G v (nI g) (nI 1) := by
        simp (disch := omega) only [lit, neg1, nI_1, nI_add, pk_mul, pk_sub, nI_leI, nI_ltI, nI_eq, nI_eqm, chkn, ixn, if_pos, if_neg, bndV_s, bndE_s, bndO_s, reduceIte, irmn, iminn, imaxn, and_self, true_and, and_true, false_and, and_false, f_X6_goodTaking_L2]
      have e2 : f_X12_game_L19 G (f_X12_game_j56 G) (f + 1) v (nI g) ρ = f_X12_game_L29 G (f_X12_game_L19 G (f_X12_game_j56 G) f) (f_X12_game_j56 G) (f_X12_game_j56 G) (f_X12_game_j72 G (f_X12_game_L19 G (f_X12_game_j56 G) f) (f_X12_game_j56 G)) G v (nI g) (nI 1) ρ := by
        simp (disch := omega) only [lit, neg1, nI_1, nI_add, pk_mul, pk_sub, nI_leI, nI_ltI, nI_eq, nI_eqm, chkn, ixn, if_pos, if_neg, bndV_s, bndE_s, bndO_s, reduceIte, irmn, iminn, imaxn, and_self, true_and, and_true, false_and, and_false, f_X12_game_L19, e7]
      rw [e1, e2]
      rcases game_in hG D' (show g < M by omega) v (f_X6_goodTaking_L2 G μ (f_X6_goodTaking_j31 G μ) h) (f_X6_goodTaking_j31 G μ) (f_X6_goodTaking_j31 G μ) (f_X6_goodTaking_j47 G μ (f_X6_goodTaking_L2 G μ (f_X6_goodTaking_j31 G μ) h) (f_X6_goodTaking_j31 G μ)) (f_X12_game_L19 G (f_X12_game_j56 G) f) (f_X12_game_j56 G) (f_X12_game_j56 G) (f_X12_game_j72 G (f_X12_game_L19 G (f_X12_game_j56 G) f) (f_X12_game_j56 G)) 3 1 G G (by omega) (by omega) (by omega) (by omega) with ⟨j, j1, j2⟩ | ⟨j1, j2⟩
      · rw [j1, j2]
        unfold f_X6_goodTaking_j31 f_X12_game_j56
        split <;> exact ⟨_, rfl, rfl⟩
      · rw [j1, j2]
        refine ⟨r, ?_, ?_⟩
        · rw [f_X6_goodTaking_j47, show (1 : Int32) = nI 1 from rfl, nI_add, r1]
        · rw [f_X12_game_j72, show (1 : Int32) = nI 1 from rfl, nI_add, r2]
  exact key M 0 G G (by omega) (by omega) (by omega)
theorem s_game {G : Nat} {bb : Bool} {μ ρ : Mem} (hG : 500 ≤ G) (h : AR bb μ ρ) (p : Int32) : ∃ r ρ', f_X11_game G μ p = some r ∧ f_X12_game G p ρ = some (r, ρ') ∧ AR bb μ ρ' := by
  have h0 : AR bb μ (wr ρ 0 0 (nI 0)) := AR_told h
  obtain ⟨W, M, C, _⟩ := id h0
  obtain ⟨c, D⟩ := chD_of C
  obtain ⟨r, g1, g2⟩ := game_ok (v := p) hG D
  by_cases hp : nI 0 ≤ p ∧ p ≤ nI 1
  · obtain ⟨k, hk, rfl⟩ := in_of 1 rfl (by omega) hp.1 hp.2
    refine no_r h (r := r) ?_ ?_
    · rcases (by omega : k = 0 ∨ k = 1) with rfl | rfl
      · simp (disch := omega) only [lit, neg1, nI_1, nI_add, pk_mul, pk_sub, nI_leI, nI_ltI, nI_eq, nI_eqm, chkn, ixn, if_pos, if_neg, bndV_s, bndE_s, bndO_s, reduceIte, irmn, iminn, imaxn, and_self, true_and, and_true, false_and, and_false, f_X11_game, g1]
      · simp (disch := omega) only [lit, neg1, nI_1, nI_add, pk_mul, pk_sub, nI_leI, nI_ltI, nI_eq, nI_eqm, chkn, ixn, if_pos, if_neg, bndV_s, bndE_s, bndO_s, reduceIte, irmn, iminn, imaxn, and_self, true_and, and_true, false_and, and_false, f_X11_game, g1]
    · simp (disch := omega) only [lit, neg1, nI_1, nI_add, pk_mul, pk_sub, nI_leI, nI_ltI, nI_eq, nI_eqm, chkn, ixn, if_pos, if_neg, bndV_s, bndE_s, bndO_s, reduceIte, irmn, iminn, imaxn, and_self, true_and, and_true, false_and, and_false, f_X12_game, isI]
      exact g2
  · refine no_r h (r := nI 4294967295) ?_ ?_
    · by_cases a : p < nI 0
      · simp (disch := omega) only [lit, neg1, nI_1, nI_add, pk_mul, pk_sub, nI_leI, nI_ltI, nI_eq, nI_eqm, chkn, ixn, if_pos, if_neg, bndV_s, bndE_s, bndO_s, reduceIte, irmn, iminn, imaxn, and_self, true_and, and_true, false_and, and_false, f_X11_game, a]
      · have b : ¬ p ≤ nI 1 := fun b => hp ⟨Int32.not_lt.mp a, b⟩
        simp (disch := omega) only [lit, neg1, nI_1, nI_add, pk_mul, pk_sub, nI_leI, nI_ltI, nI_eq, nI_eqm, chkn, ixn, if_pos, if_neg, bndV_s, bndE_s, bndO_s, reduceIte, irmn, iminn, imaxn, and_self, true_and, and_true, false_and, and_false, f_X11_game, a, b]
    · simp (disch := omega) only [lit, neg1, nI_1, nI_add, pk_mul, pk_sub, nI_leI, nI_ltI, nI_eq, nI_eqm, chkn, ixn, if_pos, if_neg, bndV_s, bndE_s, bndO_s, reduceIte, irmn, iminn, imaxn, and_self, true_and, and_true, false_and, and_false, f_X12_game, isI, hp]
end
