section
def omO (i : Nat) : Nat := [12, 21, 102, 120, 201, 210, 211].getD i 0
def dg3 (n j : Nat) : Nat := if j = 0 then n / 100 else if j = 1 then n / 10 % 10 else n % 10
theorem plm {n j : Nat} (hn : n < 1000) (hj : j < 3) : f_X12_plumeAt (nI n) (nI j) = nI (dg3 n j) := by
  rcases (by omega : j = 0 ∨ j = 1 ∨ j = 2) with rfl | rfl | rfl
  · simp (disch := omega) only [lit, neg1, nI_1, nI_add, pk_mul, pk_sub, nI_leI, nI_ltI, nI_eq, nI_eqm, chkn, ixn, if_pos, if_neg, bndV_s, bndE_s, bndO_s, reduceIte, irmn, iminn, imaxn, and_self, true_and, and_true, false_and, and_false, f_X12_plumeAt, pk_div]
    rfl
  · simp (disch := omega) only [lit, neg1, nI_1, nI_add, pk_mul, pk_sub, nI_leI, nI_ltI, nI_eq, nI_eqm, chkn, ixn, if_pos, if_neg, bndV_s, bndE_s, bndO_s, reduceIte, irmn, iminn, imaxn, and_self, true_and, and_true, false_and, and_false, f_X12_plumeAt, pk_div]
    rfl
  · simp (disch := omega) only [lit, neg1, nI_1, nI_add, pk_mul, pk_sub, nI_leI, nI_ltI, nI_eq, nI_eqm, chkn, ixn, if_pos, if_neg, bndV_s, bndE_s, bndO_s, reduceIte, irmn, iminn, imaxn, and_self, true_and, and_true, false_and, and_false, f_X12_plumeAt, pk_div]
    rfl
/-- when the last of the three is in -/
def dnB (m t : Nat → Nat) (n : Nat) : Nat → Nat
  | 0 => 0
  | j + 1 => max (dnB m t n j) (t (dg3 n j)) + m (dg3 n j) + 1
def CgD (μ ρ : Mem) (m t : Nat → Nat) : Prop := ∀ i, i < 3 → m i < 30 ∧ t i ≤ 30 ∧ μ 40 (2 * i) = nI (m i + 1) ∧ ρ 40 i = nI (m i) ∧ μ 40 (2 * i + 1) = nI (t i) ∧ ρ 41 i = nI (t i)
theorem cgD_of {μ ρ : Mem} (h : CgR 1 μ ρ) : ∃ m t, CgD μ ρ m t := by
  refine ⟨fun i => if h' : i < 3 then (h i h').choose else 0, fun i => if h' : i < 3 then (h i h').choose_spec.choose else 0, fun i hi => ?_⟩
  simp only [dif_pos hi]
  exact (h i hi).choose_spec.choose_spec
theorem dnB_le {m t : Nat → Nat} {n : Nat} (hm : ∀ i, i < 3 → m i < 30 ∧ t i ≤ 30) (hd : ∀ j, j < 3 → dg3 n j < 3) : ∀ j, j ≤ 3 → dnB m t n j ≤ 60 * j := by
  intro j
  induction j with
  | zero => intro _; exact Nat.le_refl _
  | succ j ih =>
    intro hj
    have := ih (by omega)
    have := hm _ (hd j (by omega))
    show max (dnB m t n j) (t (dg3 n j)) + m (dg3 n j) + 1 ≤ _
    omega
theorem done_ok {G n : Nat} {m t : Nat → Nat} {μ ρ : Mem} (hG : 500 ≤ G) (D : CgD μ ρ m t) (hn : n < 1000) (hd : ∀ j, j < 3 → dg3 n j < 3) : f_X12_doneBy G ρ (nI n) = some (nI (dnB m t n 3)) := by
  have hb := dnB_le (m := m) (t := t) (n := n) (fun i hi => ⟨(D i hi).1, (D i hi).2.1⟩) hd
  obtain ⟨g', s, h1, rfl⟩ := loopZ (fun g v x => f_X12_doneBy_L4 G ρ g (nI n) x v) 3 (fun k s => s = nI (dnB m t n k)) (by
    rintro g j s hj rfl
    refine ⟨_, ?_, rfl⟩
    obtain ⟨d1, d2, d3, d4, d5, d6⟩ := D _ (hd j hj)
    have := hb j (by omega)
    have := hd j hj
    show f_X12_doneBy_L4 G ρ (g + 1) (nI n) (nI (dnB m t n j)) (nI j) = f_X12_doneBy_L4 G ρ g (nI n) (nI (max (dnB m t n j) (t (dg3 n j)) + m (dg3 n j) + 1)) (nI (j + 1))
    simp (disch := omega) only [lit, neg1, nI_1, nI_add, pk_mul, pk_sub, nI_leI, nI_ltI, nI_eq, nI_eqm, chkn, ixn, if_pos, if_neg, bndV_s, bndE_s, bndO_s, reduceIte, irmn, iminn, imaxn, and_self, true_and, and_true, false_and, and_false, f_X12_doneBy_L4, plm hn hj, gr12, d4, d6]) (by omega : 3 < G) (s := (0 : Int32)) rfl
  refine Eq.trans h1 ?_
  show f_X12_doneBy_L4 G ρ (g' + 1) (nI n) _ (nI 3) = _
  simp (disch := omega) only [lit, neg1, nI_1, nI_add, pk_mul, pk_sub, nI_leI, nI_ltI, nI_eq, nI_eqm, chkn, ixn, if_pos, if_neg, bndV_s, bndE_s, bndO_s, reduceIte, irmn, iminn, imaxn, and_self, true_and, and_true, false_and, and_false, f_X12_doneBy_L4]
theorem doneC {G n h : Nat} {m t : Nat → Nat} {μ ρ : Mem} (D : CgD μ ρ m t) (hn : n < 1000) (hd : ∀ j, j < 3 → dg3 n j < 3) (r17 k17 k38 v1 v2 v3 v5 v6) :
    f_X6_orderDown_L38 G μ r17 k17 k38 (h + 4) v1 v2 v3 v5 v6 (nI n) (nI 0) (nI 100) = k38 v1 v2 v3 v5 v6 (nI n) (nI (dnB m t n 3)) := by
  have hb := dnB_le (m := m) (t := t) (n := n) (fun i hi => ⟨(D i hi).1, (D i hi).2.1⟩) hd
  have stp : ∀ j p, j < 3 → 0 < p → p < 1000 → n / p % 10 = dg3 n j → ∀ f, f_X6_orderDown_L38 G μ r17 k17 k38 (f + 1) v1 v2 v3 v5 v6 (nI n) (nI (dnB m t n j)) (nI p) = f_X6_orderDown_L38 G μ r17 k17 k38 f v1 v2 v3 v5 v6 (nI n) (nI (dnB m t n (j + 1))) (nI (p / 10)) := by
    intro j p hj p0 p1 he f
    obtain ⟨d1, d2, d3, d4, d5, d6⟩ := D _ (hd j hj)
    have := hb j (by omega)
    have := hd j hj
    have e1 : n / p % 10 * 2 = 2 * dg3 n j := by omega
    have : n / p ≤ n := Nat.div_le_self _ _
    show _ = f_X6_orderDown_L38 G μ r17 k17 k38 f v1 v2 v3 v5 v6 (nI n) (nI (max (dnB m t n j) (t (dg3 n j)) + m (dg3 n j) + 1)) (nI (p / 10))
    rw [show max (dnB m t n j) (t (dg3 n j)) + m (dg3 n j) + 1 = max (dnB m t n j) (t (dg3 n j)) + (m (dg3 n j) + 1) by omega]
    have pz : nI p ≠ (0 : Int32) := nI_ne0 p0 (by omega)
    simp (disch := omega) only [lit, neg1, nI_1, nI_add, pk_mul, pk_sub, nI_leI, nI_ltI, nI_eq, nI_eqm, chkn, ixn, if_pos, if_neg, bndV_s, bndE_s, bndO_s, reduceIte, irmn, iminn, imaxn, and_self, true_and, and_true, false_and, and_false, f_X6_orderDown_L38, pk_div, dvkn pz, e1, d3, d5, f_X6_orderDown_j87]
  have h0 : n / 100 % 10 = dg3 n 0 := by show _ = n / 100; omega
  rw [show nI 0 = nI (dnB m t n 0) from rfl, stp 0 100 (by omega) (by omega) (by omega) h0 (h + 3)]
  rw [stp 1 10 (by omega) (by omega) (by omega) rfl (h + 2)]
  rw [stp 2 1 (by omega) (by omega) (by omega) (by show n / 1 % 10 = n % 10; rw [Nat.div_one]) (h + 1)]
  simp (disch := omega) only [lit, neg1, nI_1, nI_add, pk_mul, pk_sub, nI_leI, nI_ltI, nI_eq, nI_eqm, chkn, ixn, if_pos, if_neg, bndV_s, bndE_s, bndO_s, reduceIte, irmn, iminn, imaxn, and_self, true_and, and_true, false_and, and_false, f_X6_orderDown_L38]
theorem ordK : ∀ n, n < 211 → f_X12_isOrder (nI n) = if n = 12 ∨ n = 21 ∨ n = 102 ∨ n = 120 ∨ n = 201 ∨ n = 210 then 1 else 0 := by decide +kernel
theorem skO {G : Nat} {ρ : Mem} (v1 v2 : Int32) : ∀ m k f, (∀ j, k ≤ j → j < k + m → ¬ (j = 12 ∨ j = 21 ∨ j = 102 ∨ j = 120 ∨ j = 201 ∨ j = 210)) → k + m ≤ 211 → m < f → f_X12_down_L23 G (f_X12_down_j59 G) f v1 v2 (nI k) ρ = f_X12_down_L23 G (f_X12_down_j59 G) (f - m) v1 v2 (nI (k + m)) ρ := by
  intro m
  induction m with
  | zero => intro k f h1 h2 h3; rfl
  | succ m ih =>
    intro k f h1 h2 h3
    obtain ⟨f, rfl⟩ : ∃ x, f = x + 1 := ⟨f - 1, by omega⟩
    have := ih (k + 1) f (fun j a b => h1 j (by omega) (by omega)) (by omega) (by omega)
    rw [show k + 1 + m = k + (m + 1) by omega] at this
    rw [show f + 1 - (m + 1) = f - m by omega, ← this]
    have e := ordK k (by omega)
    rw [if_neg (h1 k (by omega) (by omega))] at e
    rw [f_X12_down_L23, if_neg (show ¬ (211 : Int32) ≤ nI k from nI_ge (b := 211) (by omega) (by omega)), e, if_pos rfl, f_X12_down_j53, show (1 : Int32) = nI 1 from rfl, nI_add]
def bsO (d : Nat → Nat) : Nat → Nat
  | 0 => 12
  | i + 1 => if d (bsO d i) ≤ d (omO i) then bsO d i else omO i
theorem omO_1 : ∀ i, i < 6 → omO i < 211 ∧ ordT i = nI (omO i) ∧ omO i < omO (i + 1) ∧ omO (i + 1) ≤ 211 := by decide +kernel
theorem omO_2 : ∀ i, i < 6 → ∀ j, j < 3 → dg3 (omO i) j < 3 := by decide +kernel
theorem omO_3 : ∀ i, i < 6 → ∀ j, j < 211 → (omO i + 1 ≤ j ∧ j < omO (i + 1)) → ¬ (j = 12 ∨ j = 21 ∨ j = 102 ∨ j = 120 ∨ j = 201 ∨ j = 210) := by decide +kernel
theorem omO_4 : ∀ i, i < 6 → (omO i = 12 ∨ omO i = 21 ∨ omO i = 102 ∨ omO i = 120 ∨ omO i = 201 ∨ omO i = 210) := by decide +kernel
theorem omO_d (i : Nat) (hi : i < 6) : omO i < 211 ∧ (∀ j, j < 3 → dg3 (omO i) j < 3) ∧ ordT i = nI (omO i) ∧ omO i < omO (i + 1) ∧ omO (i + 1) ≤ 211 ∧ (∀ j, j < 211 → omO i + 1 ≤ j → j < omO (i + 1) → ¬ (j = 12 ∨ j = 21 ∨ j = 102 ∨ j = 120 ∨ j = 201 ∨ j = 210)) ∧ (omO i = 12 ∨ omO i = 21 ∨ omO i = 102 ∨ omO i = 120 ∨ omO i = 201 ∨ omO i = 210) :=
  ⟨(omO_1 i hi).1, omO_2 i hi, (omO_1 i hi).2.1, (omO_1 i hi).2.2.1, (omO_1 i hi).2.2.2, fun j a b c => omO_3 i hi j a ⟨b, c⟩, omO_4 i hi⟩
theorem bsO_s {d : Nat → Nat} {i : Nat} : bsO d (i + 1) = if d (bsO d i) ≤ d (omO i) then bsO d i else omO i := rfl
theorem bsO_i {d : Nat → Nat} : ∀ i, i ≤ 6 → ∃ k, k < 6 ∧ bsO d i = omO k
  | 0, _ => ⟨0, by omega, rfl⟩
  | i + 1, h => by
    obtain ⟨k, k1, k2⟩ := bsO_i (d := d) i (by omega)
    unfold bsO
    split
    · exact ⟨k, k1, k2⟩
    · exact ⟨i, by omega, rfl⟩
theorem down_ok {G : Nat} {m t : Nat → Nat} {μ ρ : Mem} (hG : 500 ≤ G) (D : CgD μ ρ m t) (v : Int32) : ∃ r, f_X6_orderDown G μ v = some r ∧ f_X12_down_L23 G (f_X12_down_j59 G) G v (nI 12) (nI 12) ρ = some (r, ρ) := by
  let d := fun n => dnB m t n 3
  have dO : ∀ i, i < 6 → f_X12_doneBy G ρ (nI (omO i)) = some (nI (d (omO i))) := fun i hi => done_ok hG D (by have := (omO_d i hi).1; omega) (omO_d i hi).2.1
  have dL : ∀ i, i < 6 → d (omO i) ≤ 180 := fun i hi => dnB_le (fun i hi => ⟨(D i hi).1, (D i hi).2.1⟩) (omO_d i hi).2.1 3 (by omega)
  have ref : ∀ i, i ≤ 6 → f_X12_down_L23 G (f_X12_down_j59 G) G v (nI 12) (nI 12) ρ = f_X12_down_L23 G (f_X12_down_j59 G) (G - (omO i - 12)) v (nI (bsO d i)) (nI (omO i)) ρ := by
    intro i
    induction i with
    | zero => intro _; rfl
    | succ i ih =>
      intro hi
      rw [ih (by omega)]
      obtain ⟨o1, o2, o3, o4, o5, o6, o7⟩ := omO_d i (by omega)
      obtain ⟨k, k1, k2⟩ := bsO_i (d := d) i (by omega)
      obtain ⟨f, hf⟩ : ∃ f, G - (omO i - 12) = f + 1 := ⟨G - (omO i - 12) - 1, by omega⟩
      have e := ordK (omO i) o1
      rw [if_pos o7] at e
      have l1 := dL k k1
      have l2 := dL i (by omega)
      have e2 : f_X12_down_L23 G (f_X12_down_j59 G) (f + 1) v (nI (bsO d i)) (nI (omO i)) ρ = f_X12_down_L23 G (f_X12_down_j59 G) f v (nI (bsO d (i + 1))) (nI (omO i + 1)) ρ := by
        rw [f_X12_down_L23, if_neg (show ¬ (211 : Int32) ≤ nI (omO i) from nI_ge (b := 211) (by omega) (by omega)), e, if_neg (by decide), dO i (by omega), bndO_s, k2, dO k k1, bndO_s]
        unfold f_X12_down_j53
        rw [show (1 : Int32) = nI 1 from rfl, nI_add]
        rw [bsO_s, k2]
        by_cases c : d (omO k) ≤ d (omO i)
        · rw [if_pos (nI_le c (by omega)), if_pos c]
        · rw [if_neg (nI_ge (by omega) (by omega)), if_neg c]
      have ge : 12 ≤ omO i := by rcases o7 with h | h | h | h | h | h <;> omega
      rw [hf, e2, skO v (nI (bsO d (i + 1))) (omO (i + 1) - (omO i + 1)) (omO i + 1) f (fun j a b => o6 j (by omega) a (by omega)) (by omega) (by omega)]
      rw [show omO i + 1 + (omO (i + 1) - (omO i + 1)) = omO (i + 1) by omega, show f - (omO (i + 1) - (omO i + 1)) = G - (omO (i + 1) - 12) by omega]
  have cls : ∀ i, i ≤ 6 → ∀ h, 1 ≤ i → f_X6_orderDown_L17 G μ (f_X6_orderDown_j120 G μ) (h + i) v (nI 4294967295) (nI 4294967295) (nI 6) (nI 0) = f_X6_orderDown_L17 G μ (f_X6_orderDown_j120 G μ) h v (nI (bsO d i)) (nI (d (bsO d i))) (nI 6) (nI i) := by
    have stp : ∀ i, i < 6 → ∀ h (v2 v3 : Int32), f_X6_orderDown_L17 G μ (f_X6_orderDown_j120 G μ) (h + 1) v v2 v3 (nI 6) (nI i) = f_X6_orderDown_j97 G μ (f_X6_orderDown_L17 G μ (f_X6_orderDown_j120 G μ) h) (f_X6_orderDown_j120 G μ) v v2 v3 (nI 6) (nI i) (nI (omO i)) (nI (d (omO i))) := by
      intro i hi h v2 v3
      obtain ⟨o1, o2, o3, o4, o5, o6, o7⟩ := omO_d i hi
      obtain ⟨z, hz⟩ : ∃ z, G = z + 4 := ⟨G - 4, by omega⟩
      rw [f_X6_orderDown_L17, if_neg (nI_ge (b := 6) hi (by omega)), chkn hi (by omega), ixn (by omega), o3]
      conv => lhs; arg 6; rw [hz]
      exact doneC (h := z) D (by omega) o2 _ _ _ v v2 v3 (nI 6) (nI i)
    intro i
    induction i with
    | zero => intro _ h h1; omega
    | succ i ih =>
      intro hi h _
      have l2 := dL i (by omega)
      by_cases i0 : i = 0
      · subst i0
        rw [stp 0 (by omega)]
        rw [f_X6_orderDown_j97, if_pos (show nI 4294967295 = -1 from rfl), f_X6_orderDown_j108, f_X6_orderDown_j114, show (1 : Int32) = nI 1 from rfl, nI_add]
        have : bsO d (0 + 1) = 12 := by rw [bsO_s]; split <;> rfl
        rw [this]
        rfl
      · rw [show h + (i + 1) = (h + 1) + i by omega, ih (by omega) (h + 1) (by omega), stp i (by omega)]
        obtain ⟨k, k1, k2⟩ := bsO_i (d := d) i (by omega)
        have l1 := dL k k1
        obtain ⟨o1, _⟩ := omO_d k k1
        rw [bsO_s, k2]
        by_cases c : d (omO k) ≤ d (omO i)
        · rw [if_pos c]
          simp (disch := omega) only [lit, neg1, nI_1, nI_add, pk_mul, pk_sub, nI_leI, nI_ltI, nI_eq, nI_eqm, chkn, ixn, if_pos, if_neg, bndV_s, bndE_s, bndO_s, reduceIte, irmn, iminn, imaxn, and_self, true_and, and_true, false_and, and_false, f_X6_orderDown_j97, f_X6_orderDown_j114]
        · rw [if_neg c]
          simp (disch := omega) only [lit, neg1, nI_1, nI_add, pk_mul, pk_sub, nI_leI, nI_ltI, nI_eq, nI_eqm, chkn, ixn, if_pos, if_neg, bndV_s, bndE_s, bndO_s, reduceIte, irmn, iminn, imaxn, and_self, true_and, and_true, false_and, and_false, f_X6_orderDown_j97, f_X6_orderDown_j108, f_X6_orderDown_j114]
  obtain ⟨k, k1, k2⟩ := bsO_i (d := d) 6 (by omega)
  have a1 : f_X6_orderDown G μ v = f_X6_orderDown_j120 G μ v (nI (omO k)) (nI (d (omO k))) := by
    have := cls 6 (by omega) (G - 6) (by omega)
    rw [show G - 6 + 6 = G by omega, k2] at this
    obtain ⟨z, hz⟩ : ∃ z, G - 6 = z + 1 := ⟨G - 7, by omega⟩
    refine Eq.trans this ?_
    rw [hz]
    simp (disch := omega) only [lit, neg1, nI_1, nI_add, pk_mul, pk_sub, nI_leI, nI_ltI, nI_eq, nI_eqm, chkn, ixn, if_pos, if_neg, bndV_s, bndE_s, bndO_s, reduceIte, irmn, iminn, imaxn, and_self, true_and, and_true, false_and, and_false, f_X6_orderDown_L17]
  have a2 := ref 6 (by omega)
  rw [show omO 6 = 211 from rfl, show G - (211 - 12) = (G - 200) + 1 by omega, k2] at a2
  rw [a1, a2, f_X12_down_L23, if_pos (by exact nI_le (Nat.le_refl _) (by omega))]
  unfold f_X6_orderDown_j120 f_X12_down_j59
  rw [dO k k1, bndO_s]
  split <;> exact ⟨_, rfl, rfl⟩
theorem s_down {G : Nat} {bb : Bool} {μ ρ : Mem} (hG : 500 ≤ G) (h : AR bb μ ρ) (p : Int32) : ∃ r ρ', f_X11_down G μ p = some r ∧ f_X12_down G p ρ = some (r, ρ') ∧ AR bb μ ρ' := by
  have h0 : AR bb μ (wr ρ 0 0 (nI 0)) := AR_told h
  obtain ⟨m, t, D⟩ := cgD_of (AR_ch h0).2.2.2.2.2.2.1
  obtain ⟨r, g1, g2⟩ := down_ok (v := p) hG D
  by_cases hp : nI 0 ≤ p ∧ p ≤ nI 1
  · obtain ⟨k, hk, rfl⟩ := in_of 1 rfl (by omega) hp.1 hp.2
    refine no_r h (r := r) ?_ ?_
    · rcases (by omega : k = 0 ∨ k = 1) with rfl | rfl
      · simp (disch := omega) only [lit, neg1, nI_1, nI_add, pk_mul, pk_sub, nI_leI, nI_ltI, nI_eq, nI_eqm, chkn, ixn, if_pos, if_neg, bndV_s, bndE_s, bndO_s, reduceIte, irmn, iminn, imaxn, and_self, true_and, and_true, false_and, and_false, f_X11_down, g1]
      · simp (disch := omega) only [lit, neg1, nI_1, nI_add, pk_mul, pk_sub, nI_leI, nI_ltI, nI_eq, nI_eqm, chkn, ixn, if_pos, if_neg, bndV_s, bndE_s, bndO_s, reduceIte, irmn, iminn, imaxn, and_self, true_and, and_true, false_and, and_false, f_X11_down, g1]
    · simp (disch := omega) only [lit, neg1, nI_1, nI_add, pk_mul, pk_sub, nI_leI, nI_ltI, nI_eq, nI_eqm, chkn, ixn, if_pos, if_neg, bndV_s, bndE_s, bndO_s, reduceIte, irmn, iminn, imaxn, and_self, true_and, and_true, false_and, and_false, f_X12_down, isI]
      exact g2
  · have p0 : ¬ p = nI 0 := fun e => hp (by rw [e]; decide)
    have p1 : ¬ p = nI 1 := fun e => hp (by rw [e]; decide)
    refine no_r h (r := nI 4294967295) ?_ ?_
    · simp (disch := omega) only [lit, neg1, nI_1, nI_add, pk_mul, pk_sub, nI_leI, nI_ltI, nI_eq, nI_eqm, chkn, ixn, if_pos, if_neg, bndV_s, bndE_s, bndO_s, reduceIte, irmn, iminn, imaxn, and_self, true_and, and_true, false_and, and_false, f_X11_down, p0, p1]
    · simp (disch := omega) only [lit, neg1, nI_1, nI_add, pk_mul, pk_sub, nI_leI, nI_ltI, nI_eq, nI_eqm, chkn, ixn, if_pos, if_neg, bndV_s, bndE_s, bndO_s, reduceIte, irmn, iminn, imaxn, and_self, true_and, and_true, false_and, and_false, f_X12_down, isI, hp]
end
