section
def boN (L V : Nat → Nat) (l : Nat) : Nat → Nat
  | 0 => 0
  | k + 1 => if L k = l then max (boN L V l k) (V k) else boN L V l k
def OdD (μ ρ : Mem) (n : Nat) (L V : Nat → Nat) : Prop := LnR μ 32 6 2 n ∧ ρ 0 57 = nI n ∧ ∀ i, i < n → L i < 3 ∧ 101 ≤ V i ∧ V i ≤ 9999 ∧ μ 33 (2 * i) = nI (L i) ∧ ρ 34 i = nI (L i) ∧ μ 33 (2 * i + 1) = nI (V i) ∧ ρ 35 i = nI (V i)
theorem odD_of {μ ρ : Mem} (h : OdR 1 μ ρ) : ∃ n L V, OdD μ ρ n L V := by
  obtain ⟨n, n1, n2, n3⟩ := h
  refine ⟨n, fun i => if h : i < n then (n3 i h).choose else 0, fun i => if h : i < n then (n3 i h).choose_spec.choose else 0, n1, n2, fun i hi => ?_⟩
  simp only [dif_pos hi]
  exact (n3 i hi).choose_spec.choose_spec
theorem boN_le {L V : Nat → Nat} {l : Nat} : ∀ {k : Nat}, (∀ i, i < k → 101 ≤ V i ∧ V i ≤ 9999) → boN L V l k = 0 ∨ (101 ≤ boN L V l k ∧ boN L V l k ≤ 9999)
  | 0, _ => Or.inl rfl
  | k + 1, h => by
    have ih := boN_le (L := L) (l := l) (k := k) (fun i hi => h i (by omega))
    have hk := h k (by omega)
    unfold boN
    split
    · right; omega
    · exact ih
theorem odds_ok {G n l : Nat} {L V : Nat → Nat} {μ ρ : Mem} (hG : 500 ≤ G) (D : OdD μ ρ n L V) (hl : l < 3) : f_X6_bestOdds G μ (nI l) = some (nI (boN L V l n)) := by
  obtain ⟨n1, n2, n3⟩ := D
  have hn := n1.2.2.2
  have e1 : μ 32 3 = nI n := n1.2.2.1
  have a : ∀ i, i < n → f_X2_at G 32 12 μ (nI i) (nI 0) = some (nI (L i)) ∧ f_X2_at G 32 12 μ (nI i) (nI 1) = some (nI (V i)) := fun i hi => by
    rw [atn n1 (by omega) (by omega) (by omega) (by omega) hi (by omega), atn n1 (by omega) (by omega) (by omega) (by omega) hi (by omega), Nat.mul_comm i 2]
    obtain ⟨w1, w2, w3, w4, w5, w6, w7⟩ := n3 i hi
    exact ⟨congrArg some w4, congrArg some w6⟩
  obtain ⟨g', s, h1, rfl⟩ := loopZ (fun g v x => f_X6_bestOdds_L4 G μ g (nI l) x v) n (fun k s => s = nI (boN L V l k)) (by
    rintro g i s hi rfl
    refine ⟨_, ?_, rfl⟩
    obtain ⟨w1, w2, w3, w4, w5, w6, w7⟩ := n3 i hi
    obtain ⟨a1, a2⟩ := a i hi
    have hb := boN_le (L := L) (V := V) (l := l) (k := i) (fun j hj => ⟨(n3 j (by omega)).2.1, (n3 j (by omega)).2.2.1⟩)
    show f_X6_bestOdds_L4 G μ (g + 1) (nI l) (nI (boN L V l i)) (nI i) = f_X6_bestOdds_L4 G μ g (nI l) (nI (if L i = l then max (boN L V l i) (V i) else boN L V l i)) (nI (i + 1))
    by_cases c : L i = l
    · rw [if_pos c]
      simp (disch := omega) only [lit, neg1, nI_1, nI_add, pk_mul, pk_sub, nI_leI, nI_ltI, nI_eq, nI_eqm, chkn, ixn, if_pos, if_neg, bndV_s, bndE_s, bndO_s, reduceIte, irmn, iminn, imaxn, and_self, true_and, and_true, false_and, and_false, f_X6_bestOdds_L4, e1, a1, a2, f_X6_bestOdds_j33]
    · rw [if_neg c]
      simp (disch := omega) only [lit, neg1, nI_1, nI_add, pk_mul, pk_sub, nI_leI, nI_ltI, nI_eq, nI_eqm, chkn, ixn, if_pos, if_neg, bndV_s, bndE_s, bndO_s, reduceIte, irmn, iminn, imaxn, and_self, true_and, and_true, false_and, and_false, f_X6_bestOdds_L4, e1, a1, f_X6_bestOdds_j33]) (by omega : n < G) (s := (0 : Int32)) rfl
  refine Eq.trans h1 ?_
  show f_X6_bestOdds_L4 G μ (g' + 1) (nI l) _ (nI n) = _
  simp (disch := omega) only [lit, neg1, nI_1, nI_add, pk_mul, pk_sub, nI_leI, nI_ltI, nI_eq, nI_eqm, chkn, ixn, if_pos, if_neg, bndV_s, bndE_s, bndO_s, reduceIte, irmn, iminn, imaxn, and_self, true_and, and_true, false_and, and_false, f_X6_bestOdds_L4, e1]
theorem back_ok {G n l s : Nat} {L V : Nat → Nat} {μ ρ : Mem} (hG : 500 ≤ G) (D : OdD μ ρ n L V) (hl : l < 3) (hs : s ≤ 300) : f_X12_backFrom G ρ (nI l) (nI s) = some (nI (s * boN L V l n / 100)) := by
  obtain ⟨n1, n2, n3⟩ := D
  have hn := n1.2.2.2
  have hb := fun i (hi : i ≤ n) => boN_le (L := L) (V := V) (l := l) (k := i) (fun j hj => ⟨(n3 j (by omega)).2.1, (n3 j (by omega)).2.2.1⟩)
  obtain ⟨g', x, h1, rfl⟩ := loopZ (fun g v x => f_X12_backFrom_L5 G ρ g (nI l) (nI s) x v) n (fun k x => x = nI (boN L V l k)) (by
    rintro g i x hi rfl
    refine ⟨_, ?_, rfl⟩
    obtain ⟨w1, w2, w3, w4, w5, w6, w7⟩ := n3 i hi
    have hb := hb i (by omega)
    show f_X12_backFrom_L5 G ρ (g + 1) (nI l) (nI s) (nI (boN L V l i)) (nI i) = f_X12_backFrom_L5 G ρ g (nI l) (nI s) (nI (if L i = l then max (boN L V l i) (V i) else boN L V l i)) (nI (i + 1))
    by_cases c : L i = l
    · rw [if_pos c]
      simp (disch := omega) only [lit, neg1, nI_1, nI_add, pk_mul, pk_sub, nI_leI, nI_ltI, nI_eq, nI_eqm, chkn, ixn, if_pos, if_neg, bndV_s, bndE_s, bndO_s, reduceIte, irmn, iminn, imaxn, and_self, true_and, and_true, false_and, and_false, f_X12_backFrom_L5, n2, w5, w7, gr12, f_X12_backFrom_j38]
    · rw [if_neg c]
      simp (disch := omega) only [lit, neg1, nI_1, nI_add, pk_mul, pk_sub, nI_leI, nI_ltI, nI_eq, nI_eqm, chkn, ixn, if_pos, if_neg, bndV_s, bndE_s, bndO_s, reduceIte, irmn, iminn, imaxn, and_self, true_and, and_true, false_and, and_false, f_X12_backFrom_L5, n2, w5, f_X12_backFrom_j38]) (by omega : n < G) (s := (0 : Int32)) rfl
  refine Eq.trans h1 ?_
  show f_X12_backFrom_L5 G ρ (g' + 1) (nI l) (nI s) _ (nI n) = _
  have hb := hb n (by omega)
  have : s * boN L V l n ≤ 300 * 9999 := Nat.mul_le_mul hs (by omega)
  simp (disch := omega) only [lit, neg1, nI_1, nI_add, pk_mul, pk_sub, nI_leI, nI_ltI, nI_eq, nI_eqm, chkn, ixn, if_pos, if_neg, bndV_s, bndE_s, bndO_s, reduceIte, irmn, iminn, imaxn, and_self, true_and, and_true, false_and, and_false, f_X12_backFrom_L5, n2, pk_div]
/-- what comes back at the least -/
def bkN (o0 o1 o2 a b c : Nat) : Nat := min (a * o0 / 100) (min (b * o1 / 100) (c * o2 / 100))
theorem least_ok {G n a b c : Nat} {L V : Nat → Nat} {μ ρ : Mem} (hG : 500 ≤ G) (D : OdD μ ρ n L V) (ha : a ≤ 300) (hb : b ≤ 300) (hc : c ≤ 300) : f_X12_leastBack G ρ (nI a) (nI b) (nI c) = some (nI (bkN (boN L V 0 n) (boN L V 1 n) (boN L V 2 n) a b c)) ∧ bkN (boN L V 0 n) (boN L V 1 n) (boN L V 2 n) a b c ≤ 29997 := by
  have hb' := fun l => boN_le (L := L) (V := V) (l := l) (k := n) (fun j hj => ⟨(D.2.2 j (by omega)).2.1, (D.2.2 j (by omega)).2.2.1⟩)
  have m : ∀ x l, x ≤ 300 → x * boN L V l n / 100 ≤ 29997 := fun x l hx => by
    have : x * boN L V l n ≤ 300 * 9999 := Nat.mul_le_mul hx (by have := hb' l; omega)
    omega
  have m0 := m a 0 ha
  have m1 := m b 1 hb
  have m2 := m c 2 hc
  have b0 := back_ok hG D (show 0 < 3 by omega) ha
  have b1 := back_ok hG D (show 1 < 3 by omega) hb
  have b2 := back_ok hG D (show 2 < 3 by omega) hc
  constructor
  · rw [f_X12_leastBack, show (0 : Int32) = nI 0 from rfl, b0, bndO_s, show (1 : Int32) = nI 1 from rfl, b1, bndO_s, show (2 : Int32) = nI 2 from rfl, b2, bndO_s, ls12, ls12, iminn (by omega) (by omega), iminn (by omega) (by omega)]
    rfl
  · unfold bkN; omega
theorem safe12 {G n m S ca cb : Nat} {L V : Nat → Nat} {μ ρ : Mem} (hG : 500 ≤ G) (D : OdD μ ρ m L V) (hn : n ≤ 300) (v2 : Int32) (h1 : ca + cb ≤ n)
    (h2 : bkN (boN L V 0 m) (boN L V 1 m) (boN L V 2 m) ca cb (n - ca - cb) = S)
    (h3 : ∀ a b, a + b ≤ n → bkN (boN L V 0 m) (boN L V 1 m) (boN L V 2 m) a b (n - a - b) ≤ S ∧ (bkN (boN L V 0 m) (boN L V 1 m) (boN L V 2 m) a b (n - a - b) = S → ca ≤ a ∧ cb ≤ b)) :
    f_X12_safe_L46 G (f_X12_safe_j114 G) G (nI n) v2 (nI 0) (nI 0) (nI 4294967295) (nI 0) ρ = f_X12_safe_j114 G (nI n) v2 (nI ca) (nI cb) (nI S) ρ := by
  have hS : S ≤ 29997 := by rw [← h2]; exact (least_ok hG D (show ca ≤ 300 by omega) (show cb ≤ 300 by omega) (show n - ca - cb ≤ 300 by omega)).2
  let I : Nat → Nat → Int32 × Int32 × Int32 → Prop := fun a b s => if ca < a ∨ (a = ca ∧ cb < b) then s = (nI ca, nI cb, nI S) else s.2.2 < nI S
  have hI0 : ∀ a s, a ≤ n → I a (n - a + 1) s → I (a + 1) 0 s := by
    intro a s ha hi
    show if ca < a + 1 ∨ (a + 1 = ca ∧ cb < 0) then _ else _
    have hi : if ca < a ∨ (a = ca ∧ cb < n - a + 1) then s = (nI ca, nI cb, nI S) else s.2.2 < nI S := hi
    by_cases c : ca < a ∨ (a = ca ∧ cb < n - a + 1)
    · rw [if_pos c] at hi
      rw [if_pos (by omega)]; exact hi
    · rw [if_neg c] at hi
      rw [if_neg (by omega)]; exact hi
  obtain ⟨g', s, k1, hs⟩ := loopZ (fun g v (s : Int32 × Int32 × Int32) => f_X12_safe_L46 G (f_X12_safe_j114 G) g (nI n) v2 s.1 s.2.1 s.2.2 v ρ) (n + 1) (fun a s => I a 0 s) (by
    intro g a s ha hi
    obtain ⟨g2, s2, j1, hs2⟩ := loopZ (fun h v (s : Int32 × Int32 × Int32) => f_X12_safe_L55 G (f_X12_safe_L46 G (f_X12_safe_j114 G) g) (f_X12_safe_j114 G) (f_X12_safe_j108 G (f_X12_safe_L46 G (f_X12_safe_j114 G) g) (f_X12_safe_j114 G)) h (nI n) v2 s.1 s.2.1 s.2.2 (nI a) v ρ) (n - a + 1) (fun b s => I a b s) (by
      rintro h b ⟨x, y, z⟩ hb hi
      obtain ⟨l1, l2⟩ := least_ok (a := a) (b := b) (c := n - a - b) hG D (by omega) (by omega) (by omega)
      obtain ⟨q1, q2⟩ := h3 a b (by omega)
      have e : f_X12_safe_L55 G (f_X12_safe_L46 G (f_X12_safe_j114 G) g) (f_X12_safe_j114 G) (f_X12_safe_j108 G (f_X12_safe_L46 G (f_X12_safe_j114 G) g) (f_X12_safe_j114 G)) (h + 1) (nI n) v2 x y z (nI a) (nI b) ρ = (if z < nI (bkN (boN L V 0 m) (boN L V 1 m) (boN L V 2 m) a b (n - a - b)) then f_X12_safe_L55 G (f_X12_safe_L46 G (f_X12_safe_j114 G) g) (f_X12_safe_j114 G) (f_X12_safe_j108 G (f_X12_safe_L46 G (f_X12_safe_j114 G) g) (f_X12_safe_j114 G)) h (nI n) v2 (nI a) (nI b) (nI (bkN (boN L V 0 m) (boN L V 1 m) (boN L V 2 m) a b (n - a - b))) (nI a) (nI (b + 1)) ρ else f_X12_safe_L55 G (f_X12_safe_L46 G (f_X12_safe_j114 G) g) (f_X12_safe_j114 G) (f_X12_safe_j108 G (f_X12_safe_L46 G (f_X12_safe_j114 G) g) (f_X12_safe_j114 G)) h (nI n) v2 x y z (nI a) (nI (b + 1)) ρ) := by
        rw [f_X12_safe_L55, if_neg (by rw [nI_add]; exact nI_nlt (by omega) (by omega)), pk_sub (by omega), pk_sub (by omega), l1, bndO_s]
        unfold f_X12_safe_j102
        rw [show (1 : Int32) = nI 1 from rfl, nI_add]
      have hi : if ca < a ∨ (a = ca ∧ cb < b) then (x, y, z) = (nI ca, nI cb, nI S) else z < nI S := hi
      by_cases c : ca < a ∨ (a = ca ∧ cb < b)
      · rw [if_pos c] at hi
        injection hi with i1 i2
        injection i2 with i2 i3
        subst i1 i2 i3
        refine ⟨(nI ca, nI cb, nI S), ?_, ?_⟩
        · refine Eq.trans e ?_
          rw [if_neg (nI_nlt q1 (by omega))]
        · show if ca < a ∨ (a = ca ∧ cb < b + 1) then _ else _
          rw [if_pos (by omega)]
      · rw [if_neg c] at hi
        have hz : z < nI S := hi
        by_cases c2 : a = ca ∧ b = cb
        · obtain ⟨rfl, rfl⟩ := c2
          rw [h2] at e
          refine ⟨(nI a, nI b, nI S), ?_, ?_⟩
          · refine Eq.trans e ?_
            rw [if_pos hz]
          · show if a < a ∨ (a = a ∧ b < b + 1) then _ else _
            rw [if_pos (by omega)]
        · have lt : bkN (boN L V 0 m) (boN L V 1 m) (boN L V 2 m) a b (n - a - b) < S := by
            rcases Nat.lt_or_eq_of_le q1 with q | q
            · exact q
            · have := q2 q; omega
          by_cases c3 : z < nI (bkN (boN L V 0 m) (boN L V 1 m) (boN L V 2 m) a b (n - a - b))
          · refine ⟨(nI a, nI b, _), e.trans (if_pos c3), ?_⟩
            show if ca < a ∨ (a = ca ∧ cb < b + 1) then _ else _
            rw [if_neg (by omega)]
            exact nI_lt lt (by omega)
          · refine ⟨(x, y, z), e.trans (if_neg c3), ?_⟩
            show if ca < a ∨ (a = ca ∧ cb < b + 1) then _ else _
            rw [if_neg (by omega)]
            exact hi) (by omega : n - a + 1 < G) (s := s) hi
    refine ⟨s2, ?_, hI0 a s2 (by omega) hs2⟩
    show f_X12_safe_L46 G (f_X12_safe_j114 G) (g + 1) (nI n) v2 s.1 s.2.1 s.2.2 (nI a) ρ = f_X12_safe_L46 G (f_X12_safe_j114 G) g (nI n) v2 s2.1 s2.2.1 s2.2.2 (nI (a + 1)) ρ
    rw [f_X12_safe_L46, if_neg (nI_nlt (by omega) (by omega))]
    refine Eq.trans j1 ?_
    show f_X12_safe_L55 G _ _ _ (g2 + 1) (nI n) v2 s2.1 s2.2.1 s2.2.2 (nI a) (nI (n - a + 1)) ρ = _
    rw [f_X12_safe_L55, if_pos (by rw [nI_add]; exact nI_lt (by omega) (by omega)), f_X12_safe_j108, show (1 : Int32) = nI 1 from rfl, nI_add]) (by omega : n + 1 < G) (s := (nI 0, nI 0, nI 4294967295)) (by
      show if ca < 0 ∨ (0 = ca ∧ cb < 0) then _ else _
      rw [if_neg (by omega)]
      have : (0 : Int32) ≤ nI S := nI_pos' (by omega)
      have e : nI 4294967295 = (-1 : Int32) := rfl
      show nI 4294967295 < nI S
      grind)
  have hs : if ca < n + 1 ∨ (n + 1 = ca ∧ cb < 0) then s = (nI ca, nI cb, nI S) else _ := hs
  rw [if_pos (by omega)] at hs
  subst hs
  refine Eq.trans k1 ?_
  show f_X12_safe_L46 G (f_X12_safe_j114 G) (g' + 1) (nI n) v2 (nI ca) (nI cb) (nI S) (nI (n + 1)) ρ = _
  rw [f_X12_safe_L46, if_pos (nI_lt (by omega) (by omega))]
def cel (s o : Nat) : Nat := (s * 100 + o - 1) / o
theorem cel_le {s o a : Nat} (ho : 0 < o) : cel s o ≤ a ↔ s ≤ a * o / 100 := by
  unfold cel
  rw [Nat.le_div_iff_mul_le (by omega), ← Nat.lt_succ_iff, Nat.div_lt_iff_lt_mul ho, Nat.succ_mul]
  omega
theorem cel_mono {s t o : Nat} (h : s ≤ t) : cel s o ≤ cel t o := Nat.div_le_div_right (by omega)
theorem stake_ok {G s o : Nat} {μ : Mem} (hs : s ≤ 40000) (ho : o ≤ 9999) : f_X6_stakeFor G μ (nI s) (nI o) = some (nI (if o = 0 then 0 else cel s o)) := by
  by_cases c : o = 0
  · subst c
    simp (disch := omega) only [lit, neg1, nI_1, nI_add, pk_mul, pk_sub, nI_leI, nI_ltI, nI_eq, nI_eqm, chkn, ixn, if_pos, if_neg, bndV_s, bndE_s, bndO_s, reduceIte, irmn, iminn, imaxn, and_self, true_and, and_true, false_and, and_false, f_X6_stakeFor]
  · have : nI o ≠ 0 := nI_ne0 (by omega) (by omega)
    rw [if_neg c]
    simp (disch := omega) only [lit, neg1, nI_1, nI_add, pk_mul, pk_sub, nI_leI, nI_ltI, nI_eq, nI_eqm, chkn, ixn, if_pos, if_neg, bndV_s, bndE_s, bndO_s, reduceIte, irmn, iminn, imaxn, and_self, true_and, and_true, false_and, and_false, f_X6_stakeFor, pk_div, dvkn this]
    rfl
theorem fin_ok {G n ca cb o0 o1 S : Nat} {μ ρ : Mem} {v2 : Int32} (hn : n ≤ 300) (h0 : ca + cb ≤ n) (hS : S ≤ 40000) (ho0 : o0 ≤ 9999) (ho1 : o1 ≤ 9999) (ea : ca = if o0 = 0 then 0 else cel S o0) (eb : cb = if o1 = 0 then 0 else cel S o1) :
    f_X6_safeStakes_j116 G μ (nI n) v2 (nI o0) (nI o1) (nI S) = (if v2 = nI 0 then some (nI S) else if v2 = nI 10 then some (nI ca) else if v2 = nI 11 then some (nI cb) else if v2 = nI 12 then some (nI (n - ca - cb)) else some (nI 4294967295)) ∧
    f_X12_safe_j114 G (nI n) v2 (nI ca) (nI cb) (nI S) ρ = (if v2 = nI 0 then some (nI S, ρ) else if v2 = nI 10 then some (nI ca, ρ) else if v2 = nI 11 then some (nI cb, ρ) else some (nI (n - ca - cb), ρ)) := by
  have s0 := stake_ok (G := G) (μ := μ) hS ho0
  have s1 := stake_ok (G := G) (μ := μ) hS ho1
  rw [← ea] at s0
  rw [← eb] at s1
  constructor
  · unfold f_X6_safeStakes_j116
    rw [s0, s1, bndO_s, bndO_s, bndO_s, bndO_s, pk_sub (by omega), pk_sub (by omega)]
    rfl
  · unfold f_X12_safe_j114
    rw [pk_sub (by omega), pk_sub (by omega)]
    rfl
theorem cls_ok {G n o0 o1 o2 : Nat} {μ : Mem} {v2 : Int32} (hn : n ≤ 300) (b0 : 0 < o0 ∧ o0 ≤ 9999) (b1 : 0 < o1 ∧ o1 ≤ 9999) (b2 : 0 < o2 ∧ o2 ≤ 9999) :
    ∀ j lo hi f, j ≤ 20 → j < f → cel lo o0 + cel lo o1 + cel lo o2 ≤ n → ¬ cel hi o0 + cel hi o1 + cel hi o2 ≤ n → hi ≤ lo + 2 ^ j → hi ≤ 30001 → ∃ S, S < 30001 ∧ cel S o0 + cel S o1 + cel S o2 ≤ n ∧ ¬ cel (S + 1) o0 + cel (S + 1) o1 + cel (S + 1) o2 ≤ n ∧
      f_X6_safeStakes_L48 G μ (f_X6_safeStakes_j116 G μ) f (nI n) v2 (nI o0) (nI o1) (nI o2) (nI lo) (nI hi) (nI (20 - j)) = f_X6_safeStakes_j116 G μ (nI n) v2 (nI o0) (nI o1) (nI S) := by
  intro j
  induction j with
  | zero =>
    intro lo hi f hj hf h1 h2 h3 h4
    obtain ⟨f, rfl⟩ : ∃ x, f = x + 1 := ⟨f - 1, by omega⟩
    have lt : lo < hi := by
      rcases Nat.lt_or_ge lo hi with h | h
      · exact h
      · exact absurd (Nat.le_trans (Nat.add_le_add (Nat.add_le_add (cel_mono h) (cel_mono h)) (cel_mono h)) h1) h2
    obtain rfl : hi = lo + 1 := by omega
    exact ⟨lo, by omega, h1, h2, by simp (disch := omega) only [lit, neg1, nI_1, nI_add, pk_mul, pk_sub, nI_leI, nI_ltI, nI_eq, nI_eqm, chkn, ixn, if_pos, if_neg, bndV_s, bndE_s, bndO_s, reduceIte, irmn, iminn, imaxn, and_self, true_and, and_true, false_and, and_false, f_X6_safeStakes_L48]⟩
  | succ j ih =>
    intro lo hi f hj hf h1 h2 h3 h4
    obtain ⟨f, rfl⟩ : ∃ x, f = x + 1 := ⟨f - 1, by omega⟩
    have lt : lo < hi := by
      rcases Nat.lt_or_ge lo hi with h | h
      · exact h
      · exact absurd (Nat.le_trans (Nat.add_le_add (Nat.add_le_add (cel_mono h) (cel_mono h)) (cel_mono h)) h1) h2
    have n20 : ¬ 20 ≤ 20 - (j + 1) := by omega
    by_cases c : hi - lo ≤ 1
    · obtain rfl : hi = lo + 1 := by omega
      exact ⟨lo, by omega, h1, h2, by simp (disch := omega) only [lit, neg1, nI_1, nI_add, pk_mul, pk_sub, nI_leI, nI_ltI, nI_eq, nI_eqm, chkn, ixn, if_pos, if_neg, bndV_s, bndE_s, bndO_s, reduceIte, irmn, iminn, imaxn, and_self, true_and, and_true, false_and, and_false, f_X6_safeStakes_L48, n20]⟩
    · have s0 := stake_ok (G := G) (μ := μ) (s := (lo + hi) / 2) (o := o0) (by omega) b0.2
      have s1 := stake_ok (G := G) (μ := μ) (s := (lo + hi) / 2) (o := o1) (by omega) b1.2
      have s2 := stake_ok (G := G) (μ := μ) (s := (lo + hi) / 2) (o := o2) (by omega) b2.2
      rw [if_neg (by omega)] at s0 s1 s2
      have hp : 2 ^ (j + 1) = 2 * 2 ^ j := by rw [Nat.pow_succ, Nat.mul_comm]
      have hce : ∀ o, 0 < o → cel ((lo + hi) / 2) o ≤ 4000000 := fun o ho => by
        unfold cel
        rcases Nat.lt_or_ge o 10000 with h | h
        · exact Nat.le_trans (Nat.div_le_self _ _) (by omega)
        · refine Nat.le_of_lt_succ ((Nat.div_lt_iff_lt_mul ho).mpr ?_)
          have : 4000001 ≤ 4000001 * o := Nat.le_mul_of_pos_right _ ho
          omega
      have k0 := hce o0 b0.1
      have k1 := hce o1 b1.1
      have k2 := hce o2 b2.1
      have e20 : 20 - (j + 1) + 1 = 20 - j := by omega
      by_cases d : cel ((lo + hi) / 2) o0 + cel ((lo + hi) / 2) o1 + cel ((lo + hi) / 2) o2 ≤ n
      · obtain ⟨S, q1, q2, q3, q4⟩ := ih ((lo + hi) / 2) hi f (by omega) (by omega) d h2 (by omega) h4
        refine ⟨S, q1, q2, q3, q4 ▸ ?_⟩
        simp (disch := omega) only [lit, neg1, nI_1, nI_add, pk_mul, pk_sub, nI_leI, nI_ltI, nI_eq, nI_eqm, chkn, ixn, if_pos, if_neg, bndV_s, bndE_s, bndO_s, reduceIte, irmn, iminn, imaxn, and_self, true_and, and_true, false_and, and_false, f_X6_safeStakes_L48, n20, c, pk_div, s0, s1, s2, f_X6_safeStakes_j110, e20]
      · obtain ⟨S, q1, q2, q3, q4⟩ := ih lo ((lo + hi) / 2) f (by omega) (by omega) h1 d (by omega) (by omega)
        refine ⟨S, q1, q2, q3, q4 ▸ ?_⟩
        simp (disch := omega) only [lit, neg1, nI_1, nI_add, pk_mul, pk_sub, nI_leI, nI_ltI, nI_eq, nI_eqm, chkn, ixn, if_pos, if_neg, bndV_s, bndE_s, bndO_s, reduceIte, irmn, iminn, imaxn, and_self, true_and, and_true, false_and, and_false, f_X6_safeStakes_L48, n20, c, pk_div, s0, s1, s2, f_X6_safeStakes_j110, e20]
/-- the stakes and what comes back, both sides -/
theorem safe_ok {G n m : Nat} {L V : Nat → Nat} {μ ρ : Mem} (hG : 500 ≤ G) (D : OdD μ ρ m L V) (h3 : 3 ≤ n) (hn : n ≤ 300) (v2 : Int32) : ∃ ca cb S, ca + cb ≤ n ∧
    f_X6_safeStakes G μ (nI n) v2 = (if v2 = nI 0 then some (nI S) else if v2 = nI 10 then some (nI ca) else if v2 = nI 11 then some (nI cb) else if v2 = nI 12 then some (nI (n - ca - cb)) else some (nI 4294967295)) ∧
    f_X12_safe_j35 G (nI n) v2 ρ = (if v2 = nI 0 then some (nI S, ρ) else if v2 = nI 10 then some (nI ca, ρ) else if v2 = nI 11 then some (nI cb, ρ) else some (nI (n - ca - cb), ρ)) := by
  have hb := fun l => boN_le (L := L) (V := V) (l := l) (k := m) (fun j hj => ⟨(D.2.2 j (by omega)).2.1, (D.2.2 j (by omega)).2.2.1⟩)
  have a0 := odds_ok hG D (show 0 < 3 by omega)
  have a1 := odds_ok hG D (show 1 < 3 by omega)
  have a2 := odds_ok hG D (show 2 < 3 by omega)
  have hb0 := hb 0
  have hb1 := hb 1
  have hb2 := hb 2
  have sf := fun ca cb S => safe12 (n := n) (S := S) (ca := ca) (cb := cb) hG D hn v2
  generalize boN L V 0 m = o0 at *
  generalize boN L V 1 m = o1 at *
  generalize boN L V 2 m = o2 at *
  by_cases z : o0 = 0 ∨ o1 = 0 ∨ o2 = 0
  · have cz : ∀ o, (if o = 0 then 0 else cel 0 o) = 0 := fun o => by
      split
      · rfl
      · unfold cel; exact Nat.div_eq_of_lt (by omega)
    have f := fin_ok (G := G) (n := n) (ca := 0) (cb := 0) (o0 := o0) (o1 := o1) (S := 0) (μ := μ) (ρ := ρ) (v2 := v2) hn (by omega) (by omega) (by omega) (by omega) (cz o0).symm (cz o1).symm
    have bz : ∀ a b c, bkN o0 o1 o2 a b c = 0 := fun a b c => by
      unfold bkN
      rcases z with rfl | rfl | rfl
      · rw [Nat.mul_zero, Nat.zero_div, Nat.zero_min]
      · rw [Nat.mul_zero, Nat.zero_div, Nat.zero_min, Nat.min_zero]
      · rw [Nat.mul_zero, Nat.zero_div, Nat.min_zero, Nat.min_zero]
    refine ⟨0, 0, 0, by omega, ?_, ?_⟩
    · rw [← f.1]
      by_cases z0 : o0 = 0
      · simp (disch := omega) only [lit, neg1, nI_1, nI_add, pk_mul, pk_sub, nI_leI, nI_ltI, nI_eq, nI_eqm, chkn, ixn, if_pos, if_neg, bndV_s, bndE_s, bndO_s, reduceIte, irmn, iminn, imaxn, and_self, true_and, and_true, false_and, and_false, f_X6_safeStakes, a0, a1, a2]
      · by_cases z1 : o1 = 0
        · simp (disch := omega) only [lit, neg1, nI_1, nI_add, pk_mul, pk_sub, nI_leI, nI_ltI, nI_eq, nI_eqm, chkn, ixn, if_pos, if_neg, bndV_s, bndE_s, bndO_s, reduceIte, irmn, iminn, imaxn, and_self, true_and, and_true, false_and, and_false, f_X6_safeStakes, a0, a1, a2]
        · simp (disch := omega) only [lit, neg1, nI_1, nI_add, pk_mul, pk_sub, nI_leI, nI_ltI, nI_eq, nI_eqm, chkn, ixn, if_pos, if_neg, bndV_s, bndE_s, bndO_s, reduceIte, irmn, iminn, imaxn, and_self, true_and, and_true, false_and, and_false, f_X6_safeStakes, a0, a1, a2]
    · rw [← f.2]
      exact sf 0 0 0 (by omega) (bz _ _ _) (fun a b _ => ⟨by rw [bz]; omega, fun _ => ⟨by omega, by omega⟩⟩)
  · have p0 : 0 < o0 := by omega
    have p1 : 0 < o1 := by omega
    have p2 : 0 < o2 := by omega
    have lo : cel 0 o0 + cel 0 o1 + cel 0 o2 ≤ n := by
      have : ∀ o, 0 < o → cel 0 o = 0 := fun o h => by unfold cel; exact Nat.div_eq_of_lt (by omega)
      rw [this _ p0, this _ p1, this _ p2]; omega
    have hi : ¬ cel (n * 100 + 1) o0 + cel (n * 100 + 1) o1 + cel (n * 100 + 1) o2 ≤ n := by
      intro q
      have q' : cel (n * 100 + 1) o0 ≤ n := by omega
      rw [cel_le p0] at q'
      have : n * o0 ≤ n * 9999 := Nat.mul_le_mul_left _ (by omega)
      omega
    obtain ⟨S, s1, s2, s3, s4⟩ := cls_ok (G := G) (μ := μ) (v2 := v2) hn ⟨p0, by omega⟩ ⟨p1, by omega⟩ ⟨p2, by omega⟩ 20 0 (n * 100 + 1) G (by omega) (by omega) lo hi (by omega) (by omega)
    have val : ∀ t a b c, t ≤ bkN o0 o1 o2 a b c ↔ cel t o0 ≤ a ∧ cel t o1 ≤ b ∧ cel t o2 ≤ c := fun t a b c => by
      unfold bkN
      rw [cel_le p0, cel_le p1, cel_le p2]
      omega
    have mx : ∀ a b, a + b ≤ n → bkN o0 o1 o2 a b (n - a - b) ≤ S := fun a b hab => by
      rcases Nat.lt_or_ge S (bkN o0 o1 o2 a b (n - a - b)) with h | h
      · have := (val (S + 1) a b (n - a - b)).mp h
        omega
      · exact h
    have f := fin_ok (G := G) (n := n) (ca := cel S o0) (cb := cel S o1) (o0 := o0) (o1 := o1) (S := S) (μ := μ) (ρ := ρ) (v2 := v2) hn (by omega) (by omega) (by omega) (by omega) (if_neg (by omega)).symm (if_neg (by omega)).symm
    refine ⟨cel S o0, cel S o1, S, by omega, ?_, ?_⟩
    · rw [← f.1, ← s4]
      simp (disch := omega) only [lit, neg1, nI_1, nI_add, pk_mul, pk_sub, nI_leI, nI_ltI, nI_eq, nI_eqm, chkn, ixn, if_pos, if_neg, bndV_s, bndE_s, bndO_s, reduceIte, irmn, iminn, imaxn, and_self, true_and, and_true, false_and, and_false, f_X6_safeStakes, a0, a1, a2]
    · rw [← f.2]
      refine sf (cel S o0) (cel S o1) S (by omega) (Nat.le_antisymm (mx _ _ (by omega)) ((val _ _ _ _).mpr ⟨Nat.le_refl _, Nat.le_refl _, by omega⟩)) (fun a b hab => ⟨mx a b hab, fun e => ?_⟩)
      have := (val S a b (n - a - b)).mp (by omega)
      exact ⟨this.1, this.2.1⟩
theorem s_safe {G : Nat} {bb : Bool} {μ ρ : Mem} (hG : 500 ≤ G) (h : AR bb μ ρ) (p q : Int32) : ∃ r ρ', f_X11_safe G μ p q = some r ∧ f_X12_safe G p q ρ = some (r, ρ') ∧ AR bb μ ρ' := by
  have h0 : AR bb μ (wr ρ 0 0 (nI 0)) := AR_told h
  obtain ⟨m, L, V, D⟩ := odD_of (AR_ch h0).2.2.1
  by_cases hp : nI 3 ≤ p ∧ p ≤ nI 300
  · have n3 : nI 3 = (3 : Int32) := rfl
    obtain ⟨n, hn, rfl⟩ := in_of 300 rfl (by omega) (show 0 ≤ p by have := hp.1; grind) hp.2
    have h3 : 3 ≤ n := (nI_leI (by omega) (by omega)).mp hp.1
    obtain ⟨ca, cb, S, k0, k1, k2⟩ := safe_ok hG D h3 hn q
    have x12 : f_X12_safe G (nI n) q ρ = (if q = nI 0 then some (nI S, wr ρ 0 0 (nI 0)) else if q = nI 10 then some (nI ca, wr ρ 0 0 (nI 0)) else if q = nI 11 then some (nI cb, wr ρ 0 0 (nI 0)) else if q = nI 12 then some (nI (n - ca - cb), wr ρ 0 0 (nI 0)) else some (nI 4294967295, wr ρ 0 0 (nI 0))) := by
      by_cases q0 : q = nI 0
      · rw [if_pos q0] at k2 ⊢
        simp (disch := omega) only [lit, neg1, nI_1, nI_add, pk_mul, pk_sub, nI_leI, nI_ltI, nI_eq, nI_eqm, chkn, ixn, if_pos, if_neg, bndV_s, bndE_s, bndO_s, reduceIte, irmn, iminn, imaxn, and_self, true_and, and_true, false_and, and_false, f_X12_safe, isI, q0]
        subst q0
        exact k2
      · by_cases q1 : nI 10 ≤ q ∧ q ≤ nI 12
        · have x : f_X12_safe G (nI n) q ρ = f_X12_safe_j35 G (nI n) q (wr ρ 0 0 (nI 0)) := by
            simp (disch := omega) only [lit, neg1, nI_1, nI_add, pk_mul, pk_sub, nI_leI, nI_ltI, nI_eq, nI_eqm, chkn, ixn, if_pos, if_neg, bndV_s, bndE_s, bndO_s, reduceIte, irmn, iminn, imaxn, and_self, true_and, and_true, false_and, and_false, f_X12_safe, isI, q0, q1.1, q1.2]
          rw [x, k2]
          have n10 : nI 10 = (10 : Int32) := rfl
          obtain ⟨k, hk, rfl⟩ := in_of 12 rfl (by omega) (show 0 ≤ q by have := q1.1; grind) q1.2
          have : 10 ≤ k := (nI_leI (by omega) (by omega)).mp q1.1
          rcases (by omega : k = 10 ∨ k = 11 ∨ k = 12) with rfl | rfl | rfl <;> rfl
        · have n10 : ¬ q = nI 10 := fun e => q1 (by rw [e]; decide)
          have n11 : ¬ q = nI 11 := fun e => q1 (by rw [e]; decide)
          have n12 : ¬ q = nI 12 := fun e => q1 (by rw [e]; decide)
          rw [if_neg q0, if_neg n10, if_neg n11, if_neg n12]
          simp (disch := omega) only [lit, neg1, nI_1, nI_add, pk_mul, pk_sub, nI_leI, nI_ltI, nI_eq, nI_eqm, chkn, ixn, if_pos, if_neg, bndV_s, bndE_s, bndO_s, reduceIte, irmn, iminn, imaxn, and_self, true_and, and_true, false_and, and_false, f_X12_safe, isI, q0, q1]
    have x11 : f_X11_safe G μ (nI n) q = f_X6_safeStakes G μ (nI n) q := by
      have : ∀ y : Option Int32, bndO y (fun w4 => some w4) = y := fun y => by cases y <;> rfl
      simp (disch := omega) only [lit, neg1, nI_1, nI_add, pk_mul, pk_sub, nI_leI, nI_ltI, nI_eq, nI_eqm, chkn, ixn, if_pos, if_neg, bndV_s, bndE_s, bndO_s, reduceIte, irmn, iminn, imaxn, and_self, true_and, and_true, false_and, and_false, f_X11_safe, this]
    rw [k1] at x11
    rw [x11, x12]
    split
    · exact ⟨_, _, rfl, rfl, h0⟩
    · split
      · exact ⟨_, _, rfl, rfl, h0⟩
      · split
        · exact ⟨_, _, rfl, rfl, h0⟩
        · split
          · exact ⟨_, _, rfl, rfl, h0⟩
          · exact ⟨_, _, rfl, rfl, h0⟩
  · refine no_r h (r := nI 4294967295) ?_ ?_
    · by_cases a : p < nI 3
      · simp (disch := omega) only [lit, neg1, nI_1, nI_add, pk_mul, pk_sub, nI_leI, nI_ltI, nI_eq, nI_eqm, chkn, ixn, if_pos, if_neg, bndV_s, bndE_s, bndO_s, reduceIte, irmn, iminn, imaxn, and_self, true_and, and_true, false_and, and_false, f_X11_safe, a]
      · have b : ¬ p ≤ nI 300 := fun b => hp ⟨Int32.not_lt.mp a, b⟩
        simp (disch := omega) only [lit, neg1, nI_1, nI_add, pk_mul, pk_sub, nI_leI, nI_ltI, nI_eq, nI_eqm, chkn, ixn, if_pos, if_neg, bndV_s, bndE_s, bndO_s, reduceIte, irmn, iminn, imaxn, and_self, true_and, and_true, false_and, and_false, f_X11_safe, a, b]
    · simp (disch := omega) only [lit, neg1, nI_1, nI_add, pk_mul, pk_sub, nI_leI, nI_ltI, nI_eq, nI_eqm, chkn, ixn, if_pos, if_neg, bndV_s, bndE_s, bndO_s, reduceIte, irmn, iminn, imaxn, and_self, true_and, and_true, false_and, and_false, f_X12_safe, isI, hp]
end
