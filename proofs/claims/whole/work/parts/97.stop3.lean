section
theorem facT_ok : ∀ n, n < 8 → facT n = nI (fac n) := by decide +kernel
theorem pcn_ext {c n : Nat} (hc : c < 2 ^ n) : ∀ m, n ≤ m → pcn c m = pcn c n
  | m, h => by
    by_cases e : n = m
    · rw [e]
    · obtain ⟨m, rfl⟩ : ∃ y, m = y + 1 := ⟨m - 1, by omega⟩
      rw [pcn, pcn_ext hc m (by omega), bit_ge hc (by omega)]
      rfl
/-- the offers: n + 1 of them -/
def OfD (μ : Mem) (x : Nat → Int32) (n : Nat) : Prop := LnR μ 38 7 1 n ∧ ∀ i, i < n → μ 39 i = x i
theorem of_at {G n i : Nat} {x : Nat → Int32} {μ : Mem} (D : OfD μ x n) (hi : i < n) : f_X2_at G 38 7 μ (nI i) (nI 0) = some (x i) := by
  have hn := D.1.2.2.2
  rw [atn D.1 (by omega) (by omega) (by omega) (by omega) hi (by omega), Nat.mul_one, Nat.add_zero]
  exact congrArg some (D.2 i hi)
theorem beh_ok {G n c k : Nat} {x : Nat → Int32} {μ : Mem} (hG : 500 ≤ G) (D : OfD μ x n) (hc : c < 2 ^ n) (hk : pcn c n = k) (hkn : k < n) : f_X6_ordersBehind G μ (nI c) (nI k) = some (nI (tcN x (bsM x n) n c)) := by
  have hn : n ≤ 7 := D.1.2.2.2
  have e1 : μ 38 3 = nI n := D.1.2.2.1
  have hc31 : c < 2 ^ 31 := Nat.lt_of_lt_of_le hc (Nat.pow_le_pow_right (by decide) (by omega))
  obtain ⟨g1, s1, k1, rfl⟩ := loopZ (fun g v (s : Int32 × Int32) => f_X6_ordersBehind_L8 G μ (f_X6_ordersBehind_j58 G μ) g (nI c) (nI k) s.1 s.2 v) n (fun i s => s = (bsM x i, hiM x c i)) (by
    rintro g i s hi rfl
    refine ⟨_, ?_, rfl⟩
    have ai := of_at (G := G) D hi
    have hb := hasn (w := i) hc31 (by omega)
    show f_X6_ordersBehind_L8 G μ _ (g + 1) (nI c) (nI k) (bsM x i) (hiM x c i) (nI i) = f_X6_ordersBehind_L8 G μ _ g (nI c) (nI k) (imax (bsM x i) (x i)) (if c.testBit i = true then imax (hiM x c i) (x i) else hiM x c i) (nI (i + 1))
    by_cases b : c.testBit i = true
    · rw [if_pos b] at hb ⊢
      simp (disch := omega) only [lit, neg1, nI_1, nI_add, pk_mul, pk_sub, nI_leI, nI_ltI, nI_eq, nI_eqm, chkn, ixn, if_pos, if_neg, bndV_s, bndE_s, bndO_s, reduceIte, irmn, iminn, imaxn, and_self, true_and, and_true, false_and, and_false, f_X6_ordersBehind_L8, e1, ai, hb, f_X6_ordersBehind_j52]
    · rw [if_neg b] at hb ⊢
      simp (disch := omega) only [lit, neg1, nI_1, nI_add, pk_mul, pk_sub, nI_leI, nI_ltI, nI_eq, nI_eqm, chkn, ixn, if_pos, if_neg, bndV_s, bndE_s, bndO_s, reduceIte, irmn, iminn, imaxn, and_self, true_and, and_true, false_and, and_false, f_X6_ordersBehind_L8, e1, ai, hb, f_X6_ordersBehind_j52]) (by omega : n < G) (s := (nI 4294967295, nI 4294967295)) rfl
  obtain ⟨g2, s2, k2, rfl⟩ := loopZ (fun g v (s : Int32 × Int32) => f_X6_ordersBehind_L67 G μ (f_X6_ordersBehind_j134 G μ) g (nI c) (nI k) (bsM x n) (hiM x c n) s.1 s.2 v) n (fun i s => s = (nI (nsm (fun i => if c.testBit i = true then 0 else if x i ≤ hiM x c n then 0 else 1) i), nI (nsm (fun i => if c.testBit i = true then 0 else if x i = bsM x n then 1 else 0) i))) (by
    rintro g i s hi rfl
    refine ⟨_, ?_, rfl⟩
    have ai := of_at (G := G) D hi
    have hb := hasn (w := i) hc31 (by omega)
    show f_X6_ordersBehind_L67 G μ _ (g + 1) (nI c) (nI k) (bsM x n) (hiM x c n) (nI (nsm (fun i => if c.testBit i = true then 0 else if x i ≤ hiM x c n then 0 else 1) i)) (nI (nsm (fun i => if c.testBit i = true then 0 else if x i = bsM x n then 1 else 0) i)) (nI i) = f_X6_ordersBehind_L67 G μ _ g (nI c) (nI k) (bsM x n) (hiM x c n) (nI (nsm (fun i => if c.testBit i = true then 0 else if x i ≤ hiM x c n then 0 else 1) i + (if c.testBit i = true then 0 else if x i ≤ hiM x c n then 0 else 1))) (nI (nsm (fun i => if c.testBit i = true then 0 else if x i = bsM x n then 1 else 0) i + (if c.testBit i = true then 0 else if x i = bsM x n then 1 else 0))) (nI (i + 1))
    generalize nsm (fun i => if c.testBit i = true then 0 else if x i ≤ hiM x c n then 0 else 1) i = A
    generalize nsm (fun i => if c.testBit i = true then 0 else if x i = bsM x n then 1 else 0) i = B
    by_cases b : c.testBit i = true
    · rw [if_pos b] at hb ⊢
      rw [if_pos b]
      simp (disch := omega) only [lit, neg1, nI_1, nI_add, pk_mul, pk_sub, nI_leI, nI_ltI, nI_eq, nI_eqm, chkn, ixn, if_pos, if_neg, bndV_s, bndE_s, bndO_s, reduceIte, irmn, iminn, imaxn, and_self, true_and, and_true, false_and, and_false, f_X6_ordersBehind_L67, e1, hb, f_X6_ordersBehind_j128, Nat.add_zero]
    · rw [if_neg b] at hb ⊢
      rw [if_neg b]
      by_cases c1 : x i ≤ hiM x c n
      · by_cases c2 : x i = bsM x n
        · simp (disch := omega) only [lit, neg1, nI_1, nI_add, pk_mul, pk_sub, nI_leI, nI_ltI, nI_eq, nI_eqm, chkn, ixn, if_pos, if_neg, bndV_s, bndE_s, bndO_s, reduceIte, irmn, iminn, imaxn, and_self, true_and, and_true, false_and, and_false, f_X6_ordersBehind_L67, e1, hb, ai, c1, f_X6_ordersBehind_j104, c2, f_X6_ordersBehind_j125, f_X6_ordersBehind_j128, Nat.add_zero]
          rw [c2] at c1
          simp only [if_pos c1, Nat.add_zero]
        · simp (disch := omega) only [lit, neg1, nI_1, nI_add, pk_mul, pk_sub, nI_leI, nI_ltI, nI_eq, nI_eqm, chkn, ixn, if_pos, if_neg, bndV_s, bndE_s, bndO_s, reduceIte, irmn, iminn, imaxn, and_self, true_and, and_true, false_and, and_false, f_X6_ordersBehind_L67, e1, hb, ai, c1, f_X6_ordersBehind_j104, c2, f_X6_ordersBehind_j125, f_X6_ordersBehind_j128, Nat.add_zero]
      · by_cases c2 : x i = bsM x n
        · rw [c2] at c1 ai
          simp (disch := omega) only [lit, neg1, nI_1, nI_add, pk_mul, pk_sub, nI_leI, nI_ltI, nI_eq, nI_eqm, chkn, ixn, if_pos, if_neg, bndV_s, bndE_s, bndO_s, reduceIte, irmn, iminn, imaxn, and_self, true_and, and_true, false_and, and_false, f_X6_ordersBehind_L67, e1, hb, ai, c1, f_X6_ordersBehind_j104, c2, f_X6_ordersBehind_j125, f_X6_ordersBehind_j128, Nat.add_zero]
        · simp (disch := omega) only [lit, neg1, nI_1, nI_add, pk_mul, pk_sub, nI_leI, nI_ltI, nI_eq, nI_eqm, chkn, ixn, if_pos, if_neg, bndV_s, bndE_s, bndO_s, reduceIte, irmn, iminn, imaxn, and_self, true_and, and_true, false_and, and_false, f_X6_ordersBehind_L67, e1, hb, ai, c1, f_X6_ordersBehind_j104, c2, f_X6_ordersBehind_j125, f_X6_ordersBehind_j128, Nat.add_zero]) (by omega : n < G) (s := (nI 0, nI 0)) rfl
  have a1 : f_X6_ordersBehind G μ (nI c) (nI k) = f_X6_ordersBehind_j134 G μ (nI k) (nI (gtN x n c)) (nI (eqN x (bsM x n) n c)) := by
    refine Eq.trans k1 ?_
    show f_X6_ordersBehind_L8 G μ (f_X6_ordersBehind_j58 G μ) (g1 + 1) (nI c) (nI k) (bsM x n) (hiM x c n) (nI n) = _
    rw [f_X6_ordersBehind_L8, if_pos (by rw [e1]; exact nI_le (Nat.le_refl _) (by omega)), f_X6_ordersBehind_j58]
    refine Eq.trans k2 ?_
    show f_X6_ordersBehind_L67 G μ (f_X6_ordersBehind_j134 G μ) (g2 + 1) (nI c) (nI k) (bsM x n) (hiM x c n) _ _ (nI n) = _
    rw [f_X6_ordersBehind_L67, if_pos (by rw [e1]; exact nI_le (Nat.le_refl _) (by omega))]
    rfl
  rw [a1]
  have tc := tc_ok (x := x) (b := bsM x n) (n := n) (fun i hi => bsM_le hi) (n - k - 1) c (by omega)
  rw [tc]
  have gle : gtN x n c ≤ n - k := by
    have h1 : gtN x n c ≤ nsm (fun i => if c.testBit i = true then 0 else 1) n := nsm_le (fun i _ => by split; exact Nat.le_refl _; split <;> omega)
    rw [nsm_out, hk] at h1
    omega
  generalize gtN x n c = g at *
  generalize eqN x (bsM x n) n c = E at *
  have f1 := facT_ok (n - k) (by omega)
  have f2 := facT_ok (n - k - 1) (by omega)
  rw [show n - k - 1 + 1 = n - k by omega]
  have fle : fac (n - k) ≤ 5040 := by
    have := fac_le (n - k - 1) (by omega)
    rwa [show n - k - 1 + 1 = n - k by omega] at this
  by_cases g0 : g = 0
  · rw [if_pos g0]
    subst g0
    simp (disch := omega) only [lit, neg1, nI_1, nI_add, pk_mul, pk_sub, nI_leI, nI_ltI, nI_eq, nI_eqm, chkn, ixn, if_pos, if_neg, bndV_s, bndE_s, bndO_s, reduceIte, irmn, iminn, imaxn, and_self, true_and, and_true, false_and, and_false, f_X6_ordersBehind_j134, e1, f2]
  · rw [if_neg g0]
    have gz : nI g ≠ 0 := nI_ne0 (by omega) (by omega)
    simp (disch := omega) only [lit, neg1, nI_1, nI_add, pk_mul, pk_sub, nI_leI, nI_ltI, nI_eq, nI_eqm, chkn, ixn, if_pos, if_neg, bndV_s, bndE_s, bndO_s, reduceIte, irmn, iminn, imaxn, and_self, true_and, and_true, false_and, and_false, f_X6_ordersBehind_j134, e1, f1, dvkn gz, pk_div]
def cnS (x : Nat → Int32) (n k : Nat) : Nat := fac k * lvl n k (tcN x (bsM x n) n)
theorem lv_ok {G n k : Nat} {x : Nat → Int32} {μ : Mem} (hG : 500 ≤ G) (D : OfD μ x n) (hkn : k < n) (r7 k7 k29 v1 v2 v3) : f_X6_bestSilence_L29 G μ r7 k7 k29 G v1 v2 v3 (nI k) (nI 0) (nI 0) = k29 v1 v2 v3 (nI k) (nI (cnS x n k)) := by
  have hn : n ≤ 7 := D.1.2.2.2
  have e1 : μ 38 3 = nI n := D.1.2.2.1
  have p7 : 2 ^ n ≤ 128 := Nat.pow_le_pow_right (show 0 < 2 by decide) hn
  have es : sl (nI 1) (nI n) = nI (2 ^ n) := sl1 (by omega)
  have fk := facT_ok k (by omega)
  obtain ⟨g', s, h1, rfl⟩ := loopZ (fun g v s => f_X6_bestSilence_L29 G μ r7 k7 k29 g v1 v2 v3 (nI k) s v) (2 ^ n) (fun c s => s = nI (nsm (fun c => fac k * (if pcn c n = k then tcN x (bsM x n) n c else 0)) c)) (by
    rintro g c s hc rfl
    refine ⟨_, ?_, rfl⟩
    have bc := bc12 c (by omega)
    rw [pcn_ext hc 12 (by omega)] at bc
    have pm := pcn_max (a := c) (n := n)
    show f_X6_bestSilence_L29 G μ r7 k7 k29 (g + 1) v1 v2 v3 (nI k) (nI (nsm (fun c => fac k * (if pcn c n = k then tcN x (bsM x n) n c else 0)) c)) (nI c) = f_X6_bestSilence_L29 G μ r7 k7 k29 g v1 v2 v3 (nI k) (nI (nsm (fun c => fac k * (if pcn c n = k then tcN x (bsM x n) n c else 0)) c + fac k * (if pcn c n = k then tcN x (bsM x n) n c else 0))) (nI (c + 1))
    generalize nsm (fun c => fac k * (if pcn c n = k then tcN x (bsM x n) n c else 0)) c = A
    by_cases e : pcn c n = k
    · have ob := beh_ok (G := G) hG D hc e hkn
      rw [if_pos e]
      rw [e] at bc
      simp (disch := omega) only [lit, neg1, nI_1, nI_add, pk_mul, pk_sub, nI_leI, nI_ltI, nI_eq, nI_eqm, chkn, ixn, if_pos, if_neg, bndV_s, bndE_s, bndO_s, reduceIte, irmn, iminn, imaxn, and_self, true_and, and_true, false_and, and_false, f_X6_bestSilence_L29, e1, es, bc, ob, f_X6_bestSilence_j70, fk]
    · rw [if_neg e]
      simp (disch := omega) only [lit, neg1, nI_1, nI_add, pk_mul, pk_sub, nI_leI, nI_ltI, nI_eq, nI_eqm, chkn, ixn, if_pos, if_neg, bndV_s, bndE_s, bndO_s, reduceIte, irmn, iminn, imaxn, and_self, true_and, and_true, false_and, and_false, f_X6_bestSilence_L29, e1, es, bc, e, f_X6_bestSilence_j70, Nat.mul_zero, Nat.add_zero]) (by omega : 2 ^ n < G) (s := nI 0) rfl
  refine Eq.trans h1 ?_
  show f_X6_bestSilence_L29 G μ r7 k7 k29 (g' + 1) v1 v2 v3 (nI k) _ (nI (2 ^ n)) = _
  rw [nsm_mul]
  simp (disch := omega) only [lit, neg1, nI_1, nI_add, pk_mul, pk_sub, nI_leI, nI_ltI, nI_eq, nI_eqm, chkn, ixn, if_pos, if_neg, bndV_s, bndE_s, bndO_s, reduceIte, irmn, iminn, imaxn, and_self, true_and, and_true, false_and, and_false, f_X6_bestSilence_L29, e1, es]
  rfl
/-- where it is the best, among the first k + 1 -/
def bK (C : Nat → Int32) : Nat → Nat
  | 0 => 0
  | k + 1 => if C (k + 1) ≤ C (bK C k) then bK C k else k + 1
theorem bK_le {C : Nat → Int32} : ∀ k, bK C k ≤ k
  | 0 => Nat.le_refl _
  | k + 1 => by
    have := bK_le (C := C) k
    unfold bK
    split <;> omega
theorem bK_s {C : Nat → Int32} {k : Nat} : bK C (k + 1) = if C (k + 1) ≤ C (bK C k) then bK C k else k + 1 := rfl
theorem cn0 {x : Nat → Int32} {n : Nat} (hn : n < 7) : cnS x (n + 1) 0 ≤ 5040 := by
  unfold cnS
  rw [← gdN_all (by omega)]
  unfold gdN
  have h1 := nsm_le (f := fun t => ind x (bsM x (n + 1)) 0 (nI 4294967295) (prm (n + 1) (n + 1) 0 t)) (h := fun _ => 1) (n := fac (n + 1)) (fun k _ => by show ind _ _ _ _ _ ≤ 1; unfold ind; split <;> omega)
  rw [nsm_c] at h1
  have := fac_le n hn
  omega
theorem sil_ok {G n : Nat} {x : Nat → Int32} {μ : Mem} (hG : 500 ≤ G) (D : OfD μ x (n + 1)) (v : Int32) : f_X6_bestSilence G μ v = f_X6_bestSilence_j94 G μ v (nI (bK (fun k => nI (cnS x (n + 1) k)) n)) (nI (cnS x (n + 1) (bK (fun k => nI (cnS x (n + 1) k)) n))) := by
  have hn : n + 1 ≤ 7 := D.1.2.2.2
  have e1 : μ 38 3 = nI (n + 1) := D.1.2.2.1
  have stp : ∀ h k v2 v3, k < n + 1 → f_X6_bestSilence_L7 G μ (f_X6_bestSilence_j94 G μ) (h + 1) v v2 v3 (nI k) = (if nI (cnS x (n + 1) k) ≤ v3 then f_X6_bestSilence_L7 G μ (f_X6_bestSilence_j94 G μ) h v v2 v3 (nI (k + 1)) else f_X6_bestSilence_L7 G μ (f_X6_bestSilence_j94 G μ) h v (nI k) (nI (cnS x (n + 1) k)) (nI (k + 1))) := by
    intro h k v2 v3 hk
    rw [f_X6_bestSilence_L7, if_neg (by rw [e1]; exact nI_ge (by omega) (by omega)), if_neg (show ¬ (7 : Int32) ≤ nI k from nI_ge (b := 7) (by omega) (by omega))]
    refine Eq.trans (lv_ok hG D hk _ _ _ v v2 v3) ?_
    rw [f_X6_bestSilence_j76, f_X6_bestSilence_j88, f_X6_bestSilence_j88, show (1 : Int32) = nI 1 from rfl, nI_add]
  obtain ⟨g', s, h1, hs⟩ := loopI (fun g w (s : Int32 × Int32) => f_X6_bestSilence_L7 G μ (f_X6_bestSilence_j94 G μ) g v s.1 s.2 w) (n + 1) (fun k s => ∃ j, k = j + 1 ∧ s = (nI (bK (fun k => nI (cnS x (n + 1) k)) j), nI (cnS x (n + 1) (bK (fun k => nI (cnS x (n + 1) k)) j)))) (by
    rintro g k s hk ⟨j, rfl, rfl⟩
    have st := stp g (j + 1) (nI (bK (fun k => nI (cnS x (n + 1) k)) j)) (nI (cnS x (n + 1) (bK (fun k => nI (cnS x (n + 1) k)) j))) hk
    by_cases c : nI (cnS x (n + 1) (j + 1)) ≤ nI (cnS x (n + 1) (bK (fun k => nI (cnS x (n + 1) k)) j))
    · exact ⟨(nI (bK (fun k => nI (cnS x (n + 1) k)) j), nI (cnS x (n + 1) (bK (fun k => nI (cnS x (n + 1) k)) j))), st.trans (if_pos c), j + 1, rfl, by rw [bK_s, if_pos c]⟩
    · exact ⟨(nI (j + 1), nI (cnS x (n + 1) (j + 1))), st.trans (if_neg c), j + 1, rfl, by rw [bK_s, if_neg c]⟩) n (G - 1) 1 (nI 0, nI (cnS x (n + 1) 0)) (by omega) (by omega) ⟨0, rfl, rfl⟩
  obtain ⟨j, hj, rfl⟩ := hs
  obtain rfl : j = n := by omega
  unfold f_X6_bestSilence
  have s0 := stp (G - 1) 0 (nI 4294967295) (nI 4294967295) (by omega)
  rw [show G - 1 + 1 = G by omega] at s0
  have c0 := cn0 (x := x) (n := j) (by omega)
  rw [if_neg (by
    intro q
    have h0 : (0 : Int32) ≤ nI (cnS x (j + 1) 0) := nI_pos' (by omega)
    have e : nI 4294967295 = (-1 : Int32) := rfl
    grind)] at s0
  refine Eq.trans s0 (Eq.trans h1 ?_)
  show f_X6_bestSilence_L7 G μ (f_X6_bestSilence_j94 G μ) (g' + 1) v _ _ (nI (j + 1)) = _
  rw [f_X6_bestSilence_L7, if_pos (by rw [e1]; exact nI_le (Nat.le_refl _) (by omega))]
theorem stop12 {G n : Nat} {C : Nat → Int32} {ρ : Mem} (hG : 500 ≤ G) (hn : n < 7) (e : ρ 0 68 = nI (n + 1)) (h : ∀ k, k < n + 1 → ρ 44 k = C k) (v : Int32) : f_X12_stop_L32 G (f_X12_stop_j63 G) G v (nI 0) (nI 1) ρ = f_X12_stop_j63 G v (nI (bK C n)) ρ := by
  obtain ⟨g', s, h1, hs⟩ := loopI (fun g w (s : Int32) => f_X12_stop_L32 G (f_X12_stop_j63 G) g v s w ρ) (n + 1) (fun k s => ∃ j, k = j + 1 ∧ s = nI (bK C j)) (by
    rintro g k s hk ⟨j, rfl, rfl⟩
    have hb := bK_le (C := C) j
    have a1 := h (j + 1) hk
    have a2 := h (bK C j) (by omega)
    refine ⟨_, ?_, j + 1, rfl, rfl⟩
    show f_X12_stop_L32 G _ (g + 1) v (nI (bK C j)) (nI (j + 1)) ρ = f_X12_stop_L32 G _ g v (nI (if C (j + 1) ≤ C (bK C j) then bK C j else j + 1)) (nI (j + 1 + 1)) ρ
    by_cases c : C (j + 1) ≤ C (bK C j)
    · rw [if_pos c]
      simp (disch := omega) only [lit, neg1, nI_1, nI_add, pk_mul, pk_sub, nI_leI, nI_ltI, nI_eq, nI_eqm, chkn, ixn, if_pos, if_neg, bndV_s, bndE_s, bndO_s, reduceIte, irmn, iminn, imaxn, and_self, true_and, and_true, false_and, and_false, f_X12_stop_L32, e, a1, a2, c, f_X12_stop_j57]
    · rw [if_neg c]
      simp (disch := omega) only [lit, neg1, nI_1, nI_add, pk_mul, pk_sub, nI_leI, nI_ltI, nI_eq, nI_eqm, chkn, ixn, if_pos, if_neg, bndV_s, bndE_s, bndO_s, reduceIte, irmn, iminn, imaxn, and_self, true_and, and_true, false_and, and_false, f_X12_stop_L32, e, a1, a2, c, f_X12_stop_j57]) n G 1 (nI 0) (by omega) (by omega) ⟨0, rfl, rfl⟩
  obtain ⟨j, hj, rfl⟩ := hs
  obtain rfl : j = n := by omega
  refine Eq.trans h1 ?_
  show f_X12_stop_L32 G _ (g' + 1) v (nI (bK C j)) (nI (j + 1)) ρ = _
  rw [f_X12_stop_L32, if_pos (by rw [e]; exact nI_le (Nat.le_refl _) (by omega))]
theorem s_stop {G : Nat} {bb : Bool} {μ ρ : Mem} (hG : 6000 ≤ G) (h : AR bb μ ρ) (p : Int32) : ∃ r ρ', f_X11_stop G μ p = some r ∧ f_X12_stop G p ρ = some (r, ρ') ∧ AR bb μ ρ' := by
  have h0 : AR bb μ (wr ρ 0 0 (nI 0)) := AR_told h
  obtain ⟨n, n1, n2, n3⟩ := id (AR_ch h0).2.2.2.2.2.1
  have n1 : LnR μ 38 7 1 n := n1
  have hn : n ≤ 7 := n1.2.2.2
  have e1 : μ 38 3 = nI n := n1.2.2.1
  by_cases z : n = 0
  · subst z
    refine no_r h (r := nI 4294967295) ?_ ?_
    · simp (disch := omega) only [lit, neg1, nI_1, nI_add, pk_mul, pk_sub, nI_leI, nI_ltI, nI_eq, nI_eqm, chkn, ixn, if_pos, if_neg, bndV_s, bndE_s, bndO_s, reduceIte, irmn, iminn, imaxn, and_self, true_and, and_true, false_and, and_false, f_X11_stop, e1]
    · simp (disch := omega) only [lit, neg1, nI_1, nI_add, pk_mul, pk_sub, nI_leI, nI_ltI, nI_eq, nI_eqm, chkn, ixn, if_pos, if_neg, bndV_s, bndE_s, bndO_s, reduceIte, irmn, iminn, imaxn, and_self, true_and, and_true, false_and, and_false, f_X12_stop, n2]
  · obtain ⟨n, rfl⟩ : ∃ y, n = y + 1 := ⟨n - 1, by omega⟩
    have nz : ¬ nI (n + 1) = nI 0 := by rw [nI_eq (by omega) (by omega)]; omega
    have D : OfD μ (wr ρ 0 0 (nI 0) 42) (n + 1) := ⟨n1, fun i hi => by
      obtain ⟨s, s1, s2, s3⟩ := n3 i hi
      exact s2.trans s3.symm⟩
    have hx : 0 ≤ wr ρ 0 0 (nI 0) 42 0 := by
      obtain ⟨s, s1, s2, s3⟩ := n3 0 (by omega)
      rw [s3]
      exact nI_pos' (by omega)
    obtain ⟨ρ', g1, g2, g3⟩ := good_ok hG (show n < 7 by omega) n2 hx
    have h' : AR bb μ ρ' := AR_scr h0 (fun x _ _ _ _ => rfl) (fun x _ _ _ _ _ _ _ _ a b => g2 x a b) (fun j _ _ => by rw [g2 0 (by omega) (by omega)]) (fun k _ => by rw [g2 1 (by omega) (by omega)])
    have e2 : ρ' 0 68 = nI (n + 1) := by rw [g2 0 (by omega) (by omega)]; exact n2
    have hk := bK_le (C := fun k => nI (cnS (wr ρ 0 0 (nI 0) 42) (n + 1) k)) n
    have hC : ∀ k, k < n + 1 → ρ' 44 k = (fun k => nI (cnS (wr ρ 0 0 (nI 0) 42) (n + 1) k)) k := fun k hk => by
      rw [g3 k hk, gdN_all hk]
      rfl
    have q := sil_ok (G := G) (by omega) D p
    have w := stop12 (G := G) (C := fun k => nI (cnS (wr ρ 0 0 (nI 0) 42) (n + 1) k)) (by omega) (by omega) e2 hC p
    have c1 := hC _ (show bK (fun k => nI (cnS (wr ρ 0 0 (nI 0) 42) (n + 1) k)) n < n + 1 by omega)
    generalize bK (fun k => nI (cnS (wr ρ 0 0 (nI 0) 42) (n + 1) k)) n = b at *
    by_cases hp : nI 0 ≤ p ∧ p ≤ nI 1
    · obtain ⟨k, hk2, rfl⟩ := in_of 1 rfl (by omega) hp.1 hp.2
      have x12 : f_X12_stop G (nI k) ρ = f_X12_stop_j63 G (nI k) (nI b) ρ' := by
        rw [← w]
        simp (disch := omega) only [lit, neg1, nI_1, nI_add, pk_mul, pk_sub, nI_leI, nI_ltI, nI_eq, nI_eqm, chkn, ixn, if_pos, if_neg, bndV_s, bndE_s, bndO_s, reduceIte, irmn, iminn, imaxn, and_self, true_and, and_true, false_and, and_false, f_X12_stop, n2, isI, g1]
      rw [x12]
      rcases (by omega : k = 0 ∨ k = 1) with rfl | rfl
      · refine ⟨nI b, ρ', ?_, ?_, h'⟩
        · rw [f_X6_bestSilence_j94, if_pos (by decide)] at q
          simp (disch := omega) only [lit, neg1, nI_1, nI_add, pk_mul, pk_sub, nI_leI, nI_ltI, nI_eq, nI_eqm, chkn, ixn, if_pos, if_neg, bndV_s, bndE_s, bndO_s, reduceIte, irmn, iminn, imaxn, and_self, true_and, and_true, false_and, and_false, f_X11_stop, e1, q]
        · rw [f_X12_stop_j63, if_pos (by decide)]
      · refine ⟨nI (cnS (wr ρ 0 0 (nI 0) 42) (n + 1) b), ρ', ?_, ?_, h'⟩
        · rw [f_X6_bestSilence_j94, if_neg (by decide)] at q
          simp (disch := omega) only [lit, neg1, nI_1, nI_add, pk_mul, pk_sub, nI_leI, nI_ltI, nI_eq, nI_eqm, chkn, ixn, if_pos, if_neg, bndV_s, bndE_s, bndO_s, reduceIte, irmn, iminn, imaxn, and_self, true_and, and_true, false_and, and_false, f_X11_stop, e1, q]
        · rw [f_X12_stop_j63, if_neg (by decide), chkn (by omega) (by omega), ixn (by omega), c1]
    · refine no_r h (r := nI 4294967295) ?_ ?_
      · by_cases a : p < nI 0
        · simp (disch := omega) only [lit, neg1, nI_1, nI_add, pk_mul, pk_sub, nI_leI, nI_ltI, nI_eq, nI_eqm, chkn, ixn, if_pos, if_neg, bndV_s, bndE_s, bndO_s, reduceIte, irmn, iminn, imaxn, and_self, true_and, and_true, false_and, and_false, f_X11_stop, e1, a]
        · have b : ¬ p ≤ nI 1 := fun b => hp ⟨Int32.not_lt.mp a, b⟩
          simp (disch := omega) only [lit, neg1, nI_1, nI_add, pk_mul, pk_sub, nI_leI, nI_ltI, nI_eq, nI_eqm, chkn, ixn, if_pos, if_neg, bndV_s, bndE_s, bndO_s, reduceIte, irmn, iminn, imaxn, and_self, true_and, and_true, false_and, and_false, f_X11_stop, e1, a, b]
      · simp (disch := omega) only [lit, neg1, nI_1, nI_add, pk_mul, pk_sub, nI_leI, nI_ltI, nI_eq, nI_eqm, chkn, ixn, if_pos, if_neg, bndV_s, bndE_s, bndO_s, reduceIte, irmn, iminn, imaxn, and_self, true_and, and_true, false_and, and_false, f_X12_stop, n2, isI, hp]
end
