section
theorem zer12 {G : Nat} {ρ : Mem} (hG : 500 ≤ G) (v1 v2 k) : ∃ ρ', f_X12_apartWays_L2 G k G v1 v2 (nI 0) ρ = k v1 v2 ρ' ∧ (∀ z, z ≠ 37 → ρ' z = ρ z) ∧ ∀ i, i < 400 → ρ' 37 i = nI 0 := by
  obtain ⟨g', μ1, k1, i1, i2⟩ := loopZ (fun g v (σ : Mem) => f_X12_apartWays_L2 G k g v1 v2 v σ) 400 (fun k σ => (∀ z, z ≠ 37 → σ z = ρ z) ∧ ∀ i, i < k → σ 37 i = nI 0) (by
    rintro g y μ hy ⟨i1, i2⟩
    refine ⟨wr μ 37 y (nI 0), ?_, fun z hz => by rw [wr_off hz]; exact i1 z hz, fun i hi => ?_⟩
    · show f_X12_apartWays_L2 G k (g + 1) v1 v2 (nI y) μ = f_X12_apartWays_L2 G k g v1 v2 (nI (y + 1)) _
      rw [f_X12_apartWays_L2, if_neg (show ¬ (400 : Int32) ≤ nI y from nI_ge (b := 400) hy (by omega)), chkn hy (by omega), ixn (by omega), show (1 : Int32) = nI 1 from rfl, nI_add]
      rfl
    · by_cases e : i = y
      · rw [e, wr_same]
      · rw [wr_slot e]; exact i2 i (by omega)) (by omega : 400 < G) (s := ρ) ⟨fun _ _ => rfl, fun i hi => absurd hi (by omega)⟩
  refine ⟨μ1, ?_, i1, i2⟩
  refine Eq.trans k1 ?_
  show f_X12_apartWays_L2 G k (g' + 1) v1 v2 (nI 400) μ1 = _
  rw [f_X12_apartWays_L2, if_pos (by decide)]
theorem cut0 {M : Nat → Nat} {a b : Nat} (hM : ∀ u, u < 10 → M u < 1024) : ∃ S, S < 1024 ∧ S.testBit a = false ∧ S.testBit b = false ∧ SepN (wod M a b) S a b ∨ a = b := by
  by_cases ab : a = b
  · exact ⟨0, Or.inr ab⟩
  · refine ⟨mkM (fun u => !(u == a) && !(u == b)) 10, Or.inl ⟨mkM_lt 10, ?_, ?_, fun u => u = a, ⟨rfl, ?_⟩, fun q => ab q.symm⟩⟩
    · rw [mkM_bit]; simp
    · rw [mkM_bit]; simp
    · intro u v hu ua hN hS
      have ua : u = a := ua
      subst ua
      rw [mkM_bit] at hS
      unfold wod at hN
      rw [if_pos rfl] at hN
      have hv : v < 10 := by
        rcases Nat.lt_or_ge v 10 with h | h
        · exact h
        · rw [bit_ge (k := 10) (Nat.lt_of_le_of_lt wo_le (hM u hu)) h] at hN; cases hN
      rw [wo_bit (by omega), pw_bit, Bool.and_eq_true] at hN
      have vb : v ≠ b := fun e => by rw [e] at hN; simp at hN
      show v = u
      rw [decide_eq_true hv, beq_eq_false_iff_ne.mpr vb] at hS
      simpa using hS
theorem ways12 {G a b : Nat} {ρ : Mem} {M : Nat → Nat} (hG : 500 ≤ G) (hM : ∀ u, u < 10 → M u < 1024 ∧ ρ 36 u = nI (M u)) (ha : a < 10) (hb : b < 10) (hab : a ≠ b) :
    ∃ k ρ', f_X12_apartWays G (nI a) (nI b) ρ = some (nI k, ρ') ∧ (∀ z, z ≠ 37 → z ≠ 38 → ρ' z = ρ z) ∧
      (∃ S, S < 1024 ∧ S.testBit a = false ∧ S.testBit b = false ∧ SepN (wod M a b) S a b ∧ (pcn S 10 + if (M a).testBit b = true then 1 else 0) ≤ k) ∧
      ∀ S, S.testBit a = false → S.testBit b = false → SepN (wod M a b) S a b → k ≤ pcn S 10 + if (M a).testBit b = true then 1 else 0 := by
  have hM1 : ∀ u, u < 10 → M u < 1024 := fun u hu => (hM u hu).1
  obtain ⟨S0, s1, s2, s3, s4⟩ : ∃ S, S < 1024 ∧ S.testBit a = false ∧ S.testBit b = false ∧ SepN (wod M a b) S a b := by
    obtain ⟨S, h | h⟩ := cut0 (M := M) (a := a) (b := b) hM1
    · exact ⟨S, h⟩
    · exact absurd h hab
  have pm := pcn_max (a := S0) (n := 10)
  have key : ∀ n g k F ρ1, k + n = 12 → n < g → (∀ z, z ≠ 37 → z ≠ 38 → ρ1 z = ρ z) → FlM ρ1 F → FlE M F → FlI F (2 * a + 1) (2 * b) k →
      ∃ k' ρ', f_X12_apartWays_L24 G g (nI a) (nI b) (nI k) ρ1 = some (nI k', ρ') ∧ (∀ z, z ≠ 37 → z ≠ 38 → ρ' z = ρ z) ∧
      (∃ S, S < 1024 ∧ S.testBit a = false ∧ S.testBit b = false ∧ SepN (wod M a b) S a b ∧ (pcn S 10 + if (M a).testBit b = true then 1 else 0) ≤ k') ∧
      ∀ S, S.testBit a = false → S.testBit b = false → SepN (wod M a b) S a b → k' ≤ pcn S 10 + if (M a).testBit b = true then 1 else 0 := by
    intro n
    induction n with
    | zero =>
      intro g k F ρ1 hn hg h1 fm fe fi
      have := weak hM1 ha hb fe fi s2 s3 s4
      split at this <;> omega
    | succ n ih =>
      intro g k F ρ1 hn hg h1 fm fe fi
      obtain ⟨g, rfl⟩ : ∃ y, g = y + 1 := ⟨g - 1, by omega⟩
      have i1 : (2 : Int32) * nI a + 1 = nI (2 * a + 1) := by
        show nI 2 * nI a + nI 1 = _
        rw [pk_mul, nI_add]
      have i2 : (2 : Int32) * nI b = nI (2 * b) := pk_mul 2 b
      obtain ⟨ρ2, q1, ⟨r1, X, x1, x2, x3⟩ | ⟨r1, F', f1, f2, f3⟩⟩ := goes1 (G := G) (ρ := ρ1) (M := M) hG (fun u hu => by rw [h1 36 (by omega) (by omega)]; exact hM u hu) fm fe fi (by omega) (by omega) (by omega)
      · refine ⟨k, ρ2, ?_, fun z z1 z2 => by rw [q1 z z1 z2, h1 z z1 z2], strong hM1 ha hb hab fe fi x1 x2 x3, fun S => weak hM1 ha hb fe fi⟩
        rw [f_X12_apartWays_L24, i1, i2, r1, bndE_s, if_pos (show nI 0 = 0 from rfl)]
      · obtain ⟨k', ρ', w1, w2⟩ := ih g (k + 1) F' ρ2 (by omega) (by omega) (fun z z1 z2 => by rw [q1 z z1 z2, h1 z z1 z2]) f1 f2 f3
        refine ⟨k', ρ', ?_, w2⟩
        rw [f_X12_apartWays_L24, i1, i2, r1, bndE_s, if_neg (show ¬ nI 1 = 0 by decide), show (1 : Int32) = nI 1 from rfl, nI_add]
        exact w1
  obtain ⟨ρ1, z1, z2, z3⟩ := zer12 (G := G) (ρ := ρ) hG (nI a) (nI b) (f_X12_apartWays_j22 G)
  obtain ⟨k', ρ', w1, w2⟩ := key 12 G 0 (fun _ _ => 0) ρ1 (by omega) (by omega) (fun z h _ => z2 z h) (fun i j hi hj => z3 _ (by omega)) (fun x y _ _ => ⟨Nat.zero_le 1, fun q => by cases q⟩) (fun x _ => by
    have e1 : outN (fun _ _ => 0) x = 0 := nsm_0 (fun _ _ => rfl)
    have e2 : innN (fun _ _ => 0) x = 0 := nsm_0 (fun _ _ => rfl)
    rw [e1, e2]
    split <;> split <;> rfl)
  refine ⟨k', ρ', ?_, w2⟩
  unfold f_X12_apartWays
  refine Eq.trans z1 ?_
  exact w1
theorem s_ways {G : Nat} {bb : Bool} {μ ρ : Mem} (hG : 2000 ≤ G) (h : AR bb μ ρ) (p q k : Int32) : ∃ r μ' ρ', f_X11_ways G p q k μ = some (r, μ') ∧ f_X12_ways G p q k ρ = some (r, ρ') ∧ AR bb μ' ρ' := by
  have h0 : AR bb μ (wr ρ 0 0 (nI 0)) := AR_told h
  by_cases hp : nI 0 ≤ p ∧ p < nI 10
  · obtain ⟨a, ha, rfl⟩ := lt_of 10 rfl (by omega) hp.1 hp.2
    by_cases hq : nI 0 ≤ q ∧ q < nI 10
    · obtain ⟨b, hb, rfl⟩ := lt_of 10 rfl (by omega) hq.1 hq.2
      by_cases hab : a = b
      · subst hab
        refine ⟨nI 4294967295, μ, _, ?_, ?_, h0⟩
        · simp (disch := omega) only [lit, neg1, nI_1, nI_add, pk_mul, pk_sub, nI_leI, nI_ltI, nI_eq, nI_eqm, chkn, ixn, if_pos, if_neg, bndV_s, bndE_s, bndO_s, reduceIte, irmn, iminn, imaxn, and_self, true_and, and_true, false_and, and_false, f_X11_ways, isB]
        · simp (disch := omega) only [lit, neg1, nI_1, nI_add, pk_mul, pk_sub, nI_leI, nI_ltI, nI_eq, nI_eqm, chkn, ixn, if_pos, if_neg, bndV_s, bndE_s, bndO_s, reduceIte, irmn, iminn, imaxn, and_self, true_and, and_true, false_and, and_false, f_X12_ways, isI]
      · obtain ⟨n, A, B, M, D⟩ := rdD_of (AR_ch h0).2.2.2.1
        obtain ⟨μ1, l1, l2, l3⟩ := lay_ok (G := G) (by omega) D
        have hM : ∀ u, u < 10 → M u < 1024 ∧ (wr ρ 0 0 (nI 0)) 36 u = nI (M u) := fun u hu => ⟨(D.2.2 u hu).1, (D.2.2 u hu).2.1⟩
        have h1 : AR bb μ1 (wr ρ 0 0 (nI 0)) := AR_scr h0 (fun x _ _ _ hx => l2 x hx) (fun _ _ _ _ _ _ _ _ _ _ _ => rfl) (fun _ _ _ => rfl) (fun _ _ => rfl)
        by_cases k0 : k = nI 0
        · subst k0
          obtain ⟨m, μ2, a1, a2, a3, a4⟩ := apart_ok (G := G) (a := a) (b := b) (μ := μ1) (M := M) hG (fun u hu => ⟨(hM u hu).1, l3 u hu⟩) ha hb
          obtain ⟨k', ρ', b1, b2, ⟨S, c1, c2, c3, c4, c5⟩, b4⟩ := ways12 (G := G) (a := a) (b := b) (M := M) (by omega) hM ha hb hab
          have m1 := a4 S c1 c2 c3 c4
          have e : k' = m + if (M a).testBit b = true then 1 else 0 := by
            rcases a3 with e | ⟨c, d1, d2, d3, d4, d5⟩
            · have := b4 S c2 c3 c4
              have := pcn_max (a := S) (n := 10)
              split at * <;> omega
            · have := b4 c d2 d3 d4
              split at * <;> omega
          rw [← e] at a1
          refine ⟨nI k', μ2, ρ', ?_, ?_, AR_scr h1 (fun x _ _ _ hx => a2 x hx) (fun x _ _ _ _ _ _ g1 g2 _ _ => b2 x g1 g2) (fun j _ _ => by rw [b2 0 (by omega) (by omega)]) (fun j _ => by rw [b2 1 (by omega) (by omega)])⟩
          · simp (disch := omega) only [lit, neg1, nI_1, nI_add, pk_mul, pk_sub, nI_leI, nI_ltI, nI_eq, nI_eqm, chkn, ixn, if_pos, if_neg, bndV_s, bndE_s, bndO_s, reduceIte, irmn, iminn, imaxn, and_self, true_and, and_true, false_and, and_false, f_X11_ways, isB, l1, a1]
          · simp (disch := omega) only [lit, neg1, nI_1, nI_add, pk_mul, pk_sub, nI_leI, nI_ltI, nI_eq, nI_eqm, chkn, ixn, if_pos, if_neg, bndV_s, bndE_s, bndO_s, reduceIte, irmn, iminn, imaxn, and_self, true_and, and_true, false_and, and_false, f_X12_ways, isI, b1]
        · by_cases k1 : k = nI 1
          · subst k1
            obtain ⟨r, r1, r2⟩ := short_ok (G := G) (a := a) (b := b) (μ := μ1) (ρ := wr ρ 0 0 (nI 0)) (M := M) (by omega) (fun u hu => ⟨(hM u hu).1, l3 u hu, (hM u hu).2⟩) ha hb hab
            refine ⟨r, μ1, _, ?_, ?_, h1⟩
            · simp (disch := omega) only [lit, neg1, nI_1, nI_add, pk_mul, pk_sub, nI_leI, nI_ltI, nI_eq, nI_eqm, chkn, ixn, if_pos, if_neg, bndV_s, bndE_s, bndO_s, reduceIte, irmn, iminn, imaxn, and_self, true_and, and_true, false_and, and_false, f_X11_ways, isB, l1, r1]
            · simp (disch := omega) only [lit, neg1, nI_1, nI_add, pk_mul, pk_sub, nI_leI, nI_ltI, nI_eq, nI_eqm, chkn, ixn, if_pos, if_neg, bndV_s, bndE_s, bndO_s, reduceIte, irmn, iminn, imaxn, and_self, true_and, and_true, false_and, and_false, f_X12_ways, isI, r2]
          · have qq : ¬ (nI 0 ≤ k ∧ k ≤ nI 1) := by
              rintro ⟨c1, c2⟩
              obtain ⟨j, hj, rfl⟩ := in_of 1 rfl (by omega) c1 c2
              rcases (by omega : j = 0 ∨ j = 1) with e | e
              · exact k0 (by rw [e])
              · exact k1 (by rw [e])
            refine ⟨nI 4294967295, μ1, _, ?_, ?_, h1⟩
            · simp (disch := omega) only [lit, neg1, nI_1, nI_add, pk_mul, pk_sub, nI_leI, nI_ltI, nI_eq, nI_eqm, chkn, ixn, if_pos, if_neg, bndV_s, bndE_s, bndO_s, reduceIte, irmn, iminn, imaxn, and_self, true_and, and_true, false_and, and_false, f_X11_ways, isB, l1, k0, k1]
            · simp (disch := omega) only [lit, neg1, nI_1, nI_add, pk_mul, pk_sub, nI_leI, nI_ltI, nI_eq, nI_eqm, chkn, ixn, if_pos, if_neg, bndV_s, bndE_s, bndO_s, reduceIte, irmn, iminn, imaxn, and_self, true_and, and_true, false_and, and_false, f_X12_ways, isI, qq]
    · have hq' : ¬ (nI 0 ≤ q ∧ q ≤ nI 9) := fun c => hq ⟨c.1, by
        obtain ⟨j, hj, rfl⟩ := in_of 9 rfl (by omega) c.1 c.2
        exact nI_lt (by omega) (by omega)⟩
      refine ⟨nI 4294967295, μ, _, ?_, ?_, h0⟩
      · simp (disch := omega) only [lit, neg1, nI_1, nI_add, pk_mul, pk_sub, nI_leI, nI_ltI, nI_eq, nI_eqm, chkn, ixn, if_pos, if_neg, bndV_s, bndE_s, bndO_s, reduceIte, irmn, iminn, imaxn, and_self, true_and, and_true, false_and, and_false, f_X11_ways, isB, hq]
      · simp (disch := omega) only [lit, neg1, nI_1, nI_add, pk_mul, pk_sub, nI_leI, nI_ltI, nI_eq, nI_eqm, chkn, ixn, if_pos, if_neg, bndV_s, bndE_s, bndO_s, reduceIte, irmn, iminn, imaxn, and_self, true_and, and_true, false_and, and_false, f_X12_ways, isI, hq']
  · have hp' : ¬ (nI 0 ≤ p ∧ p ≤ nI 9) := fun c => hp ⟨c.1, by
      obtain ⟨j, hj, rfl⟩ := in_of 9 rfl (by omega) c.1 c.2
      exact nI_lt (by omega) (by omega)⟩
    refine ⟨nI 4294967295, μ, _, ?_, ?_, h0⟩
    · simp (disch := omega) only [lit, neg1, nI_1, nI_add, pk_mul, pk_sub, nI_leI, nI_ltI, nI_eq, nI_eqm, chkn, ixn, if_pos, if_neg, bndV_s, bndE_s, bndO_s, reduceIte, irmn, iminn, imaxn, and_self, true_and, and_true, false_and, and_false, f_X11_ways, isB, hp]
    · simp (disch := omega) only [lit, neg1, nI_1, nI_add, pk_mul, pk_sub, nI_leI, nI_ltI, nI_eq, nI_eqm, chkn, ixn, if_pos, if_neg, bndV_s, bndE_s, bndO_s, reduceIte, irmn, iminn, imaxn, and_self, true_and, and_true, false_and, and_false, f_X12_ways, isI, hp']
end
