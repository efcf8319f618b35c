section
def dj (a j : Nat) : Nat := if j = 0 then a / 36 else if j = 1 then a / 6 % 6 else a % 6
def sd (a b : Nat) : Nat := 3 * rtN a b + alN a b
theorem plj {a j : Nat} (ha : a < 216) (hj : j < 3) : f_X12_plumeAt (nI (dgt a)) (nI j) = nI (dj a j) ∧ dj a j < 6 := by
  have hd : dgt a < 1000 := by unfold dgt; omega
  rw [plm hd hj]
  unfold dj dg3 dgt
  rcases (by omega : j = 0 ∨ j = 1 ∨ j = 2) with rfl | rfl | rfl
  · rw [if_pos rfl, if_pos rfl]
    exact ⟨congrArg nI (by omega), by omega⟩
  · rw [if_neg (by omega), if_pos rfl, if_neg (by omega), if_pos rfl]
    exact ⟨congrArg nI (by omega), by omega⟩
  · rw [if_neg (by omega), if_neg (by omega), if_neg (by omega), if_neg (by omega)]
    exact ⟨congrArg nI (by omega), by omega⟩
theorem rt_sum {a b : Nat} : rtN a b = nsm (fun j => if dj a j = dj b j then 1 else 0) 3 := by
  show _ = 0 + _ + _ + _
  rw [Nat.zero_add]
  rfl
theorem pl_sum {a d : Nat} : plC d a = nsm (fun j => if dj a j = d then 1 else 0) 3 := by
  show _ = 0 + _ + _ + _
  rw [Nat.zero_add]
  rfl
theorem al_sum {a b : Nat} : alN a b = nsm (fun d => min (plC d a) (plC d b)) 6 := by
  show _ = 0 + _ + _ + _ + _ + _ + _
  rw [Nat.zero_add]
  rfl
theorem nsm_lt {f : Nat → Nat} {n : Nat} (h : ∀ k, f k ≤ 1) : nsm f n ≤ n := by
  have := nsm_le (f := f) (h := fun _ => 1) (n := n) (fun k _ => h k)
  rw [nsm_c, Nat.mul_one] at this
  exact this
theorem said_ok {G a b : Nat} {ρ : Mem} (hG : 500 ≤ G) (ha : a < 216) (hb : b < 216) : f_X12_saidOf G ρ (nI (dgt a)) (nI (dgt b)) = some (nI (sd a b)) := by
  obtain ⟨g1, x1, k1, rfl⟩ := loopZ (fun g v x => f_X12_saidOf_L8 G ρ (f_X12_saidOf_j41 G ρ) g (nI (dgt a)) (nI (dgt b)) x 0 v) 3 (fun j x => x = nI (nsm (fun j => if dj a j = dj b j then 1 else 0) j)) (by
    rintro g j x hj rfl
    refine ⟨_, ?_, rfl⟩
    obtain ⟨p1, q1⟩ := plj ha hj
    obtain ⟨p2, q2⟩ := plj hb hj
    show f_X12_saidOf_L8 G ρ _ (g + 1) (nI (dgt a)) (nI (dgt b)) (nI (nsm (fun j => if dj a j = dj b j then 1 else 0) j)) 0 (nI j) = f_X12_saidOf_L8 G ρ _ g (nI (dgt a)) (nI (dgt b)) (nI (nsm (fun j => if dj a j = dj b j then 1 else 0) j + (if dj a j = dj b j then 1 else 0))) 0 (nI (j + 1))
    by_cases c : dj a j = dj b j
    · rw [if_pos c]
      rw [c] at p1
      simp (disch := omega) only [lit, neg1, nI_1, nI_add, pk_mul, pk_sub, nI_leI, nI_ltI, nI_eq, nI_eqm, chkn, ixn, if_pos, if_neg, bndV_s, bndE_s, bndO_s, reduceIte, irmn, iminn, imaxn, and_self, true_and, and_true, false_and, and_false, f_X12_saidOf_L8, p1, p2, f_X12_saidOf_j35]
    · rw [if_neg c]
      simp (disch := omega) only [lit, neg1, nI_1, nI_add, pk_mul, pk_sub, nI_leI, nI_ltI, nI_eq, nI_eqm, chkn, ixn, if_pos, if_neg, bndV_s, bndE_s, bndO_s, reduceIte, irmn, iminn, imaxn, and_self, true_and, and_true, false_and, and_false, f_X12_saidOf_L8, p1, p2, f_X12_saidOf_j35, Nat.add_zero]) (by omega : 3 < G) (s := (0 : Int32)) rfl
  rw [← rt_sum] at k1
  obtain ⟨g2, x2, k2, rfl⟩ := loopZ (fun g v x => f_X12_saidOf_L44 G ρ g (nI (dgt a)) (nI (dgt b)) (nI (rtN a b)) x v) 6 (fun d x => x = nI (nsm (fun d => min (plC d a) (plC d b)) d)) (by
    rintro g d x hd rfl
    refine ⟨_, ?_, rfl⟩
    obtain ⟨g3, x3, k3, rfl⟩ := loopZ (fun h v (x : Int32 × Int32) => f_X12_saidOf_L60 G ρ (f_X12_saidOf_L44 G ρ g) (f_X12_saidOf_j108 G ρ (f_X12_saidOf_L44 G ρ g)) h (nI (dgt a)) (nI (dgt b)) (nI (rtN a b)) (nI (nsm (fun d => min (plC d a) (plC d b)) d)) (nI d) x.1 x.2 v) 3 (fun j x => x = (nI (nsm (fun j => if dj a j = d then 1 else 0) j), nI (nsm (fun j => if dj b j = d then 1 else 0) j))) (by
      rintro h j x hj rfl
      refine ⟨_, ?_, rfl⟩
      obtain ⟨p1, q1⟩ := plj ha hj
      obtain ⟨p2, q2⟩ := plj hb hj
      show f_X12_saidOf_L60 G ρ _ _ (h + 1) (nI (dgt a)) (nI (dgt b)) (nI (rtN a b)) (nI (nsm (fun d => min (plC d a) (plC d b)) d)) (nI d) (nI (nsm (fun j => if dj a j = d then 1 else 0) j)) (nI (nsm (fun j => if dj b j = d then 1 else 0) j)) (nI j) = f_X12_saidOf_L60 G ρ _ _ h (nI (dgt a)) (nI (dgt b)) (nI (rtN a b)) (nI (nsm (fun d => min (plC d a) (plC d b)) d)) (nI d) (nI (nsm (fun j => if dj a j = d then 1 else 0) j + (if dj a j = d then 1 else 0))) (nI (nsm (fun j => if dj b j = d then 1 else 0) j + (if dj b j = d then 1 else 0))) (nI (j + 1))
      by_cases c1 : dj a j = d
      · rw [if_pos c1]
        by_cases c2 : dj b j = d
        · rw [if_pos c2]
          rw [c1] at p1
          rw [c2] at p2
          simp (disch := omega) only [lit, neg1, nI_1, nI_add, pk_mul, pk_sub, nI_leI, nI_ltI, nI_eq, nI_eqm, chkn, ixn, if_pos, if_neg, bndV_s, bndE_s, bndO_s, reduceIte, irmn, iminn, imaxn, and_self, true_and, and_true, false_and, and_false, f_X12_saidOf_L60, p1, p2, f_X12_saidOf_j84, f_X12_saidOf_j102]
        · rw [if_neg c2]
          rw [c1] at p1
          simp (disch := omega) only [lit, neg1, nI_1, nI_add, pk_mul, pk_sub, nI_leI, nI_ltI, nI_eq, nI_eqm, chkn, ixn, if_pos, if_neg, bndV_s, bndE_s, bndO_s, reduceIte, irmn, iminn, imaxn, and_self, true_and, and_true, false_and, and_false, f_X12_saidOf_L60, p1, p2, f_X12_saidOf_j84, f_X12_saidOf_j102, Nat.add_zero]
      · rw [if_neg c1]
        by_cases c2 : dj b j = d
        · rw [if_pos c2]
          rw [c2] at p2
          simp (disch := omega) only [lit, neg1, nI_1, nI_add, pk_mul, pk_sub, nI_leI, nI_ltI, nI_eq, nI_eqm, chkn, ixn, if_pos, if_neg, bndV_s, bndE_s, bndO_s, reduceIte, irmn, iminn, imaxn, and_self, true_and, and_true, false_and, and_false, f_X12_saidOf_L60, p1, p2, f_X12_saidOf_j84, f_X12_saidOf_j102, Nat.add_zero]
        · rw [if_neg c2]
          simp (disch := omega) only [lit, neg1, nI_1, nI_add, pk_mul, pk_sub, nI_leI, nI_ltI, nI_eq, nI_eqm, chkn, ixn, if_pos, if_neg, bndV_s, bndE_s, bndO_s, reduceIte, irmn, iminn, imaxn, and_self, true_and, and_true, false_and, and_false, f_X12_saidOf_L60, p1, p2, f_X12_saidOf_j84, f_X12_saidOf_j102, Nat.add_zero]) (by omega : 3 < G) (s := ((0 : Int32), (0 : Int32))) rfl
    show f_X12_saidOf_L44 G ρ (g + 1) (nI (dgt a)) (nI (dgt b)) (nI (rtN a b)) (nI (nsm (fun d => min (plC d a) (plC d b)) d)) (nI d) = f_X12_saidOf_L44 G ρ g (nI (dgt a)) (nI (dgt b)) (nI (rtN a b)) (nI (nsm (fun d => min (plC d a) (plC d b)) d + min (plC d a) (plC d b))) (nI (d + 1))
    rw [f_X12_saidOf_L44, if_neg (show ¬ (6 : Int32) ≤ nI d from nI_ge (b := 6) hd (by omega))]
    refine Eq.trans k3 ?_
    show f_X12_saidOf_L60 G ρ _ _ (g3 + 1) (nI (dgt a)) (nI (dgt b)) (nI (rtN a b)) (nI (nsm (fun d => min (plC d a) (plC d b)) d)) (nI d) (nI (nsm (fun j => if dj a j = d then 1 else 0) 3)) (nI (nsm (fun j => if dj b j = d then 1 else 0) 3)) (nI 3) = _
    have l1 := nsm_lt (f := fun j => if dj a j = d then 1 else 0) (n := 3) (fun k => by show (if _ then 1 else 0) ≤ 1; split <;> omega)
    have l2 := nsm_lt (f := fun j => if dj b j = d then 1 else 0) (n := 3) (fun k => by show (if _ then 1 else 0) ≤ 1; split <;> omega)
    rw [← pl_sum] at l1 l2
    rw [← pl_sum, ← pl_sum]
    simp (disch := omega) only [lit, neg1, nI_1, nI_add, pk_mul, pk_sub, nI_leI, nI_ltI, nI_eq, nI_eqm, chkn, ixn, if_pos, if_neg, bndV_s, bndE_s, bndO_s, reduceIte, irmn, iminn, imaxn, and_self, true_and, and_true, false_and, and_false, f_X12_saidOf_L60, f_X12_saidOf_j108, ls12]) (by omega : 6 < G) (s := (0 : Int32)) rfl
  rw [← al_sum] at k2
  have ra := rt_al ha hb
  refine Eq.trans k1 ?_
  show f_X12_saidOf_L8 G ρ _ (g1 + 1) (nI (dgt a)) (nI (dgt b)) (nI (rtN a b)) 0 (nI 3) = _
  rw [f_X12_saidOf_L8, if_pos (show (3 : Int32) ≤ nI 3 by decide), f_X12_saidOf_j41]
  refine Eq.trans k2 ?_
  show f_X12_saidOf_L44 G ρ (g2 + 1) (nI (dgt a)) (nI (dgt b)) (nI (rtN a b)) (nI (alN a b)) (nI 6) = _
  unfold sd
  rw [f_X12_saidOf_L44, if_pos (show (6 : Int32) ≤ nI 6 by decide), show (4 : Int32) = nI 4 from rfl, pk_mul, nI_add, pk_sub (by omega)]
  congr 2
  omega
theorem sd_t5 {a b a' b' : Nat} (ha : a < 216) (hb : b < 216) (ha' : a' < 216) (hb' : b' < 216) : sd a b = sd a' b' ↔ t5 a b = t5 a' b' := by
  have h1 := rt_al ha hb
  have h2 := rt_al ha' hb'
  unfold sd t5
  omega
theorem sd_c {a b : Nat} : rtN a b = rtN b a ∧ alN a b = alN b a := by
  constructor
  · unfold rtN
    simp only [eq_comm]
  · unfold alN
    simp only [Nat.min_comm]
theorem sd_re {a b r e : Nat} (ha : a < 216) (hb : b < 216) (h : r + e ≤ 3) : (nI (sd a b) = nI (4 * r + e) ↔ t5 b a = 5 * r + e) ∧ sd a b < 16 ∧ t5 b a < 16 := by
  have h1 := rt_al ha hb
  have h2 := sd_c (a := a) (b := b)
  unfold sd t5
  rw [← h2.1, ← h2.2]
  refine ⟨?_, by omega, by omega⟩
  rw [nI_eq (by omega) (by omega)]
  omega
end
