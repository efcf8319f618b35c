section
/-- is there more to go from x to y -/
def lfB (M : Nat → Nat) (F : Nat → Nat → Nat) (x y : Nat) : Bool := F y x == 1 || (edB M x y && F x y == 0)
def mkM (P : Nat → Bool) : Nat → Nat
  | 0 => 0
  | n + 1 => if P n = true then mkM P n ||| 2 ^ n else mkM P n
theorem mkM_lt {P : Nat → Bool} : ∀ n, mkM P n < 2 ^ n
  | 0 => Nat.one_pos
  | n + 1 => by
    have := mkM_lt (P := P) n
    have h2 : 2 ^ (n + 1) = 2 ^ n + 2 ^ n := by rw [Nat.pow_succ, Nat.mul_two]
    unfold mkM
    split
    · exact or_lt (by omega) (pw_lt (by omega))
    · omega
theorem mkM_bit {P : Nat → Bool} {i : Nat} : ∀ n, (mkM P n).testBit i = (decide (i < n) && P i)
  | 0 => by rw [mkM, Nat.zero_testBit]; simp
  | n + 1 => by
    have ih := mkM_bit (P := P) (i := i) n
    have hlt := mkM_lt (P := P) n
    unfold mkM
    by_cases c : P n = true
    · rw [if_pos c, Nat.testBit_or, pw_bit, ih]
      by_cases e : i = n
      · subst e; simp [c]
      · have h1 : decide (n = i) = false := decide_eq_false (fun q => e q.symm)
        rw [h1, Bool.or_false]
        by_cases l : i < n
        · simp [l, show i < n + 1 by omega]
        · simp [l, show ¬ i < n + 1 by omega]
    · rw [if_neg c, ih]
      by_cases e : i = n
      · subst e; simp [bool_ne c]
      · by_cases l : i < n
        · simp [l, show i < n + 1 by omega]
        · simp [l, show ¬ i < n + 1 by omega]
theorem anB {p : Nat → Bool} : ∀ n, (List.range n).any p = true ↔ ∃ v, v < n ∧ p v = true := by
  intro n
  rw [List.any_eq_true]
  constructor
  · rintro ⟨v, h1, h2⟩; exact ⟨v, List.mem_range.mp h1, h2⟩
  · rintro ⟨v, h1, h2⟩; exact ⟨v, List.mem_range.mpr h1, h2⟩
/-- where no more can go there is a cut as small -/
theorem strong {M : Nat → Nat} {F : Nat → Nat → Nat} {a b k : Nat} {X : Nat → Bool} (hM : ∀ u, u < 10 → M u < 1024) (ha : a < 10) (hb : b < 10) (hab : a ≠ b) (hE : FlE M F) (hF : FlI F (2 * a + 1) (2 * b) k) (xs : X (2 * a + 1) = true) (xt : X (2 * b) = false) (hX : ∀ x y, x < 20 → y < 20 → X x = true → X y = false → lfB M F x y = false) :
    ∃ S, S < 1024 ∧ S.testBit a = false ∧ S.testBit b = false ∧ SepN (wod M a b) S a b ∧ (pcn S 10 + if (M a).testBit b = true then 1 else 0) ≤ k := by
  have hc := cut_eq hF (show 2 * a + 1 < 20 by omega) (show 2 * b < 20 by omega) xs xt
  have lf : ∀ x y, x < 20 → y < 20 → X x = true → X y = false → F y x = 0 ∧ (edB M x y = true → F x y = 1) := by
    intro x y hx hy q1 q2
    have h := hX x y hx hy q1 q2
    unfold lfB at h
    rw [Bool.or_eq_false_iff] at h
    obtain ⟨h1, h2⟩ := h
    have e1 := (hE y x hy hx).1
    have e2 := (hE x y hx hy).1
    have n1 : F y x ≠ 1 := beq_eq_false_iff_ne.mp h1
    refine ⟨by omega, fun q => ?_⟩
    rw [q, Bool.true_and] at h2
    have n2 : F x y ≠ 0 := beq_eq_false_iff_ne.mp h2
    omega
  have hz : crs X (fun x y => F y x) = 0 := by
    unfold crs
    refine nsm_0 (fun x hx => nsm_0 (fun y hy => ?_))
    split
    · rename_i c; exact (lf x y hx hy c.1 c.2).1
    · rfl
  let P1 : Nat → Bool := fun u => X (2 * u) && !X (2 * u + 1)
  let P2 : Nat → Bool := fun u => X (2 * u + 1) && (List.range 10).any (fun v => (M u).testBit v && !X (2 * v))
  let P3 : Nat → Bool := fun u => (M a).testBit u && !X (2 * u)
  let P : Nat → Bool := fun u => (!(u == a) && !(u == b)) && (P1 u || P2 u || P3 u)
  have Pb : ∀ u, u < 10 → (mkM P 10).testBit u = P u := fun u hu => by rw [mkM_bit, decide_eq_true hu, Bool.true_and]
  have Pa : P a = false := by show ((!(a == a) && _) && _) = false; simp
  have Pb' : P b = false := by show ((_ && !(b == b)) && _) = false; simp
  refine ⟨mkM P 10, mkM_lt 10, by rw [Pb a ha, Pa], by rw [Pb b hb, Pb'], ?_, ?_⟩
  · refine ⟨fun u => u = a ∨ (u ≠ b ∧ P u = false ∧ X (2 * u + 1) = true), ⟨Or.inl rfl, ?_⟩, fun q => ?_⟩
    · intro u v hu hY hN hS
      have nl : wod M a b u < 1024 := by
        unfold wod
        split
        · exact Nat.lt_of_le_of_lt wo_le (hM a ha)
        · exact hM u hu
      have hv : v < 10 := by
        rcases Nat.lt_or_ge v 10 with h | h
        · exact h
        · rw [bit_ge (k := 10) nl h] at hN; cases hN
      rw [Pb v hv] at hS
      by_cases va : v = a
      · exact Or.inl va
      have v2 : v ≠ b → X (2 * v) = true → X (2 * v + 1) = true := by
        intro vb x2
        have hS' : ((!(v == a) && !(v == b)) && (P1 v || P2 v || P3 v)) = false := hS
        rw [beq_eq_false_iff_ne.mpr va, beq_eq_false_iff_ne.mpr vb] at hS'
        have h1 : P1 v = false := by
          cases h : P1 v with
          | false => rfl
          | true => rw [h] at hS'; simp at hS'
        have h1 : (X (2 * v) && !X (2 * v + 1)) = false := h1
        rw [x2] at h1
        simpa using h1
      rcases (Classical.em (u = a)) with rfl | ua
      · have vb : v ≠ b := by
          intro e
          unfold wod at hN
          rw [if_pos rfl, wo_bit (by omega), pw_bit, e] at hN
          simp at hN
        refine Or.inr ⟨vb, hS, v2 vb ?_⟩
        have hm : (M u).testBit v = true := by
          unfold wod at hN
          rw [if_pos rfl, wo_bit (by omega), Bool.and_eq_true] at hN
          exact hN.1
        have hS' : ((!(v == u) && !(v == b)) && (P1 v || P2 v || P3 v)) = false := hS
        rw [beq_eq_false_iff_ne.mpr va, beq_eq_false_iff_ne.mpr vb] at hS'
        have h3 : P3 v = false := by
          cases h : P3 v with
          | false => rfl
          | true => rw [h] at hS'; simp at hS'
        have h3 : ((M u).testBit v && !X (2 * v)) = false := h3
        rw [hm] at h3
        simpa using h3
      · rcases hY with q | ⟨ub, up, ux⟩
        · exact absurd q ua
        · have hm : (M u).testBit v = true := by
            unfold wod at hN
            rw [if_neg ua] at hN
            exact hN
          have up' : ((!(u == a) && !(u == b)) && (P1 u || P2 u || P3 u)) = false := up
          rw [beq_eq_false_iff_ne.mpr ua, beq_eq_false_iff_ne.mpr ub] at up'
          have h2 : P2 u = false := by
            cases h : P2 u with
            | false => rfl
            | true => rw [h] at up'; simp at up'
          have x2 : X (2 * v) = true := by
            cases hx : X (2 * v) with
            | true => rfl
            | false =>
              have : P2 u = true := by
                show (X (2 * u + 1) && _) = true
                rw [ux, Bool.true_and]
                exact (anB 10).mpr ⟨v, hv, by rw [hm, hx]; rfl⟩
              rw [this] at h2; cases h2
          have vb : v ≠ b := fun e => by rw [e, xt] at x2; cases x2
          exact Or.inr ⟨vb, hS, v2 vb x2⟩
    · rcases q with q | q
      · exact hab q.symm
      · exact q.1 rfl
  · rw [hz, Nat.zero_add] at hc
    rw [← hc]
    let i1 : Nat → Nat := fun u => if P1 u = true then 1 else 0
    let i2 : Nat → Nat := fun u => if u = a then 0 else if P2 u = true then 1 else 0
    let i3 : Nat → Nat := fun u => if u = b then 0 else if P3 u = true then 1 else 0
    have le : pcn (mkM P 10) 10 ≤ nsm (fun u => i1 u + i2 u + i3 u) 10 := by
      rw [pcn_nsm]
      apply nsm_le
      intro u hu
      rw [Pb u hu]
      by_cases c : P u = true
      · rw [if_pos c]
        have c : ((!(u == a) && !(u == b)) && (P1 u || P2 u || P3 u)) = true := c
        have ua : u ≠ a := fun e => by rw [e] at c; simp at c
        have ub : u ≠ b := fun e => by rw [e] at c; simp at c
        rw [beq_eq_false_iff_ne.mpr ua, beq_eq_false_iff_ne.mpr ub] at c
        show 1 ≤ (if P1 u = true then 1 else 0) + (if u = a then 0 else if P2 u = true then 1 else 0) + (if u = b then 0 else if P3 u = true then 1 else 0)
        rw [if_neg ua, if_neg ub]
        cases h1 : P1 u <;> cases h2 : P2 u <;> cases h3 : P3 u <;> rw [h1, h2, h3] at c <;> simp at c ⊢
      · rw [if_neg c]; omega
    let inn : Nat → Nat := fun x => nsm (fun y => if X x = true ∧ X y = false then F x y else 0) 20
    have one : ∀ x y, x < 20 → y < 20 → X x = true → X y = false → edB M x y = true → (if X x = true ∧ X y = false then F x y else 0) = 1 := fun x y hx hy q1 q2 q3 => by rw [if_pos ⟨q1, q2⟩]; exact (lf x y hx hy q1 q2).2 q3
    have eo : ∀ u v, (M u).testBit v = true → edB M (2 * u + 1) (2 * v) = true := fun u v h => by
      unfold edB
      rw [if_neg (by omega), show (2 * u + 1) / 2 = u by omega, show 2 * v / 2 = v by omega, h, Bool.and_true, show 2 * v % 2 = 0 by omega]
      rfl
    have g1 : ∀ u, u < 10 → i1 u ≤ inn (2 * u) := by
      intro u hu
      show (if P1 u = true then 1 else 0) ≤ _
      split
      · rename_i c
        have c : (X (2 * u) && !X (2 * u + 1)) = true := c
        rw [Bool.and_eq_true, Bool.not_eq_true'] at c
        have := nsm_ge (f := fun y => if X (2 * u) = true ∧ X y = false then F (2 * u) y else 0) (y0 := 2 * u + 1) (n := 20) (by omega)
        rw [one (2 * u) (2 * u + 1) (by omega) (by omega) c.1 c.2 (by unfold edB; rw [if_pos (by omega)]; exact beq_self_eq_true _)] at this
        exact this
      · omega
    have g2 : ∀ u, u < 10 → i2 u + (if u = a then inn (2 * a + 1) else 0) ≤ inn (2 * u + 1) := by
      intro u hu
      show (if u = a then 0 else if P2 u = true then 1 else 0) + _ ≤ _
      by_cases ua : u = a
      · rw [if_pos ua, if_pos ua, ua]; omega
      · rw [if_neg ua, if_neg ua]
        split
        · rename_i c
          have c : (X (2 * u + 1) && (List.range 10).any (fun v => (M u).testBit v && !X (2 * v))) = true := c
          rw [Bool.and_eq_true, anB] at c
          obtain ⟨c1, v, hv, c2⟩ := c
          rw [Bool.and_eq_true, Bool.not_eq_true'] at c2
          have := nsm_ge (f := fun y => if X (2 * u + 1) = true ∧ X y = false then F (2 * u + 1) y else 0) (y0 := 2 * v) (n := 20) (by omega)
          rw [one (2 * u + 1) (2 * v) (by omega) (by omega) c1 c2.2 (eo u v c2.1)] at this
          exact this
        · omega
    have g3 : nsm i3 10 + (if (M a).testBit b = true then 1 else 0) ≤ inn (2 * a + 1) := by
      have e1 : nsm (fun v => if v = b then (if (M a).testBit b = true then 1 else 0) else 0) 10 = if (M a).testBit b = true then 1 else 0 := by
        rw [nsm_pt (y0 := b) (fun y _ hy => if_neg hy), if_pos hb, if_pos rfl]
      rw [← e1, ← nsm_add]
      show _ ≤ nsm _ 20
      rw [pairs]
      apply nsm_le
      intro v hv
      refine Nat.le_trans ?_ (Nat.le_add_right _ _)
      show (if v = b then 0 else if P3 v = true then 1 else 0) + _ ≤ _
      by_cases vb : v = b
      · rw [if_pos vb, if_pos vb]
        split
        · rename_i c
          rw [vb, one (2 * a + 1) (2 * b) (by omega) (by omega) xs xt (eo a b c)]
          exact Nat.le_refl _
        · omega
      · rw [if_neg vb, if_neg vb]
        split
        · rename_i c
          have c : ((M a).testBit v && !X (2 * v)) = true := c
          rw [Bool.and_eq_true, Bool.not_eq_true'] at c
          rw [one (2 * a + 1) (2 * v) (by omega) (by omega) xs c.2 (eo a v c.1)]
          exact Nat.le_refl _
        · omega
    have tot : crs X F = nsm (fun u => inn (2 * u) + inn (2 * u + 1)) 10 := pairs (h := inn)
    have e2 : nsm (fun u => if u = a then inn (2 * a + 1) else 0) 10 = inn (2 * a + 1) := by
      rw [nsm_pt (y0 := a) (fun y _ hy => if_neg hy), if_pos ha, if_pos rfl]
    have t1 := nsm_le (f := fun u => i1 u + (i2 u + (if u = a then inn (2 * a + 1) else 0))) (h := fun u => inn (2 * u) + inn (2 * u + 1)) (n := 10) (fun u hu => Nat.add_le_add (g1 u hu) (g2 u hu))
    rw [nsm_add, nsm_add, e2, ← tot] at t1
    rw [nsm_add, nsm_add] at le
    have le : pcn (mkM P 10) 10 ≤ nsm i1 10 + nsm i2 10 + nsm i3 10 := le
    have t1 : nsm i1 10 + (nsm i2 10 + inn (2 * a + 1)) ≤ crs X F := t1
    omega
end
