section
theorem nsm_eq0 {f : Nat → Nat} : ∀ {n : Nat}, nsm f n = 0 → ∀ k, k < n → f k = 0 := by
  intro n
  induction n with
  | zero => intro _ k hk; omega
  | succ n ih =>
    intro h k hk
    rw [nsm] at h
    by_cases e : k = n
    · subst e; omega
    · exact ih (by omega) k (by omega)
theorem nsm_pos {f : Nat → Nat} : ∀ {n : Nat}, nsm f n ≠ 0 → ∃ k, k < n ∧ f k ≠ 0 := by
  intro n
  induction n with
  | zero => intro h; exact absurd rfl h
  | succ n ih =>
    intro h
    rw [nsm] at h
    by_cases e : f n = 0
    · obtain ⟨k, k1, k2⟩ := ih (by omega)
      exact ⟨k, by omega, k2⟩
    · exact ⟨n, by omega, e⟩
theorem fac_dvd {g : Nat} : ∀ {m : Nat}, 0 < g → g ≤ m → ∃ z, fac m = g * z := by
  intro m
  induction m with
  | zero => intro h1 h2; omega
  | succ m ih =>
    intro h1 h2
    by_cases e : g = m + 1
    · exact ⟨fac m, by rw [e]; rfl⟩
    · obtain ⟨z, hz⟩ := ih h1 (by omega)
      exact ⟨(m + 1) * z, by rw [fac, hz]; rw [← Nat.mul_assoc, ← Nat.mul_assoc, Nat.mul_comm g]⟩
theorem prm_cons {n m c t : Nat} : ∃ j s, prm n (m + 1) c t = j :: s := ⟨_, _, rfl⟩
theorem tc_ok {n : Nat} {x : Nat → Int32} {b : Int32} (hB : ∀ i, i < n → x i ≤ b) : ∀ m c, m + 1 + pcn c n = n → tcN x b n c = if gtN x n c = 0 then fac m * eqN x b n c else fac (m + 1) / gtN x n c * eqN x b n c := by
  intro m
  induction m with
  | zero =>
    intro c hc
    have e : tcN x b n c = eqN x b n c := by
      unfold tcN eqN
      rw [show n - pcn c n = 0 + 1 by omega, prm_sum (F := fun l => ind x b 0 (hiM x c n) l) hc]
      apply nsm_e
      intro i hi
      cases hb : c.testBit i with
      | true => rfl
      | false =>
        show 0 + ind x b 0 (hiM x c n) [i] = if x i = b then 1 else 0
        unfold ind tkn
        rw [Nat.zero_add]
        split <;> rfl
    rw [e]
    have hg : gtN x n c ≤ 1 := by
      have : gtN x n c ≤ nsm (fun i => if c.testBit i = true then 0 else 1) n := nsm_le (fun i _ => by split; exact Nat.le_refl _; split <;> omega)
      rw [nsm_out] at this
      omega
    split
    · show _ = 1 * _; rw [Nat.one_mul]
    · rw [show gtN x n c = 1 by omega]; show _ = 1 / 1 * _; rw [Nat.div_one, Nat.one_mul]
  | succ m ih =>
    intro c hc
    have e : tcN x b n c = nsm (fun i => if c.testBit i = true then 0 else if x i ≤ hiM x c n then tcN x b n (c ||| 2 ^ i) else fac (m + 1) * (if x i = b then 1 else 0)) n := by
      unfold tcN
      rw [show n - pcn c n = (m + 1) + 1 by omega, prm_sum (F := fun l => ind x b 0 (hiM x c n) l) hc]
      apply nsm_e
      intro i hi
      cases hb : c.testBit i with
      | true => rfl
      | false =>
        have hp := pcn_in hb n
        rw [if_pos hi] at hp
        show nsm (fun s => ind x b 0 (hiM x c n) (i :: prm n (m + 1) (c ||| 2 ^ i) s)) (fac (m + 1)) = if x i ≤ hiM x c n then _ else _
        by_cases q : x i ≤ hiM x c n
        · rw [if_pos q, show n - pcn (c ||| 2 ^ i) n = m + 1 by omega, (gtN_in hi hb q).1]
          apply nsm_e
          intro s _
          obtain ⟨j, s', hs⟩ := prm_cons (n := n) (m := m) (c := c ||| 2 ^ i) (t := s)
          rw [hs]
          unfold ind
          rw [show tkn x 0 (hiM x c n) (i :: j :: s') = tkn x 0 (hiM x c n) (j :: s') from if_pos q]
        · rw [if_neg q, ← nsm_c]
          apply nsm_e
          intro s _
          unfold ind
          rw [show tkn x 0 (hiM x c n) (i :: prm n (m + 1) (c ||| 2 ^ i) s) = x i from if_neg q]
    rw [e]
    have out := fun X => nsm_out (c := c) (n := n) (X := X)
    rw [show n - pcn c n = m + 2 by omega] at out
    have eqs : nsm (fun i => if c.testBit i = true then 0 else fac (m + 1) * (if x i = b then 1 else 0)) n = fac (m + 1) * eqN x b n c := by
      unfold eqN
      rw [← nsm_mul]
      exact nsm_e (fun i _ => by split <;> simp)
    by_cases g0 : gtN x n c = 0
    · rw [if_pos g0]
      have al : ∀ i, i < n → c.testBit i = false → x i ≤ hiM x c n := by
        intro i hi hb
        have := nsm_eq0 g0 i hi
        simp only [hb] at this
        by_cases q : x i ≤ hiM x c n
        · exact q
        · rw [if_neg q] at this; simp at this
      have s1 : nsm (fun i => (if c.testBit i = true then 0 else if x i ≤ hiM x c n then tcN x b n (c ||| 2 ^ i) else fac (m + 1) * (if x i = b then 1 else 0)) + (if c.testBit i = true then 0 else fac m * (if x i = b then 1 else 0))) n = nsm (fun i => if c.testBit i = true then 0 else fac m * eqN x b n c) n := by
        apply nsm_e
        intro i hi
        cases hb : c.testBit i with
        | true => rfl
        | false =>
          have q := al i hi hb
          have hp := pcn_in hb n
          rw [if_pos hi] at hp
          show (if x i ≤ hiM x c n then _ else _) + fac m * (if x i = b then 1 else 0) = fac m * eqN x b n c
          rw [if_pos q, ih (c ||| 2 ^ i) (by omega), (gtN_in hi hb q).2, if_pos g0, ← Nat.mul_add, eqN_in hi hb]
      have s2 : nsm (fun i => if c.testBit i = true then 0 else fac m * (if x i = b then 1 else 0)) n = fac m * eqN x b n c := by
        unfold eqN
        rw [← nsm_mul]
        exact nsm_e (fun i _ => by split <;> simp)
      rw [nsm_add, out, s2] at s1
      rw [show fac (m + 1) = (m + 1) * fac m from rfl, Nat.mul_assoc]
      have : (m + 2) * (fac m * eqN x b n c) = (m + 1) * (fac m * eqN x b n c) + fac m * eqN x b n c := by rw [Nat.succ_mul]
      rw [show fac (m + 1) = (m + 1) * fac m from rfl] at s1
      omega
    · rw [if_neg g0]
      have hlt : hiM x c n < b := by
        obtain ⟨j, j1, j2⟩ := nsm_pos g0
        have : ¬ x j ≤ hiM x c n := fun q => j2 (by split; rfl; rfl)
        have := hB j j1
        grind
      have s1 : nsm (fun i => (if c.testBit i = true then 0 else if x i ≤ hiM x c n then tcN x b n (c ||| 2 ^ i) else fac (m + 1) * (if x i = b then 1 else 0)) + fac (m + 1) / gtN x n c * eqN x b n c * (if c.testBit i = true then 0 else if x i ≤ hiM x c n then 0 else 1)) n = nsm (fun i => (if c.testBit i = true then 0 else fac (m + 1) / gtN x n c * eqN x b n c) + (if c.testBit i = true then 0 else fac (m + 1) * (if x i = b then 1 else 0))) n := by
        apply nsm_e
        intro i hi
        cases hb : c.testBit i with
        | true => simp
        | false =>
          have hp := pcn_in hb n
          rw [if_pos hi] at hp
          by_cases q : x i ≤ hiM x c n
          · have ne : ¬ x i = b := by grind
            have e1 := eqN_in (x := x) (b := b) hi hb
            rw [if_neg ne, Nat.add_zero] at e1
            simp only [Bool.false_eq_true, if_false]
            rw [if_pos q, if_pos q, if_neg ne, ih (c ||| 2 ^ i) (by omega), (gtN_in hi hb q).2, if_neg g0, e1, Nat.mul_zero, Nat.mul_zero]
          · simp only [Bool.false_eq_true, if_false]
            rw [if_neg q, if_neg q, Nat.mul_one, Nat.add_comm]
      rw [nsm_add, nsm_add, out, eqs, nsm_mul] at s1
      have s1 : _ + fac (m + 1) / gtN x n c * eqN x b n c * gtN x n c = _ := s1
      have gle : gtN x n c ≤ m + 2 := by
        have h1 : gtN x n c ≤ nsm (fun i => if c.testBit i = true then 0 else 1) n := nsm_le (fun i _ => by split; exact Nat.le_refl _; split <;> omega)
        rw [out] at h1
        omega
      generalize gtN x n c = g at *
      generalize eqN x b n c = E at *
      rw [show fac (m + 1 + 1) = (m + 2) * fac (m + 1) from rfl]
      by_cases c2 : g = m + 2
      · subst c2
        rw [Nat.mul_div_cancel_left _ (by omega)]
        rw [Nat.mul_comm (fac (m + 1) / (m + 2) * E)] at s1
        omega
      · obtain ⟨z, hz⟩ := fac_dvd (g := g) (m := m + 1) (by omega) (by omega)
        rw [hz] at s1 ⊢
        rw [Nat.mul_div_cancel_left _ (by omega)] at s1
        rw [show (m + 2) * (g * z) = g * ((m + 2) * z) by rw [← Nat.mul_assoc, ← Nat.mul_assoc, Nat.mul_comm g], Nat.mul_div_cancel_left _ (by omega)]
        rw [show z * E * g = g * z * E by rw [Nat.mul_comm, Nat.mul_assoc]] at s1
        rw [Nat.mul_assoc]
        omega
end
