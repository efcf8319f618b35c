section
/-! sums over numbers below n -/
def nsm (f : Nat → Nat) : Nat → Nat
  | 0 => 0
  | n + 1 => nsm f n + f n
theorem nsm_e {f h : Nat → Nat} : ∀ {n : Nat}, (∀ k, k < n → f k = h k) → nsm f n = nsm h n := by
  intro n
  induction n with
  | zero => intro _; rfl
  | succ n ih => intro H; rw [nsm, nsm, ih (fun k hk => H k (by omega)), H n (by omega)]
theorem nsm_0 {f : Nat → Nat} : ∀ {n : Nat}, (∀ k, k < n → f k = 0) → nsm f n = 0 := by
  intro n
  induction n with
  | zero => intro _; rfl
  | succ n ih => intro H; rw [nsm, ih (fun k hk => H k (by omega)), H n (by omega)]
theorem nsm_add {f h : Nat → Nat} : ∀ {n : Nat}, nsm (fun k => f k + h k) n = nsm f n + nsm h n := by
  intro n
  induction n with
  | zero => rfl
  | succ n ih => rw [nsm, nsm, nsm, ih]; omega
theorem nsm_mul {f : Nat → Nat} (c : Nat) : ∀ {n : Nat}, nsm (fun k => c * f k) n = c * nsm f n := by
  intro n
  induction n with
  | zero => rfl
  | succ n ih => rw [nsm, nsm, ih, Nat.mul_add]
theorem nsm_swap {f : Nat → Nat → Nat} {n : Nat} : ∀ {m : Nat}, nsm (fun a => nsm (fun b => f a b) n) m = nsm (fun b => nsm (fun a => f a b) m) n := by
  intro m
  induction m with
  | zero => exact (nsm_0 (fun _ _ => rfl)).symm
  | succ m ih => rw [nsm, ih, ← nsm_add]; rfl
theorem nsm_app {f : Nat → Nat} {a : Nat} : ∀ {b : Nat}, nsm f (a + b) = nsm f a + nsm (fun k => f (a + k)) b := by
  intro b
  induction b with
  | zero => rfl
  | succ b ih => rw [← Nat.add_assoc, nsm, nsm, ih, Nat.add_assoc]
theorem nsm_blk {f : Nat → Nat} {b : Nat} : ∀ {a : Nat}, nsm f (a * b) = nsm (fun q => nsm (fun s => f (q * b + s)) b) a := by
  intro a
  induction a with
  | zero => rw [Nat.zero_mul]; rfl
  | succ a ih => rw [Nat.succ_mul, nsm_app, ih]; rfl
theorem nsm_le {f h : Nat → Nat} : ∀ {n : Nat}, (∀ k, k < n → f k ≤ h k) → nsm f n ≤ nsm h n := by
  intro n
  induction n with
  | zero => intro _; exact Nat.le_refl _
  | succ n ih => intro H; exact Nat.add_le_add (ih (fun k hk => H k (by omega))) (H n (by omega))
theorem nsm_c {c n : Nat} : nsm (fun _ => c) n = n * c := by
  induction n with
  | zero => rw [Nat.zero_mul]; rfl
  | succ n ih => rw [nsm, ih, Nat.succ_mul]
theorem pcn_nsm {c n : Nat} : pcn c n = nsm (fun i => if c.testBit i = true then 1 else 0) n := by
  induction n with
  | zero => rfl
  | succ n ih => rw [pcn, nsm, ih]
theorem nsm_pc {c n X : Nat} : nsm (fun i => if c.testBit i = true then X else 0) n = pcn c n * X := by
  rw [pcn_nsm, Nat.mul_comm, ← nsm_mul]
  apply nsm_e
  intro k _
  split <;> simp
theorem or_in {q i s : Nat} (hs : s < 2 ^ i) : (q * (2 ^ i + 2 ^ i) + s) ||| 2 ^ i = q * (2 ^ i + 2 ^ i) + (2 ^ i + s) := by
  have e : q * (2 ^ i + 2 ^ i) = 2 ^ (i + 1) * q := by rw [Nat.pow_succ, Nat.mul_two, Nat.mul_comm]
  have hs' : s < 2 ^ (i + 1) := by rw [Nat.pow_succ]; omega
  have hs2 : 2 ^ i + s < 2 ^ (i + 1) := by rw [Nat.pow_succ]; omega
  rw [e, Nat.two_pow_add_eq_or_of_lt hs', Nat.two_pow_add_eq_or_of_lt hs2, Nat.or_assoc]
  have := Nat.two_pow_add_eq_or_of_lt hs 1
  rw [Nat.mul_one] at this
  rw [this, Nat.or_comm s]
theorem bit_lo {q i s : Nat} (hs : s < 2 ^ i) : (q * (2 ^ i + 2 ^ i) + s).testBit i = false ∧ (q * (2 ^ i + 2 ^ i) + (2 ^ i + s)).testBit i = true := by
  have e : q * (2 ^ i + 2 ^ i) = 2 ^ (i + 1) * q := by rw [Nat.pow_succ, Nat.mul_two, Nat.mul_comm]
  have hs' : s < 2 ^ (i + 1) := by rw [Nat.pow_succ]; omega
  have hs2 : 2 ^ i + s < 2 ^ (i + 1) := by rw [Nat.pow_succ]; omega
  have b : s.testBit i = false := bit_ge hs (Nat.le_refl _)
  rw [e, Nat.testBit_two_pow_mul_add _ hs', Nat.testBit_two_pow_mul_add _ hs2, if_pos (by omega), if_pos (by omega), Nat.testBit_two_pow_add_eq, b]
  exact ⟨rfl, rfl⟩
theorem nsm_flip {h : Nat → Nat} {n i : Nat} (hi : i < n) : nsm (fun c => if c.testBit i = true then h c else 0) (2 ^ n) = nsm (fun c => if c.testBit i = true then 0 else h (c ||| 2 ^ i)) (2 ^ n) := by
  have e : 2 ^ n = 2 ^ (n - i - 1) * (2 ^ i + 2 ^ i) := by
    rw [show 2 ^ i + 2 ^ i = 2 ^ (i + 1) by rw [Nat.pow_succ, Nat.mul_two], ← Nat.pow_add]
    congr 1
    omega
  rw [e, nsm_blk, nsm_blk]
  apply nsm_e
  intro q _
  rw [nsm_app, nsm_app]
  rw [nsm_0 (f := fun s => if (q * (2 ^ i + 2 ^ i) + s).testBit i = true then h (q * (2 ^ i + 2 ^ i) + s) else 0) (fun s hs => by rw [(bit_lo hs).1]; rfl)]
  rw [nsm_0 (f := fun k => if (q * (2 ^ i + 2 ^ i) + (2 ^ i + k)).testBit i = true then 0 else h (q * (2 ^ i + 2 ^ i) + (2 ^ i + k) ||| 2 ^ i)) (fun s hs => by rw [(bit_lo hs).2]; rfl)]
  rw [Nat.zero_add, Nat.add_zero]
  apply nsm_e
  intro s hs
  rw [(bit_lo hs).1, (bit_lo hs).2, or_in hs]
  rfl
theorem pcn_in {c i : Nat} (hb : c.testBit i = false) : ∀ n, pcn (c ||| 2 ^ i) n = pcn c n + if i < n then 1 else 0 := by
  intro n
  induction n with
  | zero => rfl
  | succ n ih =>
    rw [pcn, pcn, ih, Nat.testBit_or, pw_bit]
    by_cases e : i = n
    · subst e
      simp [hb]
    · have : decide (i = n) = false := decide_eq_false e
      rw [this, Bool.or_false]
      split <;> split <;> split <;> omega
/-- sums over the sets of j -/
def lvl (n j : Nat) (f : Nat → Nat) : Nat := nsm (fun c => if pcn c n = j then f c else 0) (2 ^ n)
theorem lvl_up {n j : Nat} {f : Nat → Nat} : lvl n j (fun c => nsm (fun i => if c.testBit i = true then 0 else f (c ||| 2 ^ i)) n) = (j + 1) * lvl n (j + 1) f := by
  unfold lvl
  rw [← nsm_mul]
  have r : ∀ c, (j + 1) * (if pcn c n = j + 1 then f c else 0) = nsm (fun i => if c.testBit i = true then (if pcn c n = j + 1 then f c else 0) else 0) n := by
    intro c
    rw [nsm_pc]
    split
    · rename_i h; rw [h]
    · simp
  rw [nsm_e (h := fun c => nsm (fun i => if c.testBit i = true then (if pcn c n = j + 1 then f c else 0) else 0) n) (fun c _ => r c), nsm_swap]
  have l : ∀ c, (if pcn c n = j then nsm (fun i => if c.testBit i = true then 0 else f (c ||| 2 ^ i)) n else 0) = nsm (fun i => if pcn c n = j then (if c.testBit i = true then 0 else f (c ||| 2 ^ i)) else 0) n := by
    intro c
    split
    · rfl
    · exact (nsm_0 (fun _ _ => rfl)).symm
  rw [nsm_e (fun c _ => l c), nsm_swap]
  apply nsm_e
  intro i hi
  rw [nsm_flip (h := fun c => if pcn c n = j + 1 then f c else 0) hi]
  apply nsm_e
  intro c _
  cases hb : c.testBit i with
  | true => simp
  | false =>
    have := pcn_in hb n
    rw [if_pos hi] at this
    simp [this]
def fac : Nat → Nat
  | 0 => 1
  | n + 1 => (n + 1) * fac n
theorem fac_pos : ∀ n, 0 < fac n
  | 0 => Nat.one_pos
  | n + 1 => Nat.mul_pos (Nat.succ_pos n) (fac_pos n)
def cntN (n : Nat) (T : Nat → Nat) : Nat → Nat → Nat
  | 0, c => T c
  | k + 1, c => nsm (fun i => if c.testBit i = true then 0 else cntN n T k (c ||| 2 ^ i)) n
theorem cntN_lvl {n : Nat} {T : Nat → Nat} : ∀ k j, fac j * lvl n j (cntN n T k) = fac (j + k) * lvl n (j + k) T := by
  intro k
  induction k with
  | zero => intro j; rfl
  | succ k ih =>
    intro j
    rw [show lvl n j (cntN n T (k + 1)) = (j + 1) * lvl n (j + 1) (cntN n T k) from lvl_up, ← Nat.mul_assoc, Nat.mul_comm (fac j), show (j + 1) * fac j = fac (j + 1) from rfl, ih (j + 1), show j + 1 + k = j + (k + 1) by omega]
theorem pcn_0 {c n : Nat} (hc : c < 2 ^ n) (h : pcn c n = 0) : c = 0 := by
  apply bits_eq
  intro i
  rw [Nat.zero_testBit]
  by_cases hi : i < n
  · clear hc
    induction n with
    | zero => omega
    | succ n ih =>
      rw [pcn] at h
      by_cases e : i = n
      · subst e
        cases hb : c.testBit i with
        | false => rfl
        | true => rw [hb] at h; simp at h
      · exact ih (by omega) (by omega)
  · exact bit_ge hc (by omega)
theorem pcn_z : ∀ n, pcn 0 n = 0
  | 0 => rfl
  | n + 1 => by rw [pcn, pcn_z n, Nat.zero_testBit]; rfl
theorem cntN_0 {n k : Nat} {T : Nat → Nat} : cntN n T k 0 = fac k * lvl n k T := by
  have := cntN_lvl (n := n) (T := T) k 0
  rw [Nat.zero_add] at this
  rw [← this]
  show _ = 1 * _
  rw [Nat.one_mul]
  unfold lvl
  have h2 : 0 < 2 ^ n := Nat.two_pow_pos n
  rw [show 2 ^ n = 1 + (2 ^ n - 1) by omega, nsm_app]
  rw [nsm_0 (f := fun k_1 => if pcn (1 + k_1) n = 0 then cntN n T k (1 + k_1) else 0) (fun c hc => by
    rw [if_neg]
    intro h
    have := pcn_0 (c := 1 + c) (by omega) h
    omega)]
  show _ = 0 + (if pcn 0 n = 0 then cntN n T k 0 else 0) + 0
  rw [if_pos (pcn_z n)]
  omega
end
