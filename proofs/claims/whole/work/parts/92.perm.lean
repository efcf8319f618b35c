section
/-- those below n that are not in c -/
def frl : Nat → Nat → List Nat
  | 0, _ => []
  | n + 1, c => frl n c ++ (if c.testBit n = true then [] else [n])
theorem frl_len {c : Nat} : ∀ n, (frl n c).length + pcn c n = n
  | 0 => rfl
  | n + 1 => by
    have ih := frl_len (c := c) n
    rw [frl, pcn, List.length_append]
    split
    · show (frl n c).length + 0 + _ = _; omega
    · show (frl n c).length + 1 + _ = _; omega
theorem frl_mem {c i : Nat} : ∀ {n}, i ∈ frl n c → i < n ∧ c.testBit i = false
  | 0, h => by cases h
  | n + 1, h => by
    rw [frl, List.mem_append] at h
    rcases h with h | h
    · have := frl_mem h
      exact ⟨by omega, this.2⟩
    · split at h
      · cases h
      · rename_i hb
        rw [List.mem_singleton] at h
        subst h
        exact ⟨by omega, by cases hh : c.testBit i with | true => exact absurd hh hb | false => rfl⟩
theorem frl_sum {c : Nat} {H : Nat → Nat} : ∀ n, nsm (fun q => H ((frl n c).getD q 0)) (frl n c).length = nsm (fun i => if c.testBit i = true then 0 else H i) n
  | 0 => rfl
  | n + 1 => by
    have ih := frl_sum (c := c) (H := H) n
    rw [frl, nsm, ← ih, List.length_append, nsm_app]
    congr 1
    · exact nsm_e (fun k hk => by rw [List.getD_eq_getElem?_getD, List.getD_eq_getElem?_getD, List.getElem?_append_left hk])
    · split
      · rfl
      · show nsm _ 1 = H n
        show 0 + H ((frl n c ++ [n]).getD ((frl n c).length + 0) 0) = H n
        rw [List.getD_eq_getElem?_getD, List.getElem?_append_right (by omega), Nat.zero_add, Nat.add_zero, Nat.sub_self]
        rfl
/-- the t-th order of the m that are not in c -/
def prm (n : Nat) : Nat → Nat → Nat → List Nat
  | 0, _, _ => []
  | m + 1, c, t => (frl n c).getD (t / fac m) 0 :: prm n m (c ||| 2 ^ (frl n c).getD (t / fac m) 0) (t % fac m)
theorem prm_sum {n m c : Nat} {F : List Nat → Nat} (h : m + 1 + pcn c n = n) : nsm (fun t => F (prm n (m + 1) c t)) (fac (m + 1)) = nsm (fun i => if c.testBit i = true then 0 else nsm (fun s => F (i :: prm n m (c ||| 2 ^ i) s)) (fac m)) n := by
  have hl := frl_len (c := c) n
  rw [← frl_sum (H := fun i => nsm (fun s => F (i :: prm n m (c ||| 2 ^ i) s)) (fac m)), show (frl n c).length = m + 1 by omega, show fac (m + 1) = (m + 1) * fac m from rfl, nsm_blk]
  have fp := fac_pos m
  apply nsm_e
  intro q hq
  apply nsm_e
  intro s hs
  show F (_ :: _) = _
  rw [show (q * fac m + s) / fac m = q by rw [Nat.mul_comm, Nat.mul_add_div fp, Nat.div_eq_of_lt hs, Nat.add_zero], show (q * fac m + s) % fac m = s by rw [Nat.mul_comm, Nat.mul_add_mod, Nat.mod_eq_of_lt hs]]
/-- what is taken, when k are let go and hi is the greatest of those that went -/
def tkn (x : Nat → Int32) : Nat → Int32 → List Nat → Int32
  | _, hi, [] => hi
  | k + 1, hi, i :: s => tkn x k (imax hi (x i)) s
  | 0, hi, i :: s => if x i ≤ hi then (match s with | [] => x i | _ :: _ => tkn x 0 hi s) else x i
def ind (x : Nat → Int32) (b : Int32) (k : Nat) (hi : Int32) (s : List Nat) : Nat := if tkn x k hi s = b then 1 else 0
/-- the greatest of those in c, and -1 -/
def hiM (x : Nat → Int32) (c : Nat) : Nat → Int32
  | 0 => -1
  | n + 1 => if c.testBit n = true then imax (hiM x c n) (x n) else hiM x c n
theorem hiM_in {x : Nat → Int32} {c i : Nat} (hb : c.testBit i = false) : ∀ n, hiM x (c ||| 2 ^ i) n = if i < n then imax (hiM x c n) (x i) else hiM x c n
  | 0 => rfl
  | n + 1 => by
    rw [hiM, hiM, hiM_in hb n, Nat.testBit_or, pw_bit]
    by_cases e : i = n
    · subst e
      simp [hb]
    · have : decide (i = n) = false := decide_eq_false e
      rw [this, Bool.or_false]
      by_cases hi : i < n
      · rw [if_pos hi, if_pos (show i < n + 1 by omega)]
        split
        · unfold imax; grind
        · rfl
      · rw [if_neg hi, if_neg (show ¬ i < n + 1 by omega)]
/-- of those not in c: how many exceed those in c; how many are b -/
def gtN (x : Nat → Int32) (n c : Nat) : Nat := nsm (fun i => if c.testBit i = true then 0 else if x i ≤ hiM x c n then 0 else 1) n
def eqN (x : Nat → Int32) (b : Int32) (n c : Nat) : Nat := nsm (fun i => if c.testBit i = true then 0 else if x i = b then 1 else 0) n
def tcN (x : Nat → Int32) (b : Int32) (n c : Nat) : Nat := nsm (fun t => ind x b 0 (hiM x c n) (prm n (n - pcn c n) c t)) (fac (n - pcn c n))
theorem cnt_ok {n : Nat} {x : Nat → Int32} {b : Int32} : ∀ k m c, m + pcn c n = n → k < m → nsm (fun t => ind x b k (hiM x c n) (prm n m c t)) (fac m) = cntN n (tcN x b n) k c := by
  intro k
  induction k with
  | zero =>
    intro m c h1 h2
    show _ = tcN x b n c
    unfold tcN
    rw [show n - pcn c n = m by omega]
  | succ k ih =>
    intro m c h1 h2
    obtain ⟨m, rfl⟩ : ∃ y, m = y + 1 := ⟨m - 1, by omega⟩
    rw [prm_sum (F := fun l => ind x b (k + 1) (hiM x c n) l) h1]
    show _ = nsm (fun i => if c.testBit i = true then 0 else cntN n (tcN x b n) k (c ||| 2 ^ i)) n
    apply nsm_e
    intro i hi
    cases hb : c.testBit i with
    | true => rfl
    | false =>
      have hp := pcn_in hb n
      rw [if_pos hi] at hp
      rw [← ih m (c ||| 2 ^ i) (by omega) (by omega), hiM_in hb n, if_pos hi]
      rfl
theorem nsm_out {c n X : Nat} : nsm (fun i => if c.testBit i = true then 0 else X) n = (n - pcn c n) * X := by
  have h1 : nsm (fun i => (if c.testBit i = true then X else 0) + (if c.testBit i = true then 0 else X)) n = nsm (fun _ => X) n := nsm_e (fun i _ => by split <;> omega)
  rw [nsm_add, nsm_pc, nsm_c] at h1
  rw [Nat.sub_mul]
  omega
theorem eqN_in {x : Nat → Int32} {b : Int32} {n c i : Nat} (hi : i < n) (hb : c.testBit i = false) : eqN x b n (c ||| 2 ^ i) + (if x i = b then 1 else 0) = eqN x b n c := by
  unfold eqN
  have : ∀ m, nsm (fun k => if (c ||| 2 ^ i).testBit k = true then 0 else if x k = b then 1 else 0) m + (if i < m then (if x i = b then 1 else 0) else 0) = nsm (fun k => if c.testBit k = true then 0 else if x k = b then 1 else 0) m := by
    intro m
    induction m with
    | zero => rfl
    | succ m ih =>
      rw [nsm, nsm, ← ih, Nat.testBit_or, pw_bit]
      by_cases e : i = m
      · subst e
        simp [hb]
      · have : decide (i = m) = false := decide_eq_false e
        rw [this, Bool.or_false]
        by_cases q : i < m
        · rw [if_pos q, if_pos (show i < m + 1 by omega)]; omega
        · rw [if_neg q, if_neg (show ¬ i < m + 1 by omega)]; omega
  have h := this n
  rw [if_pos hi] at h
  exact h
theorem gtN_in {x : Nat → Int32} {n c i : Nat} (hi : i < n) (hb : c.testBit i = false) (hx : x i ≤ hiM x c n) : hiM x (c ||| 2 ^ i) n = hiM x c n ∧ gtN x n (c ||| 2 ^ i) = gtN x n c := by
  have h1 : hiM x (c ||| 2 ^ i) n = hiM x c n := by
    rw [hiM_in hb n, if_pos hi]
    unfold imax
    grind
  refine ⟨h1, ?_⟩
  unfold gtN
  rw [h1]
  apply nsm_e
  intro k hk
  rw [Nat.testBit_or, pw_bit]
  by_cases e : i = k
  · subst e
    simp [hb, hx]
  · have : decide (i = k) = false := decide_eq_false e
    rw [this, Bool.or_false]
end
