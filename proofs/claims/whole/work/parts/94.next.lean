section
/-- where the next order turns -/
def pivF (o : Nat → Nat) : Nat → Option Nat
  | 0 => none
  | i + 1 => if o i ≤ o (i + 1) then some i else pivF o i
def sucF (o : Nat → Nat) (p : Nat) : Nat → Nat
  | 0 => 0
  | j + 1 => if o p ≤ o (j + 1) then j + 1 else sucF o p j
def swF (o : Nat → Nat) (p j u : Nat) : Nat := if u = p then o j else if u = j then o p else o u
def nxF (n : Nat) (o : Nat → Nat) (p j s : Nat) : Nat := swF o p j (if p < s then n + p - s else s)
def ordL (n t : Nat) (j : Nat) : Nat := (prm n n 0 t).getD j 0
def allB (f : Nat → Bool) : Nat → Bool
  | 0 => true
  | n + 1 => allB f n && f n
theorem allB_ok {f : Nat → Bool} : ∀ {n : Nat}, allB f n = true → ∀ k, k < n → f k = true := by
  intro n
  induction n with
  | zero => intro _ k hk; omega
  | succ n ih =>
    intro h k hk
    rw [allB, Bool.and_eq_true] at h
    by_cases e : k = n
    · subst e; exact h.2
    · exact ih h.1 k (by omega)
def okN (n t : Nat) : Bool :=
  (match prm n n 0 t with
  | l => allB (fun j => Nat.blt (l.getD j 0) n) n && Nat.beq l.length n && (match pivF (fun j => l.getD j 0) (n - 1) with
    | none => Nat.beq (t + 1) (fac n)
    | some p => Nat.blt (t + 1) (fac n) && Nat.blt p (n - 1) && (match sucF (fun j => l.getD j 0) p (n - 1) with
      | j => match prm n n 0 (t + 1) with
        | l' => allB (fun s => Nat.beq (nxF n (fun j => l.getD j 0) p j s) (l'.getD s 0)) n)))
theorem okRoll : ∀ n, n < 6 → ∀ q, q ≤ n + 1 → okN (n + 2) (q * fac (n + 1) + (fac (n + 1) - 1)) = true := by decide +kernel
def OkP (n : Nat) (o o' : Nat → Nat) : Prop := ∃ p, pivF o (n - 1) = some p ∧ p < n - 1 ∧ ∀ s, s < n → nxF n o p (sucF o p (n - 1)) s = o' s
theorem okN_P {n t : Nat} (h : okN n t = true) : (t + 1 < fac n → OkP n (ordL n t) (ordL n (t + 1))) ∧ (t + 1 = fac n → pivF (ordL n t) (n - 1) = none) := by
  unfold okN at h
  simp only [Bool.and_eq_true] at h
  obtain ⟨⟨h1, h2⟩, h3⟩ := h
  show (_ → OkP n (fun j => (prm n n 0 t).getD j 0) _) ∧ (_ → pivF (fun j => (prm n n 0 t).getD j 0) _ = _)
  cases e : pivF (fun j => (prm n n 0 t).getD j 0) (n - 1) with
  | none =>
    simp only [e] at h3
    have := Nat.eq_of_beq_eq_true h3
    exact ⟨fun q => by omega, fun _ => rfl⟩
  | some p =>
    simp only [e, Bool.and_eq_true] at h3
    obtain ⟨⟨h3, h4⟩, h5⟩ := h3
    have h3 : t + 1 < fac n := Nat.le_of_ble_eq_true h3
    have h4 : p < n - 1 := Nat.le_of_ble_eq_true h4
    exact ⟨fun _ => ⟨p, e, h4, fun s hs => Nat.eq_of_beq_eq_true (allB_ok h5 s hs)⟩, fun q => by omega⟩
def dlt (q i : Nat) : Nat := if i < q then i else i + 1
def InsP (n q C c : Nat) : Prop := C.testBit q = true ∧ ∀ i, i < n → C.testBit (dlt q i) = c.testBit i
theorem frl_e {C c : Nat} : ∀ {n}, (∀ i, i < n → C.testBit i = c.testBit i) → frl n C = frl n c
  | 0, _ => rfl
  | n + 1, h => by rw [frl, frl, frl_e (fun i hi => h i (by omega)), h n (by omega)]
theorem frl_in {q C c : Nat} : ∀ {n}, q ≤ n → InsP n q C c → frl (n + 1) C = (frl n c).map (dlt q)
  | n, hq, ⟨h1, h2⟩ => by
    have lo : ∀ i, i < q → dlt q i = i := fun i hi => if_pos hi
    by_cases e : q = n
    · subst e
      rw [frl, h1, if_pos rfl, List.append_nil]
      have : frl q C = frl q c := frl_e (fun i hi => by have := h2 i hi; rw [lo i hi] at this; exact this)
      rw [this]
      refine Eq.trans (List.map_id _).symm (List.map_congr_left fun i hi => ?_)
      exact (lo i (frl_mem hi).1).symm
    · obtain ⟨n, rfl⟩ : ∃ y, n = y + 1 := ⟨n - 1, by omega⟩
      have hn := h2 n (by omega)
      have d : dlt q n = n + 1 := if_neg (by omega)
      rw [d] at hn
      rw [frl, frl_in (n := n) (by omega) ⟨h1, fun i hi => h2 i (by omega)⟩, hn, frl, List.map_append]
      congr 1
      split
      · rfl
      · show _ = [dlt q n]; rw [d]
theorem prm_in {n q : Nat} (hq : q ≤ n) : ∀ m C c t, m + pcn c n = n → t < fac m → InsP n q C c → prm (n + 1) m C t = (prm n m c t).map (dlt q) := by
  intro m
  induction m with
  | zero => intro C c t _ _ _; rfl
  | succ m ih =>
    intro C c t h1 h2 h3
    have hl := frl_len (c := c) n
    have fp := fac_pos m
    have tq : t / fac m < (frl n c).length := by
      rw [show (frl n c).length = m + 1 by omega]
      exact (Nat.div_lt_iff_lt_mul fp).mpr h2
    have e : (frl (n + 1) C).getD (t / fac m) 0 = dlt q ((frl n c).getD (t / fac m) 0) := by
      rw [frl_in hq h3, List.getD_eq_getElem?_getD, List.getD_eq_getElem?_getD, List.getElem?_map, List.getElem?_eq_getElem tq]
      rfl
    have mem : (frl n c).getD (t / fac m) 0 ∈ frl n c := by
      rw [List.getD_eq_getElem?_getD, List.getElem?_eq_getElem tq]
      exact List.getElem_mem tq
    obtain ⟨m1, m2⟩ := frl_mem mem
    show _ :: _ = dlt q _ :: _
    rw [e]
    congr 1
    have hp := pcn_in m2 n
    rw [if_pos m1] at hp
    refine ih _ _ _ (by omega) (Nat.mod_lt _ fp) ⟨?_, fun i hi => ?_⟩
    · rw [Nat.testBit_or, h3.1, Bool.true_or]
    · rw [Nat.testBit_or, Nat.testBit_or, h3.2 i hi, pw_bit, pw_bit]
      congr 1
      have : dlt q ((frl n c).getD (t / fac m) 0) = dlt q i ↔ (frl n c).getD (t / fac m) 0 = i := by
        unfold dlt
        constructor
        · intro h; split at h <;> split at h <;> omega
        · intro h; rw [h]
      simp only [this]
theorem prm_len {n : Nat} : ∀ m c t, (prm n m c t).length = m := by
  intro m
  induction m with
  | zero => intro c t; rfl
  | succ m ih => intro c t; show (_ :: _).length = _; rw [List.length_cons, ih]
theorem prm_mem {n : Nat} : ∀ m c t, m + pcn c n = n → t < fac m → ∀ i, i ∈ prm n m c t → i < n := by
  intro m
  induction m with
  | zero => intro c t _ _ i hi; cases hi
  | succ m ih =>
    intro c t h1 h2 i hi
    have hl := frl_len (c := c) n
    have fp := fac_pos m
    have tq : t / fac m < (frl n c).length := by
      rw [show (frl n c).length = m + 1 by omega]
      exact (Nat.div_lt_iff_lt_mul fp).mpr h2
    have mem : (frl n c).getD (t / fac m) 0 ∈ frl n c := by
      rw [List.getD_eq_getElem?_getD, List.getElem?_eq_getElem tq]
      exact List.getElem_mem tq
    obtain ⟨m1, m2⟩ := frl_mem mem
    have hp := pcn_in m2 n
    rw [if_pos m1] at hp
    have hi : i ∈ _ :: _ := hi
    rcases List.mem_cons.mp hi with h | h
    · rw [h]; exact m1
    · exact ih _ _ (by omega) (Nat.mod_lt _ fp) i h
theorem frl_0 : ∀ n j, j < n → (frl n 0).getD j 0 = j := by
  have len : ∀ n, (frl n 0).length = n := fun n => by have := frl_len (c := 0) n; rw [pcn_z] at this; exact this
  intro n
  induction n with
  | zero => intro j hj; omega
  | succ n ih =>
    intro j hj
    rw [frl, Nat.zero_testBit, List.getD_eq_getElem?_getD]
    by_cases e : j < n
    · rw [List.getElem?_append_left (by rw [len]; exact e), ← List.getD_eq_getElem?_getD, ih j e]
    · rw [List.getElem?_append_right (by rw [len]; omega), len, show j = n by omega, Nat.sub_self]
      rfl
theorem ordL_s {n q s : Nat} (hq : q ≤ n) (hs : s < fac n) : ordL (n + 1) (q * fac n + s) 0 = q ∧ ∀ j, j < n → ordL (n + 1) (q * fac n + s) (j + 1) = dlt q (ordL n s j) := by
  have fp := fac_pos n
  have e1 : (q * fac n + s) / fac n = q := by rw [Nat.mul_comm, Nat.mul_add_div fp, Nat.div_eq_of_lt hs, Nat.add_zero]
  have e2 : (q * fac n + s) % fac n = s := by rw [Nat.mul_comm, Nat.mul_add_mod, Nat.mod_eq_of_lt hs]
  have e3 : (frl (n + 1) 0).getD q 0 = q := frl_0 (n + 1) q (by omega)
  have h0 : prm (n + 1) (n + 1) 0 (q * fac n + s) = q :: prm (n + 1) n (0 ||| 2 ^ q) s := by
    show _ :: _ = _
    rw [e1, e2, e3]
  have h1 : prm (n + 1) n (0 ||| 2 ^ q) s = (prm n n 0 s).map (dlt q) := by
    refine prm_in hq n _ _ s (by rw [pcn_z, Nat.add_zero]) hs ⟨?_, fun i hi => ?_⟩
    · rw [Nat.testBit_or, pw_bit]; simp
    · rw [Nat.testBit_or, pw_bit, Nat.zero_testBit]
      have : ¬ q = dlt q i := by unfold dlt; split <;> omega
      simp [this]
  constructor
  · unfold ordL; rw [h0]; rfl
  · intro j hj
    unfold ordL
    rw [h0, h1]
    show ((prm n n 0 s).map (dlt q)).getD j 0 = _
    have hl : j < (prm n n 0 s).length := by rw [prm_len]; exact hj
    rw [List.getD_eq_getElem?_getD, List.getD_eq_getElem?_getD, List.getElem?_map, List.getElem?_eq_getElem hl]
    rfl
theorem ordL_lt {n t j : Nat} (ht : t < fac n) (hj : j < n) : ordL n t j < n := by
  have hl : j < (prm n n 0 t).length := by rw [prm_len]; exact hj
  refine prm_mem n 0 t (by rw [pcn_z, Nat.add_zero]) ht _ ?_
  unfold ordL
  rw [List.getD_eq_getElem?_getD, List.getElem?_eq_getElem hl]
  exact List.getElem_mem hl
theorem dlt_le {q a b : Nat} : dlt q a ≤ dlt q b ↔ a ≤ b := by
  unfold dlt
  split <;> split <;> omega
theorem sucF_s {o : Nat → Nat} {p j : Nat} : sucF o p (j + 1) = if o p ≤ o (j + 1) then j + 1 else sucF o p j := rfl
theorem sucF_le {o : Nat → Nat} {p : Nat} : ∀ {k}, p ≤ k → p ≤ sucF o p k ∧ sucF o p k ≤ k ∧ o p ≤ o (sucF o p k)
  | 0, h => by
    obtain rfl : p = 0 := Nat.le_zero.mp h
    exact ⟨Nat.le_refl _, Nat.le_refl _, Nat.le_refl _⟩
  | k + 1, h => by
    unfold sucF
    split
    · rename_i q; exact ⟨h, Nat.le_refl _, q⟩
    · rename_i q
      have : p ≠ k + 1 := fun e => q (by rw [e]; exact Nat.le_refl _)
      have := sucF_le (o := o) (p := p) (k := k) (by omega)
      exact ⟨this.1, by omega, this.2.2⟩
theorem nextC : ∀ n, n < 7 → (∀ t, t + 1 < fac (n + 1) → OkP (n + 1) (ordL (n + 1) t) (ordL (n + 1) (t + 1))) ∧ pivF (ordL (n + 1) (fac (n + 1) - 1)) n = none := by
  intro n
  induction n with
  | zero =>
    intro _
    exact ⟨fun t ht => by have : fac (0 + 1) = 1 := rfl; omega, rfl⟩
  | succ n ih =>
    intro hn
    obtain ⟨i1, i2⟩ := ih (by omega)
    have fp := fac_pos (n + 1)
    have fe : fac (n + 1 + 1) = (n + 2) * fac (n + 1) := rfl
    constructor
    · intro t ht
      have tq : t / fac (n + 1) < n + 2 := (Nat.div_lt_iff_lt_mul fp).mpr (by omega)
      have ts : t % fac (n + 1) < fac (n + 1) := Nat.mod_lt _ fp
      have te : t / fac (n + 1) * fac (n + 1) + t % fac (n + 1) = t := by rw [Nat.mul_comm]; exact Nat.div_add_mod _ _
      generalize t / fac (n + 1) = q at *
      generalize t % fac (n + 1) = s at *
      by_cases c : s + 1 = fac (n + 1)
      · have := (okN_P (okRoll n (by omega) q (by omega))).1
        rw [show q * fac (n + 1) + (fac (n + 1) - 1) = t by omega] at this
        exact this ht
      · obtain ⟨p, p1, p2, p3⟩ := i1 s (by omega)
        obtain ⟨a0, a1⟩ := ordL_s (n := n + 1) (q := q) (s := s) (by omega) ts
        obtain ⟨b0, b1⟩ := ordL_s (n := n + 1) (q := q) (s := s + 1) (by omega) (by omega)
        rw [te] at a0 a1
        rw [show q * fac (n + 1) + (s + 1) = t + 1 by omega] at b0 b1
        have pv : ∀ k p, k ≤ n → pivF (ordL (n + 1) s) k = some p → pivF (ordL (n + 1 + 1) t) (k + 1) = some (p + 1) := by
          intro k
          induction k with
          | zero => intro p _ h; cases h
          | succ k ihk =>
            intro p hk h
            rw [pivF] at h ⊢
            by_cases d : ordL (n + 1) s k ≤ ordL (n + 1) s (k + 1)
            · rw [if_pos d] at h
              injection h with h
              rw [if_pos (by rw [a1 k (by omega), a1 (k + 1) (by omega), dlt_le]; exact d), h]
            · rw [if_neg d] at h
              rw [if_neg (by rw [a1 k (by omega), a1 (k + 1) (by omega), dlt_le]; exact d)]
              exact ihk p (by omega) h
        have sv : ∀ k, p ≤ k → k ≤ n → sucF (ordL (n + 1 + 1) t) (p + 1) (k + 1) = sucF (ordL (n + 1) s) p k + 1 := by
          intro k
          induction k with
          | zero =>
            intro h1 h2
            obtain rfl : p = 0 := by omega
            rw [sucF_s, if_pos (Nat.le_refl _)]
            rfl
          | succ k ihk =>
            intro h1 h2
            rw [sucF_s, sucF_s (o := ordL (n + 1) s)]
            by_cases d : ordL (n + 1) s p ≤ ordL (n + 1) s (k + 1)
            · rw [if_pos d, if_pos (by rw [a1 p (by omega), a1 (k + 1) (by omega), dlt_le]; exact d)]
            · have : p ≠ k + 1 := fun e => d (by rw [e]; exact Nat.le_refl _)
              rw [if_neg d, if_neg (by rw [a1 p (by omega), a1 (k + 1) (by omega), dlt_le]; exact d)]
              exact ihk (by omega) (by omega)
        refine ⟨p + 1, pv n p (Nat.le_refl _) p1, by omega, fun u hu => ?_⟩
        rw [show n + 1 + 1 - 1 = n + 1 from rfl, sv n (by omega) (Nat.le_refl _)]
        have hj := sucF_le (o := ordL (n + 1) s) (p := p) (k := n) (by omega)
        rw [show n + 1 - 1 = n from rfl] at p3
        generalize sucF (ordL (n + 1) s) p n = j at *
        rcases Nat.eq_zero_or_pos u with rfl | hu0
        · rw [b0, ← a0]
          unfold nxF swF
          rw [if_neg (show ¬ p + 1 < 0 by omega), if_neg (by omega), if_neg (by omega)]
        · obtain ⟨u, rfl⟩ : ∃ y, u = y + 1 := ⟨u - 1, by omega⟩
          rw [b1 u (by omega), ← p3 u (by omega)]
          have sw : ∀ v, v < n + 1 → swF (ordL (n + 1 + 1) t) (p + 1) (j + 1) (v + 1) = dlt q (swF (ordL (n + 1) s) p j v) := by
            intro v hv
            unfold swF
            by_cases d1 : v = p
            · rw [if_pos d1, if_pos (by omega), a1 j (by omega)]
            · rw [if_neg d1, if_neg (by omega)]
              by_cases d2 : v = j
              · rw [if_pos d2, if_pos (by omega), a1 p (by omega)]
              · rw [if_neg d2, if_neg (by omega), a1 v hv]
          unfold nxF
          rw [← sw _ (by split <;> omega)]
          congr 1
          split <;> split <;> omega
    · have := (okN_P (okRoll n (by omega) (n + 1) (by omega))).2
      rw [show (n + 1) * fac (n + 1) + (fac (n + 1) - 1) = fac (n + 1 + 1) - 1 by rw [fe, Nat.succ_mul (n + 1)]; omega] at this
      have fp2 := fac_pos (n + 1 + 1)
      exact this (show fac (n + 1 + 1) - 1 + 1 = fac (n + 1 + 1) by omega)
end
