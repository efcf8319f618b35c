section
def TpA (c : Nat → Nat) (n : Nat) (ρ : Mem) : Prop := ρ 0 15 = nI n ∧ (∀ j, j < n → ρ 10 j = nI (c j) ∧ c j < 256) ∧ ∀ k, k < 132 → ρ 11 k = wdA k
theorem TpA_o {c : Nat → Nat} {n : Nat} {ρ ρ' : Mem} (h : TpA c n ρ) (h1 : ρ' 0 15 = ρ 0 15) (h2 : ρ' 10 = ρ 10) (h3 : ρ' 11 = ρ 11) : TpA c n ρ' := by
  unfold TpA at h ⊢
  rw [h1, h2, h3]
  exact h
theorem raw_in {G j n : Nat} {c : Nat → Nat} {ρ : Mem} (h : TpA c n ρ) (hn : n ≤ 400) (hj : j < n) : f_X12_raw G ρ (nI j) = some (nI (c j)) := by
  unfold f_X12_raw
  rw [h.1, if_neg (nI_ge (by omega) (by omega)), chkn (by omega) (by omega), ixn (by omega), (h.2.1 j hj).1]
theorem raw_out {G j n : Nat} {c : Nat → Nat} {ρ : Mem} (h : TpA c n ρ) (hn : n ≤ j) (hj : j < 2 ^ 31) : f_X12_raw G ρ (nI j) = some (-1) := by
  unfold f_X12_raw
  rw [h.1, if_pos (nI_le hn hj)]
theorem let_r {G n : Nat} {c : Nat → Nat} (hn : n ≤ 400) (k : Mem → Option Mem) : ∀ m j g ρ, TpA c n ρ → ρ 0 16 = nI j → j ≤ n → n - j ≤ m → m < g →
    ∃ ρ', f_X12_reads_L95 G k g ρ = k ρ' ∧ ρ' 0 16 = nI (rE (fun i => cLet (c i)) n m j) ∧ (∀ x, x ≠ 0 → ρ' x = ρ x) ∧ ∀ i, i ≠ 16 → ρ' 0 i = ρ 0 i := by
  intro m
  induction m with
  | zero =>
    intro j g ρ hT h16 hj hm hg
    obtain ⟨g, rfl⟩ : ∃ y, g = y + 1 := ⟨g - 1, by omega⟩
    refine ⟨ρ, ?_, by rw [rE]; exact h16, fun _ _ => rfl, fun _ _ => rfl⟩
    rw [f_X12_reads_L95, h16, raw_out hT (by omega) (by omega), bndO_s, let12m, if_pos rfl]
  | succ m ih =>
    intro j g ρ hT h16 hj hm hg
    obtain ⟨g, rfl⟩ : ∃ y, g = y + 1 := ⟨g - 1, by omega⟩
    rw [rE]
    by_cases e : j < n
    · have c2 := (hT.2.1 j e).2
      have k2 := (ch_1 (c j) c2).2.1
      by_cases q : cLet (c j) = true
      · obtain ⟨ρ', r1, r2, r3, r4⟩ := ih (j + 1) g (wr ρ 0 16 (nI (j + 1))) (TpA_o hT (wr_slot (by omega)) (wr_off (by omega)) (wr_off (by omega))) wr_same (by omega) (by omega) (by omega)
        refine ⟨ρ', ?_, by rw [if_pos ⟨e, q⟩]; exact r2, fun x hx => by rw [r3 x hx, wr_off hx], fun i hi => by rw [r4 i hi, wr_slot hi]⟩
        rw [f_X12_reads_L95, h16, raw_in hT hn e, bndO_s, k2, if_pos q, if_neg (by decide), nI_1]
        exact r1
      · refine ⟨ρ, ?_, by rw [if_neg (fun z => q z.2)]; exact h16, fun _ _ => rfl, fun _ _ => rfl⟩
        rw [f_X12_reads_L95, h16, raw_in hT hn e, bndO_s, k2, if_neg q, if_pos (show nI 0 = 0 from rfl)]
    · refine ⟨ρ, ?_, by rw [if_neg (fun z => e z.1)]; exact h16, fun _ _ => rfl, fun _ _ => rfl⟩
      rw [f_X12_reads_L95, h16, raw_out hT (by omega) (by omega), bndO_s, let12m, if_pos rfl]
theorem num_r {G n i : Nat} {c : Nat → Nat} (hn : n ≤ 400) (k : Mem → Option Mem) : ∀ m j g ρ, TpA c n ρ → ρ 0 16 = nI j → i < j → j ≤ n → n - j ≤ m → m < g → (∀ t, i ≤ t → t < j → cNum (c t) = true) → (j - i ≤ 4 → ρ 0 19 = nI (nvF c i (j - i))) →
    ∃ ρ', f_X12_reads_L171 G k g ρ = k ρ' ∧ ρ' 0 16 = nI (rE (fun i => cNum (c i)) n m j) ∧ (rE (fun i => cNum (c i)) n m j - i ≤ 4 → ρ' 0 19 = nI (nvF c i (rE (fun i => cNum (c i)) n m j - i))) ∧ (∀ x, x ≠ 0 → ρ' x = ρ x) ∧ ∀ i, i ≠ 16 → i ≠ 19 → ρ' 0 i = ρ 0 i := by
  intro m
  induction m with
  | zero =>
    intro j g ρ hT h16 hij hj hm hg hnum h19
    obtain ⟨g, rfl⟩ : ∃ y, g = y + 1 := ⟨g - 1, by omega⟩
    refine ⟨ρ, ?_, by rw [rE]; exact h16, by rw [rE]; exact h19, fun _ _ => rfl, fun _ _ _ => rfl⟩
    rw [f_X12_reads_L171, h16, raw_out hT (by omega) (by omega), bndO_s, dig12m, bndO_s, if_pos rfl]
  | succ m ih =>
    intro j g ρ hT h16 hij hj hm hg hnum h19
    obtain ⟨g, rfl⟩ : ∃ y, g = y + 1 := ⟨g - 1, by omega⟩
    rw [rE]
    by_cases e : j < n
    · have c2 := (hT.2.1 j e).2
      by_cases q : cNum (c j) = true
      · have d := ((ch_2 _ c2).2.2 q).2
        have step : ∃ v, (j + 1 - i ≤ 4 → v = nI (nvF c i (j + 1 - i))) ∧ f_X12_reads_L171 G k (g + 1) ρ = f_X12_reads_L171 G k g (wr (wr ρ 0 19 v) 0 16 (nI (j + 1))) := by
          have rw16 : ∀ v, (wr ρ 0 19 v) 0 16 + 1 = nI (j + 1) := fun v => by rw [wr_slot (by omega), h16, nI_1]
          by_cases big : (10000 : Int32) ≤ ρ 0 19
          · refine ⟨ρ 0 19, fun h4 => ?_, ?_⟩
            · have v := h19 (by omega)
              have lt := nvF_lt (c := c) (i := i) (j - i) (fun t h1 h2 => hnum t h1 (by omega)) (fun t h1 h2 => (hT.2.1 t (by omega)).2)
              have p : (10 : Nat) ^ (j - i) ≤ 10 ^ 3 := Nat.pow_le_pow_right (by decide) (by omega)
              rw [v] at big
              exact absurd big (nI_ge (b := 10000) (by omega) (by omega))
            · rw [f_X12_reads_L171, h16, raw_in hT hn e, bndO_s, dig12 c2, if_pos q, bndO_s, if_neg (by decide), if_pos big]
              show f_X12_reads_L171 G k g (wr (wr ρ 0 19 (ρ 0 19)) 0 16 ((wr ρ 0 19 (ρ 0 19)) 0 16 + 1)) = _
              rw [rw16]
          · refine ⟨10 * ρ 0 19 + nI (c j) - 48, fun h4 => ?_, ?_⟩
            · rw [h19 (by omega), show (10 : Int32) * nI (nvF c i (j - i)) = nI (10 * nvF c i (j - i)) from pk_mul 10 _, nI_add, show nI (10 * nvF c i (j - i) + c j) - (48 : Int32) = nI (10 * nvF c i (j - i) + c j - 48) from pk_sub (b := 48) (by omega), show j + 1 - i = (j - i) + 1 by omega, nvF, show i + (j - i) = j by omega]
              congr 1
              omega
            · rw [f_X12_reads_L171, h16, raw_in hT hn e, bndO_s, dig12 c2, if_pos q, bndO_s, if_neg (by decide), if_neg big, bndO_s]
              show f_X12_reads_L171 G k g (wr (wr ρ 0 19 (10 * ρ 0 19 + nI (c j) - 48)) 0 16 ((wr ρ 0 19 (10 * ρ 0 19 + nI (c j) - 48)) 0 16 + 1)) = _
              rw [rw16]
        obtain ⟨v, v1, v2⟩ := step
        obtain ⟨ρ', r1, r2, r3, r4, r5⟩ := ih (j + 1) g (wr (wr ρ 0 19 v) 0 16 (nI (j + 1))) (TpA_o hT (by rw [wr_slot (by omega), wr_slot (by omega)]) (by rw [wr_off (by omega), wr_off (by omega)]) (by rw [wr_off (by omega), wr_off (by omega)])) wr_same (by omega) (by omega) (by omega) (by omega) (fun t h1 h2 => by
          by_cases z : t = j
          · rw [z]; exact q
          · exact hnum t h1 (by omega)) (fun h4 => by rw [wr_slot (by omega), wr_same]; exact v1 h4)
        rw [if_pos ⟨e, q⟩]
        exact ⟨ρ', by rw [v2, r1], r2, r3, fun x hx => by rw [r4 x hx, wr_off hx, wr_off hx], fun t h1 h2 => by rw [r5 t h1 h2, wr_slot h1, wr_slot h2]⟩
      · rw [if_neg (fun z => q z.2)]
        refine ⟨ρ, ?_, h16, h19, fun _ _ => rfl, fun _ _ _ => rfl⟩
        rw [f_X12_reads_L171, h16, raw_in hT hn e, bndO_s, dig12 c2, if_neg q, bndO_s, if_pos (show nI 0 = 0 from rfl)]
    · rw [if_neg (fun z => e z.1)]
      refine ⟨ρ, ?_, h16, h19, fun _ _ => rfl, fun _ _ _ => rfl⟩
      rw [f_X12_reads_L171, h16, raw_out hT (by omega) (by omega), bndO_s, dig12m, bndO_s, if_pos rfl]
/-- the token at i, not a blank -/
theorem tok_r {G n i : Nat} {c : Nat → Nat} {ρ : Mem} (hG : 500 ≤ G) (hn : n ≤ 400) (hi : i < n) (hT : TpA c n ρ) (h16 : ρ 0 16 = nI i) (nb : ¬ cBlk (c i) = true) :
    ∃ ρ', f_X12_reads_j39 G ρ = some ρ' ∧ ρ' 0 17 = nI i ∧ ρ' 0 16 = nI (tkE c n i) ∧ TkR (tkV c n i) (ρ' 0 18) (ρ' 0 19) ∧ (∀ x, x ≠ 0 → ρ' x = ρ x) ∧ ∀ j, ¬ (16 ≤ j ∧ j ≤ 19) → ρ' 0 j = ρ 0 j := by
  have c2 := (hT.2.1 i hi).2
  obtain ⟨_, k2, _, k4, _, k6⟩ := ch_1 (c i) c2
  obtain ⟨te1, te2⟩ := tkE_b (c := c) (n := n) (i := i) hi
  let m14 := wr (wr (wr (wr ρ 0 17 (nI i)) 0 18 1) 0 16 (nI (i + 1))) 0 19 (nI (c i))
  have T9 : TpA c n (wr (wr ρ 0 17 (nI i)) 0 18 1) := TpA_o hT (by rw [wr_slot (by omega), wr_slot (by omega)]) (by rw [wr_off (by omega), wr_off (by omega)]) (by rw [wr_off (by omega), wr_off (by omega)])
  have s17 : m14 0 17 = nI i := by show (wr (wr (wr (wr ρ 0 17 (nI i)) 0 18 1) 0 16 (nI (i + 1))) 0 19 (nI (c i))) 0 17 = _; rw [wr_slot (by omega), wr_slot (by omega), wr_slot (by omega), wr_same]
  have s18 : m14 0 18 = 1 := by show (wr (wr (wr (wr ρ 0 17 (nI i)) 0 18 1) 0 16 (nI (i + 1))) 0 19 (nI (c i))) 0 18 = _; rw [wr_slot (by omega), wr_slot (by omega), wr_same]
  have s16 : m14 0 16 = nI (i + 1) := by show (wr (wr (wr (wr ρ 0 17 (nI i)) 0 18 1) 0 16 (nI (i + 1))) 0 19 (nI (c i))) 0 16 = _; rw [wr_slot (by omega), wr_same]
  have s19 : m14 0 19 = nI (c i) := wr_same
  have sx : ∀ x, x ≠ 0 → m14 x = ρ x := fun x hx => by show (wr (wr (wr (wr ρ 0 17 (nI i)) 0 18 1) 0 16 (nI (i + 1))) 0 19 (nI (c i))) x = _; rw [wr_off hx, wr_off hx, wr_off hx, wr_off hx]
  have s0 : ∀ j, ¬ (16 ≤ j ∧ j ≤ 19) → m14 0 j = ρ 0 j := fun j hj => by show (wr (wr (wr (wr ρ 0 17 (nI i)) 0 18 1) 0 16 (nI (i + 1))) 0 19 (nI (c i))) 0 j = _; rw [wr_slot (by omega), wr_slot (by omega), wr_slot (by omega), wr_slot (by omega)]
  have T14 : TpA c n m14 := TpA_o hT (s0 15 (by omega)) (sx 10 (by omega)) (sx 11 (by omega))
  have st : f_X12_reads_j39 G ρ = (if f_X12_isLetter (nI (c i)) = 0 then bndO (f_X12_isDigit G m14 (nI (c i))) (fun w17 => if w17 = 0 then (if f_X12_isMarkSign (nI (c i)) = 0 then some m14 else some (wr m14 0 18 4)) else f_X12_reads_L171 G (f_X12_reads_j239 G) G (wr m14 0 19 (nI (c i) - 48))) else f_X12_reads_L95 G (f_X12_reads_j123 G) G m14) := by
    unfold f_X12_reads_j39
    rw [h16]
    show bndO (f_X12_raw G (wr (wr ρ 0 17 (nI i)) 0 18 1) ((wr (wr ρ 0 17 (nI i)) 0 18 1) 0 16)) _ = _
    have e16 : (wr (wr ρ 0 17 (nI i)) 0 18 1) 0 16 = nI i := by rw [wr_slot (by omega), wr_slot (by omega), h16]
    rw [e16, raw_in T9 hn hi, bndO_s, if_neg (nI_m1 (by omega)), nI_1]
  have no : ∀ {j : Nat} {x v : Int32} {m : Mem}, j = 16 ∨ j = 17 ∨ j = 18 ∨ j = 19 → (∀ k, ¬ (16 ≤ k ∧ k ≤ 19) → m 0 k = ρ 0 k) → ∀ k, ¬ (16 ≤ k ∧ k ≤ 19) → (wr m 0 j v) 0 k = ρ 0 k := fun hj h k hk => by rw [wr_slot (by omega)]; exact h k hk
  by_cases ql : cLet (c i) = true
  · have ee : tkE c n i = rE (fun j => cLet (c j)) n (n - (i + 1)) (i + 1) := by unfold tkE; rw [if_pos ql]
    obtain ⟨ρ', r1, r2, r3, r4⟩ := let_r (G := G) hn (f_X12_reads_j123 G) (n - (i + 1)) (i + 1) G m14 T14 s16 (by omega) (by omega) (by omega)
    rw [← ee] at r2
    have rb := rE_b (p := fun j => cLet (c j)) (n := n) (n - (i + 1)) (i + 1) (by omega)
    have T' : TpA c n ρ' := TpA_o T14 (r4 15 (by omega)) (r3 10 (by omega)) (r3 11 (by omega))
    have kw := keyw_r (G := G) (a := i) (L := tkE c n i - i) (ρ := ρ') hG (by omega) (by omega) T'.2.2 (fun j hj => by
      obtain ⟨d1, d2⟩ := T'.2.1 (i + j) (by omega)
      rw [d1]
      refine ((ch_2 _ d2).2.1 ?_).2.2
      by_cases z : j = 0
      · rw [z]; exact ql
      · exact rb.2.2 (i + j) (by omega) (by rw [← ee]; omega))
    rw [kfd_c (kwP_c (T' := fun k => nI (c k)) (fun j hj => (T'.2.1 (i + j) (by omega)).1)), show i + (tkE c n i - i) = tkE c n i by omega] at kw
    have tv : tkV c n i = (match kfd (kwP (fun k => nI (c k)) i (tkE c n i - i)) 25 0 with
      | some w => nI (10000 + w)
      | none => 30001) := by unfold tkV; rw [if_pos ql]; rfl
    have st2 : f_X12_reads_j39 G ρ = f_X12_reads_j123 G ρ' := by
      rw [st, k2, if_pos ql, if_neg (by decide)]
      exact r1
    unfold f_X12_reads_j123 at st2
    rw [r4 17 (by omega), s17, r2, kw, bndO_s] at st2
    rw [tv]
    cases hk : kfd (kwP (fun k => nI (c k)) i (tkE c n i - i)) 25 0 with
    | none =>
      rw [hk] at st2
      refine ⟨wr ρ' 0 19 (-1), ?_, by rw [wr_slot (by omega), r4 17 (by omega), s17], by rw [wr_slot (by omega), r2], Or.inr (Or.inr (Or.inr (Or.inr ⟨rfl, by rw [wr_slot (by omega), r4 18 (by omega), s18]⟩))), fun x hx => by rw [wr_off hx, r3 x hx, sx x hx], no (Or.inr (Or.inr (Or.inr rfl))) (x := 0) (fun j hj => by rw [r4 j (by omega), s0 j hj])⟩
      rw [st2]
      show (if (wr ρ' 0 19 (-1)) 0 19 = -1 then some (wr ρ' 0 19 (-1)) else _) = _
      rw [wr_same, if_pos rfl]
    | some w =>
      have wl := kfd_lt 25 0 hk
      rw [hk] at st2
      refine ⟨wr (wr ρ' 0 19 (nI w)) 0 18 2, ?_, by rw [wr_slot (by omega), wr_slot (by omega), r4 17 (by omega), s17], by rw [wr_slot (by omega), wr_slot (by omega), r2], Or.inr (Or.inl ⟨w, by omega, rfl, wr_same, by rw [wr_slot (by omega), wr_same]⟩), fun x hx => by rw [wr_off hx, wr_off hx, r3 x hx, sx x hx], no (Or.inr (Or.inr (Or.inl rfl))) (x := 0) (no (Or.inr (Or.inr (Or.inr rfl))) (x := 0) (fun j hj => by rw [r4 j (by omega), s0 j hj]))⟩
      rw [st2]
      show (if (wr ρ' 0 19 (nI w)) 0 19 = -1 then _ else some (wr (wr ρ' 0 19 (nI w)) 0 18 2)) = _
      rw [wr_same, if_neg (nI_m1 (by omega))]
  · by_cases qn : cNum (c i) = true
    · have ee : tkE c n i = rE (fun j => cNum (c j)) n (n - (i + 1)) (i + 1) := by unfold tkE; rw [if_neg ql, if_pos qn]
      have d := ((ch_2 _ c2).2.2 qn).2
      have rb := rE_b (p := fun j => cNum (c j)) (n := n) (n - (i + 1)) (i + 1) (by omega)
      obtain ⟨ρ', r1, r2, r3, r4, r5⟩ := num_r (G := G) (i := i) (c := c) hn (f_X12_reads_j239 G) (n - (i + 1)) (i + 1) G (wr m14 0 19 (nI (c i) - 48)) (TpA_o T14 (wr_slot (by omega)) (wr_off (by omega)) (wr_off (by omega))) (by rw [wr_slot (by omega)]; exact s16) (by omega) (by omega) (by omega) (by omega) (fun t h1 h2 => by rw [show t = i by omega]; exact qn) (fun _ => by
        rw [wr_same, show i + 1 - i = 0 + 1 by omega, nvF, nvF, Nat.add_zero, show nI (c i) - (48 : Int32) = nI (c i - 48) from pk_sub (b := 48) (by omega)]
        congr 1
        omega)
      rw [← ee] at r2 r3
      have tv : tkV c n i = if tkE c n i - i ≤ 4 then nI (nvF c i (tkE c n i - i)) else 30001 := by unfold tkV; rw [if_neg ql, if_pos qn]
      have st2 : f_X12_reads_j39 G ρ = f_X12_reads_j239 G ρ' := by
        rw [st, k2, if_neg ql, if_pos (show nI 0 = 0 from rfl), dig12 c2, if_pos qn, bndO_s, if_neg (by decide)]
        exact r1
      have q17 : ρ' 0 17 = nI i := by rw [r5 17 (by omega) (by omega), wr_slot (by omega), s17]
      unfold f_X12_reads_j239 at st2
      rw [r2, q17, pk_sub (by omega)] at st2
      rw [tv]
      by_cases le : tkE c n i - i ≤ 4
      · rw [if_neg (show ¬ (5 : Int32) ≤ nI (tkE c n i - i) from nI_ge (b := 5) (by omega) (by omega))] at st2
        rw [if_pos le]
        have nl := nvF_lt (c := c) (i := i) (tkE c n i - i) (fun t h1 h2 => by
          by_cases z : t = i
          · rw [z]; exact qn
          · exact rb.2.2 t (by omega) (by rw [← ee]; omega)) (fun t h1 h2 => (hT.2.1 t (by omega)).2)
        have p : (10 : Nat) ^ (tkE c n i - i) ≤ 10 ^ 4 := Nat.pow_le_pow_right (by decide) le
        exact ⟨_, st2, by rw [wr_slot (by omega), q17], by rw [wr_slot (by omega), r2], Or.inl ⟨_, by omega, rfl, wr_same, by rw [wr_slot (by omega)]; exact r3 le⟩, fun x hx => by rw [wr_off hx, r4 x hx, wr_off hx, sx x hx], no (Or.inr (Or.inr (Or.inl rfl))) (x := 0) (fun j hj => by rw [r5 j (by omega) (by omega), wr_slot (by omega), s0 j hj])⟩
      · rw [if_pos (show (5 : Int32) ≤ nI (tkE c n i - i) from nI_le (a := 5) (by omega) (by omega))] at st2
        rw [if_neg le]
        exact ⟨_, st2, q17, r2, Or.inr (Or.inr (Or.inr (Or.inr ⟨rfl, by rw [r5 18 (by omega) (by omega), wr_slot (by omega), s18]⟩))), fun x hx => by rw [r4 x hx, wr_off hx, sx x hx], fun j hj => by rw [r5 j (by omega) (by omega), wr_slot (by omega), s0 j hj]⟩
    · have ee : tkE c n i = i + 1 := by unfold tkE; rw [if_neg ql, if_neg qn]
      have tv : tkV c n i = if cSgn (c i) = true then nI (20000 + c i) else 30001 := by unfold tkV; rw [if_neg ql, if_neg qn]
      rw [k2, if_neg ql, if_pos (show nI 0 = 0 from rfl), dig12 c2, if_neg qn, bndO_s, if_pos (show nI 0 = 0 from rfl), k6] at st
      rw [tv, ee]
      by_cases qs : cSgn (c i) = true
      · rw [if_pos qs, if_neg (by decide)] at st
        rw [if_pos qs]
        exact ⟨_, st, by rw [wr_slot (by omega), s17], by rw [wr_slot (by omega), s16], Or.inr (Or.inr (Or.inl ⟨c i, c2, qs, rfl, wr_same, by rw [wr_slot (by omega), s19]⟩)), fun x hx => by rw [wr_off hx, sx x hx], no (Or.inr (Or.inr (Or.inl rfl))) (x := 0) s0⟩
      · rw [if_neg qs, if_pos (show nI 0 = 0 from rfl)] at st
        rw [if_neg qs]
        exact ⟨_, st, s17, s16, Or.inr (Or.inr (Or.inr (Or.inr ⟨rfl, s18⟩))), sx, s0⟩
theorem reads_r {G n : Nat} {c : Nat → Nat} (hG : 500 ≤ G) (hn : n ≤ 400) : ∀ f i g ρ, n - i ≤ f → i ≤ n → n - i < g → ρ 0 16 = nI i → TpA c n ρ →
    ∃ ρ' τ π rest, f_X12_reads_L0 G (f_X12_reads_j39 G) g ρ = some ρ' ∧ spl c n f i = (τ, π) :: rest ∧ ρ' 0 17 = nI π ∧ TkR τ (ρ' 0 18) (ρ' 0 19) ∧ (∀ x, x ≠ 0 → ρ' x = ρ x) ∧ (∀ j, ¬ (16 ≤ j ∧ j ≤ 19) → ρ' 0 j = ρ 0 j) ∧ (τ ≠ 30000 → ∃ f' ε, rest = spl c n f' ε ∧ ρ' 0 16 = nI ε ∧ n - ε ≤ f' ∧ ε ≤ n) := by
  have fin : ∀ i g ρ, n ≤ i → i ≤ n → ρ 0 16 = nI i → TpA c n ρ → ∃ ρ' τ π rest, f_X12_reads_L0 G (f_X12_reads_j39 G) (g + 1) ρ = some ρ' ∧ [((30000 : Int32), n)] = (τ, π) :: rest ∧ ρ' 0 17 = nI π ∧ TkR τ (ρ' 0 18) (ρ' 0 19) ∧ (∀ x, x ≠ 0 → ρ' x = ρ x) ∧ (∀ j, ¬ (16 ≤ j ∧ j ≤ 19) → ρ' 0 j = ρ 0 j) ∧ (τ ≠ 30000 → ∃ f' ε, rest = spl c n f' ε ∧ ρ' 0 16 = nI ε ∧ n - ε ≤ f' ∧ ε ≤ n) := by
    intro i g ρ h1 h2 h3 h4
    obtain rfl : i = n := by omega
    have T9 : TpA c i (wr (wr ρ 0 17 (nI i)) 0 18 1) := TpA_o h4 (by rw [wr_slot (by omega), wr_slot (by omega)]) (by rw [wr_off (by omega), wr_off (by omega)]) (by rw [wr_off (by omega), wr_off (by omega)])
    refine ⟨wr (wr (wr ρ 0 17 (nI i)) 0 18 1) 0 18 0, 30000, i, [], ?_, rfl, by rw [wr_slot (by omega), wr_slot (by omega), wr_same], Or.inr (Or.inr (Or.inr (Or.inl ⟨rfl, wr_same⟩))), fun x hx => by rw [wr_off hx, wr_off hx, wr_off hx], fun j hj => by rw [wr_slot (by omega), wr_slot (by omega), wr_slot (by omega)], fun h => absurd rfl h⟩
    rw [f_X12_reads_L0, h3, raw_out h4 (by omega) (by omega), bndO_s, if_neg (by decide), bndO_s, if_neg (by decide)]
    unfold f_X12_reads_j39
    rw [h3]
    show bndO (f_X12_raw G (wr (wr ρ 0 17 (nI i)) 0 18 1) ((wr (wr ρ 0 17 (nI i)) 0 18 1) 0 16)) _ = _
    have e16 : (wr (wr ρ 0 17 (nI i)) 0 18 1) 0 16 = nI i := by rw [wr_slot (by omega), wr_slot (by omega), h3]
    rw [e16, raw_out T9 (by omega) (by omega), bndO_s, if_pos rfl]
  intro f
  induction f with
  | zero =>
    intro i g ρ h1 h2 h3 h4 h5
    obtain ⟨g, rfl⟩ : ∃ y, g = y + 1 := ⟨g - 1, by omega⟩
    exact fin i g ρ (by omega) h2 h4 h5
  | succ f ih =>
    intro i g ρ h1 h2 h3 h4 h5
    obtain ⟨g, rfl⟩ : ∃ y, g = y + 1 := ⟨g - 1, by omega⟩
    rw [spl]
    by_cases e : n ≤ i
    · rw [if_pos e]
      exact fin i g ρ e h2 h4 h5
    · rw [if_neg e]
      have c2 := (h5.2.1 i (by omega)).2
      obtain ⟨b1, _, _⟩ := ch_2 (c i) c2
      by_cases bl : cBlk (c i) = true
      · rw [if_pos bl]
        obtain ⟨ρ', τ, π, rest, r1, r2, r3, r4, r5, r6, r7⟩ := ih (i + 1) g (wr ρ 0 16 (nI (i + 1))) (by omega) (by omega) (by omega) wr_same (TpA_o h5 (wr_slot (by omega)) (wr_off (by omega)) (wr_off (by omega)))
        refine ⟨ρ', τ, π, rest, ?_, r2, r3, r4, fun x hx => by rw [r5 x hx, wr_off hx], fun j hj => by rw [r6 j hj, wr_slot (by omega)], r7⟩
        rw [f_X12_reads_L0, h4, raw_in h5 hn (by omega), bndO_s]
        unfold f_X12_reads_j26
        rw [h4, nI_1]
        rcases b1.mp bl with q | q
        · rw [if_pos q]
          exact r1
        · rw [q, if_neg (by decide), bndO_s, if_pos rfl]
          exact r1
      · rw [if_neg bl]
        obtain ⟨ρ', r1, r2, r3, r4, r5, r6⟩ := tok_r hG hn (by omega) h5 h4 bl
        obtain ⟨te1, te2⟩ := tkE_b (c := c) (n := n) (i := i) (by omega)
        refine ⟨ρ', _, _, _, ?_, rfl, r2, r4, r5, r6, fun _ => ⟨f, _, rfl, r3, by omega, te2⟩⟩
        rw [f_X12_reads_L0, h4, raw_in h5 hn (by omega), bndO_s, if_neg (fun q => bl (b1.mpr (Or.inl q))), bndO_s, if_neg (fun q => bl (b1.mpr (Or.inr q)))]
        exact r1
end
