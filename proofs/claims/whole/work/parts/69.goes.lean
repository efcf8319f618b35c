section
/-! in thought -/
theorem thinks_ok {G : Nat} {ρ : Mem} (hG : 500 ≤ G) : ∃ ρ', f_X12_thinks G ρ = some ρ' ∧ (∀ x, x ≠ 0 → x ≠ 3 → ρ' x = ρ x) ∧ (∀ j, j ≠ 5 → ρ' 0 j = ρ 0 j) ∧ ρ' 0 5 = 1 ∧ (∀ k, k < 49 → ρ' 3 k = ρ 1 k) := by
  obtain ⟨g', s', h1, h2, h3⟩ := loopZ (f_X12_thinks_L2 G) 49 (fun k s => (∀ x, x ≠ 3 → s x = ρ x) ∧ ∀ j, j < k → s 3 j = ρ 1 j) (by
    intro g k s hk ⟨i1, i2⟩
    refine ⟨wr s 3 k (ρ 1 k), ?_, ?_, ?_⟩
    · simp (disch := omega) only [lit, neg1, nI_1, nI_add, pk_mul, pk_sub, nI_leI, nI_ltI, nI_eq, nI_eqm, chkn, ixn, if_pos, if_neg, bndV_s, bndE_s, bndO_s, reduceIte, irmn, iminn, imaxn, f_X12_thinks_L2, i1]
    · intro x hx; rw [wr_off hx]; exact i1 x hx
    · intro j hj
      by_cases e : j = k
      · subst e; exact wr_same
      · rw [wr_slot e]; exact i2 j (by omega)) (by omega : 49 < G) (s := ρ) ⟨fun _ _ => rfl, fun j hj => absurd hj (by omega)⟩
  refine ⟨wr s' 0 5 1, ?_, fun x h0 hx => by rw [wr_off h0]; exact h2 x hx, fun j hj => by rw [wr_slot hj, h2 0 (by omega)], wr_same, fun k hk => by rw [wr_cell (by omega)]; exact h3 k hk⟩
  refine Eq.trans h1 ?_
  simp (disch := omega) only [lit, neg1, nI_1, nI_add, pk_mul, pk_sub, nI_leI, nI_ltI, nI_eq, nI_eqm, chkn, ixn, if_pos, if_neg, bndV_s, bndE_s, bndO_s, reduceIte, irmn, iminn, imaxn, f_X12_thinks_L2]
theorem ends_ok {G : Nat} {ρ : Mem} (hG : 500 ≤ G) : ∃ ρ', f_X12_endsThought G ρ = some ρ' ∧ (∀ x, x ≠ 0 → x ≠ 1 → ρ' x = ρ x) ∧ (∀ j, j ≠ 5 → ρ' 0 j = ρ 0 j) ∧ ρ' 0 5 = 0 ∧ (∀ k, k < 49 → ρ' 1 k = ρ 3 k) := by
  obtain ⟨g', s', h1, h2, h3⟩ := loopZ (f_X12_endsThought_L2 G) 49 (fun k s => (∀ x, x ≠ 1 → s x = ρ x) ∧ ∀ j, j < k → s 1 j = ρ 3 j) (by
    intro g k s hk ⟨i1, i2⟩
    refine ⟨wr s 1 k (ρ 3 k), ?_, ?_, ?_⟩
    · simp (disch := omega) only [lit, neg1, nI_1, nI_add, pk_mul, pk_sub, nI_leI, nI_ltI, nI_eq, nI_eqm, chkn, ixn, if_pos, if_neg, bndV_s, bndE_s, bndO_s, reduceIte, irmn, iminn, imaxn, f_X12_endsThought_L2, i1]
    · intro x hx; rw [wr_off hx]; exact i1 x hx
    · intro j hj
      by_cases e : j = k
      · subst e; exact wr_same
      · rw [wr_slot e]; exact i2 j (by omega)) (by omega : 49 < G) (s := ρ) ⟨fun _ _ => rfl, fun j hj => absurd hj (by omega)⟩
  refine ⟨wr s' 0 5 0, ?_, fun x h0 hx => by rw [wr_off h0]; exact h2 x hx, fun j hj => by rw [wr_slot hj, h2 0 (by omega)], wr_same, fun k hk => by rw [wr_cell (by omega)]; exact h3 k hk⟩
  refine Eq.trans h1 ?_
  simp (disch := omega) only [lit, neg1, nI_1, nI_add, pk_mul, pk_sub, nI_leI, nI_ltI, nI_eq, nI_eqm, chkn, ixn, if_pos, if_neg, bndV_s, bndE_s, bndO_s, reduceIte, irmn, iminn, imaxn, f_X12_endsThought_L2]
def smN (f : Nat → Int32) : Nat → Int32
  | 0 => 0
  | n + 1 => smN f n + f n
theorem smN_e {f h : Nat → Int32} : ∀ {n : Nat}, (∀ k, k < n → f k = h k) → smN f n = smN h n := by
  intro n
  induction n with
  | zero => intro _; rfl
  | succ n ih => intro H; rw [smN, smN, ih (fun k hk => H k (by omega)), H n (by omega)]
theorem smN_z {f : Nat → Int32} {a : Nat} : ∀ {n : Nat}, a ≤ n → (∀ k, a ≤ k → k < n → f k = 0) → smN f n = smN f a := by
  intro n
  induction n with
  | zero => intro h _; rw [show a = 0 by omega]
  | succ n ih =>
    intro h H
    by_cases e : a = n + 1
    · rw [e]
    · rw [smN, ih (by omega) (fun k h1 h2 => H k h1 (by omega)), H n (by omega) (by omega)]
      grind
theorem sumOf_ok {G a : Nat} {μ : Mem} (hG : 500 ≤ G) : f_X11_sumOf G a 8 μ = some (smN (μ a) 8) := by
  obtain ⟨g', s', h1, h2⟩ := loopZ (fun g v x => f_X11_sumOf_L10 G a 8 μ g x (nI 8) v) 8 (fun k s => s = smN (μ a) k) (by
    intro g k s hk i1
    refine ⟨s + μ a k, ?_, ?_⟩
    · show f_X11_sumOf_L10 G a 8 μ (g + 1) s (nI 8) (nI k) = f_X11_sumOf_L10 G a 8 μ g (s + μ a k) (nI 8) (nI (k + 1))
      simp (disch := omega) only [lit, neg1, nI_1, nI_add, pk_mul, pk_sub, nI_leI, nI_ltI, nI_eq, nI_eqm, chkn, ixn, if_pos, if_neg, bndV_s, bndE_s, bndO_s, reduceIte, irmn, iminn, imaxn, f_X11_sumOf_L10]
    · rw [i1]; rfl) (by omega : 8 < G) (s := 0) rfl
  refine Eq.trans h1 ?_
  show f_X11_sumOf_L10 G a 8 μ (g' + 1) s' (nI 8) (nI 8) = _
  rw [h2]
  simp (disch := omega) only [lit, neg1, nI_1, nI_add, pk_mul, pk_sub, nI_leI, nI_ltI, nI_eq, nI_eqm, chkn, ixn, if_pos, if_neg, bndV_s, bndE_s, bndO_s, reduceIte, irmn, iminn, imaxn, f_X11_sumOf_L10]
theorem wives_ok {G a : Nat} {μ : Mem} (hG : 500 ≤ G) : f_X8_wivesOf G a μ = some (smN (fun k => if μ (a + 2) k = nI 4294967295 then 0 else 1) 8) := by
  obtain ⟨g', s', h1, h2⟩ := loopZ (fun g v x => f_X8_wivesOf_L13 G a μ g x (nI 8) v) 8 (fun k s => s = smN (fun k => if μ (a + 2) k = nI 4294967295 then 0 else 1) k) (by
    intro g k s hk i1
    refine ⟨s + (if μ (a + 2) k = nI 4294967295 then 0 else 1), ?_, ?_⟩
    · show f_X8_wivesOf_L13 G a μ (g + 1) s (nI 8) (nI k) = f_X8_wivesOf_L13 G a μ g (s + (if μ (a + 2) k = nI 4294967295 then 0 else 1)) (nI 8) (nI (k + 1))
      by_cases h : μ (a + 2) k = nI 4294967295
      · rw [if_pos h, show s + 0 = s by grind]
        simp (disch := omega) only [lit, neg1, nI_1, nI_add, pk_mul, pk_sub, nI_leI, nI_ltI, nI_eq, nI_eqm, chkn, ixn, if_pos, if_neg, bndV_s, bndE_s, bndO_s, reduceIte, irmn, iminn, imaxn, f_X8_wivesOf_L13, h, f_X8_wivesOf_j34]
      · rw [if_neg h]
        simp (disch := omega) only [lit, neg1, nI_1, nI_add, pk_mul, pk_sub, nI_leI, nI_ltI, nI_eq, nI_eqm, chkn, ixn, if_pos, if_neg, bndV_s, bndE_s, bndO_s, reduceIte, irmn, iminn, imaxn, f_X8_wivesOf_L13, h, f_X8_wivesOf_j34]
    · rw [i1]; rfl) (by omega : 8 < G) (s := 0) rfl
  refine Eq.trans h1 ?_
  show f_X8_wivesOf_L13 G a μ (g' + 1) s' (nI 8) (nI 8) = _
  rw [h2]
  simp (disch := omega) only [lit, neg1, nI_1, nI_add, pk_mul, pk_sub, nI_leI, nI_ltI, nI_eq, nI_eqm, chkn, ixn, if_pos, if_neg, bndV_s, bndE_s, bndO_s, reduceIte, irmn, iminn, imaxn, f_X8_wivesOf_L13]
end
