section
theorem LwR_lo {μ μ' ρ ρ' : Mem} (h : LwR 1 μ ρ) (h1 : ∀ x, 13 ≤ x → x ≤ 18 → μ' x = μ x) (h0 : ρ' 12 = ρ 12) (h2 : ∀ x, 13 ≤ x → x ≤ 16 → ∀ i, i < 16 → ρ' x i = ρ x i) (h3 : ∀ i, i < 400 → ρ' 17 i = ρ 17 i ∧ ρ' 18 i = ρ 18 i) : LwR 1 μ' ρ' := by
  obtain ⟨n, n1, n2, n3, n4⟩ := h
  refine ⟨n, n1, by rw [h1 13 (by omega) (by omega)]; exact n2, by rw [h0]; exact n3, fun l hl => ?_⟩
  obtain ⟨e, f, w, t, e1, e2, e3, e4, e5, e6, e7, e8, e9, ⟨q1, q2, q3, q4, q5⟩, e11⟩ := n4 l hl
  refine ⟨e, f, w, t, e1, by rw [h1 15 (by omega) (by omega)]; exact e2, by rw [h2 13 (by omega) (by omega) l (by omega)]; exact e3, by rw [h1 16 (by omega) (by omega)]; exact e4, by rw [h2 14 (by omega) (by omega) l (by omega)]; exact e5, by rw [h1 17 (by omega) (by omega)]; exact e6, by rw [h2 15 (by omega) (by omega) l (by omega)]; exact e7, by rw [h1 18 (by omega) (by omega)]; exact e8, by rw [h2 16 (by omega) (by omega) l (by omega)]; exact e9, ⟨q1, q2, q3, ?_, fun q => ?_⟩, fun i i1 i2 => ?_⟩
  · obtain ⟨x, x1, x2⟩ := q4
    exact ⟨x, by rw [← x1]; exact trn_c _ _ _ (fun j g1 g2 => h3 j (by omega)), x2⟩
  · rw [← q5 q]
    exact trn_c _ _ _ (fun j g1 g2 => h3 j (by omega))
  · rw [h1 14 (by omega) (by omega), (h3 i (by omega)).1, (h3 i (by omega)).2]
    exact e11 i i1 i2
theorem QuR_lo {μ μ' ρ ρ' : Mem} (h : QuR 1 μ ρ) (h1 : ∀ x, 20 ≤ x → x ≤ 21 → μ' x = μ x) (h0 : ρ' 0 37 = ρ 0 37) (h2 : ∀ i, i < 16 → ρ' 20 i = ρ 20 i) : QuR 1 μ' ρ' := by
  obtain ⟨n, n1, n2, n3⟩ := h
  have n1 : LnR μ 20 16 1 n := n1
  refine ⟨n, ?_, by rw [h0]; exact n2, fun k hk => ?_⟩
  · show LnR μ' 20 16 1 n
    unfold LnR at n1 ⊢
    rw [h1 20 (by omega) (by omega)]
    exact n1
  · show μ' 21 k = ρ' 20 k
    rw [h1 21 (by omega) (by omega), h2 k (by have := n1.2.2.2; omega)]
    exact n3 k hk
theorem CaR_lo {W M : Nat} {μ μ' ρ ρ' : Mem} (h : CaR 1 μ ρ W M) (h1 : ∀ x, 22 ≤ x → x ≤ 23 → μ' x = μ x) (h0 : ρ' 0 39 = ρ 0 39) (h2 : ∀ i, i < 96 → ρ' 21 i = ρ 21 i) : CaR 1 μ' ρ' W M := by
  obtain ⟨n, n1, n2, n3⟩ := h
  have n1 : LnR μ 22 16 6 n := n1
  have hn := n1.2.2.2
  refine ⟨n, ?_, by rw [h0]; exact n2, fun k hk => ?_⟩
  · show LnR μ' 22 16 6 n
    unfold LnR at n1 ⊢
    rw [h1 22 (by omega) (by omega)]
    exact n1
  · show DeR (μ' 23) (ρ' 21) W M (6 * k) (6 * k)
    have d : DeR (μ 23) (ρ 21) W M (6 * k) (6 * k) := n3 k hk
    unfold DeR at d ⊢
    rw [h1 23 (by omega) (by omega), h2 (6 * k) (by omega), h2 (6 * k + 1) (by omega), h2 (6 * k + 2) (by omega), h2 (6 * k + 3) (by omega), h2 (6 * k + 4) (by omega), h2 (6 * k + 5) (by omega)]
    exact d
theorem SiR_lo {W : Nat} {μ μ' ρ ρ' : Mem} (h : SiR 1 μ ρ W) (h1 : ∀ x, 24 ≤ x → x ≤ 25 → μ' x = μ x) (h0 : ρ' 0 41 = ρ 0 41) (h2 : ∀ i, i < 12 → ρ' 22 i = ρ 22 i) : SiR 1 μ' ρ' W := by
  obtain ⟨n, A, B, n1, n2, n3, n4⟩ := h
  refine ⟨n, A, B, ?_, by rw [h0]; exact n2, fun i hi => ?_, fun w hw => ?_⟩
  · show LnR μ' 24 16 2 n
    have n1 : LnR μ 24 16 2 n := n1
    unfold LnR at n1 ⊢
    rw [h1 24 (by omega) (by omega)]
    exact n1
  · show A i < W ∧ B i < W ∧ A i ≠ B i ∧ μ' 25 (2 * i) = nI (A i) ∧ μ' 25 (2 * i + 1) = nI (B i)
    rw [h1 25 (by omega) (by omega)]
    exact n3 i hi
  · rw [h2 w hw]
    exact n4 w hw
/-- behind a text -/
theorem AR_txt {bb : Bool} {W M : Nat} {μ ρ μ' ρ' : Mem} (H : AT bb W M μ ρ) (h1 : ∀ x, ¬ (13 ≤ x ∧ x ≤ 25) → ¬ (41 ≤ x ∧ x ≤ 92) → μ' x = μ x) (h52 : μ' 52 0 = μ 52 0 ∧ μ' 52 1 = μ 52 1) (h5 : μ' 41 5 = nI 0) (h2 : ∀ x, x ≠ 0 → ¬ (12 ≤ x ∧ x ≤ 22) → ρ' x = ρ x)
    (h3 : ∀ j, j ≠ 0 → j ≠ 3 → ¬ (15 ≤ j ∧ j ≤ 19) → ¬ (28 ≤ j ∧ j ≤ 37) → j ≠ 39 → j ≠ 41 → ρ' 0 j = ρ 0 j) (h15 : ρ' 0 15 = nI 0) (F : FaR μ' ρ') (L : LwR 1 μ' ρ') (Q : QuR 1 μ' ρ') (C : CaR 1 μ' ρ' W M) (S : SiR 1 μ' ρ' W) (P : PaR μ' ρ' W M) : AR bb μ' ρ' := by
  obtain ⟨⟨c1, c2, c3, c4, c5, c6, c7, c8, c9, c10, c11, c12, c13, c14, c15⟩, a2, a3, a4, a5, a6, a7, a8⟩ := H
  have m : ∀ x, x < 13 → μ' x = μ x := fun x a => h1 x (by omega) (by omega)
  have m2 : ∀ x, 26 ≤ x → x ≤ 40 → μ' x = μ x := fun x a b => h1 x (by omega) (by omega)
  have r : ∀ x, x ≠ 0 → x < 12 → ρ' x = ρ x := fun x a b => h2 x a (by omega)
  have r2 : ∀ x, 23 ≤ x → ρ' x = ρ x := fun x a => h2 x (by omega) (by omega)
  refine ⟨W, M, ⟨PpR_o c1 (m _ (by omega)) (fun x _ _ => m x (by omega)) (h3 6 (by omega) (by omega) (by omega) (by omega) (by omega) (by omega)) (h3 7 (by omega) (by omega) (by omega) (by omega) (by omega) (by omega)) (fun x _ _ => r x (by omega) (by omega)), ?_, by rw [r 1 (by omega) (by omega)]; exact c3, RcR_o c4 (m2 _ (by omega) (by omega)) (m2 _ (by omega) (by omega)) (by rw [r 1 (by omega) (by omega)]) (r 9 (by omega) (by omega)), Q, C, S, L,
    MeR_o c9 (m2 _ (by omega) (by omega)) (m2 _ (by omega) (by omega)) (h3 47 (by omega) (by omega) (by omega) (by omega) (by omega) (by omega)) (fun x _ _ => r2 x (by omega)),
    GuR_o c10 (m2 _ (by omega) (by omega)) (m2 _ (by omega) (by omega)) (h3 51 (by omega) (by omega) (by omega) (by omega) (by omega) (by omega)) (fun x _ _ => r2 x (by omega)),
    OdR_o c11 (m2 _ (by omega) (by omega)) (m2 _ (by omega) (by omega)) (h3 57 (by omega) (by omega) (by omega) (by omega) (by omega) (by omega)) (fun x _ _ => r2 x (by omega)),
    RoR_o c12 (m2 _ (by omega) (by omega)) (m2 _ (by omega) (by omega)) (h3 60 (by omega) (by omega) (by omega) (by omega) (by omega) (by omega)) (r2 _ (by omega)),
    SpR_o c13 (m2 _ (by omega) (by omega)) (m2 _ (by omega) (by omega)) (h3 64 (by omega) (by omega) (by omega) (by omega) (by omega) (by omega)) (r2 _ (by omega)),
    OfR_o c14 (m2 _ (by omega) (by omega)) (m2 _ (by omega) (by omega)) (h3 68 (by omega) (by omega) (by omega) (by omega) (by omega) (by omega)) (r2 _ (by omega)),
    CgR_o c15 (m2 _ (by omega) (by omega)) (fun x _ _ => r2 x (by omega))⟩, ⟨0, by omega, h5, h15, fun k hk => absurd hk (by omega)⟩, F, ?_, P, PlR_o a6 (fun x hx => h1 x (by omega) (by omega)), ImR_o a7 (fun x hx => h1 x (by omega) (by omega)) (h3 73 (by omega) (by omega) (by omega) (by omega) (by omega) (by omega)) (r2 45 (by omega)), ?_⟩
  · show StR μ' 2 (μ' 26 3) (ρ' 1) 0
    rw [m2 26 (by omega) (by omega), r 1 (by omega) (by omega)]
    exact StR_cls (fun x g1 g2 => m x (by omega)) c2
  · unfold DrR at a4 ⊢
    rw [h52.1, h52.2]
    exact a4
  · unfold ThR at a8 ⊢
    rw [h3 5 (by omega) (by omega) (by omega) (by omega) (by omega) (by omega), r 11 (by omega) (by omega)]
    exact a8
end
