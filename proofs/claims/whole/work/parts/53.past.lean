section
/-! loops -/
theorem loopI {σ X : Type} (L : Nat → Int32 → σ → Option X) (n : Nat) (I : Nat → σ → Prop) (h : ∀ g k s, k < n → I k s → ∃ s', L (g + 1) (nI k) s = L g (nI (k + 1)) s' ∧ I (k + 1) s') :
    ∀ (m g k : Nat) (s : σ), k + m = n → m < g → I k s → ∃ g' s', L g (nI k) s = L (g' + 1) (nI n) s' ∧ I n s' := by
  intro m
  induction m with
  | zero =>
    intro g k s hk hg hI
    have : k = n := by omega
    subst this
    exact ⟨g - 1, s, by rw [show g - 1 + 1 = g by omega], hI⟩
  | succ m ih =>
    intro g k s hk hg hI
    obtain ⟨s', h1, h2⟩ := h (g - 1) k s (by omega) hI
    obtain ⟨g', s'', h3, h4⟩ := ih (g - 1) (k + 1) s' (by omega) (by omega) h2
    refine ⟨g', s'', ?_, h4⟩
    rw [show g - 1 + 1 = g by omega] at h1
    rw [h1, h3]
/-- the same of a loop that begins at 0 -/
theorem loopZ {σ X : Type} (L : Nat → Int32 → σ → Option X) (n : Nat) (I : Nat → σ → Prop) (h : ∀ g k s, k < n → I k s → ∃ s', L (g + 1) (nI k) s = L g (nI (k + 1)) s' ∧ I (k + 1) s')
    {g : Nat} {s : σ} (hg : n < g) (hI : I 0 s) : ∃ g' s', L g 0 s = L (g' + 1) (nI n) s' ∧ I n s' := loopI L n I h n g 0 s (by omega) hg hI
theorem loop2 {σ τ X Y : Type} (L : Nat → Int32 → σ → Option X) (K : Nat → Int32 → τ → Option Y) (n : Nat) (I : Nat → σ → τ → Prop)
    (h : ∀ g f k s t, k < n → I k s t → ∃ s' t', L (g + 1) (nI k) s = L g (nI (k + 1)) s' ∧ K (f + 1) (nI k) t = K f (nI (k + 1)) t' ∧ I (k + 1) s' t') :
    ∀ (m g f k : Nat) (s : σ) (t : τ), k + m = n → m < g → m < f → I k s t → ∃ g' f' s' t', L g (nI k) s = L (g' + 1) (nI n) s' ∧ K f (nI k) t = K (f' + 1) (nI n) t' ∧ I n s' t' := by
  intro m
  induction m with
  | zero =>
    intro g f k s t hk hg hf hI
    have : k = n := by omega
    subst this
    exact ⟨g - 1, f - 1, s, t, by rw [show g - 1 + 1 = g by omega], by rw [show f - 1 + 1 = f by omega], hI⟩
  | succ m ih =>
    intro g f k s t hk hg hf hI
    obtain ⟨s', t', h1, h1', h2⟩ := h (g - 1) (f - 1) k s t (by omega) hI
    obtain ⟨g', f', s'', t'', h3, h3', h4⟩ := ih (g - 1) (f - 1) (k + 1) s' t' (by omega) (by omega) (by omega) h2
    refine ⟨g', f', s'', t'', ?_, ?_, h4⟩
    · rw [show g - 1 + 1 = g by omega] at h1
      rw [h1, h3]
    · rw [show f - 1 + 1 = f by omega] at h1'
      rw [h1', h3']
theorem loop2Z {σ τ X Y : Type} (L : Nat → Int32 → σ → Option X) (K : Nat → Int32 → τ → Option Y) (n : Nat) (I : Nat → σ → τ → Prop)
    (h : ∀ g f k s t, k < n → I k s t → ∃ s' t', L (g + 1) (nI k) s = L g (nI (k + 1)) s' ∧ K (f + 1) (nI k) t = K f (nI (k + 1)) t' ∧ I (k + 1) s' t')
    {g f : Nat} {s : σ} {t : τ} (hg : n < g) (hf : n < f) (hI : I 0 s t) : ∃ g' f' s' t', L g 0 s = L (g' + 1) (nI n) s' ∧ K f 0 t = K (f' + 1) (nI n) t' ∧ I n s' t' := loop2 L K n I h n g f 0 s t (by omega) hg hf hI
theorem irmn {a d : Nat} (ha : a < 2 ^ 31) (h0 : 0 < d) (hd : d < 2 ^ 31) : irm (nI a) (nI d) = nI (a % d) := pk_rem ha h0 hd
theorem iminn {a b : Nat} (ha : a < 2 ^ 31) (hb : b < 2 ^ 31) : imin (nI a) (nI b) = nI (min a b) := by
  unfold imin
  by_cases h : b < a
  · rw [if_pos (nI_lt h ha), Nat.min_eq_right (by omega)]
  · rw [if_neg (nI_nlt (by omega) hb), Nat.min_eq_left (by omega)]
theorem imaxn {a b : Nat} (ha : a < 2 ^ 31) (hb : b < 2 ^ 31) : imax (nI a) (nI b) = nI (max a b) := by
  unfold imax
  by_cases h : a < b
  · rw [if_pos (nI_lt h hb), Nat.max_eq_right (by omega)]
  · rw [if_neg (nI_nlt (by omega) ha), Nat.max_eq_left (by omega)]
/-! standings, moved -/
theorem StR_row {μ : Mem} {s : Nat} {n : Int32} {r r' : Nat → Int32} {o o' : Nat} (h : ∀ j, j < 49 → r' (o' + j) = r (o + j)) (H : StR μ s n r o) : StR μ s n r' o' := by
  obtain ⟨h1, h2, h3, h4, h5, h6, h7, h8, h9, h10⟩ := H
  refine ⟨?_, ?_, ?_, ?_, ?_, ?_, ?_, ?_, ?_, ?_⟩
  · rw [h1]; exact (h 0 (by omega)).symm
  · rw [h2]; exact (h 1 (by omega)).symm
  · rw [h3]; exact (h 2 (by omega)).symm
  · rw [h4]; exact (h 3 (by omega)).symm
  · rw [h5]; exact (h 4 (by omega)).symm
  · intro k hk; rw [h6 k hk, Nat.add_assoc, Nat.add_assoc]; exact (h _ (by omega)).symm
  · intro k hk; rw [h7 k hk, Nat.add_assoc, Nat.add_assoc]; exact (h _ (by omega)).symm
  · intro k hk; rw [h8 k hk, Nat.add_assoc, Nat.add_assoc]; exact (h _ (by omega)).symm
  · intro k hk; rw [h9 k hk, Nat.add_assoc, Nat.add_assoc]; exact (h _ (by omega)).symm
  · intro k hk; rw [h10 k hk, Nat.add_assoc, Nat.add_assoc]; exact (h _ (by omega)).symm
theorem StI_row {W M : Nat} {r r' : Nat → Int32} {o o' : Nat} (h : ∀ j, j < 49 → r' (o' + j) = r (o + j)) (H : StI W M r o) : StI W M r' o' := by
  obtain ⟨h1, h2, h3, h4, h5, h6, h7⟩ := H
  refine ⟨?_, ?_, ?_, ?_, ?_, ?_, ?_⟩
  · rw [h 2 (by omega)]; exact h1
  · rw [h 4 (by omega)]; exact h2
  · intro w hw hW; rw [Nat.add_assoc, h _ (by omega), ← Nat.add_assoc]; exact h3 w hw hW
  · intro w hw; rw [Nat.add_assoc, h _ (by omega), ← Nat.add_assoc]; exact h4 w hw
  · intro w hw hW; rw [Nat.add_assoc, h _ (by omega), ← Nat.add_assoc]; exact h5 w hw hW
  · intro w hw; rw [Nat.add_assoc, h _ (by omega), ← Nat.add_assoc]; exact h6 w hw
  · intro w hw hW; rw [Nat.add_assoc, h _ (by omega), ← Nat.add_assoc]; exact h7 w hw hW
theorem StR_cls {μ μ' : Mem} {s : Nat} {n : Int32} {r : Nat → Int32} {o : Nat} (h : ∀ x, s ≤ x → x ≤ s + 5 → μ' x = μ x) (H : StR μ s n r o) : StR μ' s n r o := by
  unfold StR at H ⊢
  rw [h s (by omega) (by omega), h (s + 1) (by omega) (by omega), h (s + 2) (by omega) (by omega), h (s + 3) (by omega) (by omega), h (s + 4) (by omega) (by omega), h (s + 5) (by omega) (by omega)]
  exact H
/-! what is kept: the reference -/
theorem kA55 {G c : Nat} (hc : c ≤ 5) {ρ : Mem} (h : ρ 0 3 = nI c) (hG : 50 ≤ G) : ∃ ρ', f_X12_keepsAhead_L55 G G 0 ρ = some ρ' ∧ (∀ x, x ≠ 0 → x ≠ 2 → ρ' x = ρ x) ∧ (∀ j, j ≠ 3 → ρ' 0 j = ρ 0 j) ∧ ρ' 0 3 = nI (c + 1) ∧
    (∀ j, j < 49 → ρ' 2 (49 * c + j) = ρ 1 j) ∧ (∀ j, j < 49 * c → ρ' 2 j = ρ 2 j) := by
  obtain ⟨g', s', h1, h2, h3, h4⟩ := loopZ (f_X12_keepsAhead_L55 G) 49 (fun k s => (∀ x, x ≠ 2 → s x = ρ x) ∧ (∀ j, j < k → s 2 (49 * c + j) = ρ 1 j) ∧ (∀ j, j < 49 * c → s 2 j = ρ 2 j)) (by
    intro g k s hk ⟨i1, i2, i3⟩
    refine ⟨wr s 2 (49 * c + k) (ρ 1 k), ?_, ?_, ?_, ?_⟩
    · simp (disch := omega) only [lit, neg1, nI_1, nI_add, pk_mul, pk_sub, nI_leI, nI_ltI, nI_eq, nI_eqm, chkn, ixn, if_pos, if_neg, bndV_s, bndE_s, bndO_s, reduceIte, irmn, iminn, imaxn, f_X12_keepsAhead_L55, i1, h]
    · intro x hx; rw [wr_off hx]; exact i1 x hx
    · intro j hj
      by_cases e : j = k
      · subst e; exact wr_same
      · rw [wr_slot (by omega)]; exact i2 j (by omega)
    · intro j hj; rw [wr_slot (by omega)]; exact i3 j hj) (by omega : 49 < G) (s := ρ) ⟨fun _ _ => rfl, fun j hj => absurd hj (by omega), fun _ _ => rfl⟩
  refine ⟨wr s' 0 3 (nI (c + 1)), ?_, ?_, ?_, wr_same, ?_, ?_⟩
  · rw [h1]; simp (disch := omega) only [lit, neg1, nI_1, nI_add, pk_mul, pk_sub, nI_leI, nI_ltI, nI_eq, nI_eqm, chkn, ixn, if_pos, if_neg, bndV_s, bndE_s, bndO_s, reduceIte, irmn, iminn, imaxn, f_X12_keepsAhead_L55, h2, h]
  · intro x hx hx2; rw [wr_off hx]; exact h2 x hx2
  · intro j hj; rw [wr_slot hj, h2 0 (by omega)]
  · intro j hj; rw [wr_cell (by omega)]; exact h3 j hj
  · intro j hj; rw [wr_cell (by omega)]; exact h4 j hj
theorem kA {G c : Nat} (hc : c ≤ 6) {ρ : Mem} (h : ρ 0 3 = nI c) (hG : 300 ≤ G) : ∃ ρ', f_X12_keepsAhead G ρ = some ρ' ∧ (∀ x, x ≠ 0 → x ≠ 2 → ρ' x = ρ x) ∧ (∀ j, j ≠ 3 → ρ' 0 j = ρ 0 j) ∧ ρ' 0 3 = nI (min (c + 1) 6) ∧
    (∀ j, j < 49 → ρ' 2 (49 * min c 5 + j) = ρ 1 j) ∧ (∀ i j, i < min c 5 → j < 49 → ρ' 2 (49 * i + j) = ρ 2 (49 * (if c = 6 then i + 1 else i) + j)) := by
  unfold f_X12_keepsAhead
  by_cases e : c = 6
  · subst e
    obtain ⟨g', s', h1, h2, h2', h3, h4⟩ := loopZ (f_X12_keepsAhead_L21 G (f_X12_keepsAhead_j53 G)) 245 (fun k s => (∀ x, x ≠ 0 → x ≠ 2 → s x = ρ x) ∧ (s 0 = wr ρ 0 3 (nI 5) 0) ∧ (∀ j, j < k → s 2 j = ρ 2 (j + 49)) ∧ (∀ j, k ≤ j → s 2 j = ρ 2 j)) (by
      intro g k s hk ⟨i1, i2, i3, i4⟩
      have i5 : s 0 3 = nI 5 := by rw [i2]; exact wr_same
      refine ⟨wr s 2 k (ρ 2 (k + 49)), ?_, ?_, ?_, ?_, ?_⟩
      · simp (disch := omega) only [lit, neg1, nI_1, nI_add, pk_mul, pk_sub, nI_leI, nI_ltI, nI_eq, nI_eqm, chkn, ixn, if_pos, if_neg, bndV_s, bndE_s, bndO_s, reduceIte, irmn, iminn, imaxn, f_X12_keepsAhead_L21, i5, i4]
      · intro x hx hx2; rw [wr_off hx2]; exact i1 x hx hx2
      · rw [wr_off (by omega)]; exact i2
      · intro j hj
        by_cases e : j = k
        · subst e; exact wr_same
        · rw [wr_slot (by omega)]; exact i3 j (by omega)
      · intro j hj; rw [wr_slot (by omega)]; exact i4 j (by omega)) (by omega : 245 < G) (s := wr ρ 0 3 (nI 5)) ⟨fun x hx _ => wr_off hx, rfl, fun j hj => absurd hj (by omega), fun j _ => wr_cell (by omega)⟩
    have h5 : s' 0 3 = nI 5 := by rw [h2']; exact wr_same
    obtain ⟨ρ', k1, k2, k3, k4, k5, k6⟩ := kA55 (c := 5) (by omega) (ρ := s') h5 (by omega : 50 ≤ G)
    refine ⟨ρ', ?_, ?_, ?_, k4, ?_, ?_⟩
    · simp (disch := omega) only [lit, neg1, nI_1, nI_add, pk_mul, pk_sub, nI_leI, nI_ltI, nI_eq, nI_eqm, chkn, ixn, if_pos, if_neg, bndV_s, bndE_s, bndO_s, reduceIte, irmn, iminn, imaxn, h]
      refine Eq.trans h1 ?_
      simp (disch := omega) only [lit, neg1, nI_1, nI_add, pk_mul, pk_sub, nI_leI, nI_ltI, nI_eq, nI_eqm, chkn, ixn, if_pos, if_neg, bndV_s, bndE_s, bndO_s, reduceIte, irmn, iminn, imaxn, f_X12_keepsAhead_L21, h5]
      exact k1
    · intro x hx hx2; rw [k2 x hx hx2]; exact h2 x hx hx2
    · intro j hj; rw [k3 j hj, h2']; exact wr_slot hj
    · intro j hj; rw [show min 6 5 = 5 from rfl, k5 j hj, h2 1 (by omega) (by omega)]
    · intro i j hi hj
      have : min 6 5 = 5 := rfl
      rw [k6 _ (by omega), h3 _ (by omega), if_pos rfl]
      congr 1
      omega
  · obtain ⟨ρ', k1, k2, k3, k4, k5, k6⟩ := kA55 (c := c) (by omega) (ρ := ρ) h (by omega : 50 ≤ G)
    have e1 : min (c + 1) 6 = c + 1 := by omega
    have e2 : min c 5 = c := by omega
    rw [e1, e2]
    refine ⟨ρ', ?_, k2, k3, k4, k5, fun i j hi hj => by rw [if_neg e]; exact k6 _ (by omega)⟩
    rw [← k1]
    simp (disch := omega) only [lit, neg1, nI_1, nI_add, pk_mul, pk_sub, nI_leI, nI_ltI, nI_eq, nI_eqm, chkn, ixn, if_pos, if_neg, bndV_s, bndE_s, bndO_s, reduceIte, irmn, iminn, imaxn, h]
    rfl
/-! what is kept: the class -/
theorem kpC {G c x : Nat} (hc : c ≤ 6) (hx : x < 6) {μ : Mem} (h : μ 54 3 = nI c) (h2 : μ 54 2 = nI x) : ∃ μ', f_X3_keep G μ = some μ' ∧ (∀ y, y < 54 ∨ 93 ≤ y → μ' y = μ y) ∧ (∀ y, 57 ≤ y → y < 93 → (y < 57 + 6 * x ∨ 57 + 6 * x + 5 < y) → μ' y = μ y) ∧
    μ' 54 3 = nI (min (c + 1) 6) ∧ μ' 54 2 = nI ((x + 1) % 6) ∧ (∀ j, j ≠ x → μ' 56 j = μ 56 j) ∧ μ' 56 x = μ 26 3 ∧ (∀ n r o, StR μ 2 n r o → StR μ' (57 + 6 * x) n r o) := by
  obtain ⟨μ1, k1, k2, k3⟩ := cpStd (G := G) (a := 57 + 6 * x) (b := 2) (μ := μ) (by omega)
  have e1 : μ1 54 2 = nI x := by rw [k2 54 (by omega), h2]
  have e2 : μ1 54 3 = nI c := by rw [k2 54 (by omega), h]
  have e3 : μ1 26 3 = μ 26 3 := by rw [k2 26 (by omega)]
  refine ⟨wr (wr (wr μ1 56 x (μ 26 3)) 54 2 (nI ((x + 1) % 6))) 54 3 (nI (min (c + 1) 6)), ?_, ?_, ?_, wr_same, ?_, ?_, ?_, ?_⟩
  · simp (disch := omega) only [lit, neg1, nI_1, nI_add, pk_mul, pk_sub, nI_leI, nI_ltI, nI_eq, nI_eqm, chkn, ixn, if_pos, if_neg, bndV_s, bndE_s, bndO_s, reduceIte, irmn, iminn, imaxn, f_X3_keep, isB, h2, k1, e1, e2, e3, wr, reduceIte, reduceCtorEq, Nat.reduceEqDiff, and_true, and_false, false_and]
  · intro y hy; rw [wr_off (by omega), wr_off (by omega), wr_off (by omega)]; exact k2 y (by omega)
  · intro y hy hy2 hy3; rw [wr_off (by omega), wr_off (by omega), wr_off (by omega)]; exact k2 y (by omega)
  · rw [wr_slot (by decide), wr_same]
  · intro j hj; rw [wr_cell (by omega), wr_cell (by omega), wr_slot hj, k2 56 (by omega)]
  · rw [wr_cell (by omega), wr_cell (by omega), wr_same]
  · intro n r o H
    exact StR_cls (μ := μ1) (fun y g1 g2 => by rw [wr_off (by omega), wr_off (by omega), wr_off (by omega)]) (k3 n r o H)
end
