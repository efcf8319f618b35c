section
theorem txt_ok {bb : Bool} {W M : Nat} {μ ρ μ0 ρ0 μ1 ρ1 μ2 ρ2 : Mem} (H : AT bb W M μ ρ) (pC : pfC μ μ0) (pR : pfR ρ ρ0) (tC : TC μ0 μ1) (tR : TR ρ0 ρ1) (f6 : μ1 41 6 = 0) (f7 : μ1 41 7 = -1) (c2 : ∀ x, ¬ (20 ≤ x ∧ x ≤ 25) → x ≠ 54 → μ2 x = μ1 x) (r2 : ∀ x, x ≠ 0 → ¬ (20 ≤ x ∧ x ≤ 22) → ρ2 x = ρ1 x)
    (rj : ∀ j, j ≠ 3 → j ≠ 15 → j ≠ 37 → j ≠ 39 → j ≠ 41 → ρ2 0 j = ρ1 0 j) (r15 : ρ2 0 15 = nI 0) (Q : QuR 1 μ2 ρ2) (C : CaR 1 μ2 ρ2 W M) (S : SiR 1 μ2 ρ2 W) (P : PaR μ2 ρ2 W M) : AR bb μ2 ρ2 := by
  have CC : ∀ x, ¬ (20 ≤ x ∧ x ≤ 25) → ¬ (41 ≤ x ∧ x ≤ 54) → μ2 x = μ x := fun x hx hy => by rw [c2 x hx (by omega), tC.1 x (by omega) (by omega) (by omega) (by omega), pC.1 x (by omega) (by omega) (by omega) (by omega) (by omega)]
  have R0 : ∀ x, x ≠ 0 → ¬ (13 ≤ x ∧ x ≤ 22) → ρ2 x = ρ x := fun x a b => by rw [r2 x a (by omega), tR.1 x a b, pR.1 x a]
  have e41 : μ2 41 = μ1 41 := c2 41 (by omega) (by omega)
  have e52 : μ2 52 = μ1 52 := c2 52 (by omega) (by omega)
  refine AR_txt H (fun x a b => CC x (by omega) (by omega)) ⟨by rw [e52, tC.2.2.1, pC.2.1 0 (by omega)], by rw [e52, tC.2.2.2, pC.2.1 1 (by omega)]⟩ (by rw [e41, tC.2.1 5 (by omega) (by omega) (by omega) (by omega)]; exact pC.2.2) (fun x a b => R0 x a (by omega)) (fun j a a2 b d e f => by rw [rj j a2 (by omega) (by omega) e f, tR.2.1 j (by omega) (by omega), pR.2.1 j a (by omega) (by omega) (by omega) (by omega)]) r15 ⟨?_, ?_⟩
    (LwR_lo H.1.2.2.2.2.2.2.2.1 (fun x _ _ => CC x (by omega) (by omega)) (R0 12 (by omega) (by omega)) (fun x a b i hi => by rw [r2 x (by omega) (by omega), tR.2.2.1 x a b i (by omega), pR.1 x (by omega)]) (fun i hi => by
      have q := tR.2.2.2.1 i (by omega)
      rw [r2 17 (by omega) (by omega), r2 18 (by omega) (by omega), q.1, q.2, pR.1 17 (by omega), pR.1 18 (by omega)]
      exact ⟨rfl, rfl⟩)) Q C S P
  · rw [e41, f6, rj 35 (by omega) (by omega) (by omega) (by omega) (by omega), tR.2.1 35 (by omega) (by omega)]
    exact pR.2.2.1.symm
  · rw [e41, f7, rj 36 (by omega) (by omega) (by omega) (by omega) (by omega), tR.2.1 36 (by omega) (by omega)]
    exact pR.2.2.2.1.symm
theorem takesQ {G l : Nat} {ρ : Mem} (hG : 500 ≤ G) (hl : l ≤ 16) : ∃ ρ', f_X12_takesOther G 1 (nI l) ρ = some ρ' ∧ (∀ k, k < l → ρ' 20 k = ρ 20 (16 + k)) ∧ ρ' 0 37 = nI l ∧ ρ' 0 3 = nI 0 ∧ (∀ x, x ≠ 0 → x ≠ 20 → ρ' x = ρ x) ∧ ∀ j, j ≠ 3 → j ≠ 37 → ρ' 0 j = ρ 0 j := by
  obtain ⟨g', s, k1, i1, i2, i3⟩ := loopZ (fun g v (s : Mem) => f_X12_takesOther_L47 G g (nI l) v s) l (fun k s => (∀ x, x ≠ 20 → s x = ρ x) ∧ (∀ i, i < k → s 20 i = ρ 20 (16 + i)) ∧ ∀ i, 16 ≤ i → s 20 i = ρ 20 i) (by
    rintro g k s hk ⟨i1, i2, i3⟩
    refine ⟨wr s 20 k (s 20 (16 + k)), ?_, fun x hx => by rw [wr_off hx]; exact i1 x hx, fun i hi => ?_, fun i hi => by rw [wr_slot (by omega)]; exact i3 i hi⟩
    · show f_X12_takesOther_L47 G (g + 1) (nI l) (nI k) s = f_X12_takesOther_L47 G g (nI l) (nI (k + 1)) _
      rw [f_X12_takesOther_L47, if_neg (nI_ge (by omega) (by omega)), show (16 : Int32) + nI k = nI (16 + k) from nI_add 16 k, chkn (by omega) (by omega), chkn (by omega) (by omega), ixn (by omega), ixn (by omega), nI_1]
    · by_cases e : i = k
      · rw [e, wr_same, i3 _ (by omega)]
      · rw [wr_slot e]; exact i2 i (by omega)) (by omega : l < G) (s := ρ) ⟨fun _ _ => rfl, fun i hi => absurd hi (by omega), fun _ _ => rfl⟩
  refine ⟨wr (wr s 0 37 (nI l)) 0 3 (nI 0), ?_, fun k hk => by rw [wr_cell (by omega), wr_cell (by omega)]; exact i2 k hk, by rw [wr_slot (by omega), wr_same], wr_same, fun x a b => by rw [wr_off a, wr_off a]; exact i1 x b, fun j a b => by rw [wr_slot a, wr_slot b, i1 0 (by omega)]⟩
  unfold f_X12_takesOther
  rw [if_neg (by decide), if_pos rfl]
  refine Eq.trans k1 ?_
  show f_X12_takesOther_L47 G (g' + 1) (nI l) (nI l) s = _
  rw [f_X12_takesOther_L47, if_pos (Int32.le_refl _)]
  rfl
theorem takesY {G l : Nat} {ρ : Mem} (hG : 500 ≤ G) (hl : l ≤ 16) : ∃ ρ', f_X12_takesOther G 2 (nI l) ρ = some ρ' ∧ (∀ k, k < 6 * l → ρ' 21 k = ρ 21 (96 + k)) ∧ ρ' 0 39 = nI l ∧ ρ' 0 3 = nI 0 ∧ (∀ x, x ≠ 0 → x ≠ 21 → ρ' x = ρ x) ∧ ∀ j, j ≠ 3 → j ≠ 39 → ρ' 0 j = ρ 0 j := by
  have e6 : (6 : Int32) * nI l = nI (6 * l) := pk_mul 6 l
  obtain ⟨g', s, k1, i1, i2, i3⟩ := loopZ (fun g v (s : Mem) => f_X12_takesOther_L83 G g (nI l) v s) (6 * l) (fun k s => (∀ x, x ≠ 21 → s x = ρ x) ∧ (∀ i, i < k → s 21 i = ρ 21 (96 + i)) ∧ ∀ i, 96 ≤ i → s 21 i = ρ 21 i) (by
    rintro g k s hk ⟨i1, i2, i3⟩
    refine ⟨wr s 21 k (s 21 (96 + k)), ?_, fun x hx => by rw [wr_off hx]; exact i1 x hx, fun i hi => ?_, fun i hi => by rw [wr_slot (by omega)]; exact i3 i hi⟩
    · show f_X12_takesOther_L83 G (g + 1) (nI l) (nI k) s = f_X12_takesOther_L83 G g (nI l) (nI (k + 1)) _
      rw [f_X12_takesOther_L83, e6, if_neg (nI_ge (by omega) (by omega)), show (96 : Int32) + nI k = nI (96 + k) from nI_add 96 k, chkn (by omega) (by omega), chkn (by omega) (by omega), ixn (by omega), ixn (by omega), nI_1]
    · by_cases e : i = k
      · rw [e, wr_same, i3 _ (by omega)]
      · rw [wr_slot e]; exact i2 i (by omega)) (by omega : 6 * l < G) (s := ρ) ⟨fun _ _ => rfl, fun i hi => absurd hi (by omega), fun _ _ => rfl⟩
  refine ⟨wr (wr s 0 39 (nI l)) 0 3 (nI 0), ?_, fun k hk => by rw [wr_cell (by omega), wr_cell (by omega)]; exact i2 k hk, by rw [wr_slot (by omega), wr_same], wr_same, fun x a b => by rw [wr_off a, wr_off a]; exact i1 x b, fun j a b => by rw [wr_slot a, wr_slot b, i1 0 (by omega)]⟩
  unfold f_X12_takesOther
  rw [if_neg (by decide), if_neg (by decide)]
  refine Eq.trans k1 ?_
  show f_X12_takesOther_L83 G (g' + 1) (nI l) (nI (6 * l)) s = _
  rw [f_X12_takesOther_L83, e6, if_pos (Int32.le_refl _)]
  rfl
theorem takesS {G l : Nat} {ρ : Mem} (hG : 500 ≤ G) : ∃ ρ', f_X12_takesOther G 3 (nI l) ρ = some ρ' ∧ (∀ k, k < 12 → ρ' 22 k = ρ 22 (12 + k)) ∧ ρ' 0 41 = nI l ∧ (∀ x, x ≠ 0 → x ≠ 22 → ρ' x = ρ x) ∧ ∀ j, j ≠ 41 → ρ' 0 j = ρ 0 j := by
  obtain ⟨g', s, k1, i1, i2, i3⟩ := loopZ (fun g v (s : Mem) => f_X12_takesOther_L7 G g (nI l) v s) 12 (fun k s => (∀ x, x ≠ 22 → s x = ρ x) ∧ (∀ i, i < k → s 22 i = ρ 22 (12 + i)) ∧ ∀ i, 12 ≤ i → s 22 i = ρ 22 i) (by
    rintro g k s hk ⟨i1, i2, i3⟩
    refine ⟨wr s 22 k (s 22 (12 + k)), ?_, fun x hx => by rw [wr_off hx]; exact i1 x hx, fun i hi => ?_, fun i hi => by rw [wr_slot (by omega)]; exact i3 i hi⟩
    · show f_X12_takesOther_L7 G (g + 1) (nI l) (nI k) s = f_X12_takesOther_L7 G g (nI l) (nI (k + 1)) _
      rw [f_X12_takesOther_L7, if_neg (show ¬ (12 : Int32) ≤ nI k from nI_ge (b := 12) hk (by omega)), show (12 : Int32) + nI k = nI (12 + k) from nI_add 12 k, chkn (by omega) (by omega), chkn (by omega) (by omega), ixn (by omega), ixn (by omega), nI_1]
    · by_cases e : i = k
      · rw [e, wr_same, i3 _ (by omega)]
      · rw [wr_slot e]; exact i2 i (by omega)) (by omega : 12 < G) (s := ρ) ⟨fun _ _ => rfl, fun i hi => absurd hi (by omega), fun _ _ => rfl⟩
  refine ⟨wr s 0 41 (nI l), ?_, fun k hk => by rw [wr_cell (by omega)]; exact i2 k hk, wr_same, fun x a b => by rw [wr_off a]; exact i1 x b, fun j a => by rw [wr_slot a, i1 0 (by omega)]⟩
  unfold f_X12_takesOther
  rw [if_pos rfl]
  refine Eq.trans k1 ?_
  show f_X12_takesOther_L7 G (g' + 1) (nI l) (nI 12) s = _
  rw [f_X12_takesOther_L7, if_pos (by decide)]
theorem zeroS {G : Nat} {ρ : Mem} (hG : 500 ≤ G) : ∃ ρ1, f_X12_readSisters G ρ = f_X12_readSisters_L26 G (f_X12_readSisters_j64 G) G (nI 0) ρ1 ∧ (∀ x, x ≠ 22 → ρ1 x = ρ x) ∧ (∀ w, w < 12 → ρ1 22 (12 + w) = nI 0) ∧ ∀ i, i < 12 → ρ1 22 i = ρ 22 i := by
  obtain ⟨g', s, k1, i1, i2, i3⟩ := loopZ (fun g v (s : Mem) => f_X12_readSisters_L2 G (f_X12_readSisters_j24 G) g v s) 12 (fun k s => (∀ x, x ≠ 22 → s x = ρ x) ∧ (∀ i, i < k → s 22 (12 + i) = nI 0) ∧ ∀ i, i < 12 → s 22 i = ρ 22 i) (by
    rintro g k s hk ⟨i1, i2, i3⟩
    refine ⟨wr s 22 (12 + k) (nI 0), ?_, fun x hx => by rw [wr_off hx]; exact i1 x hx, fun i hi => ?_, fun i hi => by rw [wr_slot (by omega)]; exact i3 i hi⟩
    · show f_X12_readSisters_L2 G (f_X12_readSisters_j24 G) (g + 1) (nI k) s = f_X12_readSisters_L2 G (f_X12_readSisters_j24 G) g (nI (k + 1)) _
      rw [f_X12_readSisters_L2, if_neg (show ¬ (12 : Int32) ≤ nI k from nI_ge (b := 12) hk (by omega)), show (12 : Int32) + nI k = nI (12 + k) from nI_add 12 k, chkn (by omega) (by omega), ixn (by omega), nI_1]
      rfl
    · by_cases e : i = k
      · rw [e, wr_same]
      · rw [wr_slot (by omega)]; exact i2 i (by omega)) (by omega : 12 < G) (s := ρ) ⟨fun _ _ => rfl, fun i hi => absurd hi (by omega), fun _ _ => rfl⟩
  refine ⟨s, ?_, i1, i2, i3⟩
  unfold f_X12_readSisters
  refine Eq.trans k1 ?_
  show f_X12_readSisters_L2 G (f_X12_readSisters_j24 G) (g' + 1) (nI 12) s = _
  rw [f_X12_readSisters_L2, if_pos (by decide)]
  rfl
end
