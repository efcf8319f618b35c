section
theorem takesLaw_ok {G l z : Nat} {ρ : Mem} (hG : 500 ≤ G) (hl : l ≤ 16) (hz : z ≤ 400) (h28 : ρ 0 28 = nI 0) (h29 : ρ 0 29 = nI z) :
    ∃ ρ', f_X12_takesLaw G (nI l) ρ = some ρ' ∧ ρ' 12 0 = nI l ∧ (∀ x, 13 ≤ x → x ≤ 16 → ∀ i, i < l → ρ' x i = ρ x (32 + i)) ∧ (∀ i, i < z → ρ' 17 i = ρ 17 (800 + i) ∧ ρ' 18 i = ρ 18 (800 + i)) ∧ ∀ x, ¬ (12 ≤ x ∧ x ≤ 18) → ρ' x = ρ x := by
  obtain ⟨g', s, k1, i1, i2⟩ := loopZ (fun g v (s : Mem) => f_X12_takesLaw_L2 G (f_X12_takesLaw_j105 G) g (nI l) v s) l (fun k s => (∀ x, ¬ (13 ≤ x ∧ x ≤ 16) → s x = ρ x) ∧ ∀ x, 13 ≤ x → x ≤ 16 → (∀ i, i < k → s x i = ρ x (32 + i)) ∧ ∀ i, 32 ≤ i → s x i = ρ x i) (by
    rintro g k s hk ⟨i1, i2⟩
    have e32 : (32 : Int32) + nI k = nI (32 + k) := nI_add 32 k
    have z28 : ∀ m : Mem, m 0 = s 0 → (16 : Int32) * m 0 28 + nI k = nI k := fun m hm => by
      rw [hm, i1 0 (by omega), h28, show (16 : Int32) * nI 0 = nI 0 from pk_mul 16 0, nI_add, Nat.zero_add]
    let m1 := wr s 13 k (s 13 (32 + k))
    let m2 := wr m1 14 k (m1 14 (32 + k))
    let m3 := wr m2 15 k (m2 15 (32 + k))
    let m4 := wr m3 16 k (m3 16 (32 + k))
    have o1 : ∀ x, x ≠ 13 → m1 x = s x := fun x hx => wr_off hx
    have o2 : ∀ x, x ≠ 13 → x ≠ 14 → m2 x = s x := fun x a b => (wr_off b).trans (o1 x a)
    have o3 : ∀ x, x ≠ 13 → x ≠ 14 → x ≠ 15 → m3 x = s x := fun x a b d => (wr_off d).trans (o2 x a b)
    have v13 : ∀ i, m4 13 i = if i = k then s 13 (32 + k) else s 13 i := fun i => by
      show wr m3 16 k _ 13 i = _
      rw [wr_cell (by omega)]
      show wr m2 15 k _ 13 i = _
      rw [wr_cell (by omega)]
      show wr m1 14 k _ 13 i = _
      rw [wr_cell (by omega)]
      show wr s 13 k _ 13 i = _
      by_cases e : i = k
      · rw [if_pos e, e, wr_same]
      · rw [if_neg e, wr_slot e]
    have v14 : ∀ i, m4 14 i = if i = k then s 14 (32 + k) else s 14 i := fun i => by
      show wr m3 16 k _ 14 i = _
      rw [wr_cell (by omega)]
      show wr m2 15 k _ 14 i = _
      rw [wr_cell (by omega)]
      show wr m1 14 k _ 14 i = _
      by_cases e : i = k
      · rw [if_pos e, e, wr_same, o1 14 (by omega)]
      · rw [if_neg e, wr_slot e, o1 14 (by omega)]
    have v15 : ∀ i, m4 15 i = if i = k then s 15 (32 + k) else s 15 i := fun i => by
      show wr m3 16 k _ 15 i = _
      rw [wr_cell (by omega)]
      show wr m2 15 k _ 15 i = _
      by_cases e : i = k
      · rw [if_pos e, e, wr_same, o2 15 (by omega) (by omega)]
      · rw [if_neg e, wr_slot e, o2 15 (by omega) (by omega)]
    have v16 : ∀ i, m4 16 i = if i = k then s 16 (32 + k) else s 16 i := fun i => by
      show wr m3 16 k _ 16 i = _
      by_cases e : i = k
      · rw [if_pos e, e, wr_same, o3 16 (by omega) (by omega) (by omega)]
      · rw [if_neg e, wr_slot e, o3 16 (by omega) (by omega) (by omega)]
    refine ⟨m4, ?_, fun x hx => ?_, fun x a b => ?_⟩
    · show f_X12_takesLaw_L2 G (f_X12_takesLaw_j105 G) (g + 1) (nI l) (nI k) s = f_X12_takesLaw_L2 G (f_X12_takesLaw_j105 G) g (nI l) (nI (k + 1)) m4
      rw [f_X12_takesLaw_L2, if_neg (nI_ge (by omega) (by omega)), e32, chkn (by omega) (by omega), ixn (by omega), z28 s rfl, chkn (by omega) (by omega), ixn (by omega), chkn (by omega) (by omega)]
      show chk ((16 : Int32) * m1 0 28 + nI k) 48 (chk (nI (32 + k)) 48 (chk ((16 : Int32) * (wr m1 14 (ix ((16 : Int32) * m1 0 28 + nI k)) (m1 14 (32 + k))) 0 28 + nI k) 48 _)) = _
      rw [z28 m1 (o1 0 (by omega)), chkn (by omega) (by omega), ixn (by omega), chkn (by omega) (by omega)]
      show chk ((16 : Int32) * m2 0 28 + nI k) 48 (chk (nI (32 + k)) 48 (chk ((16 : Int32) * (wr m2 15 (ix ((16 : Int32) * m2 0 28 + nI k)) (m2 15 (32 + k))) 0 28 + nI k) 48 _)) = _
      rw [z28 m2 (o2 0 (by omega) (by omega)), chkn (by omega) (by omega), ixn (by omega), chkn (by omega) (by omega)]
      show chk ((16 : Int32) * m3 0 28 + nI k) 48 (f_X12_takesLaw_L2 G (f_X12_takesLaw_j105 G) g (nI l) (nI k + 1) (wr m3 16 (ix ((16 : Int32) * m3 0 28 + nI k)) (m3 16 (32 + k)))) = _
      rw [z28 m3 (o3 0 (by omega) (by omega) (by omega)), chkn (by omega) (by omega), ixn (by omega), nI_1]
    · rw [← i1 x hx]
      exact (wr_off (by omega)).trans (o3 x (by omega) (by omega) (by omega))
    · have key : ∀ (y : Nat) (v : ∀ i, m4 y i = if i = k then s y (32 + k) else s y i), 13 ≤ y → y ≤ 16 → (∀ i, i < k + 1 → m4 y i = ρ y (32 + i)) ∧ ∀ i, 32 ≤ i → m4 y i = ρ y i := fun y v a b => by
        obtain ⟨j1, j2⟩ := i2 y a b
        refine ⟨fun i hi => ?_, fun i hi => ?_⟩
        · rw [v i]
          by_cases e : i = k
          · rw [if_pos e, e, j2 _ (by omega)]
          · rw [if_neg e, j1 i (by omega)]
        · rw [v i, if_neg (by omega), j2 i hi]
      rcases (by omega : x = 13 ∨ x = 14 ∨ x = 15 ∨ x = 16) with q | q | q | q <;> subst q
      · exact key 13 v13 (by omega) (by omega)
      · exact key 14 v14 (by omega) (by omega)
      · exact key 15 v15 (by omega) (by omega)
      · exact key 16 v16 (by omega) (by omega)) (by omega : l < G) (s := ρ) ⟨fun _ _ => rfl, fun x _ _ => ⟨fun i hi => absurd hi (by omega), fun _ _ => rfl⟩⟩
  obtain ⟨g2, t, k2, j1, j2, j3⟩ := loopZ (fun g v (s : Mem) => f_X12_takesLaw_L107 G g (nI l) v s) z (fun k t => (∀ x, x ≠ 17 → x ≠ 18 → t x = s x) ∧ (∀ i, i < k → t 17 i = s 17 (800 + i) ∧ t 18 i = s 18 (800 + i)) ∧ ∀ i, 800 ≤ i → t 17 i = s 17 i ∧ t 18 i = s 18 i) (by
    rintro g k t hk ⟨j1, j2, j3⟩
    have e8 : (800 : Int32) + nI k = nI (800 + k) := nI_add 800 k
    have t0 : t 0 = ρ 0 := by rw [j1 0 (by omega) (by omega), i1 0 (by omega)]
    have z28 : ∀ m : Mem, m 0 = ρ 0 → (400 : Int32) * m 0 28 + nI k = nI k := fun m hm => by
      rw [hm, h28, show (400 : Int32) * nI 0 = nI 0 from pk_mul 400 0, nI_add, Nat.zero_add]
    refine ⟨wr (wr t 17 k (t 17 (800 + k))) 18 k (t 18 (800 + k)), ?_, fun x a b => by rw [wr_off b, wr_off a]; exact j1 x a b, fun i hi => ?_, fun i hi => ?_⟩
    · show f_X12_takesLaw_L107 G (g + 1) (nI l) (nI k) t = f_X12_takesLaw_L107 G g (nI l) (nI (k + 1)) _
      rw [f_X12_takesLaw_L107, t0, h29, if_neg (nI_ge (by omega) (by omega)), e8, chkn (by omega) (by omega), ixn (by omega), ← t0, z28 t t0, chkn (by omega) (by omega), ixn (by omega), chkn (by omega) (by omega)]
      show chk ((400 : Int32) * (wr t 17 k (t 17 (800 + k))) 0 28 + nI k) 1200 (f_X12_takesLaw_L107 G g (nI l) (nI k + 1) (wr (wr t 17 k (t 17 (800 + k))) 18 (ix ((400 : Int32) * (wr t 17 k (t 17 (800 + k))) 0 28 + nI k)) ((wr t 17 k (t 17 (800 + k))) 18 (800 + k)))) = _
      rw [z28 _ ((wr_off (by omega)).trans t0), chkn (by omega) (by omega), ixn (by omega), wr_cell (show (18 : Nat) ≠ 17 by omega), nI_1]
    · by_cases e : i = k
      · rw [e, wr_same, wr_cell (by omega), wr_same, (j3 _ (by omega)).1, (j3 _ (by omega)).2]
        exact ⟨rfl, rfl⟩
      · rw [wr_slot e, wr_cell (by omega), wr_slot e, wr_cell (by omega)]
        exact j2 i (by omega)
    · rw [wr_slot (by omega), wr_cell (by omega), wr_slot (by omega), wr_cell (by omega)]
      exact j3 i hi) (by omega : z < G) (s := s) ⟨fun _ _ _ => rfl, fun i hi => absurd hi (by omega), fun _ _ => ⟨rfl, rfl⟩⟩
  have t0 : t 0 = ρ 0 := by rw [j1 0 (by omega) (by omega), i1 0 (by omega)]
  refine ⟨wr t 12 0 (nI l), ?_, wr_same, fun x a b i hi => ?_, fun i hi => ?_, fun x hx => ?_⟩
  · unfold f_X12_takesLaw
    refine Eq.trans k1 ?_
    show f_X12_takesLaw_L2 G (f_X12_takesLaw_j105 G) (g' + 1) (nI l) (nI l) s = _
    rw [f_X12_takesLaw_L2, if_pos (Int32.le_refl _), f_X12_takesLaw_j105]
    refine Eq.trans k2 ?_
    show f_X12_takesLaw_L107 G (g2 + 1) (nI l) (nI z) t = _
    rw [f_X12_takesLaw_L107, t0, h29, if_pos (Int32.le_refl _), h28, chkn (by omega) (by omega), ixn (by omega)]
  · rw [wr_cell (by omega), j1 x (by omega) (by omega)]
    exact (i2 x a b).1 i hi
  · rw [wr_cell (by omega), wr_cell (by omega), (j2 i hi).1, (j2 i hi).2, i1 17 (by omega), i1 18 (by omega)]
    exact ⟨rfl, rfl⟩
  · rw [wr_off (by omega), j1 x (by omega) (by omega), i1 x (by omega)]
theorem copyLaw_ok {G : Nat} {μ : Mem} : ∃ μ', f_X1_copyFrom G 13 45 μ = some μ' ∧ μ' 13 6 = μ 45 6 ∧ (∀ k, k < 400 → μ' 14 k = μ 46 k) ∧ (∀ k, k < 16 → μ' 15 k = μ 47 k ∧ μ' 16 k = μ 48 k ∧ μ' 17 k = μ 49 k ∧ μ' 18 k = μ 50 k) ∧ ∀ x, ¬ (13 ≤ x ∧ x ≤ 18) → μ' x = μ x := by
  have e0 : ix (0 : Int32) = 0 := rfl
  have e4 : ix (400 : Int32) = 400 := rfl
  have e16 : ix (16 : Int32) = 16 := rfl
  refine ⟨_, rfl, ?_, fun k hk => ?_, fun k hk => ⟨?_, ?_, ?_, ?_⟩, fun x hx => ?_⟩
  · simp [wr, cpy]
  · simp [wr, cpy, va_cpy, e0, e4, hk]
  · simp [wr, cpy, va_cpy, e0, e16, hk]
  · simp [wr, cpy, va_cpy, e0, e16, hk]
  · simp [wr, cpy, va_cpy, e0, e16, hk]
  · simp [wr, cpy, va_cpy, e0, e16, hk]
  · have n13 : x ≠ 13 := by omega
    have n14 : x ≠ 14 := by omega
    have n15 : x ≠ 15 := by omega
    have n16 : x ≠ 16 := by omega
    have n17 : x ≠ 17 := by omega
    have n18 : x ≠ 18 := by omega
    funext j
    simp [wr, cpy, n13, n14, n15, n16, n17, n18]
end
