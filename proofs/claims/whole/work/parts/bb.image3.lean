section
variable {G : Nat}
/-- the number of a place -/
def opI (c s : Nat) : Nat :=
  if c = 1 then s else if c = 0 then 49 + (if s = 6 then 0 else if s = 7 then 1 else if s = 37 then 2 else if s = 39 then 3 else if s = 41 then 4 else if s = 47 then 5 else if s = 51 then 6 else if s = 57 then 7 else if s = 60 then 8 else if s = 64 then 9 else 10)
  else if c = 4 then 60 + 5 * s else if c = 5 then 61 + 5 * s else if c = 6 then 62 + 5 * s else if c = 22 then 63 + 5 * s else if c = 39 then 64 + 5 * s
  else if c = 7 then 120 + 4 * s else if c = 8 then 121 + 4 * s else if c = 30 then 122 + 4 * s else if c = 31 then 123 + 4 * s
  else if c = 27 then 152 + 4 * s else if c = 28 then 153 + 4 * s else if c = 29 then 154 + 4 * s else if c = 36 then 155 + 4 * s
  else if c = 34 then 192 + 2 * s else if c = 35 then 193 + 2 * s else if c = 40 then 204 + 2 * s else if c = 41 then 205 + 2 * s
  else if c = 42 then 210 + s else if c = 20 then 217 + s else if c = 21 then 233 + s else if c = 9 then 329 + s else if c = 12 then 929
  else if c = 13 then 930 + 4 * s else if c = 14 then 931 + 4 * s else if c = 15 then 932 + 4 * s else if c = 16 then 933 + 4 * s
  else if c = 17 then 994 + 2 * s else 995 + 2 * s
theorem po_ok : ∀ k, k < 1794 → opI (poI k).1 (poI k).2 = k ∧ (poI k).1 ≤ 42 ∧ (poI k).1 ≠ 2 ∧ (poI k).1 ≠ 10 ∧ (poI k).1 ≠ 11 ∧ ((poI k).1 = 0 → (poI k).2 ∈ imS) := by decide +kernel
theorem po_inj {i k : Nat} (hi : i < 1794) (hk : k < 1794) (h : poI i = poI k) : i = k := by
  rw [← (po_ok i hi).1, ← (po_ok k hk).1, h]
theorem im_S {s : Nat} (h : s ∈ imS) : s ≠ 0 ∧ s ≠ 3 ∧ s ≠ 5 ∧ s ≠ 15 ∧ s ≠ 35 ∧ s ≠ 36 ∧ s ≠ 72 ∧ s ≠ 73 ∧ s ≠ 74 := by
  refine ⟨?_, ?_, ?_, ?_, ?_, ?_, ?_, ?_, ?_⟩ <;> (intro e; subst e; exact absurd h (by decide))
def TkI (ρ : Mem) (k : Nat) (m : Mem) : Prop := (∀ c, c ≠ 0 → c ≠ 45 → m c = ρ c) ∧ (∀ j, j ≠ 72 → j ≠ 73 → j ≠ 74 → m 0 j = ρ 0 j) ∧ m 0 72 = 1 ∧ m 0 73 = 1 ∧ m 0 74 = nI k ∧ ∀ i, i < k → m 45 i = imA ρ i
theorem tk_stp {ρ : Mem} : StpI G (TkI ρ) := by
  intro k m hk ⟨i1, i2, i3, i4, i5, i6⟩
  obtain ⟨_, o2, _, _, _, o6⟩ := po_ok k hk
  have val : m (poI k).1 (poI k).2 = imA ρ k := by
    rw [imA_po]
    by_cases c0 : (poI k).1 = 0
    · have := im_S (o6 c0)
      rw [c0, i2 _ this.2.2.2.2.2.2.1 this.2.2.2.2.2.2.2.1 this.2.2.2.2.2.2.2.2]
    · rw [i1 _ c0 (by omega)]
  generalize hc : (poI k).1 = c at *
  generalize hs : (poI k).2 = s at *
  let m3 := wr (wr m 0 74 (nI (k + 1))) 45 k (m c s)
  have e3 : m3 c s = m c s := by
    show wr (wr m 0 74 (nI (k + 1))) 45 k (m c s) c s = _
    rw [wr_cell (by omega)]
    by_cases c0 : c = 0
    · have := im_S (o6 c0)
      rw [c0, wr_slot this.2.2.2.2.2.2.2.2]
    · rw [wr_cell c0]
  have e4 : wr m3 c s (m c s) = m3 := by
    funext x y
    by_cases q : x = c ∧ y = s
    · rw [q.1, q.2, wr_same, e3]
    · unfold wr
      rw [if_neg q]
  have k1 : nI (k + 1) - (1 : Int32) = nI k := nI_pred k
  refine ⟨m c s, m3, ?_, ?_⟩
  · unfold f_X12_keeps
    rw [i5, nI_1]
    show (if (wr m 0 74 (nI (k + 1))) 0 72 = 0 then _ else chk ((wr m 0 74 (nI (k + 1))) 0 74 - 1) 2300 (some (m c s, wr (wr m 0 74 (nI (k + 1))) 45 (ix ((wr m 0 74 (nI (k + 1))) 0 74 - 1)) (m c s)))) = _
    rw [wr_slot (by omega), i3, if_neg (by decide), wr_same, k1, chkn (by omega) (by omega), ixn (by omega)]
  · rw [e4]
    have s0 : ∀ j, j ≠ 74 → m3 0 j = m 0 j := fun j hj => by
      show wr (wr m 0 74 (nI (k + 1))) 45 k (m c s) 0 j = _
      rw [wr_cell (by omega), wr_slot hj]
    refine ⟨fun x a b => ?_, fun j a b d => by rw [s0 j d]; exact i2 j a b d, by rw [s0 72 (by omega)]; exact i3, by rw [s0 73 (by omega)]; exact i4, ?_, fun i hi => ?_⟩
    · show wr (wr m 0 74 (nI (k + 1))) 45 k (m c s) x = _
      rw [wr_off b, wr_off a]; exact i1 x a b
    · show wr (wr m 0 74 (nI (k + 1))) 45 k (m c s) 0 74 = _
      rw [wr_cell (by omega), wr_same]
    · show wr (wr m 0 74 (nI (k + 1))) 45 k (m c s) 45 i = _
      by_cases e : i = k
      · rw [e, wr_same, val]
      · rw [wr_slot e, wr_cell (by omega)]; exact i6 i (by omega)
def RsI (ρ : Mem) (k : Nat) (m : Mem) : Prop := m 45 = ρ 45 ∧ m 0 72 = 0 ∧ m 0 73 = 1 ∧ m 0 74 = nI k ∧ (∀ i, i < k → m (poI i).1 (poI i).2 = ρ 45 i) ∧ ∀ c s, (∀ i, i < 1794 → poI i ≠ (c, s)) → ¬ (c = 0 ∧ (s = 72 ∨ s = 73 ∨ s = 74)) → m c s = ρ c s
theorem rs_stp {ρ : Mem} : StpI G (RsI ρ) := by
  intro k m hk ⟨i1, i2, i3, i4, i5, i6⟩
  obtain ⟨_, o2, _, _, _, o6⟩ := po_ok k hk
  have ne : ∀ i, i < k → ¬ ((poI i).1 = (poI k).1 ∧ (poI i).2 = (poI k).2) := fun i hi q => by
    have := po_inj (show i < 1794 by omega) hk (Prod.ext q.1 q.2)
    omega
  have k1 : nI (k + 1) - (1 : Int32) = nI k := nI_pred k
  have z : (poI k).1 = 0 → (poI k).2 ≠ 72 ∧ (poI k).2 ≠ 73 ∧ (poI k).2 ≠ 74 := fun c0 => by
    have := im_S (o6 c0)
    exact ⟨this.2.2.2.2.2.2.1, this.2.2.2.2.2.2.2.1, this.2.2.2.2.2.2.2.2⟩
  have w2 : ∀ (n : Mem) c s v x y, ¬ (x = c ∧ y = s) → wr n c s v x y = n x y := fun n c s v x y q => if_neg q
  refine ⟨ρ 45 k, wr m 0 74 (nI (k + 1)), ?_, ?_⟩
  · unfold f_X12_keeps
    rw [i4, nI_1]
    show (if (wr m 0 74 (nI (k + 1))) 0 72 = 0 then chk ((wr m 0 74 (nI (k + 1))) 0 74 - 1) 2300 (some ((wr m 0 74 (nI (k + 1))) 45 (ix ((wr m 0 74 (nI (k + 1))) 0 74 - 1)), wr m 0 74 (nI (k + 1)))) else _) = _
    rw [wr_slot (by omega), i2, if_pos rfl, wr_same, k1, chkn (by omega) (by omega), ixn (by omega), wr_cell (by omega), i1]
  · refine ⟨?_, ?_, ?_, ?_, fun i hi => ?_, fun c s h1 h2 => ?_⟩
    · rw [wr_off (by omega), wr_off (by omega)]; exact i1
    · rw [w2 _ _ _ _ _ _ (fun q => (z q.1.symm).1 q.2.symm), wr_slot (by omega)]; exact i2
    · rw [w2 _ _ _ _ _ _ (fun q => (z q.1.symm).2.1 q.2.symm), wr_slot (by omega)]; exact i3
    · rw [w2 _ _ _ _ _ _ (fun q => (z q.1.symm).2.2 q.2.symm), wr_same]
    · by_cases e : i = k
      · rw [e, wr_same]
      · rw [w2 _ _ _ _ _ _ (ne i (by omega)), w2 _ _ _ _ _ _ (fun q => by
          have := im_S ((po_ok i (by omega)).2.2.2.2.2 q.1)
          exact this.2.2.2.2.2.2.2.2 q.2)]
        exact i5 i (by omega)
    · rw [w2 _ _ _ _ _ _ (fun q => h1 k hk (Prod.ext q.1.symm q.2.symm)), w2 _ _ _ _ _ _ (fun q => h2 ⟨q.1, Or.inr (Or.inr q.2)⟩)]
      exact i6 c s h1 h2
/-- a church speaks of the places of an image alone -/
theorem ChR_im {b W M : Nat} {μ σ ρ : Mem} (h : ChR b μ σ W M) (e : ∀ k, k < 1794 → ρ (poI k).1 (poI k).2 = σ (poI k).1 (poI k).2) : ChR b μ ρ W M := by
  have at' : ∀ {k c s : Nat}, k < 1794 → poI k = (c, s) → ρ c s = σ c s := fun {k c s} hk hp => by
    have := e k hk
    rw [hp] at this
    exact this
  have c1 : ∀ j, j < 49 → ρ 1 j = σ 1 j := fun j hj => at' (by omega) (po_a hj)
  have c0 : ∀ j, j < 11 → ρ 0 (imS.getD j 0) = σ 0 (imS.getD j 0) := fun j hj => at' (by omega) (po_b j hj)
  have c4 : ∀ j, j < 12 → ρ 4 j = σ 4 j := fun j hj => at' (by omega) (po_c j hj).1
  have c5 : ∀ j, j < 12 → ρ 5 j = σ 5 j := fun j hj => at' (by omega) (po_c j hj).2.1
  have c6 : ∀ j, j < 12 → ρ 6 j = σ 6 j := fun j hj => at' (by omega) (po_c j hj).2.2.1
  have c22 : ∀ j, j < 12 → ρ 22 j = σ 22 j := fun j hj => at' (by omega) (po_c j hj).2.2.2.1
  have c39 : ∀ j, j < 12 → ρ 39 j = σ 39 j := fun j hj => at' (by omega) (po_c j hj).2.2.2.2
  have c7 : ∀ j, j < 8 → ρ 7 j = σ 7 j := fun j hj => at' (by omega) (po_d j hj).1
  have c8 : ∀ j, j < 8 → ρ 8 j = σ 8 j := fun j hj => at' (by omega) (po_d j hj).2.1
  have c30 : ∀ j, j < 8 → ρ 30 j = σ 30 j := fun j hj => at' (by omega) (po_d j hj).2.2.1
  have c31 : ∀ j, j < 8 → ρ 31 j = σ 31 j := fun j hj => at' (by omega) (po_d j hj).2.2.2
  have c27 : ∀ j, j < 10 → ρ 27 j = σ 27 j := fun j hj => at' (by omega) (po_e j hj).1
  have c28 : ∀ j, j < 10 → ρ 28 j = σ 28 j := fun j hj => at' (by omega) (po_e j hj).2.1
  have c29 : ∀ j, j < 10 → ρ 29 j = σ 29 j := fun j hj => at' (by omega) (po_e j hj).2.2.1
  have c36 : ∀ j, j < 10 → ρ 36 j = σ 36 j := fun j hj => at' (by omega) (po_e j hj).2.2.2
  have c34 : ∀ j, j < 6 → ρ 34 j = σ 34 j := fun j hj => at' (by omega) (po_f j hj).1
  have c35 : ∀ j, j < 6 → ρ 35 j = σ 35 j := fun j hj => at' (by omega) (po_f j hj).2
  have c40 : ∀ j, j < 3 → ρ 40 j = σ 40 j := fun j hj => at' (by omega) (po_g j hj).1
  have c41 : ∀ j, j < 3 → ρ 41 j = σ 41 j := fun j hj => at' (by omega) (po_g j hj).2
  have c42 : ∀ j, j < 7 → ρ 42 j = σ 42 j := fun j hj => at' (by omega) (po_h j hj)
  have c20 : ∀ j, j < 16 → ρ 20 j = σ 20 j := fun j hj => at' (by omega) (po_i j hj)
  have c21 : ∀ j, j < 96 → ρ 21 j = σ 21 j := fun j hj => at' (by omega) (po_j j hj)
  have c9 : ∀ j, j < 600 → ρ 9 j = σ 9 j := fun j hj => at' (by omega) (po_k j hj)
  have c12 : ρ 12 0 = σ 12 0 := at' (by omega) po_l
  have c13 : ∀ j, j < 16 → ρ 13 j = σ 13 j := fun j hj => at' (by omega) (po_m j hj).1
  have c14 : ∀ j, j < 16 → ρ 14 j = σ 14 j := fun j hj => at' (by omega) (po_m j hj).2.1
  have c15 : ∀ j, j < 16 → ρ 15 j = σ 15 j := fun j hj => at' (by omega) (po_m j hj).2.2.1
  have c16 : ∀ j, j < 16 → ρ 16 j = σ 16 j := fun j hj => at' (by omega) (po_m j hj).2.2.2
  have c17 : ∀ j, j < 400 → ρ 17 j = σ 17 j := fun j hj => at' (by omega) (po_n j hj).1
  have c18 : ∀ j, j < 400 → ρ 18 j = σ 18 j := fun j hj => at' (by omega) (po_n j hj).2
  obtain ⟨⟨p1, p2, p3, p4, p5, p6, p7, p8, p9, p10, p11, p12⟩, h2, h3, ⟨n4, q4, r4, s4⟩, ⟨n5, q5, r5, s5⟩, ⟨n6, q6, r6, s6⟩, ⟨n7, A7, B7, q7, r7, s7, t7⟩, ⟨n8, q8, r8, s8, t8⟩, ⟨n9, q9, r9, s9⟩, ⟨n10, q10, r10, s10⟩, ⟨n11, q11, r11, s11⟩, ⟨n12, A12, B12, q12, r12, s12, t12⟩, ⟨n13, q13, r13, s13⟩, ⟨n14, q14, r14, s14⟩, h15⟩ := h
  have l4 := q4.2.2.2
  have l5 := q5.2.2.2
  have l6 := q6.2.2.2
  have l9 := q9.2.2.2
  have l10 := q10.2.2.2
  have l11 := q11.2.2.2
  have l13 := q13.2.2.2
  have l14 := q14.2.2.2
  refine ⟨⟨p1, (c0 0 (by omega)).trans p2, p3, p4, (c0 1 (by omega)).trans p5, p6, fun k hk => by rw [p7 k hk, c4 k hk], fun k hk => by rw [p8 k hk, c5 k hk], fun k hk => by rw [p9 k hk, c6 k hk], fun k hk => by rw [p10 k hk, c7 k hk], fun k hk => by rw [p11 k hk, c8 k hk], fun g hg => by rw [c8 g (by omega)]; exact p12 g hg⟩,
    StR_row (fun j hj => by rw [Nat.zero_add]; exact c1 j hj) h2, StI_row (fun j hj => by rw [Nat.zero_add]; exact c1 j hj) h3,
    ⟨n4, q4, (c1 2 (by omega)).trans r4, fun k hk => by rw [s4 k hk, c9 k (by omega)]⟩,
    ⟨n5, q5, (c0 2 (by omega)).trans r5, fun k hk => by rw [s5 k hk, c20 k (by omega)]⟩,
    ⟨n6, q6, (c0 3 (by omega)).trans r6, fun i hi => DeR_c (s6 i hi) (fun _ _ => rfl) (fun k hk => c21 _ (by omega))⟩,
    ⟨n7, A7, B7, q7, (c0 4 (by omega)).trans r7, s7, fun w hw => by rw [c22 w hw]; exact t7 w hw⟩,
    ⟨n8, q8, r8, c12.trans s8, fun l hl => ?_⟩,
    ⟨n9, q9, (c0 5 (by omega)).trans r9, fun i hi => by rw [c27 i (by omega), c28 i (by omega), c29 i (by omega)]; exact s9 i hi⟩,
    ⟨n10, q10, (c0 6 (by omega)).trans r10, fun i hi => by rw [c30 i (by omega), c31 i (by omega)]; exact s10 i hi⟩,
    ⟨n11, q11, (c0 7 (by omega)).trans r11, fun i hi => by rw [c34 i (by omega), c35 i (by omega)]; exact s11 i hi⟩,
    ⟨n12, A12, B12, q12, (c0 8 (by omega)).trans r12, s12, fun u hu => by rw [c36 u hu]; exact t12 u hu⟩,
    ⟨n13, q13, (c0 9 (by omega)).trans r13, fun i hi => by rw [c39 i (by omega)]; exact s13 i hi⟩,
    ⟨n14, q14, (c0 10 (by omega)).trans r14, fun i hi => by rw [c42 i (by omega)]; exact s14 i hi⟩,
    fun i hi => by rw [c40 i hi, c41 i hi]; exact h15 i hi⟩
  obtain ⟨e, f, w, t, e1, e2, e3, e4, e5, e6, e7, e8, e9, ⟨g1, g2, g3, g4, g5⟩, e11⟩ := t8 l hl
  refine ⟨e, f, w, t, e1, e2, by rw [c13 l (by omega)]; exact e3, e4, by rw [c14 l (by omega)]; exact e5, e6, by rw [c15 l (by omega)]; exact e7, e8, by rw [c16 l (by omega)]; exact e9, ⟨g1, g2, g3, ?_, fun q => ?_⟩, fun i i1 i2 => ?_⟩
  · obtain ⟨x, x1, x2⟩ := g4
    exact ⟨x, by rw [← x1]; exact trn_c _ _ _ (fun j a b => ⟨c17 j (by omega), c18 j (by omega)⟩), x2⟩
  · rw [← g5 q]
    exact trn_c _ _ _ (fun j a b => ⟨c17 j (by omega), c18 j (by omega)⟩)
  · rw [c17 i (by omega), c18 i (by omega)]
    exact e11 i i1 i2
end
