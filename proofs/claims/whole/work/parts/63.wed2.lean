section
/-! a wedding: the coughs, whom he takes -/
theorem WR_s {s W M : Nat} {t : Int32} {μ ρ : Mem} (R : WR s t μ ρ W M) : s = 2 ∨ s = 99 := by rcases R.2.2.2.2.2.2.2 with ⟨_, e⟩ | ⟨_, e⟩ <;> omega
theorem WR_W {s W M : Nat} {t : Int32} {μ ρ : Mem} (R : WR s t μ ρ W M) : W ≤ 12 ∧ M ≤ 8 := PpR_in R.1
theorem pw12 {W c : Nat} (hW : W ≤ 12) (h : c < 2 ^ W) : c < 4096 := Nat.lt_of_lt_of_le h (Nat.pow_le_pow_right (n := 2) (by decide) hW)
theorem toCough {G s W M w : Nat} {t : Int32} {μ ρ : Mem} (R : WR s t μ ρ W M) (hw : w < W) : ∃ c, c < 2 ^ W ∧ μ s 7 = nI c ∧ ρ 1 4 = nI c ∧ f_X8_isToCough G s μ (nI w) = some (if c.testBit w = true then nI 1 else nI 0) ∧ f_X12_has (nI c) (nI w) = (if c.testBit w = true then nI 1 else nI 0) := by
  obtain ⟨c, h1, h2⟩ := R.2.2.2.2.2.1.2.1
  have h2 : ρ 1 4 = nI c := h2
  have h3 : μ s 7 = ρ 1 4 := R.2.2.2.2.1.2.2.2.2.1
  have hc := pw12 (WR_W R).1 h1
  have hW := (WR_W R).1
  have hh : f_X11_has (nI c) (nI w) = if c.testBit w = true then nI 1 else nI 0 := hasn (by omega) (by omega)
  refine ⟨c, h1, by rw [h3, h2], h2, ?_, by rw [has12, hh]⟩
  unfold f_X8_isToCough
  rw [h3, h2, hh]
  split <;> rfl
theorem wed_co {G s W M gr : Nat} {t : Int32} {μ0 ρ0 μ ρ : Mem} (hG : 500 ≤ G) (A : AI s t W M μ0 ρ0 μ ρ) (se : ∀ l, l < 3 → ∃ w, w < W ∧ μ0 95 l = nI w ∧ ρ0 25 l = nI w) (k81 : Int32 → Int32 → Mem → Option (Int32 × Mem)) (k58 : Mem → Option (Int32 × Mem)) :
    ∃ μ' ρ', f_X7_wedding_L81 G s k81 G (nI gr) t 0 μ = k81 (nI gr) t μ' ∧ f_X12_takes_L58 G k58 G 0 ρ = k58 ρ' ∧ AI s t W M μ0 ρ0 μ' ρ' := by
  obtain ⟨g', f', s', t', h1, h2, h3⟩ := loop2Z (fun g v m => f_X7_wedding_L81 G s k81 g (nI gr) t v m) (fun g v m => f_X12_takes_L58 G k58 g v m) 3 (fun _ a b => AI s t W M μ0 ρ0 a b) (by
    intro g f l a b hl ⟨A1, A2, A3, A4, A5, A6⟩
    obtain ⟨w, w1, w2, w3⟩ := se l hl
    have hs := WR_s A1
    have hW := (WR_W A1).1
    have e95 : a 95 l = nI w := by rw [A5]; exact w2
    have e25 : b 25 l = nI w := by rw [A6]; exact w3
    obtain ⟨c, c1, c2, c3, c4, c5⟩ := toCough (G := G) A1 w1
    by_cases hb : c.testBit w = true
    · rw [if_pos hb] at c4 c5
      have R2 : WR s t (wr (wr a 96 l (a 96 l + nI 10)) s 7 (nI (wo c (2 ^ w)))) (wr (wr b 26 l (b 26 l + nI 10)) 1 4 (nI (wo c (2 ^ w)))) W M := WR_cough (WR_scr A1 (fun x _ _ h3 _ => wr_off h3) (fun x _ _ _ h4 => wr_off h4)) ⟨_, Nat.lt_of_le_of_lt wo_le c1, rfl⟩
      obtain ⟨a3, b3, d1, d2, d3, d4, d5, d6, d7, d8⟩ := write_sim (a := nI 2) (b := nI w) (c := nI l) hG R2
      refine ⟨a3, b3, ?_, ?_, d3, ?_, ?_, ?_, ?_, ?_⟩
      · show f_X7_wedding_L81 G s k81 (g + 1) (nI gr) t (nI l) a = f_X7_wedding_L81 G s k81 g (nI gr) t (nI (l + 1)) a3
        simp (disch := omega) only [lit, neg1, nI_1, nI_add, pk_mul, pk_sub, nI_leI, nI_ltI, nI_eq, nI_eqm, chkn, ixn, if_pos, if_neg, bndV_s, bndE_s, bndO_s, reduceIte, irmn, iminn, imaxn, f_X7_wedding_L81, e95, c4, wr_cell, c2, sl1, won, d1, f_X7_wedding_j144]
      · show f_X12_takes_L58 G k58 (f + 1) (nI l) b = f_X12_takes_L58 G k58 f (nI (l + 1)) b3
        simp (disch := omega) only [lit, neg1, nI_1, nI_add, pk_mul, pk_sub, nI_leI, nI_ltI, nI_eq, nI_eqm, chkn, ixn, if_pos, if_neg, bndV_s, bndE_s, bndO_s, reduceIte, irmn, iminn, imaxn, f_X12_takes_L58, e25, c3, c5, wr_cell, sl1, won, d2, f_X12_takes_j135]
      · refine Fc_tr A2 (Fc_tr ⟨?_, ?_⟩ d4)
        · intro x g1 g2 g3 g4 g5 g6 g7; rw [wr_off (by omega), wr_off g5]
        · intro _; exact ⟨by rw [wr_off (by omega), wr_off (by omega)], by rw [wr_off (by omega), wr_off (by omega)]⟩
      · refine Fr_tr A3 (Fr_tr ⟨?_, ?_, by rw [wr_slot (by omega), wr_cell (by omega)]; exact Int32.le_refl _⟩ d5)
        · intro x g1 g2 g3 g4 g5 g6; rw [wr_off g1, wr_off g6]
        · intro _; exact ⟨by rw [wr_off (by omega), wr_off (by omega)], by rw [wr_slot (by omega), wr_cell (by omega)]⟩
      · intro j hj
        rw [d6 96 (by omega) (by omega), d7 26 (by omega) (by omega), wr_cell (show (96 : Nat) ≠ s by omega), wr_cell (show (26 : Nat) ≠ 1 by omega)]
        by_cases e : j = l
        · subst e; rw [wr_same, wr_same, A4 j hj]
        · rw [wr_slot e, wr_slot e, A4 j hj]
      · rw [d6 95 (by omega) (by omega), wr_off (by omega), wr_off (by omega), A5]
      · rw [d7 25 (by omega) (by omega), wr_off (by omega), wr_off (by omega), A6]
    · rw [if_neg hb] at c4 c5
      refine ⟨a, b, ?_, ?_, A1, A2, A3, A4, A5, A6⟩
      · show f_X7_wedding_L81 G s k81 (g + 1) (nI gr) t (nI l) a = f_X7_wedding_L81 G s k81 g (nI gr) t (nI (l + 1)) a
        simp (disch := omega) only [lit, neg1, nI_1, nI_add, pk_mul, pk_sub, nI_leI, nI_ltI, nI_eq, nI_eqm, chkn, ixn, if_pos, if_neg, bndV_s, bndE_s, bndO_s, reduceIte, irmn, iminn, imaxn, f_X7_wedding_L81, e95, c4, f_X7_wedding_j144]
      · show f_X12_takes_L58 G k58 (f + 1) (nI l) b = f_X12_takes_L58 G k58 f (nI (l + 1)) b
        simp (disch := omega) only [lit, neg1, nI_1, nI_add, pk_mul, pk_sub, nI_leI, nI_ltI, nI_eq, nI_eqm, chkn, ixn, if_pos, if_neg, bndV_s, bndE_s, bndO_s, reduceIte, irmn, iminn, imaxn, f_X12_takes_L58, e25, c3, c5, f_X12_takes_j135]) (by omega : 3 < G) (by omega : 3 < G) (s := μ) (t := ρ) A
  refine ⟨s', t', ?_, ?_, h3⟩
  · refine Eq.trans h1 ?_
    show f_X7_wedding_L81 G s k81 (g' + 1) (nI gr) t (nI 3) s' = _
    simp (disch := omega) only [lit, neg1, nI_1, nI_add, pk_mul, pk_sub, nI_leI, nI_ltI, nI_eq, nI_eqm, chkn, ixn, if_pos, if_neg, bndV_s, bndE_s, bndO_s, reduceIte, irmn, iminn, imaxn, f_X7_wedding_L81]
  · refine Eq.trans h2 ?_
    show f_X12_takes_L58 G k58 (f' + 1) (nI 3) t' = _
    simp (disch := omega) only [lit, neg1, nI_1, nI_add, pk_mul, pk_sub, nI_leI, nI_ltI, nI_eq, nI_eqm, chkn, ixn, if_pos, if_neg, bndV_s, bndE_s, bndO_s, reduceIte, irmn, iminn, imaxn, f_X12_takes_L58]
/-- the landau with most points -/
def mostL (p : Nat → Int32) : Nat := if p 2 ≤ p (if p 1 ≤ p 0 then 0 else 1) then (if p 1 ≤ p 0 then 0 else 1) else 2
theorem mostL_lt (p : Nat → Int32) : mostL p < 3 := by
  unfold mostL
  grind
theorem mostC {G : Nat} {μ : Mem} : f_X7_landauWithMost G μ = some (nI (mostL (μ 96))) := by
  unfold f_X7_landauWithMost f_X7_landauWithMost_j20 mostL
  by_cases h : μ 96 1 ≤ μ 96 0
  · by_cases h2 : μ 96 2 ≤ μ 96 0
    · simp (disch := omega) only [lit, neg1, nI_1, nI_add, pk_mul, pk_sub, nI_leI, nI_ltI, nI_eq, nI_eqm, chkn, ixn, if_pos, if_neg, bndV_s, bndE_s, bndO_s, reduceIte, irmn, iminn, imaxn, h, h2]
    · simp (disch := omega) only [lit, neg1, nI_1, nI_add, pk_mul, pk_sub, nI_leI, nI_ltI, nI_eq, nI_eqm, chkn, ixn, if_pos, if_neg, bndV_s, bndE_s, bndO_s, reduceIte, irmn, iminn, imaxn, h, h2]
  · by_cases h2 : μ 96 2 ≤ μ 96 1
    · simp (disch := omega) only [lit, neg1, nI_1, nI_add, pk_mul, pk_sub, nI_leI, nI_ltI, nI_eq, nI_eqm, chkn, ixn, if_pos, if_neg, bndV_s, bndE_s, bndO_s, reduceIte, irmn, iminn, imaxn, h, h2]
    · simp (disch := omega) only [lit, neg1, nI_1, nI_add, pk_mul, pk_sub, nI_leI, nI_ltI, nI_eq, nI_eqm, chkn, ixn, if_pos, if_neg, bndV_s, bndE_s, bndO_s, reduceIte, irmn, iminn, imaxn, h, h2]
theorem mostR {G : Nat} {ρ : Mem} (hG : 500 ≤ G) : f_X12_takes_j141 G ρ = some (nI (mostL (ρ 26)), ρ) := by
  obtain ⟨G, rfl⟩ : ∃ g, G = g + 1 + 1 + 1 := ⟨G - 3, by omega⟩
  unfold f_X12_takes_j141 mostL
  by_cases h : ρ 26 1 ≤ ρ 26 0
  · by_cases h2 : ρ 26 2 ≤ ρ 26 0
    · simp (disch := omega) only [lit, neg1, nI_1, nI_add, pk_mul, pk_sub, nI_leI, nI_ltI, nI_eq, nI_eqm, chkn, ixn, if_pos, if_neg, bndV_s, bndE_s, bndO_s, reduceIte, irmn, iminn, imaxn, f_X12_takes_L145, f_X12_takes_j167, h, h2]
    · simp (disch := omega) only [lit, neg1, nI_1, nI_add, pk_mul, pk_sub, nI_leI, nI_ltI, nI_eq, nI_eqm, chkn, ixn, if_pos, if_neg, bndV_s, bndE_s, bndO_s, reduceIte, irmn, iminn, imaxn, f_X12_takes_L145, f_X12_takes_j167, h, h2]
  · by_cases h2 : ρ 26 2 ≤ ρ 26 1
    · simp (disch := omega) only [lit, neg1, nI_1, nI_add, pk_mul, pk_sub, nI_leI, nI_ltI, nI_eq, nI_eqm, chkn, ixn, if_pos, if_neg, bndV_s, bndE_s, bndO_s, reduceIte, irmn, iminn, imaxn, f_X12_takes_L145, f_X12_takes_j167, h, h2]
    · simp (disch := omega) only [lit, neg1, nI_1, nI_add, pk_mul, pk_sub, nI_leI, nI_ltI, nI_eq, nI_eqm, chkn, ixn, if_pos, if_neg, bndV_s, bndE_s, bndO_s, reduceIte, irmn, iminn, imaxn, f_X12_takes_L145, f_X12_takes_j167, h, h2]
theorem wr_comm {μ : Mem} {a k b j : Nat} {u v : Int32} (h : a ≠ b ∨ k ≠ j) : wr (wr μ a k u) b j v = wr (wr μ b j v) a k u := by
  funext x y
  simp only [wr]
  grind
theorem notes_comm {G j : Nat} {a b c v : Int32} {ρ : Mem} (h0 : j ≠ 0) (h2 : j ≠ 2) : f_X12_notes G a b c (wr ρ 1 j v) = (f_X12_notes G a b c ρ).map (fun m => wr m 1 j v) := by
  have e1 : (wr ρ 1 j v) 0 5 = ρ 0 5 := wr_cell (by omega)
  have e2 : (wr ρ 1 j v) 1 2 = ρ 1 2 := wr_slot (by omega)
  have e3 : (wr ρ 1 j v) 1 0 = ρ 1 0 := wr_slot (by omega)
  have c9 : ∀ (m : Mem) k u, wr (wr m 1 j v) 9 k u = wr (wr m 9 k u) 1 j v := fun m k u => wr_comm (Or.inl (by omega))
  have c1 : ∀ (m : Mem) u, wr (wr m 1 j v) 1 2 u = wr (wr m 1 2 u) 1 j v := fun m u => wr_comm (Or.inr h2)
  have r1 : ∀ (m : Mem), (wr m 1 j v) 1 2 = m 1 2 := fun m => wr_slot (by omega)
  unfold f_X12_notes
  rw [e1, e2, e3]
  split
  · split
    · rfl
    · unfold chk
      split
      · rfl
      · split
        · rfl
        · split
          · rfl
          · split
            · rfl
            · simp only [c9, c1, r1, Option.map_some]
  · rfl
theorem Fc_s {s : Nat} {t : Int32} {μ μ' : Mem} (hs : s = 2 ∨ s = 99) (h : ∀ x, (x < s ∨ s + 5 < x) → μ' x = μ x) : Fc s t μ μ' := ⟨fun x a _ _ _ _ _ _ => h x a, fun _ => ⟨h 26 (by omega), h 27 (by omega)⟩⟩
theorem Fr_1 {t : Int32} {ρ ρ' : Mem} (h : ∀ x, x ≠ 1 → ρ' x = ρ x) (h2 : ρ' 1 2 = ρ 1 2) : Fr t ρ ρ' := ⟨fun x a _ _ _ _ _ => h x a, fun _ => ⟨h 9 (by omega), h2⟩, by rw [h2]; exact Int32.le_refl _⟩
/-- a change of the standing alone -/
theorem WR_st {s W M : Nat} {t : Int32} {μ ρ μ' ρ' : Mem} (R : WR s t μ ρ W M) (h1 : ∀ x, (x < s ∨ s + 5 < x) → μ' x = μ x) (h2 : ∀ x, x ≠ 1 → ρ' x = ρ x) (h3 : ρ' 1 2 = ρ 1 2) (hS : StR μ' s (μ 26 3) (ρ' 1) 0) (hI : StI W M (ρ' 1) 0) : WR s t μ' ρ' W M := by
  have hs := WR_s R
  obtain ⟨a1, a2, a3, a4, a5, a6, a7, a8⟩ := R
  exact ⟨PpR_o a1 (h1 _ (by omega)) (fun x _ _ => h1 x (by omega)) (by rw [h2 0 (by omega)]) (by rw [h2 0 (by omega)]) (fun x _ _ => h2 x (by omega)), LwR_o a2 (fun x _ _ => h1 x (by omega)) (fun x _ _ => h2 x (by omega)), QuR_o a3 (h1 _ (by omega)) (h1 _ (by omega)) (by rw [h2 0 (by omega)]) (h2 _ (by omega)), RcR_o a4 (h1 _ (by omega)) (h1 _ (by omega)) h3 (h2 _ (by omega)), by rw [h1 26 (by omega)]; exact hS, hI, by rw [h2 0 (by omega)]; exact a7, a8⟩
theorem WR_wed {s W M g w : Nat} {t x : Int32} {μ ρ : Mem} (R : WR s t μ ρ W M) (hg : g < M) (hw : w < W) :
    WR s t (wr (wr (wr (wr μ (s + 2) g (nI w)) (s + 1) w (nI g)) (s + 5) g (ρ 1 (41 + g) + 1)) s 6 x) (wr (wr (wr (wr ρ 1 (17 + g) (nI (w + 1))) 1 (5 + w) (nI (g + 1))) 1 (41 + g) (ρ 1 (41 + g) + 1)) 1 3 x) W M := by
  obtain ⟨hW, hM⟩ := WR_W R
  refine WR_st R (fun y hy => by rw [wr_off (by omega), wr_off (by omega), wr_off (by omega), wr_off (by omega)]) (fun y hy => by rw [wr_off hy, wr_off hy, wr_off hy, wr_off hy]) (by rw [wr_slot (by omega), wr_slot (by omega), wr_slot (by omega), wr_slot (by omega)]) ?_ ?_
  · obtain ⟨s1, s2, s3, s4, s5, s6, s7, s8, s9, s10⟩ := R.2.2.2.2.1
    simp only [Nat.zero_add] at s1 s2 s3 s4 s5 s6 s7 s8 s9 s10
    refine ⟨?_, ?_, ?_, ?_, ?_, ?_, ?_, ?_, ?_, ?_⟩ <;> simp only [wr, Nat.zero_add, ← nI_1] <;> grind
  · obtain ⟨i1, i2, i3, i4, i5, i6, i7⟩ := R.2.2.2.2.2.1
    simp only [Nat.zero_add] at i1 i2 i3 i4 i5 i6 i7
    refine ⟨?_, ?_, ?_, ?_, ?_, ?_, ?_⟩ <;> simp only [wr, Nat.zero_add] <;> grind
end
