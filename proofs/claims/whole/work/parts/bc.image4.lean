section
variable {G : Nat}
theorem cpy_off {μ : Mem} {a b sp dp n x : Nat} (h : x ≠ b) : cpy μ a b sp dp n x = μ x := by
  funext k
  unfold cpy
  rw [if_neg h]
theorem cpy_at {μ : Mem} {a b n k : Nat} (hk : k < n) : cpy μ a b 0 0 n b k = μ a k := by
  unfold cpy
  rw [if_pos rfl]
  unfold va_cpy
  rw [if_pos ⟨by omega, by omega⟩, Nat.zero_add, Nat.sub_zero]
theorem copyLaw_g {a b : Nat} {μ : Mem} (hd : a + 6 < b ∨ b + 6 < a) : ∃ μ', f_X1_copyFrom G a b μ = some μ' ∧ μ' a 6 = μ b 6 ∧ (∀ k, k < 400 → μ' (a + 1) k = μ (b + 1) k) ∧ (∀ k, k < 16 → μ' (a + 2) k = μ (b + 2) k ∧ μ' (a + 3) k = μ (b + 3) k ∧ μ' (a + 4) k = μ (b + 4) k ∧ μ' (a + 5) k = μ (b + 5) k) ∧ ∀ x, ¬ (a ≤ x ∧ x ≤ a + 5) → μ' x = μ x := by
  let m1 := cpy μ (b + 1) (a + 1) 0 0 400
  let m2 := cpy m1 (b + 2) (a + 2) 0 0 16
  let m3 := cpy m2 (b + 3) (a + 3) 0 0 16
  let m4 := cpy m3 (b + 4) (a + 4) 0 0 16
  let m5 := cpy m4 (b + 5) (a + 5) 0 0 16
  have o1 : ∀ x, x ≠ a + 1 → m1 x = μ x := fun x h => cpy_off h
  have o2 : ∀ x, x ≠ a + 1 → x ≠ a + 2 → m2 x = μ x := fun x h h2 => (cpy_off h2).trans (o1 x h)
  have o3 : ∀ x, x ≠ a + 1 → x ≠ a + 2 → x ≠ a + 3 → m3 x = μ x := fun x h h2 h3 => (cpy_off h3).trans (o2 x h h2)
  have o4 : ∀ x, x ≠ a + 1 → x ≠ a + 2 → x ≠ a + 3 → x ≠ a + 4 → m4 x = μ x := fun x h h2 h3 h4 => (cpy_off h4).trans (o3 x h h2 h3)
  have o5 : ∀ x, x ≠ a + 1 → x ≠ a + 2 → x ≠ a + 3 → x ≠ a + 4 → x ≠ a + 5 → m5 x = μ x := fun x h h2 h3 h4 h5 => (cpy_off h5).trans (o4 x h h2 h3 h4)
  have p5 : ∀ x, x ≠ a + 5 → m5 x = m4 x := fun x h => cpy_off h
  have p4 : ∀ x, x ≠ a + 4 → m4 x = m3 x := fun x h => cpy_off h
  have p3 : ∀ x, x ≠ a + 3 → m3 x = m2 x := fun x h => cpy_off h
  have p2 : ∀ x, x ≠ a + 2 → m2 x = m1 x := fun x h => cpy_off h
  have q : ∀ x, x ≠ a → (wr (wr m5 a 6 (m5 b 6)) a 7 ((wr m5 a 6 (m5 b 6)) b 7)) x = m5 x := fun x h => by rw [wr_off h, wr_off h]
  refine ⟨wr (wr m5 a 6 (m5 b 6)) a 7 ((wr m5 a 6 (m5 b 6)) b 7), rfl, ?_, fun k hk => ?_, fun k hk => ⟨?_, ?_, ?_, ?_⟩, fun x hx => ?_⟩
  · rw [wr_slot (by omega), wr_same, o5 b (by omega) (by omega) (by omega) (by omega) (by omega)]
  · rw [q _ (by omega), p5 _ (by omega), p4 _ (by omega), p3 _ (by omega), p2 _ (by omega)]
    exact cpy_at hk
  · rw [q _ (by omega), p5 _ (by omega), p4 _ (by omega), p3 _ (by omega)]
    exact (cpy_at hk).trans (by rw [o1 _ (by omega)])
  · rw [q _ (by omega), p5 _ (by omega), p4 _ (by omega)]
    exact (cpy_at hk).trans (by rw [o2 _ (by omega) (by omega)])
  · rw [q _ (by omega), p5 _ (by omega)]
    exact (cpy_at hk).trans (by rw [o3 _ (by omega) (by omega) (by omega)])
  · rw [q _ (by omega)]
    exact (cpy_at hk).trans (by rw [o4 _ (by omega) (by omega) (by omega) (by omega)])
  · rw [q _ (by omega), o5 x (by omega) (by omega) (by omega) (by omega) (by omega)]
/-- what is needed of a church that is written over -/
def TgW (a : Nat) (μ : Mem) : Prop := (∃ k, LnR μ (a + 19) 16 1 k) ∧ (∃ k, LnR μ (a + 21) 16 6 k) ∧ (∃ k, LnR μ (a + 23) 16 2 k) ∧ (∃ k, LnR μ (a + 25) 150 4 k) ∧ (∃ k, LnR μ (a + 27) 10 3 k) ∧ (∃ k, LnR μ (a + 29) 8 3 k) ∧ (∃ k, LnR μ (a + 31) 6 2 k) ∧ (∃ k, LnR μ (a + 33) 16 2 k) ∧ (∃ k, LnR μ (a + 35) 12 1 k) ∧ ∃ k, LnR μ (a + 37) 7 1 k
theorem TgW_of {a W M : Nat} {μ σ : Mem} (h : ChR a μ σ W M) : TgW a μ := by
  obtain ⟨_, _, _, ⟨n4, q4, _⟩, ⟨n5, q5, _⟩, ⟨n6, q6, _⟩, ⟨n7, _, _, q7, _⟩, _, ⟨n9, q9, _⟩, ⟨n10, q10, _⟩, ⟨n11, q11, _⟩, ⟨n12, _, _, q12, _⟩, ⟨n13, q13, _⟩, ⟨n14, q14, _⟩, _⟩ := h
  exact ⟨⟨_, q5⟩, ⟨_, q6⟩, ⟨_, q7⟩, ⟨_, q4⟩, ⟨_, q9⟩, ⟨_, q10⟩, ⟨_, q11⟩, ⟨_, q12⟩, ⟨_, q13⟩, ⟨_, q14⟩⟩
theorem cpyCh {a b W M : Nat} {μ σ : Mem} (hG : 500 ≤ G) (hd : a + 40 < b ∨ b + 40 < a) (T : TgW a μ) (h : ChR b μ σ W M) :
    ∃ μ', f_X0_copyFrom G a b μ = some μ' ∧ (∀ x, (x < a ∨ a + 39 < x) → μ' x = μ x) ∧ ChR a μ' σ W M := by
  obtain ⟨⟨k19, t19⟩, ⟨k21, t21⟩, ⟨k23, t23⟩, ⟨k25, t25⟩, ⟨k27, t27⟩, ⟨k29, t29⟩, ⟨k31, t31⟩, ⟨k33, t33⟩, ⟨k35, t35⟩, ⟨k37, t37⟩⟩ := T
  obtain ⟨⟨p1, p2, p3, p4, p5, p6, p7, p8, p9, p10, p11, p12⟩, h2, h3, ⟨n4, q4, r4, s4⟩, ⟨n5, q5, r5, s5⟩, ⟨n6, q6, r6, s6⟩, ⟨n7, A7, B7, q7, r7, s7, u7⟩, ⟨n8, q8, r8, s8, u8⟩, ⟨n9, q9, r9, s9⟩, ⟨n10, q10, r10, s10⟩, ⟨n11, q11, r11, s11⟩, ⟨n12, A12, B12, q12, r12, s12, u12⟩, ⟨n13, q13, r13, s13⟩, ⟨n14, q14, r14, s14⟩, h15⟩ := h
  obtain ⟨m2, c2, d2, e2⟩ := cpStd (G := G) (a := a + 1) (b := b + 1) (μ := μ) (by omega)
  let m3 := cpy m2 (b + 7) (a + 7) 0 0 12
  let m4 := cpy m3 (b + 8) (a + 8) 0 0 12
  let m5 := cpy m4 (b + 9) (a + 9) 0 0 12
  let m6 := cpy m5 (b + 10) (a + 10) 0 0 8
  let m7 := cpy m6 (b + 11) (a + 11) 0 0 8
  let m8 := wr m7 a 6 (m7 b 6)
  let m9 := wr m8 a 7 (m8 b 7)
  have d3 : ∀ x, x ≠ a + 7 → m3 x = m2 x := fun x hx => cpy_off hx
  have d4 : ∀ x, x ≠ a + 8 → m4 x = m3 x := fun x hx => cpy_off hx
  have d5 : ∀ x, x ≠ a + 9 → m5 x = m4 x := fun x hx => cpy_off hx
  have d6 : ∀ x, x ≠ a + 10 → m6 x = m5 x := fun x hx => cpy_off hx
  have d7 : ∀ x, x ≠ a + 11 → m7 x = m6 x := fun x hx => cpy_off hx
  have d9 : ∀ x, x ≠ a → m9 x = m7 x := fun x hx => (wr_off hx).trans (wr_off hx)
  have B9 : ∀ x, ¬ (a ≤ x ∧ x ≤ a + 11) → m9 x = μ x := fun x hx => by
    rw [d9 x (by omega), d7 x (by omega), d6 x (by omega), d5 x (by omega), d4 x (by omega), d3 x (by omega), d2 x (by omega)]
  obtain ⟨m11, c11, x11, y11, z11, d11⟩ := copyLaw_g (G := G) (a := a + 12) (b := b + 12) (μ := m9) (by omega)
  have B11 : ∀ x, ¬ (a ≤ x ∧ x ≤ a + 17) → m11 x = μ x := fun x hx => by rw [d11 x (by omega), B9 x (by omega)]
  obtain ⟨m13, c13, d13, l13, v13⟩ := cpyLn (G := G) (a := a + 19) (b := b + 19) (Na := 16) (Nb := 16) (LnR_o t19 (B11 (a + 19) (by omega))) (LnR_o q5 (B11 (b + 19) (by omega))) (by omega) (by omega) (by omega) (by omega) (by omega) (by omega) (by omega) (by omega) (by omega) q5.2.2.2 (by omega) (by omega) (by have := q5.2.2.2; omega)
  have B13 : ∀ x, ¬ (a ≤ x ∧ x ≤ a + 20) → m13 x = μ x := fun x hx => by rw [d13 x (by omega) (by omega), B11 x (by omega)]
  obtain ⟨m15, c15, d15, l15, v15⟩ := cpyLn (G := G) (a := a + 21) (b := b + 21) (Na := 96) (Nb := 96) (LnR_o t21 (B13 (a + 21) (by omega))) (LnR_o q6 (B13 (b + 21) (by omega))) (by omega) (by omega) (by omega) (by omega) (by omega) (by omega) (by omega) (by omega) (by omega) q6.2.2.2 (by omega) (by omega) (by have := q6.2.2.2; omega)
  have B15 : ∀ x, ¬ (a ≤ x ∧ x ≤ a + 22) → m15 x = μ x := fun x hx => by rw [d15 x (by omega) (by omega), B13 x (by omega)]
  obtain ⟨m17, c17, d17, l17, v17⟩ := cpyLn (G := G) (a := a + 23) (b := b + 23) (Na := 32) (Nb := 32) (LnR_o t23 (B15 (a + 23) (by omega))) (LnR_o q7 (B15 (b + 23) (by omega))) (by omega) (by omega) (by omega) (by omega) (by omega) (by omega) (by omega) (by omega) (by omega) q7.2.2.2 (by omega) (by omega) (by have := q7.2.2.2; omega)
  have B17 : ∀ x, ¬ (a ≤ x ∧ x ≤ a + 24) → m17 x = μ x := fun x hx => by rw [d17 x (by omega) (by omega), B15 x (by omega)]
  obtain ⟨m19, c19, d19, l19, v19⟩ := cpyLn (G := G) (a := a + 25) (b := b + 25) (Na := 600) (Nb := 600) (LnR_o t25 (B17 (a + 25) (by omega))) (LnR_o q4 (B17 (b + 25) (by omega))) (by omega) (by omega) (by omega) (by omega) (by omega) (by omega) (by omega) (by omega) (by omega) q4.2.2.2 (by omega) (by omega) (by have := q4.2.2.2; omega)
  have B19 : ∀ x, ¬ (a ≤ x ∧ x ≤ a + 26) → m19 x = μ x := fun x hx => by rw [d19 x (by omega) (by omega), B17 x (by omega)]
  obtain ⟨m21, c21, d21, l21, v21⟩ := cpyLn (G := G) (a := a + 27) (b := b + 27) (Na := 30) (Nb := 30) (LnR_o t27 (B19 (a + 27) (by omega))) (LnR_o q9 (B19 (b + 27) (by omega))) (by omega) (by omega) (by omega) (by omega) (by omega) (by omega) (by omega) (by omega) (by omega) q9.2.2.2 (by omega) (by omega) (by have := q9.2.2.2; omega)
  have B21 : ∀ x, ¬ (a ≤ x ∧ x ≤ a + 28) → m21 x = μ x := fun x hx => by rw [d21 x (by omega) (by omega), B19 x (by omega)]
  obtain ⟨m23, c23, d23, l23, v23⟩ := cpyLn (G := G) (a := a + 29) (b := b + 29) (Na := 24) (Nb := 24) (LnR_o t29 (B21 (a + 29) (by omega))) (LnR_o q10 (B21 (b + 29) (by omega))) (by omega) (by omega) (by omega) (by omega) (by omega) (by omega) (by omega) (by omega) (by omega) q10.2.2.2 (by omega) (by omega) (by have := q10.2.2.2; omega)
  have B23 : ∀ x, ¬ (a ≤ x ∧ x ≤ a + 30) → m23 x = μ x := fun x hx => by rw [d23 x (by omega) (by omega), B21 x (by omega)]
  obtain ⟨m25, c25, d25, l25, v25⟩ := cpyLn (G := G) (a := a + 31) (b := b + 31) (Na := 12) (Nb := 12) (LnR_o t31 (B23 (a + 31) (by omega))) (LnR_o q11 (B23 (b + 31) (by omega))) (by omega) (by omega) (by omega) (by omega) (by omega) (by omega) (by omega) (by omega) (by omega) q11.2.2.2 (by omega) (by omega) (by have := q11.2.2.2; omega)
  have B25 : ∀ x, ¬ (a ≤ x ∧ x ≤ a + 32) → m25 x = μ x := fun x hx => by rw [d25 x (by omega) (by omega), B23 x (by omega)]
  obtain ⟨m27, c27, d27, l27, v27⟩ := cpyLn (G := G) (a := a + 33) (b := b + 33) (Na := 32) (Nb := 32) (LnR_o t33 (B25 (a + 33) (by omega))) (LnR_o q12 (B25 (b + 33) (by omega))) (by omega) (by omega) (by omega) (by omega) (by omega) (by omega) (by omega) (by omega) (by omega) q12.2.2.2 (by omega) (by omega) (by have := q12.2.2.2; omega)
  have B27 : ∀ x, ¬ (a ≤ x ∧ x ≤ a + 34) → m27 x = μ x := fun x hx => by rw [d27 x (by omega) (by omega), B25 x (by omega)]
  obtain ⟨m29, c29, d29, l29, v29⟩ := cpyLn (G := G) (a := a + 35) (b := b + 35) (Na := 12) (Nb := 12) (LnR_o t35 (B27 (a + 35) (by omega))) (LnR_o q13 (B27 (b + 35) (by omega))) (by omega) (by omega) (by omega) (by omega) (by omega) (by omega) (by omega) (by omega) (by omega) q13.2.2.2 (by omega) (by omega) (by have := q13.2.2.2; omega)
  have B29 : ∀ x, ¬ (a ≤ x ∧ x ≤ a + 36) → m29 x = μ x := fun x hx => by rw [d29 x (by omega) (by omega), B27 x (by omega)]
  obtain ⟨m31, c31, d31, l31, v31⟩ := cpyLn (G := G) (a := a + 37) (b := b + 37) (Na := 7) (Nb := 7) (LnR_o t37 (B29 (a + 37) (by omega))) (LnR_o q14 (B29 (b + 37) (by omega))) (by omega) (by omega) (by omega) (by omega) (by omega) (by omega) (by omega) (by omega) (by omega) q14.2.2.2 (by omega) (by omega) (by have := q14.2.2.2; omega)
  have B31 : ∀ x, ¬ (a ≤ x ∧ x ≤ a + 38) → m31 x = μ x := fun x hx => by rw [d31 x (by omega) (by omega), B29 x (by omega)]
  let m32 := cpy m31 (b + 39) (a + 39) 0 0 6
  have d32 : ∀ x, x ≠ a + 39 → m32 x = m31 x := fun x hx => cpy_off hx
  have up31 : ∀ x, x ≠ a + 39 → m32 x = m31 x := d32
  have up29 : ∀ x, x < a + 37 → m32 x = m29 x := fun x hx => by rw [up31 x (by omega), d31 x (by omega) (by omega)]
  have up27 : ∀ x, x < a + 35 → m32 x = m27 x := fun x hx => by rw [up29 x (by omega), d29 x (by omega) (by omega)]
  have up25 : ∀ x, x < a + 33 → m32 x = m25 x := fun x hx => by rw [up27 x (by omega), d27 x (by omega) (by omega)]
  have up23 : ∀ x, x < a + 31 → m32 x = m23 x := fun x hx => by rw [up25 x (by omega), d25 x (by omega) (by omega)]
  have up21 : ∀ x, x < a + 29 → m32 x = m21 x := fun x hx => by rw [up23 x (by omega), d23 x (by omega) (by omega)]
  have up19 : ∀ x, x < a + 27 → m32 x = m19 x := fun x hx => by rw [up21 x (by omega), d21 x (by omega) (by omega)]
  have up17 : ∀ x, x < a + 25 → m32 x = m17 x := fun x hx => by rw [up19 x (by omega), d19 x (by omega) (by omega)]
  have up15 : ∀ x, x < a + 23 → m32 x = m15 x := fun x hx => by rw [up17 x (by omega), d17 x (by omega) (by omega)]
  have up13 : ∀ x, x < a + 21 → m32 x = m13 x := fun x hx => by rw [up15 x (by omega), d15 x (by omega) (by omega)]
  have up11 : ∀ x, x < a + 19 → m32 x = m11 x := fun x hx => by rw [up13 x (by omega), d13 x (by omega) (by omega)]
  have up9 : ∀ x, x < a + 12 → m32 x = m9 x := fun x hx => by rw [up11 x (by omega), d11 x (by omega)]
  have up7 : ∀ x, x < a + 12 → x ≠ a → m32 x = m7 x := fun x hx h0 => by rw [up9 x hx, d9 x h0]
  have up2 : ∀ x, a < x → x < a + 7 → m32 x = m2 x := fun x h0 hx => by rw [up7 x (by omega) (by omega), d7 x (by omega), d6 x (by omega), d5 x (by omega), d4 x (by omega), d3 x (by omega)]
  have bb : ∀ x, b ≤ x → x ≤ b + 39 → m2 x = μ x := fun x h1 h2 => d2 x (by omega)
  have r25 : m32 (a + 25) 3 = nI n4 := (LnR_o l19 (up19 (a + 25) (by omega))).2.2.1
  have it : ∀ {i w n : Nat} {mm : Mem}, (∀ x, x < a + i + 2 → x ≠ a + 39 → m32 x = mm x) → i ≤ 37 → (∀ p j, p < n → j < w → mm (a + i + 1) (p * w + j) = μ (b + i + 1) (p * w + j)) → ∀ p j, p < n → j < w → m32 (a + i + 1) (p * w + j) = μ (b + i + 1) (p * w + j) := fun {i w n mm} hu hi hv p j hp hj => by rw [hu _ (by omega) (by omega)]; exact hv p j hp hj
  refine ⟨m32, ?_, fun x hx => ?_, ⟨?_, p2, p3, ?_, p5, p6, fun k hk => ?_, fun k hk => ?_, fun k hk => ?_, fun k hk => ?_, fun k hk => ?_, p12⟩, ?_, h3, ?_, ?_, ?_, ?_, ?_, ?_, ?_, ?_, ?_, ?_, ?_, ?_⟩
  · unfold f_X0_copyFrom
    rw [c2, bndV_s]
    show bndV (f_X1_copyFrom G (a + 12) (b + 12) m9) _ = _
    rw [c11, bndV_s, c13, bndV_s, c15, bndV_s, c17, bndV_s, c19, bndV_s, c21, bndV_s, c23, bndV_s, c25, bndV_s, c27, bndV_s, c29, bndV_s, c31, bndV_s]
    rfl
  · rw [d32 x (by omega)]
    exact B31 x (by omega)
  · rw [up9 a (by omega)]
    show wr m8 a 7 (m8 b 7) a 6 = _
    rw [wr_slot (by omega)]
    show wr m7 a 6 (m7 b 6) a 6 = _
    rw [wr_same, d7 b (by omega), d6 b (by omega), d5 b (by omega), d4 b (by omega), d3 b (by omega), d2 b (by omega)]
    exact p1
  · rw [up9 a (by omega)]
    show wr m8 a 7 (m8 b 7) a 7 = _
    rw [wr_same]
    show wr m7 a 6 (m7 b 6) b 7 = _
    rw [wr_cell (by omega), d7 b (by omega), d6 b (by omega), d5 b (by omega), d4 b (by omega), d3 b (by omega), d2 b (by omega)]
    exact p4
  · rw [up7 _ (by omega) (by omega), d7 _ (by omega), d6 _ (by omega), d5 _ (by omega), d4 _ (by omega)]
    refine (cpy_at hk).trans ?_
    rw [d2 _ (by omega)]
    exact p7 k hk
  · rw [up7 _ (by omega) (by omega), d7 _ (by omega), d6 _ (by omega), d5 _ (by omega)]
    refine (cpy_at hk).trans ?_
    rw [d3 _ (by omega), d2 _ (by omega)]
    exact p8 k hk
  · rw [up7 _ (by omega) (by omega), d7 _ (by omega), d6 _ (by omega)]
    refine (cpy_at hk).trans ?_
    rw [d4 _ (by omega), d3 _ (by omega), d2 _ (by omega)]
    exact p9 k hk
  · rw [up7 _ (by omega) (by omega), d7 _ (by omega)]
    refine (cpy_at hk).trans ?_
    rw [d5 _ (by omega), d4 _ (by omega), d3 _ (by omega), d2 _ (by omega)]
    exact p10 k hk
  · rw [up7 _ (by omega) (by omega)]
    refine (cpy_at hk).trans ?_
    rw [d6 _ (by omega), d5 _ (by omega), d4 _ (by omega), d3 _ (by omega), d2 _ (by omega)]
    exact p11 k hk
  · rw [r25, ← q4.2.2.1]
    refine StR_cls (fun x g1 g2 => up2 x (by omega) (by omega)) ?_
    exact e2 _ _ _ h2
  · have e := it (i := 25) (fun x hx h9 => up19 x (by omega)) (by omega) (fun p j hp hj => by rw [v19 p j hp hj, B17 (b + 25 + 1) (by omega)])
    refine ⟨n4, LnR_o l19 (up19 (a + 25) (by omega)), r4, fun k hk => ?_⟩
    have := e (k / 4) (k % 4) (by omega) (by omega)
    rw [show k / 4 * 4 + k % 4 = k by omega] at this
    exact this.trans (s4 k hk)
  · have e := it (i := 19) (fun x hx h9 => up13 x (by omega)) (by omega) (fun p j hp hj => by rw [v13 p j hp hj, B11 (b + 19 + 1) (by omega)])
    refine ⟨n5, LnR_o l13 (up13 (a + 19) (by omega)), r5, fun k hk => ?_⟩
    have := e k 0 hk (by omega)
    rw [show k * 1 + 0 = k by omega] at this
    exact this.trans (s5 k hk)
  · have e := it (i := 21) (fun x hx h9 => up15 x (by omega)) (by omega) (fun p j hp hj => by rw [v15 p j hp hj, B13 (b + 21 + 1) (by omega)])
    refine ⟨n6, LnR_o l15 (up15 (a + 21) (by omega)), r6, fun i hi => DeR_c (s6 i hi) (fun k hk => ?_) (fun _ _ => rfl)⟩
    have := e i k hi hk
    rw [show i * 6 + k = 6 * i + k by omega] at this
    exact this
  · have e := it (i := 23) (fun x hx h9 => up17 x (by omega)) (by omega) (fun p j hp hj => by rw [v17 p j hp hj, B15 (b + 23 + 1) (by omega)])
    refine ⟨n7, A7, B7, LnR_o l17 (up17 (a + 23) (by omega)), r7, fun i hi => ?_, u7⟩
    have y0 := e i 0 hi (by omega)
    have y1 := e i 1 hi (by omega)
    rw [show i * 2 + 0 = 2 * i by omega] at y0
    rw [show i * 2 + 1 = 2 * i + 1 by omega] at y1
    obtain ⟨z1, z2, z3, z4, z5⟩ := s7 i hi
    exact ⟨z1, z2, z3, y0.trans z4, y1.trans z5⟩
  · have L : ∀ x, a + 12 ≤ x → x ≤ a + 17 → m32 x = m11 x := fun x h1 h2 => up11 x (by omega)
    refine ⟨n8, q8, by rw [L _ (by omega) (by omega), x11, B9 _ (by omega)]; exact r8, s8, fun l hl => ?_⟩
    obtain ⟨e, f, w, t, e1, e2, e3, e4, e5, e6, e7, e8, e9, e10, e11⟩ := u8 l hl
    obtain ⟨z1, z2, z3, z4⟩ := z11 l (by omega)
    have z1 : m11 (a + 14) l = m9 (b + 14) l := z1
    have z2 : m11 (a + 15) l = m9 (b + 15) l := z2
    have z3 : m11 (a + 16) l = m9 (b + 16) l := z3
    have z4 : m11 (a + 17) l = m9 (b + 17) l := z4
    refine ⟨e, f, w, t, e1, by rw [L _ (by omega) (by omega), z1, B9 _ (by omega)]; exact e2, e3, by rw [L _ (by omega) (by omega), z2, B9 _ (by omega)]; exact e4, e5, by rw [L _ (by omega) (by omega), z3, B9 _ (by omega)]; exact e6, e7, by rw [L _ (by omega) (by omega), z4, B9 _ (by omega)]; exact e8, e9, e10, fun i i1 i2 => ?_⟩
    have y : m11 (a + 13) i = m9 (b + 13) i := y11 i (by have := e10.2.2.1; omega)
    rw [L _ (by omega) (by omega), y, B9 _ (by omega)]
    exact e11 i i1 i2
  · have e := it (i := 27) (fun x hx h9 => up21 x (by omega)) (by omega) (fun p j hp hj => by rw [v21 p j hp hj, B19 (b + 27 + 1) (by omega)])
    refine ⟨n9, LnR_o l21 (up21 (a + 27) (by omega)), r9, fun i hi => ?_⟩
    have y0 := e i 0 hi (by omega)
    have y1 := e i 1 hi (by omega)
    have y2 := e i 2 hi (by omega)
    rw [show i * 3 + 0 = 3 * i by omega] at y0
    rw [show i * 3 + 1 = 3 * i + 1 by omega] at y1
    rw [show i * 3 + 2 = 3 * i + 2 by omega] at y2
    obtain ⟨z1, z2, z3⟩ := s9 i hi
    exact ⟨y0.trans z1, y1.trans z2, y2.trans z3⟩
  · have e := it (i := 29) (fun x hx h9 => up23 x (by omega)) (by omega) (fun p j hp hj => by rw [v23 p j hp hj, B21 (b + 29 + 1) (by omega)])
    refine ⟨n10, LnR_o l23 (up23 (a + 29) (by omega)), r10, fun i hi => ?_⟩
    have y0 := e i 0 hi (by omega)
    have y1 := e i 1 hi (by omega)
    have y2 := e i 2 hi (by omega)
    rw [show i * 3 + 0 = 3 * i by omega] at y0
    rw [show i * 3 + 1 = 3 * i + 1 by omega] at y1
    rw [show i * 3 + 2 = 3 * i + 2 by omega] at y2
    obtain ⟨q, r, e', z1, z2, z3, z4, z5, z6, z7⟩ := s10 i hi
    exact ⟨q, r, e', z1, z2, y0.trans z3, z4, y1.trans z5, y2.trans z6, z7⟩
  · have e := it (i := 31) (fun x hx h9 => up25 x (by omega)) (by omega) (fun p j hp hj => by rw [v25 p j hp hj, B23 (b + 31 + 1) (by omega)])
    refine ⟨n11, LnR_o l25 (up25 (a + 31) (by omega)), r11, fun i hi => ?_⟩
    have y0 := e i 0 hi (by omega)
    have y1 := e i 1 hi (by omega)
    rw [show i * 2 + 0 = 2 * i by omega] at y0
    rw [show i * 2 + 1 = 2 * i + 1 by omega] at y1
    obtain ⟨l, v, z1, z2, z3, z4, z5, z6, z7⟩ := s11 i hi
    exact ⟨l, v, z1, z2, z3, y0.trans z4, z5, y1.trans z6, z7⟩
  · have e := it (i := 33) (fun x hx h9 => up27 x (by omega)) (by omega) (fun p j hp hj => by rw [v27 p j hp hj, B25 (b + 33 + 1) (by omega)])
    refine ⟨n12, A12, B12, LnR_o l27 (up27 (a + 33) (by omega)), r12, fun i hi => ?_, u12⟩
    have y0 := e i 0 hi (by omega)
    have y1 := e i 1 hi (by omega)
    rw [show i * 2 + 0 = 2 * i by omega] at y0
    rw [show i * 2 + 1 = 2 * i + 1 by omega] at y1
    obtain ⟨z1, z2, z3, z4, z5⟩ := s12 i hi
    exact ⟨z1, z2, z3, y0.trans z4, y1.trans z5⟩
  · have e := it (i := 35) (fun x hx h9 => up29 x (by omega)) (by omega) (fun p j hp hj => by rw [v29 p j hp hj, B27 (b + 35 + 1) (by omega)])
    refine ⟨n13, LnR_o l29 (up29 (a + 35) (by omega)), r13, fun i hi => ?_⟩
    have y0 := e i 0 hi (by omega)
    rw [show i * 1 + 0 = i by omega] at y0
    obtain ⟨s, z1, z2, z3⟩ := s13 i hi
    exact ⟨s, z1, y0.trans z2, z3⟩
  · have e := it (i := 37) (fun x hx h9 => up31 x (by omega)) (by omega) (fun p j hp hj => by rw [v31 p j hp hj, B29 (b + 37 + 1) (by omega)])
    refine ⟨n14, LnR_o l31 (up31 (a + 37) (by omega)), r14, fun i hi => ?_⟩
    have y0 := e i 0 hi (by omega)
    rw [show i * 1 + 0 = i by omega] at y0
    obtain ⟨s, z1, z2, z3⟩ := s14 i hi
    exact ⟨s, z1, y0.trans z2, z3⟩
  · intro i hi
    obtain ⟨m, t, z1, z2, z3, z4, z5, z6⟩ := h15 i hi
    have y : ∀ k, k < 6 → m32 (a + 39) k = μ (b + 39) k := fun k hk => (cpy_at hk).trans (by rw [B31 _ (by omega)])
    exact ⟨m, t, z1, z2, (y _ (by omega)).trans z3, z4, (y _ (by omega)).trans z5, z6⟩
end
