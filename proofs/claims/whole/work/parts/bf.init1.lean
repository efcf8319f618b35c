section
variable {G : Nat}
theorem zr_off {m : Mem} {a x : Nat} (h : x ≠ a) : zr m a x = m x := by
  funext k
  unfold zr
  rw [if_neg h]
theorem zr_at {m : Mem} {a k : Nat} : zr m a a k = 0 := by
  unfold zr
  rw [if_pos rfl]
theorem bndV_c {α : Type} {x : Option Mem} {m : Mem} {k : Mem → Option α} (h : x = some m) : bndV x k = k m := by
  rw [h, bndV_s]
theorem x8_ok {a : Nat} {m : Mem} (hG : 500 ≤ G) : ∃ m', f_X8_init G a (zr m a) = some m' ∧ (∀ x, (x < a ∨ a + 5 < x) → m' x = m x) ∧ (∀ k, m' a k = 0) ∧ (∀ k, k < 12 → m' (a + 1) k = -1) ∧ (∀ k, k < 8 → m' (a + 2) k = -1) ∧ (∀ k, m' (a + 3) k = 0 ∧ m' (a + 4) k = 0 ∧ m' (a + 5) k = 0) := by
  obtain ⟨m7, a7, b7, c7⟩ := filln (G := G) (a := a + 1) (n := 12) (v := (-1 : Int32)) (μ := zr (zr (zr (zr (zr (zr m a) (a + 1)) (a + 2)) (a + 3)) (a + 4)) (a + 5)) (by omega) (by omega)
  obtain ⟨m9, a9, b9, c9⟩ := filln (G := G) (a := a + 2) (n := 8) (v := (-1 : Int32)) (μ := m7) (by omega) (by omega)
  refine ⟨m9, ?_, fun x hx => ?_, fun k => ?_, fun k hk => ?_, c9, fun k => ⟨?_, ?_, ?_⟩⟩
  · unfold f_X8_init
    show bndV (f_J7_fill_53178 G (a + 1) 12 (-1 : Int32) _) _ = _
    rw [a7, bndV_s, a9, bndV_s]
  · rw [b9 x (by omega), b7 x (by omega), zr_off (by omega), zr_off (by omega), zr_off (by omega), zr_off (by omega), zr_off (by omega), zr_off (by omega)]
  · rw [b9 _ (by omega), b7 _ (by omega), zr_off (by omega), zr_off (by omega), zr_off (by omega), zr_off (by omega), zr_off (by omega), zr_at]
  · rw [b9 _ (by omega), c7 k hk]
  · rw [b9 _ (by omega), b7 _ (by omega), zr_off (by omega), zr_off (by omega), zr_at]
  · rw [b9 _ (by omega), b7 _ (by omega), zr_off (by omega), zr_at]
  · rw [b9 _ (by omega), b7 _ (by omega), zr_at]
theorem x1_ok {a : Nat} {m : Mem} : ∃ m', f_X1_init G a (zr m a) = some m' ∧ (∀ x, (x < a ∨ a + 6 < x) → m' x = m x) ∧ (∀ x, a ≤ x → x ≤ a + 6 → ∀ k, m' x k = 0) := by
  refine ⟨_, rfl, fun x hx => ?_, fun x h1 h2 k => ?_⟩
  · rw [zr_off (by omega), zr_off (by omega), zr_off (by omega), zr_off (by omega), zr_off (by omega), zr_off (by omega), zr_off (by omega)]
  · unfold zr
    repeat' split
    all_goals first | rfl | omega
theorem x2_ok {c n w : Nat} {p1 p2 : Int32} {m : Mem} (h1 : imax 0 p1 = nI n) (h2 : imax 0 p2 = nI w) : ∃ m', f_X2_init G c p1 p2 (zr m c) = some m' ∧ (∀ x, (x < c ∨ c + 1 < x) → m' x = m x) ∧ LnR m' c n w 0 ∧ ∀ k, m' (c + 1) k = 0 := by
  refine ⟨_, rfl, fun x hx => ?_, ⟨?_, ?_, ?_, by omega⟩, fun k => ?_⟩
  · rw [wr_off (by omega), zr_off (by omega), wr_off (by omega), wr_off (by omega), zr_off (by omega)]
  · rw [wr_slot (by omega), zr_off (by omega), wr_slot (by omega), wr_same, h1]
  · rw [wr_slot (by omega), zr_off (by omega), wr_same, h2]
  · rw [wr_same]; rfl
  · rw [wr_cell (by omega), zr_at]

theorem x0_ok {a : Nat} {m : Mem} (hG : 500 ≤ G) : ∃ m', f_X0_init G a (zr m a) = some m' ∧ (∀ x, (x < a ∨ a + 39 < x) → m' x = m x) ∧ (∀ k, m' a k = 0) ∧ (∀ k, m' (a + 1) k = 0) ∧ (∀ k, k < 12 → m' (a + 2) k = -1) ∧ (∀ k, k < 8 → m' (a + 3) k = -1) ∧ (∀ k, m' (a + 4) k = 0 ∧ m' (a + 5) k = 0 ∧ m' (a + 6) k = 0) ∧ (∀ x, a + 7 ≤ x → x ≤ a + 18 → ∀ k, m' x k = 0) ∧ (LnR m' (a + 19) 16 1 0 ∧ LnR m' (a + 21) 16 6 0 ∧ LnR m' (a + 23) 16 2 0 ∧ LnR m' (a + 25) 150 4 0 ∧ LnR m' (a + 27) 10 3 0 ∧ LnR m' (a + 29) 8 3 0 ∧ LnR m' (a + 31) 6 2 0 ∧ LnR m' (a + 33) 16 2 0 ∧ LnR m' (a + 35) 12 1 0 ∧ LnR m' (a + 37) 7 1 0) ∧ m' (a + 39) 0 = 1 ∧ m' (a + 39) 1 = 0 ∧ m' (a + 39) 2 = 1 ∧ m' (a + 39) 3 = 0 ∧ m' (a + 39) 4 = 1 ∧ m' (a + 39) 5 = 0 := by
  obtain ⟨m2, a2, b2, c2, d2, e2, f2⟩ := x8_ok (G := G) (a := a + 1) (m := zr m a) hG
  let m9 := zr (zr (zr (zr (zr m2 (a + 7)) (a + 8)) (a + 9)) (a + 10)) (a + 11)
  obtain ⟨m10, a10, b10, c10⟩ := x1_ok (G := G) (a := a + 12) (m := m9)
  obtain ⟨m19, a19, b19, c19, d19⟩ := x2_ok (G := G) (c := a + 19) (n := 16) (w := 1) (p1 := (16 : Int32)) (p2 := (1 : Int32)) (m := m10) (by decide) (by decide)
  obtain ⟨m21, a21, b21, c21, d21⟩ := x2_ok (G := G) (c := a + 21) (n := 16) (w := 6) (p1 := (16 : Int32)) (p2 := (6 : Int32)) (m := m19) (by decide) (by decide)
  obtain ⟨m23, a23, b23, c23, d23⟩ := x2_ok (G := G) (c := a + 23) (n := 16) (w := 2) (p1 := (16 : Int32)) (p2 := (2 : Int32)) (m := m21) (by decide) (by decide)
  obtain ⟨m25, a25, b25, c25, d25⟩ := x2_ok (G := G) (c := a + 25) (n := 150) (w := 4) (p1 := (150 : Int32)) (p2 := (4 : Int32)) (m := m23) (by decide) (by decide)
  obtain ⟨m27, a27, b27, c27, d27⟩ := x2_ok (G := G) (c := a + 27) (n := 10) (w := 3) (p1 := (10 : Int32)) (p2 := (3 : Int32)) (m := m25) (by decide) (by decide)
  obtain ⟨m29, a29, b29, c29, d29⟩ := x2_ok (G := G) (c := a + 29) (n := 8) (w := 3) (p1 := (8 : Int32)) (p2 := (3 : Int32)) (m := m27) (by decide) (by decide)
  obtain ⟨m31, a31, b31, c31, d31⟩ := x2_ok (G := G) (c := a + 31) (n := 6) (w := 2) (p1 := (6 : Int32)) (p2 := (2 : Int32)) (m := m29) (by decide) (by decide)
  obtain ⟨m33, a33, b33, c33, d33⟩ := x2_ok (G := G) (c := a + 33) (n := 16) (w := 2) (p1 := (16 : Int32)) (p2 := (2 : Int32)) (m := m31) (by decide) (by decide)
  obtain ⟨m35, a35, b35, c35, d35⟩ := x2_ok (G := G) (c := a + 35) (n := 12) (w := 1) (p1 := (12 : Int32)) (p2 := (1 : Int32)) (m := m33) (by decide) (by decide)
  obtain ⟨m37, a37, b37, c37, d37⟩ := x2_ok (G := G) (c := a + 37) (n := 7) (w := 1) (p1 := (7 : Int32)) (p2 := (1 : Int32)) (m := m35) (by decide) (by decide)
  let mf := wr (wr (wr (wr (wr (wr (zr m37 (a + 39)) (a + 39) 0 (1 : Int32)) (a + 39) 1 (0 : Int32)) (a + 39) 2 (1 : Int32)) (a + 39) 3 (0 : Int32)) (a + 39) 4 (1 : Int32)) (a + 39) 5 (0 : Int32)
  have of : ∀ x, x ≠ a + 39 → mf x = m37 x := fun x hx => by
    show wr (wr (wr (wr (wr (wr (zr m37 (a + 39)) (a + 39) 0 (1 : Int32)) (a + 39) 1 (0 : Int32)) (a + 39) 2 (1 : Int32)) (a + 39) 3 (0 : Int32)) (a + 39) 4 (1 : Int32)) (a + 39) 5 (0 : Int32) x = _
    rw [wr_off hx, wr_off hx, wr_off hx, wr_off hx, wr_off hx, wr_off hx, zr_off hx]
  have up37 : ∀ x, (x ≤ a + 38 ∨ a + 39 < x) → mf x = m37 x := fun x hx => of x (by omega)
  have up35 : ∀ x, (x ≤ a + 36 ∨ a + 39 < x) → mf x = m35 x := fun x hx => by rw [up37 x (by omega), b37 x (by omega)]
  have up33 : ∀ x, (x ≤ a + 34 ∨ a + 39 < x) → mf x = m33 x := fun x hx => by rw [up35 x (by omega), b35 x (by omega)]
  have up31 : ∀ x, (x ≤ a + 32 ∨ a + 39 < x) → mf x = m31 x := fun x hx => by rw [up33 x (by omega), b33 x (by omega)]
  have up29 : ∀ x, (x ≤ a + 30 ∨ a + 39 < x) → mf x = m29 x := fun x hx => by rw [up31 x (by omega), b31 x (by omega)]
  have up27 : ∀ x, (x ≤ a + 28 ∨ a + 39 < x) → mf x = m27 x := fun x hx => by rw [up29 x (by omega), b29 x (by omega)]
  have up25 : ∀ x, (x ≤ a + 26 ∨ a + 39 < x) → mf x = m25 x := fun x hx => by rw [up27 x (by omega), b27 x (by omega)]
  have up23 : ∀ x, (x ≤ a + 24 ∨ a + 39 < x) → mf x = m23 x := fun x hx => by rw [up25 x (by omega), b25 x (by omega)]
  have up21 : ∀ x, (x ≤ a + 22 ∨ a + 39 < x) → mf x = m21 x := fun x hx => by rw [up23 x (by omega), b23 x (by omega)]
  have up19 : ∀ x, (x ≤ a + 20 ∨ a + 39 < x) → mf x = m19 x := fun x hx => by rw [up21 x (by omega), b21 x (by omega)]
  have up10 : ∀ x, (x ≤ a + 18 ∨ a + 39 < x) → mf x = m10 x := fun x hx => by rw [up19 x (by omega), b19 x (by omega)]
  have up9 : ∀ x, (x ≤ a + 11 ∨ a + 39 < x) → mf x = m9 x := fun x hx => by rw [up10 x (by omega), b10 x (by omega)]
  have up2 : ∀ x, (x ≤ a + 6 ∨ a + 39 < x) → mf x = m2 x := fun x hx => by
    rw [up9 x (by omega)]
    show zr (zr (zr (zr (zr m2 (a + 7)) (a + 8)) (a + 9)) (a + 10)) (a + 11) x = _
    rw [zr_off (by omega), zr_off (by omega), zr_off (by omega), zr_off (by omega), zr_off (by omega)]
  refine ⟨mf, ?_, fun x hx => ?_, fun k => ?_, fun k => ?_, fun k hk => ?_, fun k hk => ?_, fun k => ⟨?_, ?_, ?_⟩, fun x h1 h2 k => ?_, ⟨?_, ?_, ?_, ?_, ?_, ?_, ?_, ?_, ?_, ?_⟩, ?_, ?_, ?_, ?_, ?_, ?_⟩
  · unfold f_X0_init
    show bndV (f_X8_init G (a + 1) (zr (zr m a) (a + 1))) _ = _
    rw [a2, bndV_s]
    show bndV (f_X1_init G (a + 12) (zr m9 (a + 12))) _ = _
    refine Eq.trans (bndV_c a10) ?_
    refine Eq.trans (bndV_c a19) ?_
    refine Eq.trans (bndV_c a21) ?_
    refine Eq.trans (bndV_c a23) ?_
    refine Eq.trans (bndV_c a25) ?_
    refine Eq.trans (bndV_c a27) ?_
    refine Eq.trans (bndV_c a29) ?_
    refine Eq.trans (bndV_c a31) ?_
    refine Eq.trans (bndV_c a33) ?_
    refine Eq.trans (bndV_c a35) ?_
    refine Eq.trans (bndV_c a37) ?_
    rfl
  · rw [up2 x (by omega), b2 x (by omega), zr_off (by omega)]
  · rw [up2 a (by omega), b2 a (by omega), zr_at]
  · rw [up2 _ (by omega), c2]
  · rw [up2 _ (by omega)]; exact d2 k hk
  · rw [up2 _ (by omega)]; exact e2 k hk
  · rw [up2 _ (by omega)]; exact (f2 k).1
  · rw [up2 _ (by omega)]; exact (f2 k).2.1
  · rw [up2 _ (by omega)]; exact (f2 k).2.2
  · by_cases q : x ≤ a + 11
    · rw [up9 x (by omega)]
      show zr (zr (zr (zr (zr m2 (a + 7)) (a + 8)) (a + 9)) (a + 10)) (a + 11) x k = 0
      unfold zr
      repeat' split
      all_goals first | rfl | omega
    · rw [up10 x (by omega)]
      exact c10 x (by omega) (by omega) k
  · exact LnR_o c19 (up19 _ (by omega))
  · exact LnR_o c21 (up21 _ (by omega))
  · exact LnR_o c23 (up23 _ (by omega))
  · exact LnR_o c25 (up25 _ (by omega))
  · exact LnR_o c27 (up27 _ (by omega))
  · exact LnR_o c29 (up29 _ (by omega))
  · exact LnR_o c31 (up31 _ (by omega))
  · exact LnR_o c33 (up33 _ (by omega))
  · exact LnR_o c35 (up35 _ (by omega))
  · exact LnR_o c37 (up37 _ (by omega))
  · simp [mf, wr]
  · simp [mf, wr]
  · simp [mf, wr]
  · simp [mf, wr]
  · simp [mf, wr]
  · simp [mf, wr]
end
