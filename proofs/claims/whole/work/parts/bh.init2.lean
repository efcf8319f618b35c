section
variable {G : Nat}
theorem x5_ok {a : Nat} {m : Mem} : ∃ m', f_X5_init G a (zr m a) = some m' ∧ (∀ x, (x < a ∨ a + 12 < x) → m' x = m x) ∧ (∀ k, k ≠ 7 → m' a k = 0) ∧ m' a 7 = -1 ∧ LnR m' (a + 11) 16 6 0 := by
  let m3 := zr (zr (zr (zr m a) (a + 1)) (a + 2)) (a + 3)
  obtain ⟨m5, a5, b5, _⟩ := x1_ok (G := G) (a := a + 4) (m := m3)
  obtain ⟨m8, a8, b8, c8, _⟩ := x2_ok (G := G) (c := a + 11) (n := 16) (w := 6) (p1 := (16 : Int32)) (p2 := (6 : Int32)) (m := m5) (by decide) (by decide)
  refine ⟨wr m8 a 7 (-1), ?_, fun x hx => ?_, fun k hk => ?_, wr_same, LnR_o c8 (wr_off (by omega))⟩
  · unfold f_X5_init
    refine Eq.trans (bndV_c a5) ?_
    refine Eq.trans (bndV_c a8) ?_
    rfl
  · rw [wr_off (by omega), b8 x (by omega), b5 x (by omega)]
    show zr (zr (zr (zr m a) (a + 1)) (a + 2)) (a + 3) x = _
    rw [zr_off (by omega), zr_off (by omega), zr_off (by omega), zr_off (by omega)]
  · rw [wr_slot hk, b8 a (by omega), b5 a (by omega)]
    show zr (zr (zr (zr m a) (a + 1)) (a + 2)) (a + 3) a k = _
    rw [zr_off (by omega), zr_off (by omega), zr_off (by omega), zr_at]
theorem x3_ok {a : Nat} {m : Mem} (hG : 500 ≤ G) : ∃ m', f_X3_init G a (zr m a) = some m' ∧ (∀ x, (x < a ∨ a + 38 < x) → m' x = m x) ∧ (∀ k, m' a k = 0) := by
  let m2 := zr (zr (zr m a) (a + 1)) (a + 2)
  obtain ⟨n1, a1, b1, _⟩ := x8_ok (G := G) (a := a + 3) (m := m2) hG
  obtain ⟨n2, a2, b2, _⟩ := x8_ok (G := G) (a := a + 9) (m := n1) hG
  obtain ⟨n3, a3, b3, _⟩ := x8_ok (G := G) (a := a + 15) (m := n2) hG
  obtain ⟨n4, a4, b4, _⟩ := x8_ok (G := G) (a := a + 21) (m := n3) hG
  obtain ⟨n5, a5, b5, _⟩ := x8_ok (G := G) (a := a + 27) (m := n4) hG
  obtain ⟨n6, a6, b6, _⟩ := x8_ok (G := G) (a := a + 33) (m := n5) hG
  refine ⟨n6, ?_, fun x hx => ?_, fun k => ?_⟩
  · unfold f_X3_init
    refine Eq.trans (bndV_c a1) ?_
    refine Eq.trans (bndV_c a2) ?_
    refine Eq.trans (bndV_c a3) ?_
    refine Eq.trans (bndV_c a4) ?_
    refine Eq.trans (bndV_c a5) ?_
    refine Eq.trans (bndV_c a6) ?_
    rfl
  · rw [b6 x (by omega), b5 x (by omega), b4 x (by omega), b3 x (by omega), b2 x (by omega), b1 x (by omega)]
    show zr (zr (zr m a) (a + 1)) (a + 2) x = _
    rw [zr_off (by omega), zr_off (by omega), zr_off (by omega)]
  · rw [b6 a (by omega), b5 a (by omega), b4 a (by omega), b3 a (by omega), b2 a (by omega), b1 a (by omega)]
    show zr (zr (zr m a) (a + 1)) (a + 2) a k = _
    rw [zr_off (by omega), zr_off (by omega), zr_at]
theorem x7_ok {a b : Nat} {m : Mem} : ∃ m', f_X7_init G a b (zr m a) = some m' ∧ (∀ x, (x < a ∨ a + 5 < x) → m' x = m x) := by
  refine ⟨_, rfl, fun x hx => ?_⟩
  rw [zr_off (by omega), zr_off (by omega), zr_off (by omega), zr_off (by omega), zr_off (by omega), zr_off (by omega)]
theorem x9_ok {a : Nat} {m : Mem} : ∃ m', f_X9_init G a (zr m a) = some m' ∧ (∀ x, (x < a ∨ a + 1 < x) → m' x = m x) := by
  refine ⟨_, rfl, fun x hx => ?_⟩
  rw [zr_off (by omega), zr_off (by omega)]
theorem pl_v : ∀ k, k < 216 → ((sl (1 : Int32) (nI k / (36 : Int32))) ||| (sl (1 : Int32) ((6 : Int32) + (irm (nI k / (6 : Int32)) (6 : Int32))))) ||| (sl (1 : Int32) ((12 : Int32) + (irm (nI k) (6 : Int32)))) = plA k := by decide +kernel
theorem ta_v : ∀ k, k < 216 → f_X4_oneMore (f_X4_oneMore (f_X4_oneMore (0 : Int32) (nI k / (36 : Int32))) (irm (nI k / (6 : Int32)) (6 : Int32))) (irm (nI k) (6 : Int32)) = taA k := by decide +kernel
theorem x4_ok {a : Nat} {m : Mem} (hG : 500 ≤ G) : ∃ m', f_X4_init G a (zr m a) = some m' ∧ (∀ x, (x < a ∨ a + 4 < x) → m' x = m x) ∧ m' a 4 = -2 ∧ m' a 5 = -2 ∧ ∀ r, r < 216 → m' (a + 1) r = plA r ∧ m' (a + 2) r = taA r := by
  let m4 := zr (zr (zr (zr (zr m a) (a + 1)) (a + 2)) (a + 3)) (a + 4)
  obtain ⟨g', s', k1, h1, h2⟩ := loopZ (fun g v (s : Mem) => f_X4_init_L41 G a g v s) 216 (fun k s => (∀ x, x ≠ a + 1 → x ≠ a + 2 → s x = m4 x) ∧ ∀ r, r < k → s (a + 1) r = plA r ∧ s (a + 2) r = taA r) (by
    intro g k s hk ⟨i1, i2⟩
    refine ⟨wr (wr s (a + 1) k (plA k)) (a + 2) k (taA k), ?_, fun x g1 g2 => ?_, fun r hr => ?_⟩
    · show f_X4_init_L41 G a (g + 1) (nI k) s = f_X4_init_L41 G a g (nI (k + 1)) (wr (wr s (a + 1) k (plA k)) (a + 2) k (taA k))
      rw [f_X4_init_L41, if_neg (show ¬ (216 : Int32) ≤ nI k from nI_ge (b := 216) hk (by omega)), chkn (by omega) (by omega)]
      refine Eq.trans (chkn (by omega) (by omega)) ?_
      show f_X4_init_L41 G a g (nI k + 1) (wr (wr s (a + 1) (ix (nI k)) _) (a + 2) (ix (nI k)) _) = _
      rw [pl_v k hk, ta_v k hk, ixn (by omega), nI_1]
    · rw [wr_off g2, wr_off g1]; exact i1 x g1 g2
    · by_cases e : r = k
      · subst e
        rw [wr_cell (by omega), wr_same, wr_same]
        exact ⟨rfl, rfl⟩
      · rw [wr_cell (by omega), wr_slot e, wr_slot e, wr_cell (by omega)]
        exact i2 r (by omega)) (by omega : 216 < G) (s := m4) ⟨fun _ _ _ => rfl, fun r hr => absurd hr (by omega)⟩
  have z : ∀ x, x ≠ a → (wr (wr s' a 4 (-2)) a 5 (-2)) x = s' x := fun x hx => by rw [wr_off hx, wr_off hx]
  refine ⟨wr (wr s' a 4 (-2)) a 5 (-2), ?_, fun x hx => ?_, ?_, wr_same, fun r hr => ?_⟩
  · unfold f_X4_init
    refine Eq.trans k1 ?_
    show f_X4_init_L41 G a (g' + 1) (nI 216) s' = _
    rw [f_X4_init_L41, if_pos (by decide)]
  · rw [z x (by omega), h1 x (by omega) (by omega)]
    show zr (zr (zr (zr (zr m a) (a + 1)) (a + 2)) (a + 3)) (a + 4) x = _
    rw [zr_off (by omega), zr_off (by omega), zr_off (by omega), zr_off (by omega), zr_off (by omega)]
  · rw [wr_slot (by omega), wr_same]
  · rw [z _ (by omega), z _ (by omega)]
    exact h2 r hr
/-- the class's first memory -/
theorem x11_ok {m : Mem} (hG : 500 ≤ G) : ∃ m', f_X11_init G 0 (zr m 0) = some m' ∧ (∀ k, m' 1 k = 0) ∧ (∀ k, m' 2 k = 0) ∧ (∀ k, k < 12 → m' 3 k = -1) ∧ (∀ k, k < 8 → m' 4 k = -1) ∧ (∀ k, m' 5 k = 0 ∧ m' 6 k = 0 ∧ m' 7 k = 0) ∧ (∀ x, 8 ≤ x → x ≤ 19 → ∀ k, m' x k = 0) ∧ (LnR m' 20 16 1 0 ∧ LnR m' 22 16 6 0 ∧ LnR m' 24 16 2 0 ∧ LnR m' 26 150 4 0 ∧ LnR m' 28 10 3 0 ∧ LnR m' 30 8 3 0 ∧ LnR m' 32 6 2 0 ∧ LnR m' 34 16 2 0 ∧ LnR m' 36 12 1 0 ∧ LnR m' 38 7 1 0) ∧ (m' 40 0 = 1 ∧ m' 40 1 = 0 ∧ m' 40 2 = 1 ∧ m' 40 3 = 0 ∧ m' 40 4 = 1 ∧ m' 40 5 = 0) ∧
    (∀ k, k ≠ 7 → m' 41 k = 0) ∧ m' 41 7 = -1 ∧ LnR m' 52 16 6 0 ∧ (∀ k, m' 54 k = 0) ∧ m' 105 4 = -2 ∧ m' 105 5 = -2 ∧ ∀ r, r < 216 → m' 106 r = plA r ∧ m' 107 r = taA r := by
  obtain ⟨n1, a1, b1, c1, c2, c3, c4, c5, c6, ⟨l1, l2, l3, l4, l5, l6, l7, l8, l9, l10⟩, c7⟩ := x0_ok (G := G) (a := 0 + 1) (m := zr m 0) hG
  obtain ⟨n2, a2, b2, d1, d2, d3⟩ := x5_ok (G := G) (a := 0 + 41) (m := n1)
  obtain ⟨n3, a3, b3, e1⟩ := x3_ok (G := G) (a := 0 + 54) (m := n2) hG
  obtain ⟨n4, a4, b4⟩ := x7_ok (G := G) (a := 0 + 93) (b := 0 + 1) (m := n3)
  obtain ⟨n5, a5, b5, _⟩ := x8_ok (G := G) (a := 0 + 99) (m := n4) hG
  obtain ⟨n6, a6, b6, f1, f2, f3⟩ := x4_ok (G := G) (a := 0 + 105) (m := n5) hG
  obtain ⟨n7, a7, b7⟩ := x9_ok (G := G) (a := 0 + 110) (m := n6)
  have u6 : ∀ x, x < 110 → n7 x = n6 x := fun x hx => b7 x (by omega)
  have u3 : ∀ x, x < 93 → n7 x = n3 x := fun x hx => by rw [u6 x (by omega), b6 x (by omega), b5 x (by omega), b4 x (by omega)]
  have u2 : ∀ x, x < 54 → n7 x = n2 x := fun x hx => by rw [u3 x (by omega), b3 x (by omega)]
  have u1 : ∀ x, x < 41 → n7 x = n1 x := fun x hx => by rw [u2 x (by omega), b2 x (by omega)]
  refine ⟨n7, ?_, fun k => ?_, fun k => ?_, fun k hk => ?_, fun k hk => ?_, fun k => ?_, fun x h1 h2 k => ?_, ⟨LnR_o l1 (u1 _ (by omega)), LnR_o l2 (u1 _ (by omega)), LnR_o l3 (u1 _ (by omega)), LnR_o l4 (u1 _ (by omega)), LnR_o l5 (u1 _ (by omega)), LnR_o l6 (u1 _ (by omega)), LnR_o l7 (u1 _ (by omega)), LnR_o l8 (u1 _ (by omega)), LnR_o l9 (u1 _ (by omega)), LnR_o l10 (u1 _ (by omega))⟩, ?_, fun k hk => ?_, ?_, LnR_o d3 (u2 _ (by omega)), fun k => ?_, ?_, ?_, fun r hr => ?_⟩
  · unfold f_X11_init
    refine Eq.trans (bndV_c a1) ?_
    refine Eq.trans (bndV_c a2) ?_
    refine Eq.trans (bndV_c a3) ?_
    refine Eq.trans (bndV_c a4) ?_
    refine Eq.trans (bndV_c a5) ?_
    refine Eq.trans (bndV_c a6) ?_
    refine Eq.trans (bndV_c a7) ?_
    rfl
  · rw [u1 1 (by omega)]; exact c1 k
  · rw [u1 2 (by omega)]; exact c2 k
  · rw [u1 3 (by omega)]; exact c3 k hk
  · rw [u1 4 (by omega)]; exact c4 k hk
  · rw [u1 5 (by omega), u1 6 (by omega), u1 7 (by omega)]; exact c5 k
  · rw [u1 x (by omega)]; exact c6 x (by omega) (by omega) k
  · rw [u1 40 (by omega)]; exact c7
  · rw [u2 41 (by omega)]; exact d1 k hk
  · rw [u2 41 (by omega)]; exact d2
  · rw [u3 54 (by omega)]; exact e1 k
  · rw [u6 105 (by omega)]; exact f1
  · rw [u6 105 (by omega)]; exact f2
  · rw [u6 106 (by omega), u6 107 (by omega)]; exact f3 r hr
end
