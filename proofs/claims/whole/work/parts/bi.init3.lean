section
variable {G : Nat}
theorem lit_off {b x : Nat} {m : Mem} (h : x ≠ b) : lit12_5 b (lit12_4 b (lit12_3 b (lit12_2 b (lit12_1 b (lit12_0 b m))))) x = m x := by
  unfold lit12_5 lit12_4 lit12_3 lit12_2 lit12_1 lit12_0
  repeat rw [wr_off h]
theorem wr_rowe {b i : Nat} {v : Int32} {m n : Mem} (h : m b = n b) : wr m b i v b = wr n b i v b := by
  funext k
  by_cases q : k = i
  · rw [q, wr_same, wr_same]
  · rw [wr_slot q, wr_slot q, h]
theorem lit_row {b : Nat} {m n : Mem} (h : m b = n b) : lit12_5 b (lit12_4 b (lit12_3 b (lit12_2 b (lit12_1 b (lit12_0 b m))))) b = lit12_5 b (lit12_4 b (lit12_3 b (lit12_2 b (lit12_1 b (lit12_0 b n))))) b := by
  unfold lit12_5 lit12_4 lit12_3 lit12_2 lit12_1 lit12_0
  repeat (refine wr_rowe ?_)
  exact h
set_option maxRecDepth 100000 in
theorem lit_v : ∀ k, k < 132 → lit12_5 11 (lit12_4 11 (lit12_3 11 (lit12_2 11 (lit12_1 11 (lit12_0 11 (fun _ _ => 0)))))) 11 k = wdA k := by decide +kernel
theorem n12_0 {m : Mem} {x : Nat} (h : x < 1 ∨ 5 < x) : m12_0 0 m x = m x := by
  unfold m12_0
  rw [zr_off (by omega), zr_off (by omega), zr_off (by omega), zr_off (by omega), zr_off (by omega)]
theorem z12_0 {m : Mem} {x : Nat} (h : 1 ≤ x) (h2 : x ≤ 5) (k : Nat) : m12_0 0 m x k = 0 := by
  unfold m12_0
  unfold zr
  repeat' split
  all_goals first | rfl | omega
theorem n12_1 {m : Mem} {x : Nat} (h : x < 6 ∨ 10 < x) : m12_1 0 m x = m x := by
  unfold m12_1
  rw [zr_off (by omega), zr_off (by omega), zr_off (by omega), zr_off (by omega), zr_off (by omega)]
theorem z12_1 {m : Mem} {x : Nat} (h : 6 ≤ x) (h2 : x ≤ 10) (k : Nat) : m12_1 0 m x k = 0 := by
  unfold m12_1
  unfold zr
  repeat' split
  all_goals first | rfl | omega
theorem n12_3 {m : Mem} {x : Nat} (h : x < 16 ∨ 19 < x) (h0 : x ≠ 0) : m12_3 0 m x = m x := by
  unfold m12_3
  rw [wr_off h0]
  rw [zr_off (by omega), zr_off (by omega), zr_off (by omega), zr_off (by omega)]
theorem z12_3 {m : Mem} {x : Nat} (h : 16 ≤ x) (h2 : x ≤ 19) (k : Nat) : m12_3 0 m x k = 0 := by
  unfold m12_3
  rw [wr_off (by omega)]
  unfold zr
  repeat' split
  all_goals first | rfl | omega
theorem n12_4 {m : Mem} {x : Nat} (h : x < 20 ∨ 24 < x) : m12_4 0 m x = m x := by
  unfold m12_4
  rw [zr_off (by omega), zr_off (by omega), zr_off (by omega), zr_off (by omega), zr_off (by omega)]
theorem z12_4 {m : Mem} {x : Nat} (h : 20 ≤ x) (h2 : x ≤ 24) (k : Nat) : m12_4 0 m x k = 0 := by
  unfold m12_4
  unfold zr
  repeat' split
  all_goals first | rfl | omega
theorem n12_5 {m : Mem} {x : Nat} (h : x < 25 ∨ 29 < x) : m12_5 0 m x = m x := by
  unfold m12_5
  rw [zr_off (by omega), zr_off (by omega), zr_off (by omega), zr_off (by omega), zr_off (by omega)]
theorem z12_5 {m : Mem} {x : Nat} (h : 25 ≤ x) (h2 : x ≤ 29) (k : Nat) : m12_5 0 m x k = 0 := by
  unfold m12_5
  unfold zr
  repeat' split
  all_goals first | rfl | omega
theorem n12_6 {m : Mem} {x : Nat} (h : x < 30 ∨ 34 < x) : m12_6 0 m x = m x := by
  unfold m12_6
  rw [zr_off (by omega), zr_off (by omega), zr_off (by omega), zr_off (by omega), zr_off (by omega)]
theorem z12_6 {m : Mem} {x : Nat} (h : 30 ≤ x) (h2 : x ≤ 34) (k : Nat) : m12_6 0 m x k = 0 := by
  unfold m12_6
  unfold zr
  repeat' split
  all_goals first | rfl | omega
theorem n12_7 {m : Mem} {x : Nat} (h : x < 35 ∨ 39 < x) : m12_7 0 m x = m x := by
  unfold m12_7
  rw [zr_off (by omega), zr_off (by omega), zr_off (by omega), zr_off (by omega), zr_off (by omega)]
theorem z12_7 {m : Mem} {x : Nat} (h : 35 ≤ x) (h2 : x ≤ 39) (k : Nat) : m12_7 0 m x k = 0 := by
  unfold m12_7
  unfold zr
  repeat' split
  all_goals first | rfl | omega
theorem n12_8 {m : Mem} {x : Nat} (h : x < 40 ∨ 44 < x) : m12_8 0 m x = m x := by
  unfold m12_8
  rw [zr_off (by omega), zr_off (by omega), zr_off (by omega), zr_off (by omega), zr_off (by omega)]
theorem z12_8 {m : Mem} {x : Nat} (h : 40 ≤ x) (h2 : x ≤ 44) (k : Nat) : m12_8 0 m x k = 0 := by
  unfold m12_8
  unfold zr
  repeat' split
  all_goals first | rfl | omega
theorem n12_9 {m : Mem} {x : Nat} (h : x < 45 ∨ 45 < x) : m12_9 0 m x = m x := by
  unfold m12_9
  rw [zr_off (by omega)]
theorem z12_9 {m : Mem} {x : Nat} (h : 45 ≤ x) (h2 : x ≤ 45) (k : Nat) : m12_9 0 m x k = 0 := by
  unfold m12_9
  unfold zr
  repeat' split
  all_goals first | rfl | omega
theorem n12_2 {m : Mem} {x : Nat} (h : x < 11 ∨ 15 < x) : m12_2 0 m x = m x := by
  unfold m12_2
  rw [zr_off (by omega), zr_off (by omega), zr_off (by omega), zr_off (by omega), lit_off (by omega), zr_off (by omega)]
theorem z12_2 {m : Mem} {x : Nat} (h : 12 ≤ x) (h2 : x ≤ 15) (k : Nat) : m12_2 0 m x k = 0 := by
  unfold m12_2
  unfold zr
  repeat' split
  all_goals first | rfl | omega
theorem w12_2 {m : Mem} {k : Nat} (h : k < 132) : m12_2 0 m 11 k = wdA k := by
  unfold m12_2
  rw [zr_off (by omega), zr_off (by omega), zr_off (by omega), zr_off (by omega)]
  refine Eq.trans (congrFun (lit_row (b := 11) (m := zr m 11) (n := fun _ _ => 0) ?_) k) (lit_v k h)
  funext j
  exact zr_at
/-- the reference's first memory -/
theorem x12_ok {m : Mem} : ∃ r, f_X12_init G 0 (zr m 0) = some r ∧ (∀ x, x ≤ 45 → x ≠ 0 → x ≠ 11 → ∀ k, r x k = 0) ∧ (∀ k, k ≠ 36 → r 0 k = 0) ∧ r 0 36 = -1 ∧ ∀ k, k < 132 → r 11 k = wdA k := by
  refine ⟨_, rfl, fun x h1 h2 h3 k => ?_, fun k hk => ?_, ?_, fun k hk => ?_⟩
  · by_cases q9 : x = 45
    · rw [z12_9 (by omega) (by omega)]
    rw [n12_9 (by omega)]
    by_cases q8 : 40 ≤ x
    · rw [z12_8 (by omega) (by omega)]
    rw [n12_8 (by omega)]
    by_cases q7 : 35 ≤ x
    · rw [z12_7 (by omega) (by omega)]
    rw [n12_7 (by omega)]
    by_cases q6 : 30 ≤ x
    · rw [z12_6 (by omega) (by omega)]
    rw [n12_6 (by omega)]
    by_cases q5 : 25 ≤ x
    · rw [z12_5 (by omega) (by omega)]
    rw [n12_5 (by omega)]
    by_cases q4 : 20 ≤ x
    · rw [z12_4 (by omega) (by omega)]
    rw [n12_4 (by omega)]
    by_cases q3 : 16 ≤ x
    · rw [z12_3 (by omega) (by omega)]
    rw [n12_3 (by omega) h2]
    by_cases q2 : 12 ≤ x
    · rw [z12_2 (by omega) (by omega)]
    rw [n12_2 (by omega)]
    by_cases q1 : 6 ≤ x
    · rw [z12_1 (by omega) (by omega)]
    rw [n12_1 (by omega), z12_0 (by omega) (by omega)]
  · rw [n12_9 (by omega), n12_8 (by omega), n12_7 (by omega), n12_6 (by omega), n12_5 (by omega), n12_4 (by omega)]
    unfold m12_3
    rw [wr_slot hk, zr_off (by omega), zr_off (by omega), zr_off (by omega), zr_off (by omega), n12_2 (by omega), n12_1 (by omega), n12_0 (by omega), zr_at]
  · rw [n12_9 (by omega), n12_8 (by omega), n12_7 (by omega), n12_6 (by omega), n12_5 (by omega), n12_4 (by omega)]
    unfold m12_3
    exact wr_same
  · rw [n12_9 (by omega), n12_8 (by omega), n12_7 (by omega), n12_6 (by omega), n12_5 (by omega), n12_4 (by omega), n12_3 (by omega) (by omega)]
    exact w12_2 hk
/-- the two first memories -/
theorem ar_first {m n : Mem} (hG : 500 ≤ G) : ∃ μ ρ, f_X11_init G 0 (zr m 0) = some μ ∧ f_X12_init G 0 (zr n 0) = some ρ ∧ AR false μ ρ := by
  obtain ⟨ρ, b0, b1, b2, b3, b4⟩ := x12_ok (G := G) (m := n)
  obtain ⟨μ, a0, a1, a2, a3, a4, a5, a6, ⟨l1, l2, l3, l4, l5, l6, l7, l8, l9, l10⟩, ⟨c0, c1, c2, c3, c4, c5⟩, a7, a8, a9, c54, d2, d3, d4⟩ := x11_ok (G := G) (m := m) hG
  have z : ∀ x k, x ≤ 45 → x ≠ 0 → x ≠ 11 → ρ x k = nI 0 := fun x k h1 h2 h3 => b1 x h1 h2 h3 k
  have y : ∀ k, k ≠ 36 → ρ 0 k = nI 0 := fun k h => b2 k h
  have s : StI 0 0 (ρ 1) 0 := ⟨⟨0, by omega, z _ _ (by omega) (by omega) (by omega)⟩, ⟨0, by omega, z _ _ (by omega) (by omega) (by omega)⟩, fun w _ _ => z _ _ (by omega) (by omega) (by omega),
    fun g _ => ⟨0, by omega, z _ _ (by omega) (by omega) (by omega), fun _ => rfl⟩, fun g _ _ => z _ _ (by omega) (by omega) (by omega), fun g _ => ⟨0, by omega, z _ _ (by omega) (by omega) (by omega), fun _ => rfl⟩, fun g _ _ => z _ _ (by omega) (by omega) (by omega)⟩
  refine ⟨μ, ρ, a0, b0, 0, 0, ⟨?_, ?_, s, ?_, ?_, ?_, ?_, ?_, ?_, ?_, ?_, ?_, ?_, ?_, ?_⟩, ?_, ?_, ?_, ?_, ?_, ?_, ?_⟩
  · exact ⟨a1 6, y 6 (by omega), by omega, a1 7, y 7 (by omega), by omega, fun k _ => (a6 8 (by omega) (by omega) k).trans (z 4 k (by omega) (by omega) (by omega)).symm, fun k _ => (a6 9 (by omega) (by omega) k).trans (z 5 k (by omega) (by omega) (by omega)).symm, fun k _ => (a6 10 (by omega) (by omega) k).trans (z 6 k (by omega) (by omega) (by omega)).symm, fun k _ => (a6 11 (by omega) (by omega) k).trans (z 7 k (by omega) (by omega) (by omega)).symm, fun k _ => (a6 12 (by omega) (by omega) k).trans (z 8 k (by omega) (by omega) (by omega)).symm, fun g hg => absurd hg (by omega)⟩
  · have q : ∀ x k o, x ≤ 45 → x ≠ 0 → x ≠ 11 → μ 2 k = ρ x o := fun x k o h1 h2 h3 => (a2 k).trans (z x o h1 h2 h3).symm
    refine ⟨q 1 5 _ (by omega) (by omega) (by omega), q 1 8 _ (by omega) (by omega) (by omega), l4.2.2.1.trans (z 1 _ (by omega) (by omega) (by omega)).symm, q 1 6 _ (by omega) (by omega) (by omega), q 1 7 _ (by omega) (by omega) (by omega), fun k hk => ?_, fun k hk => ?_, fun k _ => (a5 k).1.trans (z 1 _ (by omega) (by omega) (by omega)).symm, fun k _ => (a5 k).2.1.trans (z 1 _ (by omega) (by omega) (by omega)).symm, fun k _ => (a5 k).2.2.trans (z 1 _ (by omega) (by omega) (by omega)).symm⟩
    · rw [z 1 _ (by omega) (by omega) (by omega), a3 k hk]; rfl
    · rw [z 1 _ (by omega) (by omega) (by omega), a4 k hk]; rfl
  · exact ⟨0, l4, z _ _ (by omega) (by omega) (by omega), fun k hk => absurd hk (by omega)⟩
  · exact ⟨0, l1, y _ (by omega), fun k hk => absurd hk (by omega)⟩
  · exact ⟨0, l2, y _ (by omega), fun k hk => absurd hk (by omega)⟩
  · exact ⟨0, fun _ => 0, fun _ => 0, l3, y _ (by omega), fun k hk => absurd hk (by omega), fun w _ => ⟨0, by omega, z _ _ (by omega) (by omega) (by omega), fun v => ⟨fun h => absurd h (by rw [Nat.zero_testBit]; decide), fun ⟨i, hi, _⟩ => absurd hi (by omega)⟩⟩⟩
  · exact ⟨0, by omega, a6 13 (by omega) (by omega) 6, z _ _ (by omega) (by omega) (by omega), fun k hk => absurd hk (by omega)⟩
  · exact ⟨0, l5, y _ (by omega), fun k hk => absurd hk (by omega)⟩
  · exact ⟨0, l6, y _ (by omega), fun k hk => absurd hk (by omega)⟩
  · exact ⟨0, l7, y _ (by omega), fun k hk => absurd hk (by omega)⟩
  · exact ⟨0, fun _ => 0, fun _ => 0, l8, y _ (by omega), fun k hk => absurd hk (by omega), fun w _ => ⟨0, by omega, z _ _ (by omega) (by omega) (by omega), fun v => ⟨fun h => absurd h (by rw [Nat.zero_testBit]; decide), fun ⟨i, hi, _⟩ => absurd hi (by omega)⟩⟩⟩
  · exact ⟨0, l9, y _ (by omega), fun k hk => absurd hk (by omega)⟩
  · exact ⟨0, l10, y _ (by omega), fun k hk => absurd hk (by omega)⟩
  · intro i hi
    refine ⟨0, 0, by omega, by omega, ?_, z _ _ (by omega) (by omega) (by omega), ?_, z _ _ (by omega) (by omega) (by omega)⟩
    · rcases (show i = 0 ∨ i = 1 ∨ i = 2 by omega) with q | q | q <;> subst q
      · exact c0
      · exact c2
      · exact c4
    · rcases (show i = 0 ∨ i = 1 ∨ i = 2 by omega) with q | q | q <;> subst q
      · exact c1
      · exact c3
      · exact c5
  · exact ⟨0, by omega, a7 5 (by omega), y _ (by omega), fun k hk => absurd hk (by omega)⟩
  · exact ⟨(a7 6 (by omega)).trans (y 35 (by omega)).symm, a8.trans b3.symm⟩
  · exact ⟨a9.1, a9.2.1⟩
  · exact ⟨0, 0, by omega, by omega, c54 3, y _ (by omega), c54 2, fun j hj => absurd hj (by omega), fun j hj => absurd hj (by omega), fun h => absurd h (by omega)⟩
  · exact ⟨d4, Or.inl ⟨d2, d3⟩⟩
  · exact y 73 (by omega)
  · exact ⟨y 5 (by omega), b4⟩
end
