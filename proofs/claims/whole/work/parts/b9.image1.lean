section
variable {G : Nat}
/-- where the k-th of an image lies -/
def poI (k : Nat) : Nat × Nat :=
  if k < 49 then (1, k)
  else if k < 60 then (0, imS.getD (k - 49) 0)
  else if k < 120 then ([4, 5, 6, 22, 39].getD ((k - 60) % 5) 0, (k - 60) / 5)
  else if k < 152 then ([7, 8, 30, 31].getD ((k - 120) % 4) 0, (k - 120) / 4)
  else if k < 192 then ([27, 28, 29, 36].getD ((k - 152) % 4) 0, (k - 152) / 4)
  else if k < 204 then ([34, 35].getD ((k - 192) % 2) 0, (k - 192) / 2)
  else if k < 210 then ([40, 41].getD ((k - 204) % 2) 0, (k - 204) / 2)
  else if k < 217 then (42, k - 210)
  else if k < 233 then (20, k - 217)
  else if k < 329 then (21, k - 233)
  else if k < 929 then (9, k - 329)
  else if k < 930 then (12, 0)
  else if k < 994 then ([13, 14, 15, 16].getD ((k - 930) % 4) 0, (k - 930) / 4)
  else ([17, 18].getD ((k - 994) % 2) 0, (k - 994) / 2)
theorem imA_po (σ : Mem) (k : Nat) : imA σ k = σ (poI k).1 (poI k).2 := by
  unfold imA poI
  by_cases c : k < 49
  · rw [if_pos c, if_pos c]
  rw [if_neg c, if_neg c]
  clear c
  by_cases c : k < 60
  · rw [if_pos c, if_pos c]
  rw [if_neg c, if_neg c]
  clear c
  by_cases c : k < 120
  · rw [if_pos c, if_pos c]
  rw [if_neg c, if_neg c]
  clear c
  by_cases c : k < 152
  · rw [if_pos c, if_pos c]
  rw [if_neg c, if_neg c]
  clear c
  by_cases c : k < 192
  · rw [if_pos c, if_pos c]
  rw [if_neg c, if_neg c]
  clear c
  by_cases c : k < 204
  · rw [if_pos c, if_pos c]
  rw [if_neg c, if_neg c]
  clear c
  by_cases c : k < 210
  · rw [if_pos c, if_pos c]
  rw [if_neg c, if_neg c]
  clear c
  by_cases c : k < 217
  · rw [if_pos c, if_pos c]
  rw [if_neg c, if_neg c]
  clear c
  by_cases c : k < 233
  · rw [if_pos c, if_pos c]
  rw [if_neg c, if_neg c]
  clear c
  by_cases c : k < 329
  · rw [if_pos c, if_pos c]
  rw [if_neg c, if_neg c]
  clear c
  by_cases c : k < 929
  · rw [if_pos c, if_pos c]
  rw [if_neg c, if_neg c]
  clear c
  by_cases c : k < 930
  · rw [if_pos c, if_pos c]
  rw [if_neg c, if_neg c]
  clear c
  by_cases c : k < 994
  · rw [if_pos c, if_pos c]
  rw [if_neg c, if_neg c]
/-- one kept, whichever way -/
def StpI (G : Nat) (I : Nat → Mem → Prop) : Prop := ∀ k m, k < 1794 → I k m → ∃ w m1, f_X12_keeps G (m (poI k).1 (poI k).2) m = some (w, m1) ∧ I (k + 1) (wr m1 (poI k).1 (poI k).2 w)
theorem stp {I : Nat → Mem → Prop} (S : StpI G I) {k c s : Nat} {m : Mem} (hk : k < 1794) (hp : poI k = (c, s)) (h : I k m) : ∃ w m1, f_X12_keeps G (m c s) m = some (w, m1) ∧ I (k + 1) (wr m1 c s w) := by
  have := S k m hk h
  rw [hp] at this
  exact this
theorem po_a {j : Nat} (h : j < 49) : poI j = (1, j) := by unfold poI; rw [if_pos h]
theorem po_b : ∀ j, j < 11 → poI (49 + j) = (0, imS.getD j 0) := by decide +kernel
theorem po_c : ∀ j, j < 12 → poI (60 + 5 * j) = (4, j) ∧ poI (60 + 5 * j + 1) = (5, j) ∧ poI (60 + 5 * j + 1 + 1) = (6, j) ∧ poI (60 + 5 * j + 1 + 1 + 1) = (22, j) ∧ poI (60 + 5 * j + 1 + 1 + 1 + 1) = (39, j) := by decide +kernel
theorem po_d : ∀ j, j < 8 → poI (120 + 4 * j) = (7, j) ∧ poI (120 + 4 * j + 1) = (8, j) ∧ poI (120 + 4 * j + 1 + 1) = (30, j) ∧ poI (120 + 4 * j + 1 + 1 + 1) = (31, j) := by decide +kernel
theorem po_e : ∀ j, j < 10 → poI (152 + 4 * j) = (27, j) ∧ poI (152 + 4 * j + 1) = (28, j) ∧ poI (152 + 4 * j + 1 + 1) = (29, j) ∧ poI (152 + 4 * j + 1 + 1 + 1) = (36, j) := by decide +kernel
theorem po_f : ∀ j, j < 6 → poI (192 + 2 * j) = (34, j) ∧ poI (192 + 2 * j + 1) = (35, j) := by decide +kernel
theorem po_g : ∀ j, j < 3 → poI (204 + 2 * j) = (40, j) ∧ poI (204 + 2 * j + 1) = (41, j) := by decide +kernel
theorem po_h : ∀ j, j < 7 → poI (210 + j) = (42, j) := by decide +kernel
theorem po_i : ∀ j, j < 16 → poI (217 + j) = (20, j) := by decide +kernel
theorem po_j : ∀ j, j < 96 → poI (233 + j) = (21, j) := by decide +kernel
theorem po_k : ∀ j, j < 600 → poI (329 + j) = (9, j) := by decide +kernel
theorem po_l : poI 929 = (12, 0) := by decide +kernel
theorem po_m : ∀ j, j < 16 → poI (930 + 4 * j) = (13, j) ∧ poI (930 + 4 * j + 1) = (14, j) ∧ poI (930 + 4 * j + 1 + 1) = (15, j) ∧ poI (930 + 4 * j + 1 + 1 + 1) = (16, j) := by decide +kernel
theorem po_n : ∀ j, j < 400 → poI (994 + 2 * j) = (17, j) ∧ poI (994 + 2 * j + 1) = (18, j) := by decide +kernel
theorem nge {n k : Nat} {N : Int32} (hN : N = nI n) (h : k < n) (h2 : n < 2 ^ 31) : ¬ N ≤ nI k := by rw [hN]; exact nI_ge h h2
/-- a row of loops that keep -/
theorem many_ok {I : Nat → Mem → Prop} (S : StpI G I) {m : Mem} (h : I 49 m) : ∃ m', f_X12_keepsMany G m = some m' ∧ I 60 m' := by
  obtain ⟨w0, m0, a0, b0⟩ := stp S (by omega) (po_b 0 (by omega)) h
  obtain ⟨w1, m1, a1, b1⟩ := stp S (by omega) (po_b 1 (by omega)) b0
  obtain ⟨w2, m2, a2, b2⟩ := stp S (by omega) (po_b 2 (by omega)) b1
  obtain ⟨w3, m3, a3, b3⟩ := stp S (by omega) (po_b 3 (by omega)) b2
  obtain ⟨w4, m4, a4, b4⟩ := stp S (by omega) (po_b 4 (by omega)) b3
  obtain ⟨w5, m5, a5, b5⟩ := stp S (by omega) (po_b 5 (by omega)) b4
  obtain ⟨w6, m6, a6, b6⟩ := stp S (by omega) (po_b 6 (by omega)) b5
  obtain ⟨w7, m7, a7, b7⟩ := stp S (by omega) (po_b 7 (by omega)) b6
  obtain ⟨w8, m8, a8, b8⟩ := stp S (by omega) (po_b 8 (by omega)) b7
  obtain ⟨w9, m9, a9, b9⟩ := stp S (by omega) (po_b 9 (by omega)) b8
  obtain ⟨wa, ma, aa, ba⟩ := stp S (by omega) (po_b 10 (by omega)) b9
  refine ⟨_, ?_, ba⟩
  have a0 : f_X12_keeps G (m 0 6) m = some (w0, m0) := a0
  unfold f_X12_keepsMany
  rw [a0, bndE_s]
  refine Eq.trans (congrArg (fun z => bndE z _) (show f_X12_keeps G ((wr m0 0 6 w0) 0 7) (wr m0 0 6 w0) = some (w1, m1) from a1)) ?_
  rw [bndE_s]
  refine Eq.trans (congrArg (fun z => bndE z _) (show f_X12_keeps G ((wr m1 0 7 w1) 0 37) (wr m1 0 7 w1) = some (w2, m2) from a2)) ?_
  rw [bndE_s]
  refine Eq.trans (congrArg (fun z => bndE z _) (show f_X12_keeps G ((wr m2 0 37 w2) 0 39) (wr m2 0 37 w2) = some (w3, m3) from a3)) ?_
  rw [bndE_s]
  refine Eq.trans (congrArg (fun z => bndE z _) (show f_X12_keeps G ((wr m3 0 39 w3) 0 41) (wr m3 0 39 w3) = some (w4, m4) from a4)) ?_
  rw [bndE_s]
  refine Eq.trans (congrArg (fun z => bndE z _) (show f_X12_keeps G ((wr m4 0 41 w4) 0 47) (wr m4 0 41 w4) = some (w5, m5) from a5)) ?_
  rw [bndE_s]
  refine Eq.trans (congrArg (fun z => bndE z _) (show f_X12_keeps G ((wr m5 0 47 w5) 0 51) (wr m5 0 47 w5) = some (w6, m6) from a6)) ?_
  rw [bndE_s]
  refine Eq.trans (congrArg (fun z => bndE z _) (show f_X12_keeps G ((wr m6 0 51 w6) 0 57) (wr m6 0 51 w6) = some (w7, m7) from a7)) ?_
  rw [bndE_s]
  refine Eq.trans (congrArg (fun z => bndE z _) (show f_X12_keeps G ((wr m7 0 57 w7) 0 60) (wr m7 0 57 w7) = some (w8, m8) from a8)) ?_
  rw [bndE_s]
  refine Eq.trans (congrArg (fun z => bndE z _) (show f_X12_keeps G ((wr m8 0 60 w8) 0 64) (wr m8 0 60 w8) = some (w9, m9) from a9)) ?_
  rw [bndE_s]
  refine Eq.trans (congrArg (fun z => bndE z _) (show f_X12_keeps G ((wr m9 0 64 w9) 0 68) (wr m9 0 64 w9) = some (wa, ma) from aa)) ?_
  rw [bndE_s]
  rfl
end
