section
variable {G : Nat}
theorem lp_a {I : Nat → Mem → Prop} (S : StpI G I) (hG : 1000 ≤ G) (k : Int32 → Mem → Option (Int32 × Mem)) (v1 : Int32) {m : Mem} (h : I 0 m) : ∃ m', f_X12_image_L35 G k G v1 (nI 0) m = k v1 m' ∧ I 49 m' := by
  obtain ⟨g', m', k1, i1⟩ := loopZ (fun g v (m : Mem) => f_X12_image_L35 G k g v1 v m) 49 (fun j m => I (j) m) (by
    rintro g j m hj i1
    have i1 : I (j) m := i1
    have p0 := po_a (j := j) hj
    obtain ⟨w0, m0, a0, b0⟩ := stp S (by omega) p0 i1
    refine ⟨wr m0 1 j w0, ?_, ?_⟩
    · show f_X12_image_L35 G k (g + 1) v1 (nI j) m = f_X12_image_L35 G k g v1 (nI (j + 1)) (wr m0 1 j w0)
      rw [f_X12_image_L35, if_neg (show ¬ (49 : Int32) ≤ nI j from nI_ge (b := 49) hj (by omega)), chkn (by omega) (by omega), ixn (by omega), a0, bndE_s, chkn (by omega) (by omega)]
      show f_X12_image_L35 G k g v1 (nI j + 1) (wr m0 1 j w0) = _
      rw [nI_1]
    · show I (j + 1) (wr m0 1 j w0)
      rw [show j + 1 = j + 1 by omega]
      exact b0) (by omega : 49 < G) (s := m) (by show I (0) m; exact h)
  refine ⟨m', ?_, ?_⟩
  · refine Eq.trans k1 ?_
    show f_X12_image_L35 G k (g' + 1) v1 (nI 49) m' = _
    rw [f_X12_image_L35, if_pos (by decide)]
  · have i1 : I (49) m' := i1
    exact i1
theorem lp_c {I : Nat → Mem → Prop} (S : StpI G I) (hG : 1000 ≤ G) (k : Mem → Option Mem) {m : Mem} (h : I 60 m) : ∃ m', f_X12_keepsTold_L2 G k G (nI 0) m = k m' ∧ I 120 m' := by
  obtain ⟨g', m', k1, i1⟩ := loopZ (fun g v (m : Mem) => f_X12_keepsTold_L2 G k g v m) 12 (fun j m => I (60 + 5 * j) m) (by
    rintro g j m hj i1
    have i1 : I (60 + 5 * j) m := i1
    obtain ⟨p0, p1, p2, p3, p4⟩ := po_c j hj
    obtain ⟨w0, m0, a0, b0⟩ := stp S (by omega) p0 i1
    obtain ⟨w1, m1, a1, b1⟩ := stp S (by omega) p1 b0
    obtain ⟨w2, m2, a2, b2⟩ := stp S (by omega) p2 b1
    obtain ⟨w3, m3, a3, b3⟩ := stp S (by omega) p3 b2
    obtain ⟨w4, m4, a4, b4⟩ := stp S (by omega) p4 b3
    refine ⟨wr m4 39 j w4, ?_, ?_⟩
    · show f_X12_keepsTold_L2 G k (g + 1) (nI j) m = f_X12_keepsTold_L2 G k g (nI (j + 1)) (wr m4 39 j w4)
      rw [f_X12_keepsTold_L2, if_neg (show ¬ (12 : Int32) ≤ nI j from nI_ge (b := 12) hj (by omega)), chkn (by omega) (by omega), ixn (by omega), a0, bndE_s, chkn (by omega) (by omega)]
      refine Eq.trans (chkn (by omega) (by omega)) ?_
      refine Eq.trans (congrArg (fun z => bndE z _) (show f_X12_keeps G ((wr m0 4 j w0) 5 j) (wr m0 4 j w0) = some (w1, m1) from a1)) ?_
      rw [bndE_s, chkn (by omega) (by omega)]
      refine Eq.trans (chkn (by omega) (by omega)) ?_
      refine Eq.trans (congrArg (fun z => bndE z _) (show f_X12_keeps G ((wr m1 5 j w1) 6 j) (wr m1 5 j w1) = some (w2, m2) from a2)) ?_
      rw [bndE_s, chkn (by omega) (by omega)]
      refine Eq.trans (chkn (by omega) (by omega)) ?_
      refine Eq.trans (congrArg (fun z => bndE z _) (show f_X12_keeps G ((wr m2 6 j w2) 22 j) (wr m2 6 j w2) = some (w3, m3) from a3)) ?_
      rw [bndE_s, chkn (by omega) (by omega)]
      refine Eq.trans (chkn (by omega) (by omega)) ?_
      refine Eq.trans (congrArg (fun z => bndE z _) (show f_X12_keeps G ((wr m3 22 j w3) 39 j) (wr m3 22 j w3) = some (w4, m4) from a4)) ?_
      rw [bndE_s, chkn (by omega) (by omega)]
      show f_X12_keepsTold_L2 G k g (nI j + 1) (wr m4 39 j w4) = _
      rw [nI_1]
    · show I (60 + 5 * (j + 1)) (wr m4 39 j w4)
      rw [show 60 + 5 * (j + 1) = 60 + 5 * j + 1 + 1 + 1 + 1 + 1 by omega]
      exact b4) (by omega : 12 < G) (s := m) (by show I (60 + 5 * 0) m; exact h)
  refine ⟨m', ?_, ?_⟩
  · refine Eq.trans k1 ?_
    show f_X12_keepsTold_L2 G k (g' + 1) (nI 12) m' = _
    rw [f_X12_keepsTold_L2, if_pos (by decide)]
  · have i1 : I (60 + 5 * 12) m' := i1
    exact i1
theorem lp_d {I : Nat → Mem → Prop} (S : StpI G I) (hG : 1000 ≤ G) (k : Mem → Option Mem) {m : Mem} (h : I 120 m) : ∃ m', f_X12_keepsTold_L96 G k G (nI 0) m = k m' ∧ I 152 m' := by
  obtain ⟨g', m', k1, i1⟩ := loopZ (fun g v (m : Mem) => f_X12_keepsTold_L96 G k g v m) 8 (fun j m => I (120 + 4 * j) m) (by
    rintro g j m hj i1
    have i1 : I (120 + 4 * j) m := i1
    obtain ⟨p0, p1, p2, p3⟩ := po_d j hj
    obtain ⟨w0, m0, a0, b0⟩ := stp S (by omega) p0 i1
    obtain ⟨w1, m1, a1, b1⟩ := stp S (by omega) p1 b0
    obtain ⟨w2, m2, a2, b2⟩ := stp S (by omega) p2 b1
    obtain ⟨w3, m3, a3, b3⟩ := stp S (by omega) p3 b2
    refine ⟨wr m3 31 j w3, ?_, ?_⟩
    · show f_X12_keepsTold_L96 G k (g + 1) (nI j) m = f_X12_keepsTold_L96 G k g (nI (j + 1)) (wr m3 31 j w3)
      rw [f_X12_keepsTold_L96, if_neg (show ¬ (8 : Int32) ≤ nI j from nI_ge (b := 8) hj (by omega)), chkn (by omega) (by omega), ixn (by omega), a0, bndE_s, chkn (by omega) (by omega)]
      refine Eq.trans (chkn (by omega) (by omega)) ?_
      refine Eq.trans (congrArg (fun z => bndE z _) (show f_X12_keeps G ((wr m0 7 j w0) 8 j) (wr m0 7 j w0) = some (w1, m1) from a1)) ?_
      rw [bndE_s, chkn (by omega) (by omega)]
      refine Eq.trans (chkn (by omega) (by omega)) ?_
      refine Eq.trans (congrArg (fun z => bndE z _) (show f_X12_keeps G ((wr m1 8 j w1) 30 j) (wr m1 8 j w1) = some (w2, m2) from a2)) ?_
      rw [bndE_s, chkn (by omega) (by omega)]
      refine Eq.trans (chkn (by omega) (by omega)) ?_
      refine Eq.trans (congrArg (fun z => bndE z _) (show f_X12_keeps G ((wr m2 30 j w2) 31 j) (wr m2 30 j w2) = some (w3, m3) from a3)) ?_
      rw [bndE_s, chkn (by omega) (by omega)]
      show f_X12_keepsTold_L96 G k g (nI j + 1) (wr m3 31 j w3) = _
      rw [nI_1]
    · show I (120 + 4 * (j + 1)) (wr m3 31 j w3)
      rw [show 120 + 4 * (j + 1) = 120 + 4 * j + 1 + 1 + 1 + 1 by omega]
      exact b3) (by omega : 8 < G) (s := m) (by show I (120 + 4 * 0) m; exact h)
  refine ⟨m', ?_, ?_⟩
  · refine Eq.trans k1 ?_
    show f_X12_keepsTold_L96 G k (g' + 1) (nI 8) m' = _
    rw [f_X12_keepsTold_L96, if_pos (by decide)]
  · have i1 : I (120 + 4 * 8) m' := i1
    exact i1
theorem lp_e {I : Nat → Mem → Prop} (S : StpI G I) (hG : 1000 ≤ G) (k : Mem → Option Mem) {m : Mem} (h : I 152 m) : ∃ m', f_X12_keepsTold_L174 G k G (nI 0) m = k m' ∧ I 192 m' := by
  obtain ⟨g', m', k1, i1⟩ := loopZ (fun g v (m : Mem) => f_X12_keepsTold_L174 G k g v m) 10 (fun j m => I (152 + 4 * j) m) (by
    rintro g j m hj i1
    have i1 : I (152 + 4 * j) m := i1
    obtain ⟨p0, p1, p2, p3⟩ := po_e j hj
    obtain ⟨w0, m0, a0, b0⟩ := stp S (by omega) p0 i1
    obtain ⟨w1, m1, a1, b1⟩ := stp S (by omega) p1 b0
    obtain ⟨w2, m2, a2, b2⟩ := stp S (by omega) p2 b1
    obtain ⟨w3, m3, a3, b3⟩ := stp S (by omega) p3 b2
    refine ⟨wr m3 36 j w3, ?_, ?_⟩
    · show f_X12_keepsTold_L174 G k (g + 1) (nI j) m = f_X12_keepsTold_L174 G k g (nI (j + 1)) (wr m3 36 j w3)
      rw [f_X12_keepsTold_L174, if_neg (show ¬ (10 : Int32) ≤ nI j from nI_ge (b := 10) hj (by omega)), chkn (by omega) (by omega), ixn (by omega), a0, bndE_s, chkn (by omega) (by omega)]
      refine Eq.trans (chkn (by omega) (by omega)) ?_
      refine Eq.trans (congrArg (fun z => bndE z _) (show f_X12_keeps G ((wr m0 27 j w0) 28 j) (wr m0 27 j w0) = some (w1, m1) from a1)) ?_
      rw [bndE_s, chkn (by omega) (by omega)]
      refine Eq.trans (chkn (by omega) (by omega)) ?_
      refine Eq.trans (congrArg (fun z => bndE z _) (show f_X12_keeps G ((wr m1 28 j w1) 29 j) (wr m1 28 j w1) = some (w2, m2) from a2)) ?_
      rw [bndE_s, chkn (by omega) (by omega)]
      refine Eq.trans (chkn (by omega) (by omega)) ?_
      refine Eq.trans (congrArg (fun z => bndE z _) (show f_X12_keeps G ((wr m2 29 j w2) 36 j) (wr m2 29 j w2) = some (w3, m3) from a3)) ?_
      rw [bndE_s, chkn (by omega) (by omega)]
      show f_X12_keepsTold_L174 G k g (nI j + 1) (wr m3 36 j w3) = _
      rw [nI_1]
    · show I (152 + 4 * (j + 1)) (wr m3 36 j w3)
      rw [show 152 + 4 * (j + 1) = 152 + 4 * j + 1 + 1 + 1 + 1 by omega]
      exact b3) (by omega : 10 < G) (s := m) (by show I (152 + 4 * 0) m; exact h)
  refine ⟨m', ?_, ?_⟩
  · refine Eq.trans k1 ?_
    show f_X12_keepsTold_L174 G k (g' + 1) (nI 10) m' = _
    rw [f_X12_keepsTold_L174, if_pos (by decide)]
  · have i1 : I (152 + 4 * 10) m' := i1
    exact i1
theorem lp_f {I : Nat → Mem → Prop} (S : StpI G I) (hG : 1000 ≤ G) (k : Mem → Option Mem) {m : Mem} (h : I 192 m) : ∃ m', f_X12_keepsTold_L252 G k G (nI 0) m = k m' ∧ I 204 m' := by
  obtain ⟨g', m', k1, i1⟩ := loopZ (fun g v (m : Mem) => f_X12_keepsTold_L252 G k g v m) 6 (fun j m => I (192 + 2 * j) m) (by
    rintro g j m hj i1
    have i1 : I (192 + 2 * j) m := i1
    obtain ⟨p0, p1⟩ := po_f j hj
    obtain ⟨w0, m0, a0, b0⟩ := stp S (by omega) p0 i1
    obtain ⟨w1, m1, a1, b1⟩ := stp S (by omega) p1 b0
    refine ⟨wr m1 35 j w1, ?_, ?_⟩
    · show f_X12_keepsTold_L252 G k (g + 1) (nI j) m = f_X12_keepsTold_L252 G k g (nI (j + 1)) (wr m1 35 j w1)
      rw [f_X12_keepsTold_L252, if_neg (show ¬ (6 : Int32) ≤ nI j from nI_ge (b := 6) hj (by omega)), chkn (by omega) (by omega), ixn (by omega), a0, bndE_s, chkn (by omega) (by omega)]
      refine Eq.trans (chkn (by omega) (by omega)) ?_
      refine Eq.trans (congrArg (fun z => bndE z _) (show f_X12_keeps G ((wr m0 34 j w0) 35 j) (wr m0 34 j w0) = some (w1, m1) from a1)) ?_
      rw [bndE_s, chkn (by omega) (by omega)]
      show f_X12_keepsTold_L252 G k g (nI j + 1) (wr m1 35 j w1) = _
      rw [nI_1]
    · show I (192 + 2 * (j + 1)) (wr m1 35 j w1)
      rw [show 192 + 2 * (j + 1) = 192 + 2 * j + 1 + 1 by omega]
      exact b1) (by omega : 6 < G) (s := m) (by show I (192 + 2 * 0) m; exact h)
  refine ⟨m', ?_, ?_⟩
  · refine Eq.trans k1 ?_
    show f_X12_keepsTold_L252 G k (g' + 1) (nI 6) m' = _
    rw [f_X12_keepsTold_L252, if_pos (by decide)]
  · have i1 : I (192 + 2 * 6) m' := i1
    exact i1
theorem lp_g {I : Nat → Mem → Prop} (S : StpI G I) (hG : 1000 ≤ G) (k : Mem → Option Mem) {m : Mem} (h : I 204 m) : ∃ m', f_X12_keepsTold_L298 G k G (nI 0) m = k m' ∧ I 210 m' := by
  obtain ⟨g', m', k1, i1⟩ := loopZ (fun g v (m : Mem) => f_X12_keepsTold_L298 G k g v m) 3 (fun j m => I (204 + 2 * j) m) (by
    rintro g j m hj i1
    have i1 : I (204 + 2 * j) m := i1
    obtain ⟨p0, p1⟩ := po_g j hj
    obtain ⟨w0, m0, a0, b0⟩ := stp S (by omega) p0 i1
    obtain ⟨w1, m1, a1, b1⟩ := stp S (by omega) p1 b0
    refine ⟨wr m1 41 j w1, ?_, ?_⟩
    · show f_X12_keepsTold_L298 G k (g + 1) (nI j) m = f_X12_keepsTold_L298 G k g (nI (j + 1)) (wr m1 41 j w1)
      rw [f_X12_keepsTold_L298, if_neg (show ¬ (3 : Int32) ≤ nI j from nI_ge (b := 3) hj (by omega)), chkn (by omega) (by omega), ixn (by omega), a0, bndE_s, chkn (by omega) (by omega)]
      refine Eq.trans (chkn (by omega) (by omega)) ?_
      refine Eq.trans (congrArg (fun z => bndE z _) (show f_X12_keeps G ((wr m0 40 j w0) 41 j) (wr m0 40 j w0) = some (w1, m1) from a1)) ?_
      rw [bndE_s, chkn (by omega) (by omega)]
      show f_X12_keepsTold_L298 G k g (nI j + 1) (wr m1 41 j w1) = _
      rw [nI_1]
    · show I (204 + 2 * (j + 1)) (wr m1 41 j w1)
      rw [show 204 + 2 * (j + 1) = 204 + 2 * j + 1 + 1 by omega]
      exact b1) (by omega : 3 < G) (s := m) (by show I (204 + 2 * 0) m; exact h)
  refine ⟨m', ?_, ?_⟩
  · refine Eq.trans k1 ?_
    show f_X12_keepsTold_L298 G k (g' + 1) (nI 3) m' = _
    rw [f_X12_keepsTold_L298, if_pos (by decide)]
  · have i1 : I (204 + 2 * 3) m' := i1
    exact i1
theorem lp_h {I : Nat → Mem → Prop} (S : StpI G I) (hG : 1000 ≤ G) (k : Mem → Option Mem) {m : Mem} (h : I 210 m) : ∃ m', f_X12_keepsTold_L343 G k G (nI 0) m = k m' ∧ I 217 m' := by
  obtain ⟨g', m', k1, i1⟩ := loopZ (fun g v (m : Mem) => f_X12_keepsTold_L343 G k g v m) 7 (fun j m => I (210 + j) m) (by
    rintro g j m hj i1
    have i1 : I (210 + j) m := i1
    have p0 := po_h j hj
    obtain ⟨w0, m0, a0, b0⟩ := stp S (by omega) p0 i1
    refine ⟨wr m0 42 j w0, ?_, ?_⟩
    · show f_X12_keepsTold_L343 G k (g + 1) (nI j) m = f_X12_keepsTold_L343 G k g (nI (j + 1)) (wr m0 42 j w0)
      rw [f_X12_keepsTold_L343, if_neg (show ¬ (7 : Int32) ≤ nI j from nI_ge (b := 7) hj (by omega)), chkn (by omega) (by omega), ixn (by omega), a0, bndE_s, chkn (by omega) (by omega)]
      show f_X12_keepsTold_L343 G k g (nI j + 1) (wr m0 42 j w0) = _
      rw [nI_1]
    · show I (210 + (j + 1)) (wr m0 42 j w0)
      rw [show 210 + (j + 1) = 210 + j + 1 by omega]
      exact b0) (by omega : 7 < G) (s := m) (by show I (210 + 0) m; exact h)
  refine ⟨m', ?_, ?_⟩
  · refine Eq.trans k1 ?_
    show f_X12_keepsTold_L343 G k (g' + 1) (nI 7) m' = _
    rw [f_X12_keepsTold_L343, if_pos (by decide)]
  · have i1 : I (210 + 7) m' := i1
    exact i1
theorem lp_i {I : Nat → Mem → Prop} (S : StpI G I) (hG : 1000 ≤ G) (k : Mem → Option Mem) {m : Mem} (h : I 217 m) : ∃ m', f_X12_keepsTold_L373 G k G (nI 0) m = k m' ∧ I 233 m' := by
  obtain ⟨g', m', k1, i1⟩ := loopZ (fun g v (m : Mem) => f_X12_keepsTold_L373 G k g v m) 16 (fun j m => I (217 + j) m) (by
    rintro g j m hj i1
    have i1 : I (217 + j) m := i1
    have p0 := po_i j hj
    obtain ⟨w0, m0, a0, b0⟩ := stp S (by omega) p0 i1
    refine ⟨wr m0 20 j w0, ?_, ?_⟩
    · show f_X12_keepsTold_L373 G k (g + 1) (nI j) m = f_X12_keepsTold_L373 G k g (nI (j + 1)) (wr m0 20 j w0)
      rw [f_X12_keepsTold_L373, if_neg (show ¬ (16 : Int32) ≤ nI j from nI_ge (b := 16) hj (by omega)), chkn (by omega) (by omega), ixn (by omega), a0, bndE_s, chkn (by omega) (by omega)]
      show f_X12_keepsTold_L373 G k g (nI j + 1) (wr m0 20 j w0) = _
      rw [nI_1]
    · show I (217 + (j + 1)) (wr m0 20 j w0)
      rw [show 217 + (j + 1) = 217 + j + 1 by omega]
      exact b0) (by omega : 16 < G) (s := m) (by show I (217 + 0) m; exact h)
  refine ⟨m', ?_, ?_⟩
  · refine Eq.trans k1 ?_
    show f_X12_keepsTold_L373 G k (g' + 1) (nI 16) m' = _
    rw [f_X12_keepsTold_L373, if_pos (by decide)]
  · have i1 : I (217 + 16) m' := i1
    exact i1
theorem lp_j {I : Nat → Mem → Prop} (S : StpI G I) (hG : 1000 ≤ G) {m : Mem} (h : I 233 m) : ∃ m', f_X12_keepsTold_L403 G G (nI 0) m = some m' ∧ I 329 m' := by
  obtain ⟨g', m', k1, i1⟩ := loopZ (fun g v (m : Mem) => f_X12_keepsTold_L403 G g v m) 96 (fun j m => I (233 + j) m) (by
    rintro g j m hj i1
    have i1 : I (233 + j) m := i1
    have p0 := po_j j hj
    obtain ⟨w0, m0, a0, b0⟩ := stp S (by omega) p0 i1
    refine ⟨wr m0 21 j w0, ?_, ?_⟩
    · show f_X12_keepsTold_L403 G (g + 1) (nI j) m = f_X12_keepsTold_L403 G g (nI (j + 1)) (wr m0 21 j w0)
      rw [f_X12_keepsTold_L403, if_neg (show ¬ (96 : Int32) ≤ nI j from nI_ge (b := 96) hj (by omega)), chkn (by omega) (by omega), ixn (by omega), a0, bndE_s, chkn (by omega) (by omega)]
      show f_X12_keepsTold_L403 G g (nI j + 1) (wr m0 21 j w0) = _
      rw [nI_1]
    · show I (233 + (j + 1)) (wr m0 21 j w0)
      rw [show 233 + (j + 1) = 233 + j + 1 by omega]
      exact b0) (by omega : 96 < G) (s := m) (by show I (233 + 0) m; exact h)
  refine ⟨m', ?_, ?_⟩
  · refine Eq.trans k1 ?_
    show f_X12_keepsTold_L403 G (g' + 1) (nI 96) m' = _
    rw [f_X12_keepsTold_L403, if_pos (by decide)]
  · have i1 : I (233 + 96) m' := i1
    exact i1
theorem lp_k {I : Nat → Mem → Prop} (S : StpI G I) (hG : 1000 ≤ G) (k : Int32 → Mem → Option (Int32 × Mem)) (v1 : Int32) {m : Mem} (h : I 329 m) : ∃ m', f_X12_image_L73 G k G v1 (nI 0) m = k v1 m' ∧ I 929 m' := by
  obtain ⟨g', m', k1, i1⟩ := loopZ (fun g v (m : Mem) => f_X12_image_L73 G k g v1 v m) 600 (fun j m => I (329 + j) m) (by
    rintro g j m hj i1
    have i1 : I (329 + j) m := i1
    have p0 := po_k j hj
    obtain ⟨w0, m0, a0, b0⟩ := stp S (by omega) p0 i1
    refine ⟨wr m0 9 j w0, ?_, ?_⟩
    · show f_X12_image_L73 G k (g + 1) v1 (nI j) m = f_X12_image_L73 G k g v1 (nI (j + 1)) (wr m0 9 j w0)
      rw [f_X12_image_L73, if_neg (show ¬ (600 : Int32) ≤ nI j from nI_ge (b := 600) hj (by omega)), chkn (by omega) (by omega), ixn (by omega), a0, bndE_s, chkn (by omega) (by omega)]
      show f_X12_image_L73 G k g v1 (nI j + 1) (wr m0 9 j w0) = _
      rw [nI_1]
    · show I (329 + (j + 1)) (wr m0 9 j w0)
      rw [show 329 + (j + 1) = 329 + j + 1 by omega]
      exact b0) (by omega : 600 < G) (s := m) (by show I (329 + 0) m; exact h)
  refine ⟨m', ?_, ?_⟩
  · refine Eq.trans k1 ?_
    show f_X12_image_L73 G k (g' + 1) v1 (nI 600) m' = _
    rw [f_X12_image_L73, if_pos (by decide)]
  · have i1 : I (329 + 600) m' := i1
    exact i1
theorem lp_m {I : Nat → Mem → Prop} (S : StpI G I) (hG : 1000 ≤ G) (k : Mem → Option Mem) {m : Mem} (h : I 930 m) : ∃ m', f_X12_keepsLaw_L18 G k G (nI 0) m = k m' ∧ I 994 m' := by
  obtain ⟨g', m', k1, i1⟩ := loopZ (fun g v (m : Mem) => f_X12_keepsLaw_L18 G k g v m) 16 (fun j m => I (930 + 4 * j) m) (by
    rintro g j m hj i1
    have i1 : I (930 + 4 * j) m := i1
    obtain ⟨p0, p1, p2, p3⟩ := po_m j hj
    obtain ⟨w0, m0, a0, b0⟩ := stp S (by omega) p0 i1
    obtain ⟨w1, m1, a1, b1⟩ := stp S (by omega) p1 b0
    obtain ⟨w2, m2, a2, b2⟩ := stp S (by omega) p2 b1
    obtain ⟨w3, m3, a3, b3⟩ := stp S (by omega) p3 b2
    refine ⟨wr m3 16 j w3, ?_, ?_⟩
    · show f_X12_keepsLaw_L18 G k (g + 1) (nI j) m = f_X12_keepsLaw_L18 G k g (nI (j + 1)) (wr m3 16 j w3)
      rw [f_X12_keepsLaw_L18, if_neg (show ¬ (16 : Int32) ≤ nI j from nI_ge (b := 16) hj (by omega)), chkn (by omega) (by omega), ixn (by omega), a0, bndE_s, chkn (by omega) (by omega)]
      refine Eq.trans (chkn (by omega) (by omega)) ?_
      refine Eq.trans (congrArg (fun z => bndE z _) (show f_X12_keeps G ((wr m0 13 j w0) 14 j) (wr m0 13 j w0) = some (w1, m1) from a1)) ?_
      rw [bndE_s, chkn (by omega) (by omega)]
      refine Eq.trans (chkn (by omega) (by omega)) ?_
      refine Eq.trans (congrArg (fun z => bndE z _) (show f_X12_keeps G ((wr m1 14 j w1) 15 j) (wr m1 14 j w1) = some (w2, m2) from a2)) ?_
      rw [bndE_s, chkn (by omega) (by omega)]
      refine Eq.trans (chkn (by omega) (by omega)) ?_
      refine Eq.trans (congrArg (fun z => bndE z _) (show f_X12_keeps G ((wr m2 15 j w2) 16 j) (wr m2 15 j w2) = some (w3, m3) from a3)) ?_
      rw [bndE_s, chkn (by omega) (by omega)]
      show f_X12_keepsLaw_L18 G k g (nI j + 1) (wr m3 16 j w3) = _
      rw [nI_1]
    · show I (930 + 4 * (j + 1)) (wr m3 16 j w3)
      rw [show 930 + 4 * (j + 1) = 930 + 4 * j + 1 + 1 + 1 + 1 by omega]
      exact b3) (by omega : 16 < G) (s := m) (by show I (930 + 4 * 0) m; exact h)
  refine ⟨m', ?_, ?_⟩
  · refine Eq.trans k1 ?_
    show f_X12_keepsLaw_L18 G k (g' + 1) (nI 16) m' = _
    rw [f_X12_keepsLaw_L18, if_pos (by decide)]
  · have i1 : I (930 + 4 * 16) m' := i1
    exact i1
theorem lp_n {I : Nat → Mem → Prop} (S : StpI G I) (hG : 1000 ≤ G) {m : Mem} (h : I 994 m) : ∃ m', f_X12_keepsLaw_L96 G G (nI 0) m = some m' ∧ I 1794 m' := by
  obtain ⟨g', m', k1, i1⟩ := loopZ (fun g v (m : Mem) => f_X12_keepsLaw_L96 G g v m) 400 (fun j m => I (994 + 2 * j) m) (by
    rintro g j m hj i1
    have i1 : I (994 + 2 * j) m := i1
    obtain ⟨p0, p1⟩ := po_n j hj
    obtain ⟨w0, m0, a0, b0⟩ := stp S (by omega) p0 i1
    obtain ⟨w1, m1, a1, b1⟩ := stp S (by omega) p1 b0
    refine ⟨wr m1 18 j w1, ?_, ?_⟩
    · show f_X12_keepsLaw_L96 G (g + 1) (nI j) m = f_X12_keepsLaw_L96 G g (nI (j + 1)) (wr m1 18 j w1)
      rw [f_X12_keepsLaw_L96, if_neg (show ¬ (400 : Int32) ≤ nI j from nI_ge (b := 400) hj (by omega)), chkn (by omega) (by omega), ixn (by omega), a0, bndE_s, chkn (by omega) (by omega)]
      refine Eq.trans (chkn (by omega) (by omega)) ?_
      refine Eq.trans (congrArg (fun z => bndE z _) (show f_X12_keeps G ((wr m0 17 j w0) 18 j) (wr m0 17 j w0) = some (w1, m1) from a1)) ?_
      rw [bndE_s, chkn (by omega) (by omega)]
      show f_X12_keepsLaw_L96 G g (nI j + 1) (wr m1 18 j w1) = _
      rw [nI_1]
    · show I (994 + 2 * (j + 1)) (wr m1 18 j w1)
      rw [show 994 + 2 * (j + 1) = 994 + 2 * j + 1 + 1 by omega]
      exact b1) (by omega : 400 < G) (s := m) (by show I (994 + 2 * 0) m; exact h)
  refine ⟨m', ?_, ?_⟩
  · refine Eq.trans k1 ?_
    show f_X12_keepsLaw_L96 G (g' + 1) (nI 400) m' = _
    rw [f_X12_keepsLaw_L96, if_pos (by decide)]
  · have i1 : I (994 + 2 * 400) m' := i1
    exact i1
theorem toldI_ok {I : Nat → Mem → Prop} (S : StpI G I) (hG : 1000 ≤ G) {m : Mem} (h : I 60 m) : ∃ m', f_X12_keepsTold G m = some m' ∧ I 329 m' := by
  obtain ⟨m1, a1, b1⟩ := lp_c S hG (f_X12_keepsTold_j94 G) h
  obtain ⟨m2, a2, b2⟩ := lp_d S hG (f_X12_keepsTold_j172 G) b1
  obtain ⟨m3, a3, b3⟩ := lp_e S hG (f_X12_keepsTold_j250 G) b2
  obtain ⟨m4, a4, b4⟩ := lp_f S hG (f_X12_keepsTold_j296 G) b3
  obtain ⟨m5, a5, b5⟩ := lp_g S hG (f_X12_keepsTold_j341 G) b4
  obtain ⟨m6, a6, b6⟩ := lp_h S hG (f_X12_keepsTold_j371 G) b5
  obtain ⟨m7, a7, b7⟩ := lp_i S hG (f_X12_keepsTold_j401 G) b6
  obtain ⟨m8, a8, b8⟩ := lp_j S hG b7
  exact ⟨m8, a1.trans (a2.trans (a3.trans (a4.trans (a5.trans (a6.trans (a7.trans a8)))))), b8⟩
theorem law_kp {I : Nat → Mem → Prop} (S : StpI G I) (hG : 1000 ≤ G) {m : Mem} (h : I 929 m) : ∃ m', f_X12_keepsLaw G m = some m' ∧ I 1794 m' := by
  obtain ⟨w0, m0, a0, b0⟩ := stp S (by omega) po_l h
  obtain ⟨m1, a1, b1⟩ := lp_m S hG (f_X12_keepsLaw_j94 G) b0
  obtain ⟨m2, a2, b2⟩ := lp_n S hG b1
  refine ⟨m2, ?_, b2⟩
  unfold f_X12_keepsLaw
  rw [a0, bndE_s]
  exact a1.trans a2
/-- the whole walk -/
theorem im_walk {I : Nat → Mem → Prop} (S : StpI G I) (hG : 1000 ≤ G) (v1 : Int32) {m : Mem} (h : I 0 m) : ∃ m', f_X12_image_L35 G (f_X12_image_j63 G) G v1 (nI 0) m = (if v1 = 0 then some (1, wr m' 0 3 0) else some (1, m')) ∧ I 1794 m' := by
  obtain ⟨m1, a1, b1⟩ := lp_a S hG (f_X12_image_j63 G) v1 h
  obtain ⟨m2, a2, b2⟩ := many_ok S b1
  obtain ⟨m3, a3, b3⟩ := toldI_ok S hG b2
  obtain ⟨m4, a4, b4⟩ := lp_k S hG (f_X12_image_j102 G) v1 b3
  obtain ⟨m5, a5, b5⟩ := law_kp S hG b4
  refine ⟨m5, ?_, b5⟩
  rw [a1, f_X12_image_j63, a2, bndV_s, a3, bndV_s]
  refine Eq.trans a4 ?_
  rw [f_X12_image_j102, a5, bndV_s]
end
