section
theorem isE_ok {G x y : Nat} {ρ : Mem} {M : Nat → Nat} (hM : ∀ u, u < 10 → M u < 1024 ∧ ρ 36 u = nI (M u)) (hx : x < 20) (hy : y < 20) : f_X12_isEdge G ρ (nI x) (nI y) = some (nI (if edB M x y = true then 1 else 0)) := by
  have x2 : irm (nI x) (2 : Int32) = nI (x % 2) := irmn (d := 2) (by omega) (by omega) (by omega)
  have y2 : irm (nI y) (2 : Int32) = nI (y % 2) := irmn (d := 2) (by omega) (by omega) (by omega)
  have xd : nI x / (2 : Int32) = nI (x / 2) := pk_div (d := 2) (by omega) (by omega) (by omega)
  have yd : nI y / (2 : Int32) = nI (y / 2) := pk_div (d := 2) (by omega) (by omega) (by omega)
  unfold f_X12_isEdge edB
  rw [x2, y2, xd, yd, show (1 : Int32) = nI 1 from rfl, nI_add]
  by_cases c : x % 2 = 0
  · rw [c, if_pos (show nI 0 = 0 from rfl), if_pos rfl]
    by_cases e : y = x + 1
    · rw [if_pos (by rw [e]), if_pos (by rw [e]; exact beq_self_eq_true _)]
    · rw [if_neg (by rw [nI_eq (by omega) (by omega)]; exact e), if_neg (by rw [beq_eq_false_iff_ne.mpr e]; decide)]
      rfl
  · have x1 : x % 2 = 1 := by omega
    rw [x1, if_neg (show ¬ nI 1 = 0 by decide), if_neg (show ¬ (1 : Nat) = 0 by decide)]
    by_cases d : y % 2 = 0
    · rw [d, if_pos (show nI 0 = 0 from rfl), chkn (by omega) (by omega), ixn (by omega), (hM (x / 2) (by omega)).2, has12, hasn (by have := (hM (x / 2) (by omega)).1; omega) (by omega), beq_self_eq_true, Bool.true_and]
      by_cases b : (M (x / 2)).testBit (y / 2) = true
      · rw [if_pos b, if_pos b, if_neg (by decide)]
      · rw [if_neg b, if_neg b, if_pos (show nI 0 = 0 from rfl)]
        rfl
    · have y1 : y % 2 = 1 := by omega
      rw [y1, if_neg (show ¬ nI 1 = 0 by decide)]
      rfl
theorem isL_ok {G x y : Nat} {ρ : Mem} {M : Nat → Nat} {F : Nat → Nat → Nat} (hM : ∀ u, u < 10 → M u < 1024 ∧ ρ 36 u = nI (M u)) (fm : FlM ρ F) (fe : FlE M F) (hx : x < 20) (hy : y < 20) : f_X12_isLeft G ρ (nI x) (nI y) = some (nI (if lfB M F x y = true then 1 else 0)) := by
  have i1 : (20 : Int32) * nI y + nI x = nI (20 * y + x) := by
    show nI 20 * nI y + nI x = _
    rw [pk_mul, nI_add]
  have i2 : (20 : Int32) * nI x + nI y = nI (20 * x + y) := by
    show nI 20 * nI x + nI y = _
    rw [pk_mul, nI_add]
  have m1 := fm y x hy hx
  have m2 := fm x y hx hy
  have e1 := (fe y x hy hx).1
  have e2 := (fe x y hx hy).1
  unfold f_X12_isLeft lfB
  rw [i1, i2, chkn (by omega) (by omega), ixn (by omega), m1]
  by_cases c : F y x = 1
  · rw [c, if_pos (show nI 1 = 1 from rfl), beq_self_eq_true, Bool.true_or, if_pos rfl]
    rfl
  · have c0 : F y x = 0 := by omega
    rw [c0, if_neg (show ¬ nI 0 = 1 by decide), isE_ok hM hx hy, bndO_s, show ((0 : Nat) == 1) = false from rfl, Bool.false_or]
    by_cases d : edB M x y = true
    · rw [if_pos d, if_neg (show ¬ nI 1 = 0 by decide), chkn (by omega) (by omega), ixn (by omega), m2, d, Bool.true_and]
      by_cases z : F x y = 0
      · rw [z, if_pos (show nI 0 = 0 from rfl)]
        rfl
      · have z1 : F x y = 1 := by omega
        rw [z1, if_neg (show ¬ nI 1 = 0 by decide)]
        rfl
    · rw [if_neg d, if_pos (show nI 0 = 0 from rfl), bool_ne d, Bool.false_and]
      rfl
def lbc (lab : Nat → Bool) : Nat := nsm (fun x => if lab x = true then 1 else 0) 20
theorem lbc_le {lab : Nat → Bool} : lbc lab ≤ 20 := by
  have := nsm_le (f := fun x => if lab x = true then 1 else 0) (h := fun _ => 1) (n := 20) (fun x _ => by show (if _ then _ else _) ≤ 1; split <;> omega)
  rw [nsm_c] at this
  exact this
theorem lbc_add {lab : Nat → Bool} {y : Nat} (hy : y < 20) (h : lab y = false) : lbc (fun z => if z = y then true else lab z) = lbc lab + 1 := by
  have := nsm_upd (f := fun x => if lab x = true then 1 else 0) (h := fun x => if (if x = y then true else lab x) = true then 1 else 0) (y0 := y) (n := 20) hy (fun x _ e => by rw [if_neg e])
  rw [if_pos rfl, if_pos rfl, h, if_neg (by decide)] at this
  unfold lbc
  omega
theorem LbI_add {M : Nat → Nat} {F : Nat → Nat → Nat} {lab : Nat → Bool} {pv dp : Nat → Nat} {s x y : Nat} (L : LbI M F lab pv dp s) (hx : x < 20) (lx : lab x = true) (ly : lab y = false) (hl : lfB M F x y = true) :
    LbI M F (fun z => if z = y then true else lab z) (fun z => if z = y then x else pv z) (fun z => if z = y then dp x + 1 else dp z) s := by
  have sy : s ≠ y := fun e => by rw [← e, L.1] at ly; cases ly
  have xy : x ≠ y := fun e => by rw [← e, lx] at ly; cases ly
  refine ⟨by show (if s = y then true else lab s) = true; rw [if_neg sy]; exact L.1, by show (if s = y then x else pv s) = s; rw [if_neg sy]; exact L.2.1, fun z hz lz zs => ?_⟩
  show (if z = y then x else pv z) < 20 ∧ (if (if z = y then x else pv z) = y then true else lab (if z = y then x else pv z)) = true ∧ lfB M F (if z = y then x else pv z) z = true ∧ (if (if z = y then x else pv z) = y then dp x + 1 else dp (if z = y then x else pv z)) < (if z = y then dp x + 1 else dp z)
  by_cases e : z = y
  · rw [if_pos e, if_pos e, if_neg xy, if_neg xy, e]
    exact ⟨hx, lx, hl, by omega⟩
  · have lz : (if z = y then true else lab z) = true := lz
    rw [if_neg e] at lz
    obtain ⟨a1, a2, a3, a4⟩ := L.2.2 z hz lz zs
    have py : pv z ≠ y := fun e => by rw [← e, a2] at ly; cases ly
    rw [if_neg e, if_neg e, if_neg py, if_neg py]
    exact ⟨a1, a2, a3, a4⟩
theorem LbM_add {ρ : Mem} {lab : Nat → Bool} {pv : Nat → Nat} {x y : Nat} (h : LbM ρ lab pv) : LbM (wr ρ 38 y (nI x)) (fun z => if z = y then true else lab z) (fun z => if z = y then x else pv z) := by
  intro z hz
  by_cases e : z = y
  · show _ = if (if z = y then true else lab z) = true then nI (if z = y then x else pv z) else _
    rw [if_pos e, if_pos rfl, if_pos e, e, wr_same]
  · show _ = if (if z = y then true else lab z) = true then nI (if z = y then x else pv z) else _
    rw [if_neg e, if_neg e, wr_slot e]
    exact h z hz
def LbJ (M : Nat → Nat) (F : Nat → Nat → Nat) (lab : Nat → Bool) (pv dp : Nat → Nat) (s : Nat) : Prop := LbI M F lab pv dp s ∧ ∀ z, z < 20 → lab z = true → dp z < lbc lab
theorem LbJ_add {M : Nat → Nat} {F : Nat → Nat → Nat} {lab : Nat → Bool} {pv dp : Nat → Nat} {s x y : Nat} (hy : y < 20) (L : LbJ M F lab pv dp s) (hx : x < 20) (lx : lab x = true) (ly : lab y = false) (hl : lfB M F x y = true) :
    LbJ M F (fun z => if z = y then true else lab z) (fun z => if z = y then x else pv z) (fun z => if z = y then dp x + 1 else dp z) s := by
  refine ⟨LbI_add L.1 hx lx ly hl, fun z hz lz => ?_⟩
  rw [lbc_add hy ly]
  show (if z = y then dp x + 1 else dp z) < _
  by_cases e : z = y
  · rw [if_pos e]
    have := L.2 x hx lx
    omega
  · have lz : (if z = y then true else lab z) = true := lz
    rw [if_neg e] at lz
    rw [if_neg e]
    have := L.2 z hz lz
    omega
/-- what holds while one sweeps; D the pairs that were looked at -/
def SwI (ρ : Mem) (M : Nat → Nat) (F : Nat → Nat → Nat) (s : Nat) (lab0 : Nat → Bool) (D : Nat → Nat → Prop) (c : Int32) (μ : Mem) : Prop :=
  ∃ lab pv dp, (∀ z, z ≠ 38 → μ z = ρ z) ∧ LbM μ lab pv ∧ LbJ M F lab pv dp s ∧ (∀ z, lab0 z = true → lab z = true) ∧ ((c = nI 0 ∧ lab = lab0 ∧ ∀ x y, D x y → y < 20 → lab x = true → lab y = false → lfB M F x y = false) ∨ (c = nI 1 ∧ lbc lab0 < lbc lab))
theorem LbI_pv {M : Nat → Nat} {F : Nat → Nat → Nat} {lab : Nat → Bool} {pv dp : Nat → Nat} {s x : Nat} (L : LbI M F lab pv dp s) (hs : s < 20) (hx : x < 20) (lx : lab x = true) : pv x < 20 := by
  rcases Classical.em (x = s) with e | e
  · rw [e, L.2.1]; exact hs
  · exact (L.2.2 x hx lx e).1
theorem sw73 {G s x : Nat} {ρ μ : Mem} {M : Nat → Nat} {F : Nat → Nat → Nat} {lab0 : Nat → Bool} {c : Int32} (hG : 500 ≤ G) (hM : ∀ u, u < 10 → M u < 1024 ∧ ρ 36 u = nI (M u)) (fm : FlM ρ F) (fe : FlE M F) (hs : s < 20) (hx : x < 20) (r30 k30 r49 k49 k73 v1 v2) (hI : SwI ρ M F s lab0 (fun i _ => i < x) c μ) (hw : ∃ w, w < 20 ∧ μ 38 x = nI w) :
    ∃ c' μ', f_X12_goesOneMore_L73 G r30 k30 r49 k49 k73 G v1 v2 c (nI x) (nI 0) μ = k73 v1 v2 c' (nI x) μ' ∧ SwI ρ M F s lab0 (fun i _ => i < x + 1) c' μ' := by
  obtain ⟨g', ⟨c', μ'⟩, k1, ⟨i0, i1⟩⟩ := loopZ (fun g v (σ : Int32 × Mem) => f_X12_goesOneMore_L73 G r30 k30 r49 k49 k73 g v1 v2 σ.1 (nI x) v σ.2) 20 (fun k σ => (∃ w, w < 20 ∧ σ.2 38 x = nI w) ∧ SwI ρ M F s lab0 (fun i j => i < x ∨ (i = x ∧ j < k)) σ.1 σ.2) (by
    rintro g y ⟨c, μ⟩ hy ⟨⟨w, w1, w2⟩, lab, pv, dp, j1, j2, j3, j4, j5⟩
    have w2 : μ 38 x = nI w := w2
    have j1 : ∀ z, z ≠ 38 → μ z = ρ z := j1
    have j2 : LbM μ lab pv := j2
    have e20 : ¬ (20 : Int32) ≤ nI y := nI_ge (b := 20) hy (by omega)
    have lx : lab x = true := by
      have h := j2 x hx
      rw [w2] at h
      rcases Bool.eq_false_or_eq_true (lab x) with q | q
      · exact q
      · rw [q, if_neg (by decide)] at h
        exact absurd h (nI_m1 (by omega))
    have left := isL_ok (G := G) (ρ := μ) (M := M) (F := F) (fun u hu => by rw [j1 36 (by omega)]; exact hM u hu) (by intro i j hi hj; rw [j1 37 (by omega)]; exact fm i j hi hj) fe hx hy
    have m2 := j2 y hy
    show ∃ σ' : Int32 × Mem, f_X12_goesOneMore_L73 G r30 k30 r49 k49 k73 (g + 1) v1 v2 c (nI x) (nI y) μ = f_X12_goesOneMore_L73 G r30 k30 r49 k49 k73 g v1 v2 σ'.1 (nI x) (nI (y + 1)) σ'.2 ∧ _
    by_cases ly : lab y = true
    · rw [if_pos ly] at m2
      have py := LbI_pv j3.1 hs hy ly
      refine ⟨(c, μ), ?_, ⟨w, w1, w2⟩, lab, pv, dp, j1, j2, j3, j4, ?_⟩
      · rw [f_X12_goesOneMore_L73, if_neg e20, chkn hy (by omega), ixn (by omega), m2, if_neg (nI_m1 (by omega)), f_X12_goesOneMore_j116, show (1 : Int32) = nI 1 from rfl, nI_add]
      · rcases j5 with ⟨q1, q2, q3⟩ | q
        · refine Or.inl ⟨q1, q2, fun i j hD hj li lj => ?_⟩
          rcases hD with h | ⟨h1, h2⟩
          · exact q3 i j (Or.inl h) hj li lj
          · by_cases e : j = y
            · rw [e, ly] at lj; cases lj
            · exact q3 i j (Or.inr ⟨h1, by omega⟩) hj li lj
        · exact Or.inr q
    · have ly := bool_ne ly
      rw [ly, if_neg (by decide)] at m2
      by_cases lf : lfB M F x y = true
      · rw [if_pos lf] at left
        have xy : x ≠ y := fun e => by rw [← e, lx] at ly; cases ly
        refine ⟨(nI 1, wr μ 38 y (nI x)), ?_, ⟨w, w1, by show wr μ 38 y (nI x) 38 x = _; rw [wr_slot xy]; exact w2⟩, _, _, _, fun z hz => by show wr μ 38 y (nI x) z = _; rw [wr_off hz]; exact j1 z hz, LbM_add j2, LbJ_add hy j3 hx lx ly lf, fun z hz => ?_, Or.inr ⟨rfl, ?_⟩⟩
        · rw [f_X12_goesOneMore_L73, if_neg e20, chkn hy (by omega), ixn (by omega), m2, if_pos (show nI 4294967295 = -1 from rfl), left, bndO_s, if_neg (show ¬ nI 1 = 0 by decide), chkn hy (by omega), f_X12_goesOneMore_j116, show (1 : Int32) = nI 1 from rfl, nI_add]
        · show (if z = y then true else lab z) = true
          split
          · rfl
          · exact j4 z hz
        · rw [lbc_add hy ly]
          rcases j5 with ⟨q1, q2, q3⟩ | ⟨q1, q2⟩
          · rw [q2]; omega
          · omega
      · rw [if_neg lf] at left
        refine ⟨(c, μ), ?_, ⟨w, w1, w2⟩, lab, pv, dp, j1, j2, j3, j4, ?_⟩
        · rw [f_X12_goesOneMore_L73, if_neg e20, chkn hy (by omega), ixn (by omega), m2, if_pos (show nI 4294967295 = -1 from rfl), left, bndO_s, if_pos (show nI 0 = 0 from rfl), f_X12_goesOneMore_j116, show (1 : Int32) = nI 1 from rfl, nI_add]
        · rcases j5 with ⟨q1, q2, q3⟩ | q
          · refine Or.inl ⟨q1, q2, fun i j hD hj li lj => ?_⟩
            rcases hD with h | ⟨h1, h2⟩
            · exact q3 i j (Or.inl h) hj li lj
            · by_cases e : j = y
              · rw [h1, e]; exact bool_ne lf
              · exact q3 i j (Or.inr ⟨h1, by omega⟩) hj li lj
          · exact Or.inr q) (by omega : 20 < G) (s := (c, μ)) (by
      obtain ⟨lab, pv, dp, j1, j2, j3, j4, j5⟩ := hI
      refine ⟨hw, lab, pv, dp, j1, j2, j3, j4, ?_⟩
      rcases j5 with ⟨q1, q2, q3⟩ | q
      · refine Or.inl ⟨q1, q2, fun i j hD hj li lj => q3 i j ?_ hj li lj⟩
        rcases hD with h | h
        · exact h
        · exact absurd h.2 (by omega)
      · exact Or.inr q)
  refine ⟨c', μ', ?_, ?_⟩
  · refine Eq.trans k1 ?_
    show f_X12_goesOneMore_L73 G r30 k30 r49 k49 k73 (g' + 1) v1 v2 c' (nI x) (nI 20) μ' = _
    rw [f_X12_goesOneMore_L73, if_pos (by decide)]
  · obtain ⟨lab, pv, dp, j1, j2, j3, j4, j5⟩ := i1
    refine ⟨lab, pv, dp, j1, j2, j3, j4, ?_⟩
    rcases j5 with ⟨q1, q2, q3⟩ | q
    · refine Or.inl ⟨q1, q2, fun i j hD hj li lj => ?_⟩
      exact q3 i j (by
        rcases Nat.lt_or_ge i x with h | h
        · exact Or.inl h
        · exact Or.inr ⟨by omega, hj⟩) hj li lj
    · exact Or.inr q
theorem sw49 {G s : Nat} {ρ μ : Mem} {M : Nat → Nat} {F : Nat → Nat → Nat} {lab0 : Nat → Bool} {pv0 dp0 : Nat → Nat} (hG : 500 ≤ G) (hM : ∀ u, u < 10 → M u < 1024 ∧ ρ 36 u = nI (M u)) (fm : FlM ρ F) (fe : FlE M F) (hs : s < 20) (r30 k30 k49 v1 v2) (h1 : ∀ z, z ≠ 38 → μ z = ρ z) (h2 : LbM μ lab0 pv0) (h3 : LbJ M F lab0 pv0 dp0 s) :
    ∃ c' μ', f_X12_goesOneMore_L49 G r30 k30 k49 G v1 v2 (nI 0) (nI 0) μ = k49 v1 v2 c' μ' ∧ SwI ρ M F s lab0 (fun i _ => i < 20) c' μ' := by
  obtain ⟨g', ⟨c', μ'⟩, k1, i1⟩ := loopZ (fun g v (σ : Int32 × Mem) => f_X12_goesOneMore_L49 G r30 k30 k49 g v1 v2 σ.1 v σ.2) 20 (fun k σ => SwI ρ M F s lab0 (fun i _ => i < k) σ.1 σ.2) (by
    rintro g x ⟨c, μ⟩ hx hI
    have hI : SwI ρ M F s lab0 (fun i _ => i < x) c μ := hI
    have hI' := hI
    obtain ⟨lab, pv, dp, j1, j2, j3, j4, j5⟩ := hI
    have e20 : ¬ (20 : Int32) ≤ nI x := nI_ge (b := 20) hx (by omega)
    have m2 := j2 x hx
    show ∃ σ' : Int32 × Mem, f_X12_goesOneMore_L49 G r30 k30 k49 (g + 1) v1 v2 c (nI x) μ = f_X12_goesOneMore_L49 G r30 k30 k49 g v1 v2 σ'.1 (nI (x + 1)) σ'.2 ∧ _
    by_cases lx : lab x = true
    · rw [if_pos lx] at m2
      have px := LbI_pv j3.1 hs hx lx
      obtain ⟨c', μ', r1, r2⟩ := sw73 (G := G) hG hM fm fe hs hx r30 k30 (f_X12_goesOneMore_L49 G r30 k30 k49 g) k49 (f_X12_goesOneMore_j122 G r30 k30 (f_X12_goesOneMore_L49 G r30 k30 k49 g) k49) v1 v2 hI' ⟨_, px, m2⟩
      refine ⟨(c', μ'), ?_, r2⟩
      rw [f_X12_goesOneMore_L49, if_neg e20, chkn hx (by omega), ixn (by omega), m2, if_neg (nI_m1 (by omega))]
      refine Eq.trans r1 ?_
      rw [f_X12_goesOneMore_j122, show (1 : Int32) = nI 1 from rfl, nI_add]
    · have lx := bool_ne lx
      rw [lx, if_neg (by decide)] at m2
      refine ⟨(c, μ), ?_, lab, pv, dp, j1, j2, j3, j4, ?_⟩
      · rw [f_X12_goesOneMore_L49, if_neg e20, chkn hx (by omega), ixn (by omega), m2, if_pos (show nI 4294967295 = -1 from rfl), f_X12_goesOneMore_j122, show (1 : Int32) = nI 1 from rfl, nI_add]
      · rcases j5 with ⟨q1, q2, q3⟩ | q
        · refine Or.inl ⟨q1, q2, fun i j hD hj li lj => ?_⟩
          by_cases e : i = x
          · rw [e, lx] at li; cases li
          · exact q3 i j (by have hD : i < x + 1 := hD; show i < x; omega) hj li lj
        · exact Or.inr q) (by omega : 20 < G) (s := (nI 0, μ)) ⟨lab0, pv0, dp0, h1, h2, h3, fun z hz => hz, Or.inl ⟨rfl, rfl, fun i j hD => absurd hD (by omega)⟩⟩
  refine ⟨c', μ', ?_, i1⟩
  refine Eq.trans k1 ?_
  show f_X12_goesOneMore_L49 G r30 k30 k49 (g' + 1) v1 v2 c' (nI 20) μ' = _
  rw [f_X12_goesOneMore_L49, if_pos (by decide)]
theorem sw30 {G s t : Nat} {ρ : Mem} {M : Nat → Nat} {F : Nat → Nat → Nat} (hG : 500 ≤ G) (hM : ∀ u, u < 10 → M u < 1024 ∧ ρ 36 u = nI (M u)) (fm : FlM ρ F) (fe : FlE M F) (hs : s < 20) (ht : t < 20) (k30) :
    ∀ n g lab pv dp μ, lbc lab + n = 20 → n + 1 < g → (∀ z, z ≠ 38 → μ z = ρ z) → LbM μ lab pv → LbJ M F lab pv dp s →
      ∃ lab' pv' dp' μ', f_X12_goesOneMore_L30 G k30 g (nI s) (nI t) (nI 1) μ = k30 (nI s) (nI t) μ' ∧ (∀ z, z ≠ 38 → μ' z = ρ z) ∧ LbM μ' lab' pv' ∧ LbJ M F lab' pv' dp' s ∧ (lab' t = true ∨ (lab' t = false ∧ ∀ x y, x < 20 → y < 20 → lab' x = true → lab' y = false → lfB M F x y = false)) := by
  intro n
  induction n using Nat.strongRecOn with
  | ind n ih =>
    intro g lab pv dp μ hn hg h1 h2 h3
    obtain ⟨g, rfl⟩ : ∃ y, g = y + 1 := ⟨g - 1, by omega⟩
    have m2 := h2 t ht
    by_cases lt : lab t = true
    · rw [if_pos lt] at m2
      refine ⟨lab, pv, dp, μ, ?_, h1, h2, h3, Or.inl lt⟩
      have pt := LbI_pv h3.1 hs ht lt
      rw [f_X12_goesOneMore_L30, if_neg (show ¬ nI 1 = 0 by decide), chkn ht (by omega), ixn (by omega), m2, if_neg (nI_m1 (by omega))]
    · have lt := bool_ne lt
      rw [lt, if_neg (by decide)] at m2
      obtain ⟨c', μ', r1, lab', pv', dp', j1, j2, j3, j4, j5⟩ := sw49 (G := G) hG hM fm fe hs (f_X12_goesOneMore_L30 G k30 g) k30 (f_X12_goesOneMore_j128 G (f_X12_goesOneMore_L30 G k30 g) k30) (nI s) (nI t) h1 h2 h3
      have st : f_X12_goesOneMore_L30 G k30 (g + 1) (nI s) (nI t) (nI 1) μ = f_X12_goesOneMore_L30 G k30 g (nI s) (nI t) c' μ' := by
        rw [f_X12_goesOneMore_L30, if_neg (show ¬ nI 1 = 0 by decide), chkn ht (by omega), ixn (by omega), m2, if_pos (show nI 4294967295 = -1 from rfl)]
        exact r1
      rcases j5 with ⟨rfl, q2, q3⟩ | ⟨rfl, q2⟩
      · refine ⟨lab', pv', dp', μ', ?_, j1, j2, j3, Or.inr ⟨by rw [q2]; exact lt, fun x y hx hy => q3 x y hx hy⟩⟩
        obtain ⟨g, rfl⟩ : ∃ y, g = y + 1 := ⟨g - 1, by omega⟩
        rw [st, f_X12_goesOneMore_L30, if_pos (show nI 0 = 0 from rfl)]
      · have hc := lbc_le (lab := lab')
        rw [st]
        exact ih (20 - lbc lab') (by omega) g lab' pv' dp' μ' (by omega) (by omega) j1 j2 j3
/-- one more way, or a cut -/
theorem goes1 {G s t k : Nat} {ρ : Mem} {M : Nat → Nat} {F : Nat → Nat → Nat} (hG : 500 ≤ G) (hM : ∀ u, u < 10 → M u < 1024 ∧ ρ 36 u = nI (M u)) (fm : FlM ρ F) (fe : FlE M F) (fi : FlI F s t k) (hs : s < 20) (ht : t < 20) (hst : s ≠ t) :
    ∃ ρ', (∀ z, z ≠ 37 → z ≠ 38 → ρ' z = ρ z) ∧
      ((f_X12_goesOneMore G (nI s) (nI t) ρ = some (nI 0, ρ') ∧ ∃ X : Nat → Bool, X s = true ∧ X t = false ∧ ∀ x y, x < 20 → y < 20 → X x = true → X y = false → lfB M F x y = false) ∨
        (f_X12_goesOneMore G (nI s) (nI t) ρ = some (nI 1, ρ') ∧ ∃ F', FlM ρ' F' ∧ FlE M F' ∧ FlI F' s t (k + 1))) := by
  obtain ⟨g', μ1, k1, i1, i2⟩ := loopZ (fun g v (σ : Mem) => f_X12_goesOneMore_L2 G (f_X12_goesOneMore_j21 G) g (nI s) (nI t) v σ) 20 (fun k σ => (∀ z, z ≠ 38 → σ z = ρ z) ∧ ∀ i, i < k → σ 38 i = nI 4294967295) (by
    rintro g y μ hy ⟨i1, i2⟩
    refine ⟨wr μ 38 y (nI 4294967295), ?_, fun z hz => by rw [wr_off hz]; exact i1 z hz, fun i hi => ?_⟩
    · show f_X12_goesOneMore_L2 G (f_X12_goesOneMore_j21 G) (g + 1) (nI s) (nI t) (nI y) μ = f_X12_goesOneMore_L2 G (f_X12_goesOneMore_j21 G) g (nI s) (nI t) (nI (y + 1)) _
      rw [f_X12_goesOneMore_L2, if_neg (show ¬ (20 : Int32) ≤ nI y from nI_ge (b := 20) hy (by omega)), chkn hy (by omega), ixn (by omega), show (1 : Int32) = nI 1 from rfl, nI_add]
      rfl
    · by_cases e : i = y
      · rw [e, wr_same]
      · rw [wr_slot e]; exact i2 i (by omega)) (by omega : 20 < G) (s := ρ) ⟨fun _ _ => rfl, fun i hi => absurd hi (by omega)⟩
  have l1 : lbc (fun z => decide (z = s)) = 1 := by
    unfold lbc
    show nsm (fun x => if decide (x = s) = true then 1 else 0) 20 = 1
    rw [nsm_pt (y0 := s) (fun y _ hy => by rw [decide_eq_false hy, if_neg (by decide)]), if_pos hs, decide_eq_true rfl, if_pos rfl]
  obtain ⟨lab, pv, dp, μ', r1, j1, j2, j3, j4⟩ := sw30 (G := G) (t := t) hG hM fm fe hs ht (f_X12_goesOneMore_j131 G) 19 G (fun z => decide (z = s)) (fun _ => s) (fun _ => 0) (wr μ1 38 s (nI s)) (by rw [l1]) (by omega) (fun z hz => by rw [wr_off hz]; exact i1 z hz) (fun z hz => by
      show _ = if decide (z = s) = true then nI s else _
      by_cases e : z = s
      · rw [decide_eq_true e, if_pos rfl, e, wr_same]
      · rw [decide_eq_false e, if_neg (by decide), wr_slot e]; exact i2 z hz) ⟨⟨decide_eq_true rfl, rfl, fun z _ hz zs => absurd (decide_eq_true_iff.mp hz) zs⟩, fun z _ _ => by rw [l1]; exact Nat.one_pos⟩
  have st : f_X12_goesOneMore G (nI s) (nI t) ρ = f_X12_goesOneMore_j131 G (nI s) (nI t) μ' := by
    unfold f_X12_goesOneMore
    refine Eq.trans k1 ?_
    show f_X12_goesOneMore_L2 G (f_X12_goesOneMore_j21 G) (g' + 1) (nI s) (nI t) (nI 20) μ1 = _
    rw [f_X12_goesOneMore_L2, if_pos (by decide), f_X12_goesOneMore_j21, chkn hs (by omega), ixn (by omega)]
    exact r1
  have m2 := j2 t ht
  rcases j4 with lt | ⟨lt, cl⟩
  · rw [if_pos lt] at m2
    have pt := LbI_pv j3.1 hs ht lt
    have dt := j3.2 t ht lt
    have dm := lbc_le (lab := lab)
    obtain ⟨F'', μ'', q1, q2, q3, q4, q5⟩ := augm (G := G) (s := s) (t := t) (k := k) (M := M) (F := F) (lab := lab) (pv := pv) (dp := dp) hs j3.1 20 t G F μ' (by omega) (by omega) ht lt (fun i j hi hj => by rw [j1 37 (by omega)]; exact fm i j hi hj) j2 fe (fun y hy => by
      have := fi y hy
      by_cases e : y = t
      · have ys : y ≠ s := fun q => hst (q.symm.trans e)
        rw [if_pos e, if_neg ys] at this
        rw [if_pos e, if_neg ys, if_pos e]
        omega
      · rw [if_neg e] at this
        rw [if_neg e, if_neg e]
        omega) (fun y _ _ _ _ => ⟨rfl, rfl⟩)
    refine ⟨μ'', fun z z1 z2 => by rw [q2 z z1, j1 z z2], Or.inr ⟨?_, F'', q3, q4, q5⟩⟩
    rw [st, f_X12_goesOneMore_j131, chkn ht (by omega), ixn (by omega), m2, if_neg (nI_m1 (by omega))]
    exact q1
  · rw [lt, if_neg (by decide)] at m2
    refine ⟨μ', fun z _ h => j1 z h, Or.inl ⟨?_, lab, j3.1.1, lt, cl⟩⟩
    rw [st, f_X12_goesOneMore_j131, chkn ht (by omega), ixn (by omega), m2, if_pos (show nI 4294967295 = -1 from rfl)]
    rfl
end
