section
variable {G n : Nat} {c : Nat → Nat}
theorem LR_end {k z : Nat} {μ ρ : Mem} (hc : ∀ j, j < n → c j < 256) (h : LR c n k z μ ρ) (ht : tV c n k ≠ 30000) : k < tK c n := by
  have e : ¬ k = tK c n := fun e => ht ((tV_end hc h.1).mpr e)
  have := h.1
  omega
theorem isW_r {k z w : Nat} {μ ρ : Mem} (h : LR c n k z μ ρ) (hw : w < 25) : f_X12_isWord ρ (nI w) = if tV c n k = nI (10000 + w) then 1 else 0 := tk_w h.2.2.2.1.2.2.1 hw
theorem isS_r {k z s : Nat} {μ ρ : Mem} (h : LR c n k z μ ρ) (hs : s < 256) : f_X12_isSign ρ (nI s) = if tV c n k = nI (20000 + s) then 1 else 0 := tk_s h.2.2.2.1.2.2.1 hs
theorem tok_c {k z : Nat} {μ ρ : Mem} (h : LR c n k z μ ρ) : μ 41 10 = tV c n k := h.2.1.2.2.2.1
theorem flt_c {k z : Nat} {μ ρ : Mem} (h : LR c n k z μ ρ) : μ 41 6 = 0 := h.2.1.2.2.2.2.1
theorem unitE {k z : Nat} {μ ρ : Mem} (hG : 500 ≤ G) (hn : n ≤ 400) (hc : ∀ j, j < n → c j < 256) (h : LR c n k z μ ρ) (hz : z ≤ k) :
    (∃ μ' ρ' x, f_X5_unit G μ = some (1, μ') ∧ f_X12_readUnit G ρ = some (0, ρ') ∧ LR c n (k + 1) (z + 1) μ' ρ' ∧ eF z μ ρ μ' ρ' ∧ k < tK c n ∧ x ≠ 1 ∧ ∀ S : List Nat, S.length < 40 → Ty ρ' z (z + 1) S (x :: S)) ∨
      ∃ μ' ρ', f_X5_unit G μ = some (0, μ') ∧ f_X12_readUnit G ρ = some (-1, ρ') ∧ SK μ' ∧ FtR μ' ρ' ∧ ∀ z0, eF z0 μ ρ μ' ρ' := by
  have hK := tK_le (c := c) (n := n)
  have T := h.2.2.2.1.2.2.1
  have tc := tok_c h
  have fc := flt_c h
  have kK := h.1
  have good : ∀ o a x, f_X5_unit G μ = f_X5_unit_j32 G μ → f_X12_readUnit G ρ = bndV (f_X12_emits G o a ρ) (fun m6 => bndV (f_X12_reads G m6) (fun m8 => some (0, m8))) → CdR (tV c n k) o a → k < tK c n → x ≠ 1 → (∀ S : List Nat, S.length < 40 → tst o a S = some (x :: S)) → ∃ μ' ρ' x, f_X5_unit G μ = some (1, μ') ∧ f_X12_readUnit G ρ = some (0, ρ') ∧ LR c n (k + 1) (z + 1) μ' ρ' ∧ eF z μ ρ μ' ρ' ∧ k < tK c n ∧ x ≠ 1 ∧ ∀ S : List Nat, S.length < 40 → Ty ρ' z (z + 1) S (x :: S) := by
    intro o a x h1 h2 h3 h4 h5 h6
    obtain ⟨μ1, ρ1, b1, b2, b3, b4, b5, b6⟩ := L_put (G := G) h (by omega) h3
    obtain ⟨μ2, ρ2, d1, d2, d3, d4⟩ := L_adv hG hn hc b3 h4
    refine ⟨μ2, ρ2, x, ?_, ?_, d3, eF_tr b4 (d4 z) (Nat.le_refl _), h4, h5, fun S hS => Ty_c (Ty_1 b5 b6 (h6 S hS)) (d4 (z + 1)) (Nat.le_refl _)⟩
    · rw [h1, f_X5_unit_j32, if_pos fc, tc, b1, bndV_s, d1, bndV_s]
    · rw [h2, b2, bndV_s, d2, bndV_s]
  rcases tk_n T with ⟨k3, x, hx, t1, t2, t3⟩ | ⟨k3, t3⟩
  · refine Or.inl (good 0 (nI x) (if nI x = 0 then 0 else 2) ?_ ?_ (Or.inl ⟨x, hx, t1, rfl, rfl⟩) (LR_end hc h (by rw [t1]; exact fun q => absurd ((nI_eq (b := 30000) (by omega) (by omega)).mp q) (by omega))) (by split <;> decide) (fun S hS => by unfold tst; rw [if_pos rfl, if_pos hS]))
    · unfold f_X5_unit
      rw [if_pos fc, tc, t3, if_neg (by decide)]
    · unfold f_X12_readUnit f_X12_readUnit_j23 f_X12_readUnit_j24 f_X12_readUnit_j43 f_X12_readUnit_j53
      rw [k3, if_neg (by decide), if_pos rfl, if_pos rfl, if_pos rfl, if_pos rfl, t2]
  · rcases tk_m T k3 with ⟨k2, m1, m2, x, hx, m3, m4⟩ | ⟨m2, m1⟩
    · refine Or.inl (good 1 (nI x) 0 ?_ ?_ (Or.inr (Or.inl ⟨x, hx, m3, rfl, rfl⟩)) (LR_end hc h (by rw [m3]; exact fun q => absurd ((nI_eq (b := 30000) (by omega) (by omega)).mp q) (by omega))) (by decide) (fun S hS => by unfold tst; rw [if_neg (by decide), if_pos rfl, if_pos hS]))
      · unfold f_X5_unit
        rw [if_pos fc, tc, t3, if_pos rfl, m2, if_neg (by decide)]
      · unfold f_X12_readUnit f_X12_canAsk f_X12_readUnit_j24 f_X12_readUnit_j43 f_X12_readUnit_j53
        rw [k2, if_pos rfl, m1, bkk1, bndO_s, if_neg (by decide), if_neg (by decide), if_neg (by decide), if_neg (by decide), m4]
    · refine Or.inr ?_
      obtain ⟨μ1, ρ1, b1, b2, b3, b4, b5⟩ := L_fail (G := G) (v := 1) hn h (by omega) (by decide)
      refine ⟨μ1, ρ1, ?_, ?_, b3, b4, b5⟩
      · unfold f_X5_unit f_X5_unit_j32
        rw [if_pos fc, tc, t3, if_pos rfl, m2, if_pos rfl, b1, bndV_s, if_neg b3.1]
      · unfold f_X12_readUnit f_X12_canAsk f_X12_readUnit_j23 f_X12_readUnit_j24
        by_cases k2 : ρ 0 18 = 2
        · rw [if_pos k2, m1 k2, bkk0, bndO_s, if_pos rfl, if_pos rfl, if_neg k3, b2, bndE_s]
        · rw [if_neg k2, if_pos rfl, if_neg k3, b2, bndE_s]
/-- put, then on; on, then emitted -/
theorem L_putadv {k z : Nat} {v a b : Int32} {μ ρ : Mem} (hG : 500 ≤ G) (hn : n ≤ 400) (hc : ∀ j, j < n → c j < 256) (h : LR c n k z μ ρ) (hk : k < tK c n) (hz : z < 400) (hv : CdR v a b) :
    ∃ μ1 μ2 ρ1 ρ2, f_X1_put G 45 v μ = some μ1 ∧ f_X5_advance G μ1 = some μ2 ∧ f_X12_reads G ρ = some ρ1 ∧ f_X12_emits G a b ρ1 = some ρ2 ∧ LR c n (k + 1) (z + 1) μ2 ρ2 ∧ eF z μ ρ μ2 ρ2 ∧ ρ2 17 (800 + z) = a ∧ ρ2 18 (800 + z) = b := by
  obtain ⟨μ1, ρx, b1, _, b3, b4, _, _⟩ := L_put (G := G) h hz hv
  obtain ⟨μ2, d1, d2, d3, d4⟩ := adv_g (G := G) hn b3.2.1 hk
  obtain ⟨μa, ρ1, e1, e2, e3, e4⟩ := L_adv hG hn hc h hk
  obtain ⟨μb, ρ2, f1, f2, f3, f4, f5, f6⟩ := L_put (G := G) e3 hz hv
  have x46 : ∀ i, i < z + 1 → μ2 46 i = μb 46 i := fun i hi => by
    rw [d3 46 (by omega)]
    have p1 := put_g (G := G) (v := v) h.2.2.1 hz
    have p2 := put_g (G := G) (v := v) e3.2.2.1 hz
    rw [b1] at p1
    rw [f1] at p2
    rw [Option.some.inj p1, Option.some.inj p2, wr_off (show (46 : Nat) ≠ 45 by omega), wr_off (show (46 : Nat) ≠ 45 by omega)]
    by_cases q : i = z
    · rw [q, wr_same, wr_same]
    · rw [wr_slot q, wr_slot q, (e4 z).2.1 i (by omega)]
  have q := eF_tr (e4 z) f4 (Nat.le_refl _)
  refine ⟨μ1, μ2, ρ1, ρ2, b1, d1, e2, f2, ⟨f3.1, d2, by rw [d3 45 (by omega)]; exact b3.2.2.1, f3.2.2.2.1, f3.2.2.2.2.1, fun i hi => by rw [x46 i hi]; exact f3.2.2.2.2.2 i hi⟩, ⟨fC_tr b4.1 ⟨fun x g1 _ _ => d3 x g1, fun j _ _ g1 g2 => d4 j g1 g2, fun j _ => by rw [d3 45 (by omega)]⟩, fun i hi => by rw [d3 46 (by omega)]; exact b4.2.1 i hi, q.2.2.1, q.2.2.2.1, q.2.2.2.2⟩, f5, f6⟩
theorem partE {P : Nat} (hG : 500 ≤ G) (hn : n ≤ 400) (hc : ∀ j, j < n → c j < 256) : ∀ m k z μ ρ v1 g gp q (S1 : List Nat), tK c n - k ≤ m → m < g → m < gp → LR c n k z μ ρ → z + P ≤ k → v1 ≤ k → q ≠ 1 → S1.length ≤ 37 →
    (∃ k' z' μ' ρ' gp' q', f_X5_partings_L2 G g (nI v1) μ = some μ' ∧ f_X12_readProduct_L10 G gp ρ = f_X12_readProduct_L10 G gp' ρ' ∧ LR c n k' z' μ' ρ' ∧ eF z μ ρ μ' ρ' ∧ k ≤ k' ∧ z' + P ≤ k' ∧ tK c n - k' < gp' ∧ tV c n k' ≠ nI 20047 ∧ Ty ρ' z z' (q :: S1) (q' :: S1) ∧ q' ≠ 1) ∨
      ∃ μ' ρ', f_X5_partings_L2 G g (nI v1) μ = some μ' ∧ f_X12_readProduct_L10 G gp ρ = some (-1, ρ') ∧ SK μ' ∧ FtR μ' ρ' ∧ eF z μ ρ μ' ρ' := by
  have hK := tK_le (c := c) (n := n)
  intro m
  induction m with
  | zero =>
    intro k z μ ρ v1 g gp q S1 h1 h2 h3 h hz hv hq hS
    obtain ⟨g, rfl⟩ : ∃ y, g = y + 1 := ⟨g - 1, by omega⟩
    have kK := h.1
    have te : tV c n k = 30000 := (tV_end hc h.1).mpr (by omega)
    refine Or.inl ⟨k, z, μ, ρ, gp, q, ?_, rfl, h, eF_rfl, Nat.le_refl _, hz, by omega, by rw [te]; decide, Ty_rfl, hq⟩
    rw [f_X5_partings_L2, if_neg (show ¬ (400 : Int32) < nI v1 from nI_nlt (b := v1) (a := 400) (by omega) (by omega)), if_pos (flt_c h), tok_c h, te, if_neg (by decide)]
  | succ m ih =>
    intro k z μ ρ v1 g gp q S1 h1 h2 h3 h hz hv hq hS
    obtain ⟨g, rfl⟩ : ∃ y, g = y + 1 := ⟨g - 1, by omega⟩
    have kK := h.1
    have e4 : ¬ (400 : Int32) < nI v1 := nI_nlt (b := v1) (a := 400) (by omega) (by omega)
    by_cases sl : tV c n k = nI 20047
    · have kk : k < tK c n := LR_end hc h (by rw [sl]; decide)
      obtain ⟨μ1, ρ1, b1, b2, b3, b4⟩ := L_adv hG hn hc h kk
      have T := b3.2.2.2.1.2.2.1
      have tc := tok_c b3
      obtain ⟨gp, rfl⟩ : ∃ y, gp = y + 1 := ⟨gp - 1, by omega⟩
      have s42 : f_X12_isSign ρ 42 = 0 := by
        rw [show (42 : Int32) = nI 42 from rfl, isS_r h (by omega), sl]; decide
      have s47 : f_X12_isSign ρ 47 = 1 := by
        rw [show (47 : Int32) = nI 47 from rfl, isS_r h (by omega), sl]; decide
      have cst : f_X5_partings_L2 G (g + 1) (nI v1) μ = (if f_X10_isNumber (tV c n (k + 1)) = 0 then bndV (f_X5_fail G 1 μ1) (fun m17 => f_X5_partings_j88 G (f_X5_partings_L2 G g) (nI v1) m17) else if tV c n (k + 1) = 0 then bndV (f_X5_fail G 2 μ1) (fun m15 => f_X5_partings_j88 G (f_X5_partings_L2 G g) (nI v1) m15) else bndV (f_X1_put G 45 (tV c n (k + 1)) μ1) (fun m9 => bndV (f_X1_put G 45 20047 m9) (fun m11 => bndV (f_X5_advance G m11) (fun m13 => f_X5_partings_j88 G (f_X5_partings_L2 G g) (nI v1) m13)))) := by
        rw [f_X5_partings_L2, if_neg e4, if_pos (flt_c h), tok_c h, sl, if_pos (show nI 20047 = 20047 from rfl), b1, bndV_s, tc]
      have rst : f_X12_readProduct_L10 G (gp + 1) ρ = (if ρ1 0 18 = 3 then f_X12_readProduct_j57 G (f_X12_readProduct_L10 G gp) 0 ρ1 else bndE (f_X12_errs G 1 ρ1) (fun w24 m23 => some (w24, m23))) := by
        rw [f_X12_readProduct_L10, s42, if_pos rfl, s47, if_neg (by decide), f_X12_readProduct_j28, b2, bndV_s, s42, if_pos rfl]
      have stop : ∀ v : Int32, v ≠ 0 → ∃ μ' ρ', f_X5_fail G v μ1 = some μ' ∧ f_X12_errs G v ρ1 = some (-1, ρ') ∧ f_X5_partings_j88 G (f_X5_partings_L2 G g) (nI v1) μ' = some μ' ∧ SK μ' ∧ FtR μ' ρ' ∧ eF z μ ρ μ' ρ' := by
        intro v hv0
        obtain ⟨μ2, ρ2, d1, d2, d3, d4, d5⟩ := L_fail (G := G) (v := v) hn b3 (by omega) hv0
        refine ⟨μ2, ρ2, d1, d2, ?_, d3, d4, eF_tr (b4 z) (d5 z) (Nat.le_refl _)⟩
        obtain ⟨g, rfl⟩ : ∃ y, g = y + 1 := ⟨g - 1, by omega⟩
        rw [f_X5_partings_j88, f_X5_partings_L2, nI_1, if_neg (show ¬ (400 : Int32) < nI (v1 + 1) from nI_nlt (b := v1 + 1) (a := 400) (by omega) (by omega)), if_neg d3.1]
      rcases tk_n T with ⟨k3, x, hx, t1, t2, t3⟩ | ⟨k3, t3⟩
      · by_cases x0 : x = 0
        · obtain ⟨μ', ρ', s1, s2, s3, s4⟩ := stop 2 (by decide)
          refine Or.inr ⟨μ', ρ', ?_, ?_, s4⟩
          · rw [cst, t3, if_neg (by decide), t1, x0, if_pos (show nI 0 = 0 from rfl), s1, bndV_s, s3]
          · rw [rst, if_pos k3, f_X12_readProduct_j57, if_pos rfl, t2, x0, if_pos (show nI 0 = 0 from rfl), s2, bndE_s]
        · have xn : ¬ nI x = 0 := nI_ne0 (by omega) (by omega)
          have kk1 : k + 1 < tK c n := LR_end hc b3 (by rw [t1]; exact fun q => absurd ((nI_eq (b := 30000) (by omega) (by omega)).mp q) (by omega))
          obtain ⟨μ2, ρ2, d1, d2, d3, d4, d5, d6⟩ := L_put (G := G) (v := tV c n (k + 1)) (a := 0) (b := nI x) b3 (by omega) (Or.inl ⟨x, hx, t1, rfl, rfl⟩)
          obtain ⟨μ3, μ4, ρ3, ρ4, f1, f2, f3, f4, f5, f6, f7, f8⟩ := L_putadv (v := 20047) (a := 5) (b := 0) hG hn hc d3 kk1 (by omega) (Or.inr (Or.inr (Or.inr (Or.inr (Or.inr (Or.inl ⟨rfl, rfl⟩))))))
          have ty1 : Ty ρ4 z (z + 1) (q :: S1) (2 :: q :: S1) := Ty_c (Ty_1 d5 d6 (by unfold tst; rw [if_pos rfl, if_neg xn, if_pos (by rw [List.length_cons]; omega)])) f6 (Nat.le_refl _)
          have ty2 : Ty ρ4 (z + 1) (z + 1 + 1) (2 :: q :: S1) (0 :: S1) := Ty_1 f7 f8 (by
            show tst 5 0 (2 :: q :: S1) = _
            simp [tst, hq])
          have cst2 : f_X5_partings_L2 G (g + 1) (nI v1) μ = f_X5_partings_L2 G g (nI (v1 + 1)) μ4 := by
            rw [cst, t3, if_neg (by decide), t1, if_neg xn, ← t1, d1, bndV_s, f1, bndV_s, f2, bndV_s, f_X5_partings_j88, nI_1]
          have rst2 : f_X12_readProduct_L10 G (gp + 1) ρ = f_X12_readProduct_L10 G gp ρ4 := by
            rw [rst, if_pos k3, f_X12_readProduct_j57, if_pos rfl, t2, if_neg xn, f_X12_readProduct_j74]
            unfold f_X12_readUnit f_X12_readUnit_j23 f_X12_readUnit_j24 f_X12_readUnit_j43 f_X12_readUnit_j53
            rw [k3, if_neg (by decide), if_pos rfl, if_pos rfl, if_pos rfl, if_pos rfl, t2, d2, bndV_s, f3, bndV_s, bndE_s, if_neg (by decide), if_pos rfl, f_X12_readProduct_j94, f4, bndV_s]
          have ef : eF z μ ρ μ4 ρ4 := eF_tr (b4 z) (eF_tr d4 f6 (by omega)) (Nat.le_refl _)
          rcases ih (k + 1 + 1) (z + 1 + 1) μ4 ρ4 (v1 + 1) g gp 0 S1 (by omega) (by omega) (by omega) f5 (by omega) (by omega) (by decide) hS with ⟨k', z', μ', ρ', gp', q', r1, r2, r3, r4, r5, r6, r7, r8, r9, r10⟩ | ⟨μ', ρ', r1, r2, r3, r4, r5⟩
          · exact Or.inl ⟨k', z', μ', ρ', gp', q', by rw [cst2, r1], by rw [rst2, r2], r3, eF_tr ef r4 (by omega), by omega, r6, r7, r8, Ty_tr (Ty_c (Ty_tr ty1 ty2) r4 (Nat.le_refl _)) r9, r10⟩
          · exact Or.inr ⟨μ', ρ', by rw [cst2, r1], by rw [rst2, r2], r3, r4, eF_tr ef r5 (by omega)⟩
      · obtain ⟨μ', ρ', s1, s2, s3, s4⟩ := stop 1 (by decide)
        refine Or.inr ⟨μ', ρ', ?_, ?_, s4⟩
        · rw [cst, t3, if_pos rfl, s1, bndV_s, s3]
        · rw [rst, if_neg k3, s2, bndE_s]
    · refine Or.inl ⟨k, z, μ, ρ, gp, q, ?_, rfl, h, eF_rfl, Nat.le_refl _, hz, by omega, sl, Ty_rfl, hq⟩
      rw [f_X5_partings_L2, if_neg e4, if_pos (flt_c h), tok_c h, if_neg (show ¬ tV c n k = 20047 from sl)]
end
