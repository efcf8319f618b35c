section
def yN (G g : Nat) (ρ0 : Mem) (q l w : Nat) : Nat := (match f_X12_yesOf G (nI g) (nI w) (nI q) (nI l) ρ0 with
  | some (v, _) => v
  | none => 0).toNatClampNeg
theorem yT_ok {G W M g w q l nq : Nat} {t : Int32} {μ0 ρ0 : Mem} (hG : 500 ≤ G) (R : WR 2 t μ0 ρ0 W M) (hg : g < M) (hw : w < W) (hnq2 : nq ≤ 16) (hq : q < nq) :
    yN G g ρ0 q l w ≤ 1000 ∧ (∀ μ, agC μ0 μ → ∃ μ1 μ2, f_X7_meet G 2 (nI g) (nI w) μ = some μ1 ∧ f_X7_yesTold G (ρ0 20 q) (nI l) μ1 = some (nI (yN G g ρ0 q l w), μ2) ∧ ∀ x, x ≠ 19 → x ≠ 94 → μ2 x = μ x) ∧
      ∀ ρ, agR ρ0 ρ → ∃ ρ', f_X12_yesOf G (nI g) (nI w) (nI q) (nI l) ρ = some (nI (yN G g ρ0 q l w), ρ') ∧ ∀ x, x ≠ 23 → x ≠ 24 → ρ' x = ρ x := by
  have hq32 : q < 32 := by omega
  obtain ⟨m1, a1, a2, a3⟩ := meet_ok (G := G) (Or.inl rfl) R.1 R.2.2.2.2.1 hg hw
  have Rm : ∀ m, agC μ0 m → WR 2 t m ρ0 W M := fun m h => WR_ag R h (fun _ _ _ _ _ => rfl)
  have A1 : agC μ0 m1 := fun x h h2 => a2 x (by omega)
  obtain ⟨v, m2, r2, b1, b2, b3, b4, b5, b6, b7⟩ := yes_sim (l := nI l) hG (Rm m1 A1).1 (Rm m1 A1).2.1 a3 hg hw hq32
  obtain ⟨y, hy, rfl⟩ := in_of 1000 rfl (by omega) b6 b7
  have e : yN G g ρ0 q l w = y := by
    unfold yN
    rw [b2]
    exact nI_clamp (by omega)
  rw [e]
  refine ⟨hy, fun μ A => ?_, fun ρ A => ?_⟩
  · have R' := Rm μ A
    obtain ⟨μ1, c1, c2, c3⟩ := meet_ok (G := G) (Or.inl rfl) R'.1 R'.2.2.2.2.1 hg hw
    have A2 : agC μ0 μ1 := fun x h h2 => by rw [c2 x (by omega)]; exact A x h h2
    obtain ⟨v', μ2, r3, d1, d2, d3, d4, d5, d6, d7⟩ := yes_sim (l := nI l) hG (Rm μ1 A2).1 (Rm μ1 A2).2.1 c3 hg hw hq32
    rw [b2] at d2
    have e2 := (Prod.mk.inj (Option.some.inj d2)).1
    rw [← e2] at d1
    exact ⟨μ1, μ2, c1, d1, fun x h1 h2 => by rw [d3 x h2 h1, c2 x h2]⟩
  · have R' : WR 2 t m1 ρ W M := WR_ag R A1 A
    have V' : VR (m1 94) ρ g w := VR_r a3 (fun x _ _ => A x (by omega) (by omega) (by omega) (by omega)) (fun j _ => by rw [A 1 (by omega) (by omega) (by omega) (by omega)])
    obtain ⟨v', m3, r3, d1, d2, d3, d4, d5, d6, d7⟩ := yes_sim (l := nI l) hG R'.1 R'.2.1 V' hg hw hq32
    rw [A 20 (by omega) (by omega) (by omega) (by omega), b1] at d1
    have e2 := (Prod.mk.inj (Option.some.inj d1)).1
    rw [← e2] at d2
    exact ⟨r3, d2, d4⟩
def dN (a b : Nat) : Nat := if a ≤ b then b - a else a - b
theorem apart12 {a b : Nat} (ha : a ≤ 1000) (hb : b ≤ 1000) : f_X12_apart (nI a) (nI b) = nI (dN a b) := by
  unfold f_X12_apart dN
  by_cases h : a ≤ b
  · rw [if_pos (nI_le h (by omega)), if_pos h, pk_sub h]
  · rw [if_neg (nI_ge (by omega) (by omega)), if_neg h, pk_sub (by omega)]
theorem iabs_ok {a b : Nat} (ha : a ≤ 1000) (hb : b ≤ 1000) : iabs (nI b - nI a) = nI (dN a b) := by
  unfold iabs dN
  by_cases h : a ≤ b
  · rw [pk_sub h, if_pos (nI_pos' (n := b - a) (by omega)), if_pos h]
  · rw [if_neg (show ¬ (0 : Int32) ≤ nI b - nI a from fun q => by have := pk_sneg (a := b) (b := a) (by omega) (by omega); grind), if_neg h]
    have := pk_sub (a := a) (b := b) (by omega)
    rw [← this]
    grind
theorem dN_le {a b : Nat} (ha : a ≤ 1000) (hb : b ≤ 1000) : dN a b ≤ 1000 := by unfold dN; split <;> omega
def mF (s : Nat) (d : Nat → Nat) (i : Nat) : Nat → Nat
  | 0 => i
  | l + 1 => if l = s then mF s d i l else min (mF s d i l) (d l)
theorem mF_le {s i : Nat} {d : Nat → Nat} : ∀ n, mF s d i n ≤ i
  | 0 => Nat.le_refl _
  | n + 1 => by
    have := mF_le (s := s) (i := i) (d := d) n
    rw [mF]
    split <;> omega
theorem mF_eq {s : Nat} {d : Nat → Nat} (hs : s < 3) (h : ∀ l, l < 3 → d l ≤ 1000) : mF s d 100000000 3 = mF s d 1000 3 := by
  have h0 := h 0 (by omega)
  have h1 := h 1 (by omega)
  have h2 := h 2 (by omega)
  rcases (by omega : s = 0 ∨ s = 1 ∨ s = 2) with e | e | e <;> subst e <;> simp [mF] <;> omega
def nrN (G g : Nat) (ρ0 : Mem) (w : Nat → Nat) (s q : Nat) : Nat := mF s (fun l => dN (yN G g ρ0 q s (w s)) (yN G g ρ0 q l (w l))) 1000 3
theorem near_ok {G W M g q s nq : Nat} {t : Int32} {μ0 ρ0 μ : Mem} {w : Nat → Nat} (hG : 500 ≤ G) (R : WR 2 t μ0 ρ0 W M) (hg : g < M) (hw : ∀ l, l < 3 → w l < W) (hnq : ρ0 0 37 = nI nq) (hnq2 : nq ≤ 16) (hq : q < nq) (hs : s < 3) (A : agC μ0 μ) (hse : ∀ l, l < 3 → μ 95 l = nI (w l)) :
    ∃ μ', f_X7_nearestTo G (nI s) (nI g) (nI q) μ = some (nI (nrN G g ρ0 w s q), μ') ∧ agC μ0 μ' ∧ μ' 95 = μ 95 ∧ ∀ x, x ≠ 19 → ¬ (94 ≤ x ∧ x ≤ 104) → μ' x = μ x := by
  have yb : ∀ l, l < 3 → yN G g ρ0 q l (w l) ≤ 1000 := fun l hl => (yT_ok hG R hg (hw l hl) hnq2 hq).1
  obtain ⟨n, n1, n2, n3, n4⟩ := WR_q (WR_ag R A (fun _ _ _ _ _ => rfl))
  have en : n = nq := (nI_eq (by omega) (by omega)).mp (n3.symm.trans hnq)
  have at0 := n4 G q (by omega)
  obtain ⟨g', μ2, k1, i1, i2, i3, i4⟩ := loopZ (fun f v (m : Mem) => f_X7_nearestTo_L17 G (f_X7_nearestTo_j63 G) f (nI s) (nI g) (ρ0 20 q) v m) 3 (fun k m => agC μ0 m ∧ m 95 = μ 95 ∧ (∀ x, x ≠ 19 → ¬ (94 ≤ x ∧ x ≤ 104) → m x = μ x) ∧ ∀ l, l < k → m 96 l = nI (yN G g ρ0 q l (w l))) (by
    rintro f l m hl ⟨i1, i2, i3, i4⟩
    obtain ⟨_, h2, _⟩ := yT_ok (l := l) hG R hg (hw l hl) hnq2 hq
    obtain ⟨m1, m2, c1, c2, c3⟩ := h2 m i1
    have e95 : m 95 l = nI (w l) := by rw [i2]; exact hse l hl
    refine ⟨wr m2 96 l (nI (yN G g ρ0 q l (w l))), ?_, fun x h h2 => by rw [wr_off (by omega), c3 x h2 (by omega)]; exact i1 x h h2, by rw [wr_off (by omega), c3 95 (by omega) (by omega), i2], fun x h h2 => by rw [wr_off (by omega), c3 x h (by omega)]; exact i3 x h h2, fun j hj => ?_⟩
    · show f_X7_nearestTo_L17 G (f_X7_nearestTo_j63 G) (f + 1) (nI s) (nI g) (ρ0 20 q) (nI l) m = f_X7_nearestTo_L17 G (f_X7_nearestTo_j63 G) f (nI s) (nI g) (ρ0 20 q) (nI (l + 1)) _
      rw [f_X7_nearestTo_L17, if_neg (show ¬ (3 : Int32) ≤ nI l from nI_ge (b := 3) hl (by omega)), chkn hl (by omega), ixn (by omega), e95, c1, bndV_s, c2, bndE_s, chkn hl (by omega), nI_1]
    · by_cases e : j = l
      · rw [e, wr_same]
      · rw [wr_slot e, c3 96 (by omega) (by omega)]
        exact i4 j (by omega)) (by omega : 3 < G) (s := μ) ⟨A, rfl, fun _ _ _ => rfl, fun l hl => absurd hl (by omega)⟩
  refine ⟨μ2, ?_, i1, i2, i3⟩
  unfold f_X7_nearestTo
  rw [show f_X2_at G 20 16 μ (nI q) 0 = _ from at0, bndO_s]
  refine Eq.trans k1 ?_
  show f_X7_nearestTo_L17 G (f_X7_nearestTo_j63 G) (g' + 1) (nI s) (nI g) (ρ0 20 q) (nI 3) μ2 = _
  rw [f_X7_nearestTo_L17, if_pos (by decide), f_X7_nearestTo_j63]
  obtain ⟨g2, v, k2, rfl⟩ := loopZ (fun f v (x : Int32) => f_X7_nearestTo_L71 G f (nI s) x v μ2) 3 (fun k x => x = nI (mF s (fun l => dN (yN G g ρ0 q s (w s)) (yN G g ρ0 q l (w l))) 1000 k)) (by
    rintro f l x hl rfl
    refine ⟨_, ?_, rfl⟩
    have ml := mF_le (s := s) (i := 1000) (d := fun l => dN (yN G g ρ0 q s (w s)) (yN G g ρ0 q l (w l))) l
    show f_X7_nearestTo_L71 G (f + 1) (nI s) (nI _) (nI l) μ2 = f_X7_nearestTo_L71 G f (nI s) (nI (if l = s then _ else min _ _)) (nI (l + 1)) μ2
    rw [f_X7_nearestTo_L71, if_neg (show ¬ (3 : Int32) ≤ nI l from nI_ge (b := 3) hl (by omega))]
    by_cases e : l = s
    · rw [if_pos e, if_pos (by rw [e]), f_X7_nearestTo_j107, nI_1]
    · have dl := dN_le (yb s hs) (yb l hl)
      rw [if_neg e, if_neg (show ¬ nI l = nI s by rw [nI_eq (by omega) (by omega)]; exact e), chkn hl (by omega), chkn hs (by omega), ixn (by omega), ixn (by omega), i4 l hl, i4 s hs, iabs_ok (yb s hs) (yb l hl), f_X7_nearestTo_j107, nI_1]
      have mn : ∀ a b : Nat, a ≤ 1000 → b ≤ 1000 → imin (nI a) (nI b) = nI (min a b) := fun a b ha hb => by
        unfold imin
        by_cases h : b < a
        · rw [if_pos (nI_lt h (by omega)), Nat.min_eq_right (by omega)]
        · rw [if_neg (nI_nlt (by omega) (by omega)), Nat.min_eq_left (by omega)]
      rw [mn _ _ ml dl]) (by omega : 3 < G) (s := nI 1000) rfl
  refine Eq.trans k2 ?_
  show f_X7_nearestTo_L71 G (g2 + 1) (nI s) _ (nI 3) μ2 = _
  rw [f_X7_nearestTo_L71, if_pos (by decide)]
  rfl
theorem tellsBy_ok {G W M g q s nq : Nat} {t : Int32} {μ0 ρ0 ρ : Mem} {w : Nat → Nat} (hG : 500 ≤ G) (R : WR 2 t μ0 ρ0 W M) (hg : g < M) (hw : ∀ l, l < 3 → w l < W) (hnq2 : nq ≤ 16) (hq : q < nq) (hs : s < 3) (A : agR ρ0 ρ) (hse : ∀ l, l < 3 → ρ 25 l = nI (w l)) :
    ∃ ρ', f_X12_tellsBy G (nI g) (nI q) (nI s) ρ = some (nI (nrN G g ρ0 w s q), ρ') ∧ agR ρ0 ρ' ∧ ρ' 25 = ρ 25 := by
  have yb : ∀ l, l < 3 → yN G g ρ0 q l (w l) ≤ 1000 := fun l hl => (yT_ok hG R hg (hw l hl) hnq2 hq).1
  obtain ⟨ρ1, a1, a2⟩ := (yT_ok (l := s) hG R hg (hw s hs) hnq2 hq).2.2 ρ A
  have A1 : agR ρ0 ρ1 := fun x h1 h2 h3 h4 => by rw [a2 x h1 h2]; exact A x h1 h2 h3 h4
  obtain ⟨g', ⟨v, ρ2⟩, k1, i0, i1, i2⟩ := loopZ (fun f v (m : Int32 × Mem) => f_X12_tellsBy_L23 G f (nI g) (nI q) (nI s) m.1 (nI (yN G g ρ0 q s (w s))) v m.2) 3 (fun k m => m.1 = nI (mF s (fun l => dN (yN G g ρ0 q s (w s)) (yN G g ρ0 q l (w l))) 100000000 k) ∧ agR ρ0 m.2 ∧ m.2 25 = ρ 25) (by
    rintro f l ⟨x, m⟩ hl ⟨rfl, i1, i2⟩
    have i1 : agR ρ0 m := i1
    have i2 : m 25 = ρ 25 := i2
    have ml := mF_le (s := s) (i := 100000000) (d := fun l => dN (yN G g ρ0 q s (w s)) (yN G g ρ0 q l (w l))) l
    have e3 : ¬ (3 : Int32) ≤ nI l := nI_ge (b := 3) hl (by omega)
    show ∃ s' : Int32 × Mem, f_X12_tellsBy_L23 G (f + 1) (nI g) (nI q) (nI s) (nI (mF s _ 100000000 l)) (nI (yN G g ρ0 q s (w s))) (nI l) m = f_X12_tellsBy_L23 G f (nI g) (nI q) (nI s) s'.1 (nI (yN G g ρ0 q s (w s))) (nI (l + 1)) s'.2 ∧ s'.1 = nI (if l = s then _ else min _ _) ∧ _
    by_cases e : l = s
    · refine ⟨(_, m), ?_, by rw [if_pos e], i1, i2⟩
      rw [f_X12_tellsBy_L23, if_neg e3, if_pos (by rw [e]), f_X12_tellsBy_j64, nI_1]
    · obtain ⟨m', c1, c2⟩ := (yT_ok (l := l) hG R hg (hw l hl) hnq2 hq).2.2 m i1
      have dl := dN_le (yb s hs) (yb l hl)
      refine ⟨(nI (min (mF s (fun l => dN (yN G g ρ0 q s (w s)) (yN G g ρ0 q l (w l))) 100000000 l) (dN (yN G g ρ0 q s (w s)) (yN G g ρ0 q l (w l)))), m'), ?_, by rw [if_neg e], fun x h1 h2 h3 h4 => by show m' x = _; rw [c2 x h1 h2]; exact i1 x h1 h2 h3 h4, by show m' 25 = _; rw [c2 25 (by omega) (by omega)]; exact i2⟩
      have e25 : m 25 l = nI (w l) := by rw [i2]; exact hse l hl
      rw [f_X12_tellsBy_L23, if_neg e3, if_neg (show ¬ nI l = nI s by rw [nI_eq (by omega) (by omega)]; exact e), chkn hl (by omega), ixn (by omega), e25, c1, bndE_s, apart12 (yb s hs) (yb l hl), f_X12_tellsBy_j64, nI_1]
      have mn : ∀ a b : Nat, a ≤ 100000000 → b ≤ 1000 → f_X12_lesser (nI a) (nI b) = nI (min a b) := fun a b ha hb => by
        unfold f_X12_lesser
        by_cases h : b ≤ a
        · rw [if_pos (nI_le h (by omega)), Nat.min_eq_right (by omega)]
        · rw [if_neg (nI_ge (by omega) (by omega)), Nat.min_eq_left (by omega)]
      rw [mn _ _ ml dl]) (by omega : 3 < G) (s := (nI 100000000, ρ1)) ⟨rfl, A1, a2 25 (by omega) (by omega)⟩
  have i0 : v = nI (mF s (fun l => dN (yN G g ρ0 q s (w s)) (yN G g ρ0 q l (w l))) 100000000 3) := i0
  refine ⟨ρ2, ?_, i1, i2⟩
  unfold f_X12_tellsBy
  rw [chkn hs (by omega), ixn (by omega), hse s hs, a1, bndE_s]
  refine Eq.trans k1 ?_
  show f_X12_tellsBy_L23 G (g' + 1) (nI g) (nI q) (nI s) v _ (nI 3) ρ2 = _
  rw [f_X12_tellsBy_L23, if_pos (by decide), i0, mF_eq hs (fun l hl => dN_le (yb s hs) (yb l hl))]
  rfl
end
