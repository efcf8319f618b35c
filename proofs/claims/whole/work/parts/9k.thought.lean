section
/-! in thought: what one counts -/
def agC (μ0 μ : Mem) : Prop := ∀ x, x < 94 → x ≠ 19 → μ x = μ0 x
def agR (ρ0 ρ : Mem) : Prop := ∀ x, x ≠ 23 → x ≠ 24 → x ≠ 25 → x ≠ 26 → ρ x = ρ0 x
theorem WR_ag {W M : Nat} {t : Int32} {μ ρ μ' ρ' : Mem} (h : WR 2 t μ ρ W M) (h1 : agC μ μ') (h2 : agR ρ ρ') : WR 2 t μ' ρ' W M := by
  obtain ⟨a1, a2, a3, a4, a5, a6, a7, a8⟩ := h
  have m : ∀ x, x < 19 → μ' x = μ x := fun x hx => h1 x (by omega) (by omega)
  have m2 : ∀ x, 19 < x → x < 94 → μ' x = μ x := fun x hx hy => h1 x (by omega) (by omega)
  have r : ∀ x, x < 23 → ρ' x = ρ x := fun x hx => h2 x (by omega) (by omega) (by omega) (by omega)
  refine ⟨PpR_o a1 (m _ (by omega)) (fun x _ _ => m x (by omega)) (by rw [r 0 (by omega)]) (by rw [r 0 (by omega)]) (fun x _ _ => r x (by omega)), LwR_o a2 (fun x _ _ => m x (by omega)) (fun x _ _ => r x (by omega)), QuR_o a3 (m2 _ (by omega) (by omega)) (m2 _ (by omega) (by omega)) (by rw [r 0 (by omega)]) (r _ (by omega)), RcR_o a4 (m2 _ (by omega) (by omega)) (m2 _ (by omega) (by omega)) (by rw [r 1 (by omega)]) (r _ (by omega)), ?_, by rw [r 1 (by omega)]; exact a6, by rw [r 0 (by omega)]; exact a7, a8⟩
  rw [m2 26 (by omega) (by omega), r 1 (by omega)]
  exact StR_cls (fun x g1 g2 => m x (by omega)) a5
def cV (G g : Nat) (μ0 : Mem) (q l w : Nat) : Int32 := match f_X7_answer G 2 (nI g) (nI q) (nI l) 1 (wr μ0 95 l (nI w)) with
  | some (c, _) => c
  | none => 0
theorem add_can {a b c : Int32} (h : a + b = a + c) : b = c := by
  have := congrArg (fun z => z - a) h
  simpa [Int32.add_sub_cancel, Int32.add_comm a] using this
theorem cV_ok {G W M g w q l nq : Nat} {μ0 ρ0 : Mem} (hG : 500 ≤ G) (R : WR 2 1 μ0 ρ0 W M) (hg : g < M) (hw : w < W) (hl : l < 3) (hnq : ρ0 0 37 = nI nq) (hnq2 : nq ≤ 16) (hq : q < nq) :
    -99 ≤ cV G g μ0 q l w ∧ cV G g μ0 q l w ≤ 99 ∧
      (∀ μ, agC μ0 μ → μ 95 l = nI w → ∃ μ', f_X7_answer G 2 (nI g) (nI q) (nI l) 1 μ = some (cV G g μ0 q l w, μ') ∧ ∀ x, x ≠ 19 → x ≠ 94 → μ' x = μ x) ∧
      ∀ ρ, agR ρ0 ρ → ρ 25 l = nI w → ∃ ρ', f_X12_isAsked G (nI g) (nI q) (nI l) ρ = some ρ' ∧ ρ' 26 l = ρ 26 l + cV G g μ0 q l w ∧ (∀ j, j ≠ l → ρ' 26 j = ρ 26 j) ∧ ρ' 25 = ρ 25 ∧ agR ρ0 ρ' := by
  have a1 : agC μ0 (wr μ0 95 l (nI w)) := fun x h _ => wr_off (by omega)
  have n0 : ∀ ρ, agR ρ0 ρ → ρ 0 37 = nI nq := fun ρ h => by rw [h 0 (by omega) (by omega) (by omega) (by omega)]; exact hnq
  have base : ∀ ρ, agR ρ0 ρ → ρ 25 l = nI w → ∃ ρ', f_X12_isAsked G (nI g) (nI q) (nI l) ρ = some ρ' ∧ ρ' 26 l = ρ 26 l + cV G g μ0 q l w ∧ (∀ j, j ≠ l → ρ' 26 j = ρ 26 j) ∧ ρ' 25 = ρ 25 ∧ agR ρ0 ρ' ∧ -99 ≤ cV G g μ0 q l w ∧ cV G g μ0 q l w ≤ 99 := by
    intro ρ h1 h2
    obtain ⟨c, μ', ρ', b1, b2, b3, b4, b5, b6, b7, b8, b9, b10, b11, b12, b13⟩ := answer_sim (nq := nq) hG (WR_ag R a1 h1) hg hw hl (n0 ρ h1) hnq2 hq wr_same h2
    have e : cV G g μ0 q l w = c := by unfold cV; rw [b1]
    rw [e]
    refine ⟨ρ', b2, b6, b7, b12, fun x g1 g2 g3 g4 => ?_, b8, b9⟩
    rw [← h1 x g1 g2 g3 g4]
    by_cases e1 : x = 1
    · rw [e1]; exact (b13 rfl).2
    · by_cases e9 : x = 9
      · rw [e9]; exact (b5.2.1 rfl).1
      · exact b5.1 x e1 e9 g1 g2 g3 g4
  have a2 : agR ρ0 (wr ρ0 25 l (nI w)) := fun x _ _ h _ => wr_off h
  obtain ⟨ρ1, c1, c2, c3, c4, c5, c6, c7⟩ := base _ a2 wr_same
  refine ⟨c6, c7, fun μ h1 h2 => ?_, fun ρ h1 h2 => ?_⟩
  · obtain ⟨c, μ', ρ', b1, b2, b3, b4, b5, b6, b7, b8, b9, b10, b11, b12, b13⟩ := answer_sim (nq := nq) hG (WR_ag R h1 a2) hg hw hl (n0 _ a2) hnq2 hq h2 wr_same
    rw [c1] at b2
    have e : ρ1 = ρ' := Option.some.inj b2
    rw [← e, c2] at b6
    have e2 := add_can b6
    rw [e2]
    exact ⟨μ', b1, (b13 rfl).1⟩
  · obtain ⟨ρ', d1, d2, d3, d4, d5, d6, d7⟩ := base ρ h1 h2
    exact ⟨ρ', d1, d2, d3, d4, d5⟩
def tP (G g : Nat) (μ0 : Mem) (c nq l w : Nat) : Int32 := (if c.testBit w = true then nI 10 else nI 0) + smN (fun q => cV G g μ0 q l w) nq
/-- the class: what one would have with him -/
theorem tPc {G W M g w l nq c : Nat} {μ0 ρ0 : Mem} (hG : 500 ≤ G) (R : WR 2 1 μ0 ρ0 W M) (hg : g < M) (hw : w < W) (hl : l < 3) (hnq : ρ0 0 37 = nI nq) (hnq2 : nq ≤ 16) (hc : ρ0 1 4 = nI c) (hc2 : c < 2 ^ W) {μ : Mem} (A : agC μ0 μ) :
    ∃ μ', f_X7_thoughtPoints G (nI g) (nI w) (nI l) μ = some (tP G g μ0 c nq l w, μ') ∧ (∀ x, x ≠ 19 → x ≠ 94 → x ≠ 95 → μ' x = μ x) ∧ (∀ j, j ≠ l → μ' 95 j = μ 95 j) ∧ μ' 95 l = nI w ∧ agC μ0 μ' := by
  have A1 : agC μ0 (wr μ 95 l (nI w)) := fun x h h2 => by rw [wr_off (by omega)]; exact A x h h2
  have R1 : WR 2 1 (wr μ 95 l (nI w)) ρ0 W M := WR_ag R A1 (fun _ _ _ _ _ => rfl)
  obtain ⟨c', k1, k2, k3, k4, k5⟩ := toCough (G := G) R1 hw
  have hW := (WR_W R).1
  have ec : c' = c := by
    have := k3.symm.trans hc
    have h1 := pw12 hW k1
    have h2 := pw12 hW hc2
    exact (nI_eq (by omega) (by omega)).mp this
  subst ec
  have n3 : ∀ μ, agC μ0 μ → μ 20 3 = nI nq := by
    intro μ h
    obtain ⟨n, n1, n2, n3, n4⟩ := WR_q (WR_ag R h (fun _ _ _ _ _ => rfl))
    rw [n2, ← n3, hnq]
  have key : ∀ s0, ∃ μ', f_X7_thoughtPoints_L36 G G (nI g) (nI l) s0 (nI 0) (wr μ 95 l (nI w)) = some (s0 + smN (fun q => cV G g μ0 q l w) nq, μ') ∧ (∀ x, x ≠ 19 → x ≠ 94 → μ' x = (wr μ 95 l (nI w)) x) := by
    intro s0
    obtain ⟨g', ⟨v, μ'⟩, r1, rfl, r2⟩ := loopZ (fun f v (σ : Int32 × Mem) => f_X7_thoughtPoints_L36 G f (nI g) (nI l) σ.1 v σ.2) nq (fun k σ => σ.1 = s0 + smN (fun q => cV G g μ0 q l w) k ∧ ∀ x, x ≠ 19 → x ≠ 94 → σ.2 x = (wr μ 95 l (nI w)) x) (by
      rintro f q ⟨v, m⟩ hq ⟨rfl, i2⟩
      have i2 : ∀ x, x ≠ 19 → x ≠ 94 → m x = (wr μ 95 l (nI w)) x := i2
      have Am : agC μ0 m := fun x h h2 => by rw [i2 x h2 (by omega)]; exact A1 x h h2
      obtain ⟨_, _, h3, _⟩ := cV_ok hG R hg hw hl hnq hnq2 hq
      obtain ⟨m', q1, q2⟩ := h3 m Am (by rw [i2 95 (by omega) (by omega), wr_same])
      have m3 := n3 m Am
      refine ⟨(s0 + smN (fun q => cV G g μ0 q l w) q + cV G g μ0 q l w, m'), ?_, ?_, fun x h1 h2 => by show m' x = _; rw [q2 x h1 h2, i2 x h1 h2]⟩
      · show f_X7_thoughtPoints_L36 G (f + 1) (nI g) (nI l) (s0 + smN (fun q => cV G g μ0 q l w) q) (nI q) m = f_X7_thoughtPoints_L36 G f (nI g) (nI l) (s0 + smN (fun q => cV G g μ0 q l w) q + cV G g μ0 q l w) (nI (q + 1)) m'
        rw [f_X7_thoughtPoints_L36, m3, if_neg (nI_ge (by omega) (by omega)), show (1 : Int32) = nI 1 from rfl]
        rw [show f_X7_answer G 2 (nI g) (nI q) (nI l) (nI 1) m = _ from q1, bndE_s, nI_add]
      · show _ + _ = _
        rw [smN, Int32.add_assoc]) (by omega : nq < G) (s := (s0, wr μ 95 l (nI w))) ⟨by show s0 = s0 + smN _ 0; rw [smN]; exact (Int32.add_zero s0).symm, fun _ _ _ => rfl⟩
    have r2 : ∀ x, x ≠ 19 → x ≠ 94 → μ' x = (wr μ 95 l (nI w)) x := r2
    have m3 := n3 μ' (fun x h h2 => by rw [r2 x h2 (by omega)]; exact A1 x h h2)
    refine ⟨μ', ?_, r2⟩
    refine Eq.trans r1 ?_
    show f_X7_thoughtPoints_L36 G (g' + 1) (nI g) (nI l) _ (nI nq) μ' = _
    rw [f_X7_thoughtPoints_L36, m3, if_pos (Int32.le_refl _)]
  have fin : ∀ s0, (if c'.testBit w = true then nI 10 else nI 0) = s0 → f_X7_thoughtPoints G (nI g) (nI w) (nI l) μ = f_X7_thoughtPoints_L36 G G (nI g) (nI l) s0 (nI 0) (wr μ 95 l (nI w)) → ∃ μ', f_X7_thoughtPoints G (nI g) (nI w) (nI l) μ = some (tP G g μ0 c' nq l w, μ') ∧ (∀ x, x ≠ 19 → x ≠ 94 → x ≠ 95 → μ' x = μ x) ∧ (∀ j, j ≠ l → μ' 95 j = μ 95 j) ∧ μ' 95 l = nI w ∧ agC μ0 μ' := by
    intro s0 e h
    obtain ⟨μ', r1, r2⟩ := key s0
    refine ⟨μ', ?_, fun x h1 h2 h3 => by rw [r2 x h1 h2, wr_off h3], fun j hj => by rw [r2 95 (by omega) (by omega), wr_slot hj], by rw [r2 95 (by omega) (by omega), wr_same], fun x h h2 => by rw [r2 x h2 (by omega)]; exact A1 x h h2⟩
    rw [h, r1, tP, e]
  by_cases b : c'.testBit w = true
  · rw [if_pos b] at k4
    refine fin (nI 10) (if_pos b) ?_
    unfold f_X7_thoughtPoints
    rw [chkn hl (by omega), ixn (by omega)]
    show bndO (f_X8_isToCough G 2 (wr μ 95 l (nI w)) (nI w)) _ = _
    rw [k4, bndO_s, if_neg (by decide)]
    rfl
  · rw [if_neg b] at k4
    refine fin (nI 0) (if_neg b) ?_
    unfold f_X7_thoughtPoints
    rw [chkn hl (by omega), ixn (by omega)]
    show bndO (f_X8_isToCough G 2 (wr μ 95 l (nI w)) (nI w)) _ = _
    rw [k4, bndO_s, if_pos (show nI 0 = 0 from rfl)]
    rfl
end
