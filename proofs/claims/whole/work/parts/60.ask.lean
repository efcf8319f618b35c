section
theorem WR_q {s W M : Nat} {t : Int32} {μ ρ : Mem} (R : WR s t μ ρ W M) : ∃ n, n ≤ 16 ∧ μ 20 3 = nI n ∧ ρ 0 37 = nI n ∧ ∀ G q, q < n → f_X2_at G 20 16 μ (nI q) (nI 0) = some (ρ 20 q) := by
  obtain ⟨n, h1, h2, h3⟩ := R.2.2.1
  have h1 : LnR μ 20 16 1 n := h1
  refine ⟨n, h1.2.2.2, h1.2.2.1, h2, fun G q hq => ?_⟩
  rw [atn h1 (by omega) (by omega) (by omega) (by omega) hq (by omega), ← h3 q hq]
  simp
theorem ask_tail {G s W M g w q l : Nat} {t sd : Int32} {μ ρ : Mem} (hG : 500 ≤ G) (R : WR s t μ ρ W M) (hg : g < M) (hw : w < W) (hl : l < 3) (hq : q < 16) (V : VR (μ 94) ρ g w) (hsd : sd = 0 ∨ sd = 1) :
    ∃ c μ' ρ', f_X7_answer_j76 G s (nI l) t (nI w) (ρ 20 q) sd μ = some (c, μ') ∧ f_X12_isAsked_j61 G (nI g) (nI q) (nI l) (nI w) sd ρ = some ρ' ∧ WR s t μ' ρ' W M ∧ Fc s t μ μ' ∧ Fr t ρ ρ' ∧
      ρ' 26 l = ρ 26 l + c ∧ (∀ j, j ≠ l → ρ' 26 j = ρ 26 j) ∧ -99 ≤ c ∧ c ≤ 99 ∧ (∀ x, x ≠ 19 → x ≠ 94 → x ≠ 26 → x ≠ 27 → μ' x = μ x) ∧ (∀ x, x ≠ 1 → x ≠ 9 → x ≠ 23 → x ≠ 24 → x ≠ 26 → ρ' x = ρ x) ∧ (t = 1 → ρ' 1 = ρ 1) := by
  obtain ⟨μ1, ρ1, a1, a2, a3, a4, a5, a6, a7, a8⟩ := write_sim (a := if sd = 0 then 1 else 0) (b := nI w) (c := ρ 20 q) hG R
  have e20 : ρ1 20 = ρ 20 := a7 20 (by omega) (by omega)
  have V1 : VR (μ1 94) ρ1 g w := VR_r (by rw [a6 94 (by omega) (by omega)]; exact V) (fun x h1 h2 => a7 x (by omega) (by omega)) (fun j hj => a8 j (by omega))
  obtain ⟨c, μ2, ρ2, b1, b2, b3, b4, b5, b6, b7⟩ := counts_sim (l := nI l) (s := sd) hG a3.1 a3.2.1 V1 hg hw (show q < 32 by omega) hsd
  rw [e20] at b1
  refine ⟨c, μ2, wr ρ2 26 l (ρ 26 l + c), ?_, ?_, WR_scr a3 (fun x h1 h2 h3 h4 => b3 x h1 h4) (fun x h1 h2 h3 h4 => by rw [wr_off h4, b4 x h1 h2]), Fc_tr a4 (Fc_scr (fun x h1 h2 h3 h4 => b3 x h1 h4)), Fr_tr a5 (Fr_scr (fun x h1 h2 h3 h4 => by rw [wr_off h4, b4 x h1 h2])), wr_same, ?_, b6, b7, ?_, ?_, ?_⟩
  · rcases hsd with rfl | rfl
    · unfold f_X7_answer_j76 f_X7_answer_j90
      rw [if_pos rfl] at a1
      rw [if_pos rfl, a1, bndV_s, b1]
      rfl
    · unfold f_X7_answer_j76 f_X7_answer_j90
      rw [if_neg (by decide)] at a1
      rw [if_neg (by decide), a1, bndV_s, b1]
      rfl
  · have e26 : ρ1 26 l = ρ 26 l := by rw [a7 26 (by omega) (by omega)]
    rcases hsd with rfl | rfl
    · unfold f_X12_isAsked_j61 f_X12_isAsked_j74
      rw [if_pos rfl] at a2
      rw [if_pos rfl, chkn (by omega) (by omega), ixn (by omega), a2, bndV_s, chkn hl (by omega), if_pos rfl, b2, bndE_s, chkn hl (by omega), ixn (by omega), e26]
    · unfold f_X12_isAsked_j61 f_X12_isAsked_j74
      rw [if_neg (by decide)] at a2
      rw [if_neg (by decide), chkn (by omega) (by omega), ixn (by omega), a2, bndV_s, chkn hl (by omega), if_neg (by decide), b2, bndE_s, chkn hl (by omega), ixn (by omega), e26]
  · intro j hj; rw [wr_slot hj, b4 26 (by omega) (by omega), a7 26 (by omega) (by omega)]
  · intro x h1 h2 h3 h4; rw [b3 x h2 h1, a6 x h3 h4]
  · intro x h1 h2 h3 h4 h5; rw [wr_off h5, b4 x h3 h4, a7 x h1 h2]
  · intro ht
    rw [wr_off (by omega), b4 1 (by omega) (by omega)]
    funext j
    by_cases e : j = 2
    · rw [e]; exact (a5.2.1 ht).2
    · exact a8 j e
theorem WR_draw {W M : Nat} {d : Int32} {μ ρ : Mem} (R : WR 2 0 μ ρ W M) : WR 2 0 (wr μ 2 8 d) (wr ρ 1 1 d) W M := by
  obtain ⟨a1, a2, a3, a4, a5, a6, a7, a8⟩ := R
  have m : ∀ x, x ≠ 2 → (wr μ 2 8 d) x = μ x := fun x hx => wr_off hx
  have r : ∀ x, x ≠ 1 → (wr ρ 1 1 d) x = ρ x := fun x hx => wr_off hx
  have r1 : ∀ j, j ≠ 1 → (wr ρ 1 1 d) 1 j = ρ 1 j := fun j hj => wr_slot hj
  refine ⟨PpR_o a1 (m _ (by omega)) (fun x _ _ => m x (by omega)) (by rw [r 0 (by omega)]) (by rw [r 0 (by omega)]) (fun x _ _ => r x (by omega)), LwR_o a2 (fun x _ _ => m x (by omega)) (fun x _ _ => r x (by omega)), QuR_o a3 (m _ (by omega)) (m _ (by omega)) (by rw [r 0 (by omega)]) (r _ (by omega)), RcR_o a4 (m _ (by omega)) (m _ (by omega)) (r1 2 (by omega)) (r _ (by omega)), ?_, ?_, by rw [r 0 (by omega)]; exact a7, a8⟩
  · obtain ⟨s1, s2, s3, s4, s5, s6, s7, s8, s9, s10⟩ := a5
    refine ⟨?_, ?_, ?_, ?_, ?_, ?_, ?_, ?_, ?_, ?_⟩
    · rw [wr_slot (by omega), r1 _ (by omega)]; exact s1
    · rw [wr_same]; exact wr_same.symm
    · rw [m 26 (by omega), r1 _ (by omega)]; exact s3
    · rw [wr_slot (by omega), r1 _ (by omega)]; exact s4
    · rw [wr_slot (by omega), r1 _ (by omega)]; exact s5
    · intro k hk; rw [m _ (by omega), r1 _ (by omega)]; exact s6 k hk
    · intro k hk; rw [m _ (by omega), r1 _ (by omega)]; exact s7 k hk
    · intro k hk; rw [m _ (by omega), r1 _ (by omega)]; exact s8 k hk
    · intro k hk; rw [m _ (by omega), r1 _ (by omega)]; exact s9 k hk
    · intro k hk; rw [m _ (by omega), r1 _ (by omega)]; exact s10 k hk
  · obtain ⟨i1, i2, i3, i4, i5, i6, i7⟩ := a6
    exact ⟨by rw [r1 _ (by omega)]; exact i1, by rw [r1 _ (by omega)]; exact i2, fun w h1 h2 => by rw [r1 _ (by omega)]; exact i3 w h1 h2, fun w h1 => by rw [r1 _ (by omega)]; exact i4 w h1, fun w h1 h2 => by rw [r1 _ (by omega)]; exact i5 w h1 h2, fun w h1 => by rw [r1 _ (by omega)]; exact i6 w h1, fun w h1 h2 => by rw [r1 _ (by omega)]; exact i7 w h1 h2⟩
theorem draw_sim {G s : Nat} {t : Int32} {W M : Nat} {μ ρ : Mem} (R : WR s t μ ρ W M) (ht : t = 0) : ∃ d v, f_X8_drawOfThousand G s μ = some (v, wr μ 2 8 d) ∧ f_X12_draw G 1000 ρ = some (v, wr ρ 1 1 d) ∧ WR s t (wr μ 2 8 d) (wr ρ 1 1 d) W M := by
  obtain ⟨a1, a2, a3, a4, a5, a6, a7, a8⟩ := id R
  rcases a8 with ⟨rfl, rfl⟩ | ⟨rfl, _⟩
  · have e : μ 2 8 = ρ 1 1 := a5.2.1
    refine ⟨1664525 * ρ 1 1 + 1013904223, irm (su (1664525 * ρ 1 1 + 1013904223) 8) 1000, ?_, ?_, WR_draw R⟩
    · unfold f_X8_drawOfThousand
      rw [e]
      show some (irm (su (wr μ 2 8 (1664525 * ρ 1 1 + 1013904223) 2 8) 8) 1000, wr μ 2 8 (1664525 * ρ 1 1 + 1013904223)) = _
      rw [wr_same]
    · unfold f_X12_draw
      rw [dvkn (by decide)]
      show some (irm (su (wr ρ 1 1 (1664525 * ρ 1 1 + 1013904223) 1 1) 8) 1000, wr ρ 1 1 (1664525 * ρ 1 1 + 1013904223)) = _
      rw [wr_same]
  · exact absurd ht (by decide)
theorem answer_sim {G s W M g w q l nq : Nat} {t : Int32} {μ ρ : Mem} (hG : 500 ≤ G) (R : WR s t μ ρ W M) (hg : g < M) (hw : w < W) (hl : l < 3) (hnq : ρ 0 37 = nI nq) (hnq2 : nq ≤ 16) (hq : q < nq) (h1 : μ 95 l = nI w) (h2 : ρ 25 l = nI w) :
    ∃ c μ' ρ', f_X7_answer G s (nI g) (nI q) (nI l) t μ = some (c, μ') ∧ f_X12_isAsked G (nI g) (nI q) (nI l) ρ = some ρ' ∧ WR s t μ' ρ' W M ∧ Fc s t μ μ' ∧ Fr t ρ ρ' ∧
      ρ' 26 l = ρ 26 l + c ∧ (∀ j, j ≠ l → ρ' 26 j = ρ 26 j) ∧ -99 ≤ c ∧ c ≤ 99 ∧ μ' 95 = μ 95 ∧ μ' 96 = μ 96 ∧ ρ' 25 = ρ 25 ∧ (t = 1 → (∀ x, x ≠ 19 → x ≠ 94 → μ' x = μ x) ∧ ρ' 1 = ρ 1) := by
  obtain ⟨n, n1, n2, n3, n4⟩ := WR_q R
  have enq : n = nq := by
    have := n3.symm.trans hnq
    exact (nI_eq (by omega) (by omega)).mp this
  subst enq
  have at0 := n4 G q hq
  have hq32 : q < 32 := by omega
  have hst : (t = 0 ∧ s = 2) ∨ (t = 1 ∧ (s = 2 ∨ s = 99)) := R.2.2.2.2.2.2.2
  obtain ⟨μ1, a1, a2, a3⟩ := meet_ok (G := G) (by omega) R.1 R.2.2.2.2.1 hg hw
  have R1 : WR s t μ1 ρ W M := WR_scr R (fun x h1 _ _ _ => a2 x h1) (fun _ _ _ _ _ => rfl)
  obtain ⟨v, μ2, ρ2, b1, b2, b3, b4, b5, b6, b7⟩ := yes_sim (l := nI l) hG R1.1 R1.2.1 a3 hg hw hq32
  have R2 : WR s t μ2 ρ2 W M := WR_scr R1 (fun x h1 _ _ h4 => b3 x h1 h4) (fun x h1 h2 _ _ => b4 x h1 h2)
  have V2 : VR (μ2 94) ρ2 g w := VR_r b5 (fun x _ _ => b4 x (by omega) (by omega)) (fun j _ => by rw [b4 1 (by omega) (by omega)])
  have F1 : Fc s t μ μ2 := Fc_tr (Fc_scr (fun x h1 _ _ _ => a2 x h1)) (Fc_scr (fun x h1 _ _ h4 => b3 x h1 h4))
  have F2 : Fr t ρ ρ2 := Fr_scr (fun x h1 h2 _ _ => b4 x h1 h2)
  have e20 : ρ2 20 = ρ 20 := b4 20 (by omega) (by omega)
  have e26 : ρ2 26 = ρ 26 := b4 26 (by omega) (by omega)
  have e05 : ρ2 0 5 = t := R2.2.2.2.2.2.2.1
  have o95 : μ2 95 = μ 95 := by rw [b3 95 (by omega) (by omega), a2 95 (by omega)]
  have o96 : μ2 96 = μ 96 := by rw [b3 96 (by omega) (by omega), a2 96 (by omega)]
  rcases hst with ⟨rfl, rfl⟩ | ⟨rfl, hs⟩
  · obtain ⟨d, dv, d1, d2, d3⟩ := draw_sim (G := G) R2 rfl
    have V3 : VR (wr μ2 2 8 d 94) (wr ρ2 1 1 d) g w := VR_r (by rw [wr_off (by omega)]; exact V2) (fun x _ _ => wr_off (by omega)) (fun j hj => wr_slot (by omega))
    obtain ⟨c, μ', ρ', k1, k2, k3, k4, k5, k6, k7, k8, k9, k10, k11, k12⟩ := ask_tail (sd := if v ≤ dv then 0 else 1) hG d3 hg hw hl (show q < 16 by omega) V3 (by split <;> simp)
    have e1 : (wr ρ2 1 1 d) 20 q = ρ 20 q := by rw [wr_cell (by omega), e20]
    rw [e1] at k1
    refine ⟨c, μ', ρ', ?_, ?_, k3, Fc_tr F1 (Fc_tr ?_ k4), Fr_tr F2 (Fr_tr ?_ k5), ?_, ?_, k8, k9, ?_, ?_, ?_, fun q => absurd q (by decide)⟩
    · unfold f_X7_answer
      rw [chkn hl (by omega), ixn (by omega), h1, show (0 : Int32) = nI 0 from rfl, at0, bndO_s, a1, bndV_s, b1, bndE_s, if_pos (by rfl), d1, bndE_s, ← k1]
      split <;> rfl
    · unfold f_X12_isAsked
      rw [chkn hl (by omega), ixn (by omega), h2, b2, bndE_s, if_pos e05, d2, bndE_s, ← k2]
      split <;> rfl
    · exact ⟨fun x g1 _ _ _ _ _ _ => wr_off (by omega), fun q => absurd q (by decide)⟩
    · exact ⟨fun x g1 _ _ _ _ _ => wr_off g1, fun q => absurd q (by decide), by rw [wr_slot (by omega)]; exact Int32.le_refl _⟩
    · rw [k6, wr_cell (by omega), e26]
    · intro j hj; rw [k7 j hj, wr_cell (by omega), e26]
    · rw [k10 95 (by omega) (by omega) (by omega) (by omega), wr_off (by omega), o95]
    · rw [k10 96 (by omega) (by omega) (by omega) (by omega), wr_off (by omega), o96]
    · rw [k11 25 (by omega) (by omega) (by omega) (by omega) (by omega), wr_off (by omega), b4 25 (by omega) (by omega)]
  · obtain ⟨c, μ', ρ', k1, k2, k3, k4, k5, k6, k7, k8, k9, k10, k11, k12⟩ := ask_tail (sd := if v < 500 then 0 else 1) hG R2 hg hw hl (show q < 16 by omega) V2 (by split <;> simp)
    rw [e20] at k1
    refine ⟨c, μ', ρ', ?_, ?_, k3, Fc_tr F1 k4, Fr_tr F2 k5, ?_, ?_, k8, k9, ?_, ?_, ?_, ?_⟩
    · unfold f_X7_answer
      rw [chkn hl (by omega), ixn (by omega), h1, show (0 : Int32) = nI 0 from rfl, at0, bndO_s, a1, bndV_s, b1, bndE_s, if_neg (by decide), ← k1]
      split <;> rfl
    · unfold f_X12_isAsked
      rw [chkn hl (by omega), ixn (by omega), h2, b2, bndE_s, if_neg (by rw [e05]; decide), ← k2]
      have : (2 * v < 1000) ↔ v < 500 := by grind
      by_cases hv : v < 500
      · rw [if_pos (this.mpr hv), if_pos hv]
      · rw [if_neg (fun h => hv (this.mp h)), if_neg hv]
    · rw [k6, e26]
    · intro j hj; rw [k7 j hj, e26]
    · rw [k10 95 (by omega) (by omega) (by omega) (by omega), o95]
    · rw [k10 96 (by omega) (by omega) (by omega) (by omega), o96]
    · rw [k11 25 (by omega) (by omega) (by omega) (by omega) (by omega), b4 25 (by omega) (by omega)]
    · intro _
      constructor
      · intro x g1 g2
        by_cases e : x = 26
        · subst e; rw [(k4.2 rfl).1, (F1.2 rfl).1]
        by_cases e : x = 27
        · subst e; rw [(k4.2 rfl).2, (F1.2 rfl).2]
        rw [k10 x g1 g2 (by omega) (by omega), b3 x g2 g1, a2 x g2]
      · rw [k12 rfl, b4 1 (by omega) (by omega)]
end
