section
/-- thought, and all again behind it -/
def bk (ρ0 ρ : Mem) : Prop := (∀ x, x ≠ 1 → x ≠ 3 → x ≠ 23 → x ≠ 24 → x ≠ 25 → x ≠ 26 → ρ x = ρ0 x) ∧ ∀ k, k < 49 → ρ 1 k = ρ0 1 k
theorem AR_bk {bb : Bool} {μ μ' ρ ρ' : Mem} (h : AR bb μ ρ) (h1 : ∀ x, x ≠ 19 → ¬ (94 ≤ x ∧ x ≤ 104) → μ' x = μ x) (h2 : bk ρ ρ') : AR bb μ' ρ' :=
  AR_scr h (fun x g1 g2 _ _ => h1 x g1 g2) (fun x _ g1 g3 g4 _ _ _ _ _ _ => h2.1 x g1 g3 (by omega) (by omega) (by omega) (by omega)) (fun j _ _ => by rw [h2.1 0 (by omega) (by omega) (by omega) (by omega) (by omega) (by omega)]) h2.2
theorem WR_th {W M : Nat} {μ ρ ρ1 : Mem} (h : WR 2 0 μ ρ W M) (h1 : ∀ x, x ≠ 0 → x ≠ 1 → x ≠ 3 → x ≠ 23 → x ≠ 24 → x ≠ 25 → x ≠ 26 → ρ1 x = ρ x) (h2 : ∀ j, j ≠ 5 → ρ1 0 j = ρ 0 j) (h3 : ρ1 0 5 = 1) (h4 : ∀ k, k < 49 → ρ1 1 k = ρ 1 k) : WR 2 1 μ ρ1 W M := by
  obtain ⟨a1, a2, a3, a4, a5, a6, a7, a8⟩ := h
  have r : ∀ x, 4 ≤ x → x < 23 → ρ1 x = ρ x := fun x g1 g2 => h1 x (by omega) (by omega) (by omega) (by omega) (by omega) (by omega) (by omega)
  exact ⟨PpR_o a1 rfl (fun x _ _ => rfl) (h2 6 (by omega)) (h2 7 (by omega)) (fun x _ _ => r x (by omega) (by omega)), LwR_o a2 (fun x _ _ => rfl) (fun x _ _ => r x (by omega) (by omega)), QuR_o a3 rfl rfl (h2 37 (by omega)) (r 20 (by omega) (by omega)), RcR_o a4 rfl rfl (h4 2 (by omega)) (r 9 (by omega) (by omega)),
    StR_row (fun j hj => by rw [Nat.zero_add, h4 j hj]) a5, StI_row (fun j hj => by rw [Nat.zero_add, h4 j hj]) a6, h3, Or.inr ⟨rfl, Or.inl rfl⟩⟩
theorem WR_cn {W M : Nat} {t : Int32} {μ ρ : Mem} (R : WR 2 t μ ρ W M) : ∃ nq c, nq ≤ 16 ∧ ρ 0 37 = nI nq ∧ μ 20 3 = nI nq ∧ ρ 1 4 = nI c ∧ c < 2 ^ W := by
  obtain ⟨nq, n1, n2, n3, n4⟩ := WR_q R
  obtain ⟨c, c1, c2⟩ := R.2.2.2.2.2.1.2.1
  exact ⟨nq, c, n1, n3, n2, c2, c1⟩
theorem thinkT {G W M g nq c : Nat} {μ0 ρ0 ρ : Mem} {w : Nat → Nat} (hG : 500 ≤ G) (R : WR 2 0 μ0 ρ0 W M) (hg : g < M) (hw : ∀ l, l < 3 → w l < W) (hd : ∀ i j, i < 3 → j < 3 → i ≠ j → w i ≠ w j) (hnq : ρ0 0 37 = nI nq) (hnq2 : nq ≤ 16) (hc : ρ0 1 4 = nI c) (hc2 : c < 2 ^ W) (hb : bk ρ0 ρ) :
    ∃ ρ1 ρ2 ρ3 ρ4, f_X12_thinks G ρ = some ρ1 ∧ ρ1 8 = ρ0 8 ∧ f_X12_isSent G (nI (w 0)) (nI (w 1)) (nI (w 2)) ρ1 = some ρ2 ∧ f_X12_takes G (nI g) ρ2 = some (nI (mostL (fun l => tP G g μ0 c nq l (w l))), ρ3) ∧ f_X12_endsThought G ρ3 = some ρ4 ∧ bk ρ0 ρ4 ∧
      (∀ l, l < 3 → ρ4 25 l = nI (w l) ∧ ρ4 26 l = tP G g μ0 c nq l (w l)) := by
  obtain ⟨ρ1, a1, a2, a3, a4, a5⟩ := thinks_ok (G := G) (ρ := ρ) hG
  have b0 : ρ 0 = ρ0 0 := hb.1 0 (by omega) (by omega) (by omega) (by omega) (by omega) (by omega)
  have R1 : WR 2 1 μ0 ρ1 W M := WR_th R (fun x h0 h1 h3 h4 h5 h6 h7 => by rw [a2 x h0 h3]; exact hb.1 x h1 h3 h4 h5 h6 h7) (fun j hj => by rw [a3 j hj, b0]) a4 (fun k hk => by rw [a2 1 (by omega) (by omega)]; exact hb.2 k hk)
  obtain ⟨ρ2, b1, b2, b3, b4, b5⟩ := seatR (G := G) (a := nI (w 0)) (b := nI (w 1)) (c := nI (w 2)) (ρ := ρ1)
  obtain ⟨ρ3, c1, c2, c3, c4⟩ := takesT (G := G) (g := g) (nq := nq) (c := c) (w := w) (ρ := ρ2) hG R1 hg hw hd (by rw [a3 37 (by omega), b0]; exact hnq) hnq2 (by rw [a2 1 (by omega) (by omega), hb.2 4 (by omega)]; exact hc) hc2 (fun x _ _ h _ => b2 x h) (fun l hl => by
    rcases (by omega : l = 0 ∨ l = 1 ∨ l = 2) with e | e | e <;> subst e
    · exact b3
    · exact b4
    · exact b5)
  obtain ⟨ρ4, d1, d2, d3, d4, d5⟩ := ends_ok (G := G) (ρ := ρ3) hG
  have s : ∀ l, l < 3 → ρ2 25 l = nI (w l) := fun l hl => by
    rcases (by omega : l = 0 ∨ l = 1 ∨ l = 2) with e | e | e <;> subst e
    · exact b3
    · exact b4
    · exact b5
  have t05 : ρ0 0 5 = 0 := R.2.2.2.2.2.2.1
  refine ⟨ρ1, ρ2, ρ3, ρ4, a1, by rw [a2 8 (by omega) (by omega)]; exact hb.1 8 (by omega) (by omega) (by omega) (by omega) (by omega) (by omega), b1, c1, d1, ⟨fun x h1 h3 h4 h5 h6 h7 => ?_, fun k hk => ?_⟩, fun l hl => ⟨by rw [d2 25 (by omega) (by omega), c3]; exact s l hl, by rw [d2 26 (by omega) (by omega)]; exact c2 l hl⟩⟩
  · by_cases e0 : x = 0
    · subst e0
      funext j
      by_cases e5 : j = 5
      · rw [e5, d4, t05]
      · rw [d3 j e5, c4 0 (by omega) (by omega) (by omega) (by omega), b2 0 (by omega), a3 j e5, b0]
    · rw [d2 x e0 h1, c4 x h1 h4 h5 h7, b2 x h6, a2 x e0 h3]
      exact hb.1 x h1 h3 h4 h5 h6 h7
  · rw [d5 k hk, c4 3 (by omega) (by omega) (by omega) (by omega), b2 3 (by omega), a5 k hk]
    exact hb.2 k hk
theorem wouldC {G W M g nq c : Nat} {μ0 ρ0 : Mem} {a b d : Nat} {k : Int32} (hG : 500 ≤ G) (R : WR 2 0 μ0 ρ0 W M) (hg : g < M) (ha : a < W) (hb : b < W) (hd : d < W) (hnq : ρ0 0 37 = nI nq) (hnq2 : nq ≤ 16) (hc : ρ0 1 4 = nI c) (hc2 : c < 2 ^ W) (w : Nat → Nat) (w0 : w 0 = a) (w1 : w 1 = b) (w2 : w 2 = d) :
    ∃ μ', f_X7_wouldTake G (nI g) (nI a) (nI b) (nI d) k μ0 = some (if k = 0 then nI (w (mostL (fun l => tP G g μ0 c nq l (w l)))) else tP G g μ0 c nq (mostL (fun l => tP G g μ0 c nq l (w l))) (w (mostL (fun l => tP G g μ0 c nq l (w l)))), μ') ∧ ∀ x, x ≠ 19 → ¬ (94 ≤ x ∧ x ≤ 104) → μ' x = μ0 x := by
  obtain ⟨ρ1, a1, a2, a3, a4, a5⟩ := thinks_ok (G := G) (ρ := ρ0) hG
  have R1 : WR 2 1 μ0 ρ1 W M := WR_th R (fun x h0 h1 h3 h4 h5 h6 h7 => a2 x h0 h3) a3 a4 (fun k hk => by rw [a2 1 (by omega) (by omega)])
  have n1 : ρ1 0 37 = nI nq := by rw [a3 37 (by omega)]; exact hnq
  have n2 : ρ1 1 4 = nI c := by rw [a2 1 (by omega) (by omega)]; exact hc
  obtain ⟨μ1, b1, b2, b3, b4, b5⟩ := tPc (G := G) (g := g) (w := a) (l := 0) (μ := μ0) hG R1 hg ha (by omega) n1 hnq2 n2 hc2 (fun _ _ _ => rfl)
  obtain ⟨μ2, c1, c2, c3, c4, c5⟩ := tPc (G := G) (g := g) (w := b) (l := 1) (μ := wr μ1 96 0 (tP G g μ0 c nq 0 a)) hG R1 hg hb (by omega) n1 hnq2 n2 hc2 (fun x h h2 => by rw [wr_off (by omega)]; exact b5 x h h2)
  obtain ⟨μ3, d1, d2, d3, d4, d5⟩ := tPc (G := G) (g := g) (w := d) (l := 2) (μ := wr μ2 96 1 (tP G g μ0 c nq 1 b)) hG R1 hg hd (by omega) n1 hnq2 n2 hc2 (fun x h h2 => by rw [wr_off (by omega)]; exact c5 x h h2)
  have p96 : ∀ l, l < 3 → (wr μ3 96 2 (tP G g μ0 c nq 2 d)) 96 l = tP G g μ0 c nq l (w l) := fun l hl => by
    rcases (by omega : l = 0 ∨ l = 1 ∨ l = 2) with e | e | e <;> subst e
    · rw [wr_slot (by omega), d2 96 (by omega) (by omega) (by omega), wr_slot (by omega), c2 96 (by omega) (by omega) (by omega), wr_same, w0]
    · rw [wr_slot (by omega), d2 96 (by omega) (by omega) (by omega), wr_same, w1]
    · rw [wr_same, w2]
  have p95 : ∀ l, l < 3 → (wr μ3 96 2 (tP G g μ0 c nq 2 d)) 95 l = nI (w l) := fun l hl => by
    rw [wr_cell (by omega)]
    rcases (by omega : l = 0 ∨ l = 1 ∨ l = 2) with e | e | e <;> subst e
    · rw [d3 0 (by omega), wr_cell (by omega), c3 0 (by omega), wr_cell (by omega), b4, w0]
    · rw [d3 1 (by omega), wr_cell (by omega), c4, w1]
    · rw [d4, w2]
  have hm := mostL_lt (fun l => tP G g μ0 c nq l (w l))
  have em : mostL ((wr μ3 96 2 (tP G g μ0 c nq 2 d)) 96) = mostL (fun l => tP G g μ0 c nq l (w l)) := mostL_c p96
  have q95 := p95 _ hm
  have q96 := p96 _ hm
  generalize hmm : mostL (fun l => tP G g μ0 c nq l (w l)) = m at *
  refine ⟨wr μ3 96 2 (tP G g μ0 c nq 2 d), ?_, fun x h1 h2 => by rw [wr_off (by omega), d2 x h1 (by omega) (by omega), wr_off (by omega), c2 x h1 (by omega) (by omega), wr_off (by omega), b2 x h1 (by omega) (by omega)]⟩
  have b1 : f_X7_thoughtPoints G (nI g) (nI a) 0 μ0 = some (tP G g μ0 c nq 0 a, μ1) := b1
  have c1 : f_X7_thoughtPoints G (nI g) (nI b) 1 (wr μ1 96 0 (tP G g μ0 c nq 0 a)) = some (tP G g μ0 c nq 1 b, μ2) := c1
  have d1 : f_X7_thoughtPoints G (nI g) (nI d) 2 (wr μ2 96 1 (tP G g μ0 c nq 1 b)) = some (tP G g μ0 c nq 2 d, μ3) := d1
  unfold f_X7_wouldTake
  rw [b1, bndE_s]
  show bndE (f_X7_thoughtPoints G (nI g) (nI b) 1 (wr μ1 96 0 (tP G g μ0 c nq 0 a))) _ = _
  rw [c1, bndE_s]
  show bndE (f_X7_thoughtPoints G (nI g) (nI d) 2 (wr μ2 96 1 (tP G g μ0 c nq 1 b))) _ = _
  rw [d1, bndE_s]
  show bndO (f_X7_landauWithMost G (wr μ3 96 2 (tP G g μ0 c nq 2 d))) _ = _
  rw [mostC, bndO_s, em, chkn hm (by omega), ixn (by omega), chkn hm (by omega), q95, q96]
  by_cases e : k = 0
  · rw [if_pos e, if_pos e]
  · rw [if_neg e, if_neg e]
theorem s_would {G : Nat} {bb : Bool} {μ ρ : Mem} (hG : 500 ≤ G) (h : AR bb μ ρ) (p a b c k : Int32) : ∃ r μ' ρ', f_X11_would G p a b c k μ = some (r, μ') ∧ f_X12_would G p a b c k ρ = some (r, ρ') ∧ AR bb μ' ρ' := by
  obtain ⟨W, M, H⟩ := id h
  have H0 : AT bb W M μ (wr ρ 0 0 (nI 0)) := told0 H
  have R0 := WR_of H0
  have z0 : nI 0 = (0 : Int32) := rfl
  have z1 : ¬ nI 1 = (0 : Int32) := by decide
  rcases groom_of R0.1 p with ⟨g1, g2⟩ | ⟨g, hg, rfl, g1, g2⟩
  · refine ⟨-10000, μ, _, ?_, ?_, AR_told h⟩
    · rw [f_X11_would, g1, if_pos z0]
    · show (if f_X12_isGroom (wr ρ 0 0 (nI 0)) p = 0 then _ else _) = _
      rw [g2, if_pos z0]
  rcases three_of R0.1 a b c with ⟨t1, t2⟩ | ⟨x, y, z, hx, hy, hz, u1, u2, u3, rfl, rfl, rfl, t1, t2⟩
  · refine ⟨-10000, μ, _, ?_, ?_, AR_told h⟩
    · rw [f_X11_would, g1, if_neg z1, t1, if_pos z0]
    · show (if f_X12_isGroom (wr ρ 0 0 (nI 0)) (nI g) = 0 then _ else if f_X12_areUnlike (wr ρ 0 0 (nI 0)) a b c = 0 then _ else _) = _
      rw [g2, if_neg z1, t2, if_pos z0]
  by_cases hk : 0 ≤ k ∧ k ≤ 1
  · obtain ⟨nq, cc, hnq2, hnq, _, hc, hc2⟩ := WR_cn R0
    let w : Nat → Nat := fun l => if l = 0 then x else if l = 1 then y else z
    obtain ⟨ρ1, ρ2, ρ3, ρ4, a1, _, a2, a3, a4, a5, a6⟩ := thinkT (G := G) (g := g) (w := w) hG R0 hg (fun l _ => by show (if l = 0 then x else if l = 1 then y else z) < W; split; exact hx; split; exact hy; exact hz) (fun i j hi hj e => by
      show (if i = 0 then x else if i = 1 then y else z) ≠ (if j = 0 then x else if j = 1 then y else z)
      rcases (by omega : i = 0 ∨ i = 1 ∨ i = 2) with q | q | q <;> rcases (by omega : j = 0 ∨ j = 1 ∨ j = 2) with r | r | r <;> subst q <;> subst r <;> simp at e ⊢
      · exact u1
      · exact u3
      · exact fun h => u1 h.symm
      · exact u2
      · exact fun h => u3 h.symm
      · exact fun h => u2 h.symm) hnq hnq2 hc hc2 ⟨fun _ _ _ _ _ _ _ => rfl, fun _ _ => rfl⟩
    have hm := mostL_lt (fun l => tP G g μ cc nq l (w l))
    obtain ⟨q1, q2⟩ := a6 _ hm
    have a2 : f_X12_isSent G (nI x) (nI y) (nI z) ρ1 = some ρ2 := a2
    have kk : k = 0 ∨ k = 1 := by
      obtain ⟨j, hj, rfl⟩ := in_of 1 rfl (by omega) hk.1 hk.2
      rcases (by omega : j = 0 ∨ j = 1) with e | e
      · exact Or.inl (by rw [e]; rfl)
      · exact Or.inr (by rw [e]; rfl)
    rcases kk with rfl | rfl
    · obtain ⟨μ', b1, b2⟩ := wouldC (G := G) (g := g) (k := 0) (μ0 := μ) hG R0 hg hx hy hz hnq hnq2 hc hc2 w rfl rfl rfl
      rw [if_pos rfl] at b1
      refine ⟨nI (w (mostL (fun l => tP G g μ cc nq l (w l)))), μ', ρ4, ?_, ?_, AR_bk ⟨W, M, H0⟩ b2 a5⟩
      · rw [f_X11_would, g1, if_neg z1, t1, if_neg z1, if_neg (by decide), if_pos hk.2, if_neg (by decide), b1, bndE_s]
      · show (if f_X12_isGroom (wr ρ 0 0 (nI 0)) (nI g) = 0 then _ else if f_X12_areUnlike (wr ρ 0 0 (nI 0)) (nI x) (nI y) (nI z) = 0 then _ else if f_X12_isIn 0 0 1 = 0 then _ else bndV (f_X12_thinks G (wr ρ 0 0 (nI 0))) _) = _
        rw [g2, if_neg z1, t2, if_neg z1, isI, if_pos hk, if_neg (by decide), a1, bndV_s, a2, bndV_s, a3, bndE_s, a4, bndV_s, if_pos rfl, chkn hm (by omega), ixn (by omega), q1]
    · obtain ⟨μ', b1, b2⟩ := wouldC (G := G) (g := g) (k := 1) (μ0 := μ) hG R0 hg hx hy hz hnq hnq2 hc hc2 w rfl rfl rfl
      rw [if_neg (by decide)] at b1
      refine ⟨tP G g μ cc nq (mostL (fun l => tP G g μ cc nq l (w l))) (w (mostL (fun l => tP G g μ cc nq l (w l)))), μ', ρ4, ?_, ?_, AR_bk ⟨W, M, H0⟩ b2 a5⟩
      · rw [f_X11_would, g1, if_neg z1, t1, if_neg z1, if_neg (by decide), if_pos hk.2, if_pos rfl, b1, bndE_s]
      · show (if f_X12_isGroom (wr ρ 0 0 (nI 0)) (nI g) = 0 then _ else if f_X12_areUnlike (wr ρ 0 0 (nI 0)) (nI x) (nI y) (nI z) = 0 then _ else if f_X12_isIn 1 0 1 = 0 then _ else bndV (f_X12_thinks G (wr ρ 0 0 (nI 0))) _) = _
        rw [g2, if_neg z1, t2, if_neg z1, isI, if_pos hk, if_neg (by decide), a1, bndV_s, a2, bndV_s, a3, bndE_s, a4, bndV_s, if_neg (by decide), chkn hm (by omega), ixn (by omega), q2]
  · refine ⟨-10000, μ, _, ?_, ?_, AR_told h⟩
    · rw [f_X11_would, g1, if_neg z1, t1, if_neg z1]
      by_cases k0 : k < 0
      · rw [if_pos k0]
      · rw [if_neg k0, if_neg (fun q => hk ⟨by grind, q⟩)]
    · show (if f_X12_isGroom (wr ρ 0 0 (nI 0)) (nI g) = 0 then _ else if f_X12_areUnlike (wr ρ 0 0 (nI 0)) (nI x) (nI y) (nI z) = 0 then _ else if f_X12_isIn k 0 1 = 0 then _ else bndV (f_X12_thinks G (wr ρ 0 0 (nI 0))) _) = _
      rw [g2, if_neg z1, t2, if_neg z1, isI, if_neg hk, if_pos rfl]
end
