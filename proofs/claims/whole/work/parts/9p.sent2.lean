section
theorem WR_bk {W M : Nat} {μ ρ ρ' : Mem} (h : WR 2 0 μ ρ W M) (hb : bk ρ ρ') : WR 2 0 μ ρ' W M := by
  obtain ⟨a1, a2, a3, a4, a5, a6, a7, a8⟩ := h
  have r : ∀ x, x ≠ 1 → x ≠ 3 → x < 23 → ρ' x = ρ x := fun x g1 g2 g3 => hb.1 x g1 g2 (by omega) (by omega) (by omega) (by omega)
  exact ⟨PpR_o a1 rfl (fun x _ _ => rfl) (by rw [r 0 (by omega) (by omega) (by omega)]) (by rw [r 0 (by omega) (by omega) (by omega)]) (fun x _ _ => r x (by omega) (by omega) (by omega)), LwR_o a2 (fun x _ _ => rfl) (fun x _ _ => r x (by omega) (by omega) (by omega)), QuR_o a3 rfl rfl (by rw [r 0 (by omega) (by omega) (by omega)]) (r 20 (by omega) (by omega) (by omega)), RcR_o a4 rfl rfl (hb.2 2 (by omega)) (r 9 (by omega) (by omega) (by omega)),
    StR_row (fun j hj => by rw [Nat.zero_add, hb.2 j hj]) a5, StI_row (fun j hj => by rw [Nat.zero_add, hb.2 j hj]) a6, by rw [r 0 (by omega) (by omega) (by omega)]; exact a7, a8⟩
theorem she_of {W M g : Nat} {t : Int32} {μ ρ : Mem} (R : WR 2 t μ ρ W M) (hg : g < M) : ∃ e, e < W ∧ μ 12 g = nI e ∧ ρ 8 g = nI e := by
  obtain ⟨e, e1, e2⟩ := R.1.2.2.2.2.2.2.2.2.2.2.2 g hg
  have hM := (WR_W R).2
  exact ⟨e, e1, by rw [← e2]; exact R.1.2.2.2.2.2.2.2.2.2.2.1 g (by omega), e2⟩
def vP (G g : Nat) (μ0 : Mem) (c nq e a b : Nat) : Int32 := tP G g μ0 c nq 1 e - imax (tP G g μ0 c nq 0 b) (tP G g μ0 c nq 2 a)
def cmN (μ0 : Mem) (W e : Nat) : Nat := wo (mkM (fun w => decide (μ0 3 w = nI 4294967295)) W) (2 ^ e)
theorem cm_lt {μ0 : Mem} {W e : Nat} (hW : W ≤ 12) : cmN μ0 W e < 4096 := Nat.lt_of_le_of_lt wo_le (Nat.lt_of_lt_of_le (mkM_lt W) (Nat.pow_le_pow_right (n := 2) (by decide) hW))
theorem cm_bit {μ0 : Mem} {W e b : Nat} (hW : W ≤ 12) : (cmN μ0 W e).testBit b = true ↔ b < W ∧ μ0 3 b = nI 4294967295 ∧ b ≠ e := by
  by_cases hb : b < W
  · unfold cmN
    rw [wo_bit (by omega), mkM_bit, pw_bit, decide_eq_true hb]
    simp only [Bool.true_and, Bool.and_eq_true, decide_eq_true_iff, Bool.not_eq_true', decide_eq_false_iff_not]
    exact ⟨fun h => ⟨hb, h.1, fun q => h.2 q.symm⟩, fun h => ⟨h.2.1, fun q => h.2.2 q.symm⟩⟩
  · have : (cmN μ0 W e).testBit b = false := bit_ge (k := W) (Nat.lt_of_le_of_lt wo_le (mkM_lt W)) (by omega)
    rw [this]
    exact ⟨fun h => absurd h (by decide), fun h => absurd h.1 hb⟩
theorem sentC {G W M g nq c e : Nat} {μ0 ρ0 : Mem} {k : Int32} (hG : 500 ≤ G) (R : WR 2 0 μ0 ρ0 W M) (hg : g < M) (he : e < W) (he2 : μ0 12 g = nI e) (hnq : ρ0 0 37 = nI nq) (hnq2 : nq ≤ 16) (hc : ρ0 1 4 = nI c) (hc2 : c < 2 ^ W) :
    ∃ μ', f_X7_bestBeside G (nI g) k μ0 = some (if 2 ≤ pcn (cmN μ0 W e) 12 then (if k = 0 then nI (sO (vP G g μ0 c nq e) (cmN μ0 W e) 12).1 else (sO (vP G g μ0 c nq e) (cmN μ0 W e) 12).2) else -10000, μ') ∧ ∀ x, x ≠ 19 → ¬ (94 ≤ x ∧ x ≤ 104) → μ' x = μ0 x := by
  obtain ⟨hW, hM⟩ := WR_W R
  obtain ⟨ρ1, a1, a2, a3, a4, a5⟩ := thinks_ok (G := G) (ρ := ρ0) hG
  have R1 : WR 2 1 μ0 ρ1 W M := WR_th R (fun x h0 h1 h3 h4 h5 h6 h7 => a2 x h0 h3) a3 a4 (fun k hk => by rw [a2 1 (by omega) (by omega)])
  have n1 : ρ1 0 37 = nI nq := by rw [a3 37 (by omega)]; exact hnq
  have n2 : ρ1 1 4 = nI c := by rw [a2 1 (by omega) (by omega)]; exact hc
  have fw := freeW_ok (G := G) (μ := μ0) hG R.1.1 hW
  have cl := cm_lt (μ0 := μ0) (e := e) hW
  have cb := fun b => cm_bit (μ0 := μ0) (e := e) (b := b) hW
  have em : nI (mkM (fun w => decide (μ0 3 w = nI 4294967295)) W) &&& (sl (1 : Int32) (nI e) ^^^ (-1 : Int32)) = nI (cmN μ0 W e) := by
    rw [show sl (1 : Int32) (nI e) = nI (2 ^ e) from sl1 (by omega)]
    exact won
  have bc := bc12 _ cl
  generalize cmN μ0 W e = m at *
  have pm := pcn_max (a := m) (n := 12)
  have st : f_X7_bestBeside G (nI g) k μ0 = (if (2 : Int32) ≤ nI (pcn m 12) then bndE (f_X7_thoughtPoints G (nI g) (nI e) 1 μ0) (fun w7 m6 => f_X7_bestBeside_L50 G (f_X7_bestBeside_j103 G) G (nI g) k (nI m) w7 0 m6) else some (-10000, μ0)) := by
    unfold f_X7_bestBeside
    rw [chkn (by omega) (by omega), fw, bndO_s, ixn (by omega), he2, em, bc]
  by_cases two : 2 ≤ pcn m 12
  · rw [if_pos (show (2 : Int32) ≤ nI (pcn m 12) from nI_le (a := 2) two (by omega))] at st
    rw [if_pos two]
    obtain ⟨μ1, b1, b2, b3, b4, b5⟩ := tPc (G := G) (g := g) (w := e) (l := 1) (μ := μ0) hG R1 hg he (by omega) n1 hnq2 n2 hc2 (fun _ _ _ => rfl)
    have b1 : f_X7_thoughtPoints G (nI g) (nI e) 1 μ0 = some (tP G g μ0 c nq 1 e, μ1) := b1
    rw [b1, bndE_s] at st
    have hs : ∀ i, i < 12 → f_X11_has (nI m) (nI i) = if m.testBit i = true then nI 1 else nI 0 := fun i hi => hasn (by omega) (by omega)
    obtain ⟨g', μ2, k1, i1, i2, i3⟩ := loopZ (fun f v (s : Mem) => f_X7_bestBeside_L50 G (f_X7_bestBeside_j103 G) f (nI g) k (nI m) (tP G g μ0 c nq 1 e) v s) 12 (fun j s => agC μ0 s ∧ (∀ x, x ≠ 19 → ¬ (94 ≤ x ∧ x ≤ 104) → s x = μ0 x) ∧ ∀ i, i < j → m.testBit i = true → s 97 i = tP G g μ0 c nq 0 i ∧ s 98 i = tP G g μ0 c nq 2 i) (by
      rintro f w s hw ⟨i1, i2, i3⟩
      have z1 : ¬ nI 1 = (0 : Int32) := by decide
      have z0 : nI 0 = (0 : Int32) := rfl
      have e12 : ¬ (12 : Int32) ≤ nI w := nI_ge (b := 12) hw (by omega)
      show ∃ s', f_X7_bestBeside_L50 G (f_X7_bestBeside_j103 G) (f + 1) (nI g) k (nI m) (tP G g μ0 c nq 1 e) (nI w) s = f_X7_bestBeside_L50 G (f_X7_bestBeside_j103 G) f (nI g) k (nI m) (tP G g μ0 c nq 1 e) (nI (w + 1)) s' ∧ _
      by_cases mb : m.testBit w = true
      · have wW := ((cb w).mp mb).1
        obtain ⟨s1, c1, c2, c3, c4, c5⟩ := tPc (G := G) (g := g) (w := w) (l := 0) (μ := s) hG R1 hg wW (by omega) n1 hnq2 n2 hc2 i1
        obtain ⟨s2, d1, d2, d3, d4, d5⟩ := tPc (G := G) (g := g) (w := w) (l := 2) (μ := wr s1 97 w (tP G g μ0 c nq 0 w)) hG R1 hg wW (by omega) n1 hnq2 n2 hc2 (fun x h h2 => by rw [wr_off (by omega)]; exact c5 x h h2)
        have c1 : f_X7_thoughtPoints G (nI g) (nI w) 0 s = some (tP G g μ0 c nq 0 w, s1) := c1
        have d1 : f_X7_thoughtPoints G (nI g) (nI w) 2 (wr s1 97 w (tP G g μ0 c nq 0 w)) = some (tP G g μ0 c nq 2 w, s2) := d1
        refine ⟨wr s2 98 w (tP G g μ0 c nq 2 w), ?_, fun x h h2 => by rw [wr_off (by omega)]; exact d5 x h h2, fun x h h2 => by rw [wr_off (by omega), d2 x h (by omega) (by omega), wr_off (by omega), c2 x h (by omega) (by omega)]; exact i2 x h h2, fun i hi hb => ?_⟩
        · rw [f_X7_bestBeside_L50, if_neg e12, hs w hw, if_pos mb, if_neg z1, c1, bndE_s, chkn hw (by omega), ixn (by omega)]
          show bndE (f_X7_thoughtPoints G (nI g) (nI w) 2 (wr s1 97 w (tP G g μ0 c nq 0 w))) _ = _
          rw [d1, bndE_s, chkn hw (by omega), f_X7_bestBeside_j97, show (1 : Int32) = nI 1 from rfl, nI_add]
        · rw [wr_cell (by omega), d2 97 (by omega) (by omega) (by omega)]
          by_cases ei : i = w
          · rw [ei, wr_same, wr_same]
            exact ⟨rfl, rfl⟩
          · rw [wr_slot ei, wr_slot ei, c2 97 (by omega) (by omega) (by omega), d2 98 (by omega) (by omega) (by omega), wr_off (by omega), c2 98 (by omega) (by omega) (by omega)]
            exact i3 i (by omega) hb
      · refine ⟨s, ?_, i1, i2, fun i hi hb => ?_⟩
        · rw [f_X7_bestBeside_L50, if_neg e12, hs w hw, if_neg mb, if_pos z0, f_X7_bestBeside_j97, show (1 : Int32) = nI 1 from rfl, nI_add]
        · by_cases ei : i = w
          · rw [ei] at hb; exact absurd hb mb
          · exact i3 i (by omega) hb) (by omega : 12 < G) (s := μ1) ⟨b5, fun x h h2 => b2 x h (by omega) (by omega), fun i hi => absurd hi (by omega)⟩
    refine ⟨μ2, ?_, i2⟩
    rw [st]
    refine Eq.trans k1 ?_
    show f_X7_bestBeside_L50 G (f_X7_bestBeside_j103 G) (g' + 1) (nI g) k (nI m) (tP G g μ0 c nq 1 e) (nI 12) μ2 = _
    rw [f_X7_bestBeside_L50, if_pos (by decide)]
    exact sC hG cl (fun a b ha hb h1 h2 => by
      rw [(i3 b (by omega) h1).1, (i3 a ha h2).2]
      rfl)
  · rw [if_neg (show ¬ (2 : Int32) ≤ nI (pcn m 12) from nI_ge (b := 2) (by omega) (by omega))] at st
    rw [if_neg two]
    exact ⟨μ0, st, fun _ _ _ => rfl⟩
theorem moreBy_ok {G W M g nq c e a b : Nat} {μ0 ρ0 ρ : Mem} (hG : 500 ≤ G) (R : WR 2 0 μ0 ρ0 W M) (hg : g < M) (he : e < W) (he3 : ρ0 8 g = nI e) (ha : a < W) (hb : b < W) (h1 : a ≠ b) (h2 : a ≠ e) (h3 : b ≠ e) (hnq : ρ0 0 37 = nI nq) (hnq2 : nq ≤ 16) (hc : ρ0 1 4 = nI c) (hc2 : c < 2 ^ W) (B : bk ρ0 ρ) :
    ∃ ρ', f_X12_moreBy G (nI g) (nI b) (nI a) ρ = some (vP G g μ0 c nq e a b, ρ') ∧ bk ρ0 ρ' := by
  obtain ⟨hW, hM⟩ := WR_W R
  let w : Nat → Nat := fun l => if l = 0 then b else if l = 1 then e else a
  obtain ⟨ρ1, ρ2, ρ3, ρ4, a1, a8, a2, a3, a4, a5, a6⟩ := thinkT (G := G) (g := g) (w := w) hG R hg (fun l _ => by show (if l = 0 then b else if l = 1 then e else a) < W; split; exact hb; split; exact he; exact ha) (fun i j hi hj e1 => by
    show (if i = 0 then b else if i = 1 then e else a) ≠ (if j = 0 then b else if j = 1 then e else a)
    rcases (by omega : i = 0 ∨ i = 1 ∨ i = 2) with q | q | q <;> rcases (by omega : j = 0 ∨ j = 1 ∨ j = 2) with r | r | r <;> subst q <;> subst r <;> simp at e1 ⊢
    · exact h3
    · exact fun h => h1 h.symm
    · exact fun h => h3 h.symm
    · exact fun h => h2 h.symm
    · exact h1
    · exact h2) hnq hnq2 hc hc2 B
  refine ⟨ρ4, ?_, a5⟩
  have a2 : f_X12_isSent G (nI b) (nI e) (nI a) ρ1 = some ρ2 := a2
  have p0 : ρ4 26 0 = tP G g μ0 c nq 0 b := (a6 0 (by omega)).2
  have p1 : ρ4 26 1 = tP G g μ0 c nq 1 e := (a6 1 (by omega)).2
  have p2 : ρ4 26 2 = tP G g μ0 c nq 2 a := (a6 2 (by omega)).2
  unfold f_X12_moreBy
  rw [a1, bndV_s, chkn (by omega) (by omega), ixn (by omega), a8, he3, a2, bndV_s, a3, bndE_s, a4, bndV_s, p0, p1, p2, gr12]
  rfl
end
