section
/-! what a WOMAN and a GROOM are told by -/
def VR (v : Nat → Int32) (ρ : Mem) (g w : Nat) : Prop :=
  v 0 = ρ 4 w ∧ v 1 = ρ 5 w ∧ v 2 = ρ 6 w ∧ v 3 = (if ρ 8 g = nI w then 1 else 0) ∧ v 7 = ρ 7 g ∧ v 8 = ρ 1 0 ∧ v 9 = ρ 1 (33 + g) ∧ v 10 = ρ 1 (25 + g)
theorem PpR_in {b W M : Nat} {μ ρ : Mem} (h : PpR b μ ρ W M) : W ≤ 12 ∧ M ≤ 8 := ⟨h.2.2.1, h.2.2.2.2.2.1⟩
theorem isW0 {W : Nat} {μ : Mem} {p : Int32} (h : μ 1 6 = nI W) (hW : W ≤ 12) : f_X0_isWoman μ p = if 0 ≤ p ∧ p < nI W then 1 else 0 := by
  unfold f_X0_isWoman
  rw [isB, h]
  have : nI W ≤ 12 := nI_le (b := 12) hW (by omega)
  grind
theorem isG0 {M : Nat} {μ : Mem} {p : Int32} (h : μ 1 7 = nI M) (hM : M ≤ 8) : f_X0_isGroom μ p = if 0 ≤ p ∧ p < nI M then 1 else 0 := by
  unfold f_X0_isGroom
  rw [isB, h]
  have : nI M ≤ 8 := nI_le (b := 8) hM (by omega)
  grind
theorem isWR {ρ : Mem} {p : Int32} : f_X12_isWoman ρ p = if 0 ≤ p ∧ p < ρ 0 6 then 1 else 0 := by
  unfold f_X12_isWoman
  grind
theorem isGR {ρ : Mem} {p : Int32} : f_X12_isGroom ρ p = if 0 ≤ p ∧ p < ρ 0 7 then 1 else 0 := by
  unfold f_X12_isGroom
  grind
theorem w01 : ∀ {P : Prop} [Decidable P], P → (if P then (1 : Int32) else 0) = 1 := fun h => if_pos h
theorem isW1 {W w : Nat} {μ : Mem} (h : μ 1 6 = nI W) (hW : W ≤ 12) (hw : w < W) : f_X0_isWoman μ (nI w) = nI 1 := by
  rw [isW0 h hW, if_pos ⟨nI_pos' (by omega), nI_lt hw (by omega)⟩]; rfl
theorem isG1 {M g : Nat} {μ : Mem} (h : μ 1 7 = nI M) (hM : M ≤ 8) (hg : g < M) : f_X0_isGroom μ (nI g) = nI 1 := by
  rw [isG0 h hM, if_pos ⟨nI_pos' (by omega), nI_lt hg (by omega)⟩]; rfl
theorem meet_ok {G s W M g w : Nat} {μ ρ : Mem} {n : Int32} (hs : s = 2 ∨ s = 99) (P : PpR 1 μ ρ W M) (S : StR μ s n (ρ 1) 0) (hg : g < M) (hw : w < W) :
    ∃ μ1, f_X7_meet G s (nI g) (nI w) μ = some μ1 ∧ (∀ x, x ≠ 94 → μ1 x = μ x) ∧ VR (μ1 94) ρ g w := by
  obtain ⟨p1, p2, p3, p4, p5, p6, p7, p8, p9, p10, p11, p12⟩ := P
  obtain ⟨s1, s2, s3, s4, s5, s6, s7, s8, s9, s10⟩ := S
  have q1 := isW1 p1 p3 hw
  have q2 := isG1 p4 p6 hg
  have e1 : μ 8 w = ρ 4 w := p7 w (by omega)
  have e2 : μ 9 w = ρ 5 w := p8 w (by omega)
  have e3 : μ 10 w = ρ 6 w := p9 w (by omega)
  have e4 : μ 12 g = ρ 8 g := p11 g (by omega)
  have e5 : μ 11 g = ρ 7 g := p10 g (by omega)
  have e6 : μ s 5 = ρ 1 0 := s1
  have e7 : μ (s + 4) g = ρ 1 (33 + g) := by rw [s9 g (by omega), Nat.zero_add]
  have e8 : μ (s + 3) g = ρ 1 (25 + g) := by rw [s8 g (by omega), Nat.zero_add]
  have d1 : s ≠ 94 := by omega
  have d2 : s + 4 ≠ 94 := by omega
  have d3 : s + 3 ≠ 94 := by omega
  by_cases hp : ρ 8 g = nI w
  · refine ⟨_, by
      simp (disch := omega) only [lit, neg1, nI_1, nI_add, pk_mul, pk_sub, nI_leI, nI_ltI, nI_eq, nI_eqm, chkn, ixn, if_pos, if_neg, bndV_s, bndE_s, bndO_s, reduceIte, irmn, iminn, imaxn, f_X7_meet, q1, q2, wr_cell, e1, e2, e3, e4, e5, e6, e7, e8, hp, f_X7_meet_j91]
      rfl, ?_, ?_⟩
    · intro x hx
      simp only [wr_off hx]
    · simp [VR, wr, hp, lit]
  · refine ⟨_, by
      simp (disch := omega) only [lit, neg1, nI_1, nI_add, pk_mul, pk_sub, nI_leI, nI_ltI, nI_eq, nI_eqm, chkn, ixn, if_pos, if_neg, bndV_s, bndE_s, bndO_s, reduceIte, irmn, iminn, imaxn, f_X7_meet, q1, q2, wr_cell, e1, e2, e3, e4, e5, e6, e7, e8, hp, f_X7_meet_j91]
      rfl, ?_, ?_⟩
    · intro x hx
      simp only [wr_off hx]
    · simp [VR, wr, hp, lit]
theorem asks_ok {G W M g w : Nat} {μ ρ : Mem} (P : PpR 1 μ ρ W M) (hg : g < M) (hw : w < W) :
    ∃ ρ1, f_X12_asks G (nI g) (nI w) ρ = some ρ1 ∧ (∀ x, x ≠ 23 → ρ1 x = ρ x) ∧ VR (ρ1 23) ρ g w ∧ ρ1 23 4 = 0 ∧ ρ1 23 5 = 0 ∧ ρ1 23 6 = 0 := by
  obtain ⟨hW, hM⟩ := PpR_in P
  by_cases hp : ρ 8 g = nI w
  · refine ⟨_, by
      simp (disch := omega) only [lit, neg1, nI_1, nI_add, pk_mul, pk_sub, nI_leI, nI_ltI, nI_eq, nI_eqm, chkn, ixn, if_pos, if_neg, bndV_s, bndE_s, bndO_s, reduceIte, irmn, iminn, imaxn, f_X12_asks, wr_cell, hp, f_X12_asks_j56]
      rfl, ?_, ?_⟩
    · intro x hx
      simp only [wr_off hx]
    · simp [VR, wr, hp, lit]
  · refine ⟨_, by
      simp (disch := omega) only [lit, neg1, nI_1, nI_add, pk_mul, pk_sub, nI_leI, nI_ltI, nI_eq, nI_eqm, chkn, ixn, if_pos, if_neg, bndV_s, bndE_s, bndO_s, reduceIte, irmn, iminn, imaxn, f_X12_asks, wr_cell, hp, f_X12_asks_j56]
      rfl, ?_, ?_⟩
    · intro x hx
      simp only [wr_off hx]
    · simp [VR, wr, hp, lit]
theorem held_in {v lo hi : Int32} (h : lo ≤ hi) : lo ≤ f_X11_held v lo hi ∧ f_X11_held v lo hi ≤ hi := by
  unfold f_X11_held imax imin
  grind
theorem LwR_o {b : Nat} {μ μ' ρ ρ' : Mem} (h : LwR b μ ρ) (h1 : ∀ x, b + 12 ≤ x → x ≤ b + 17 → μ' x = μ x) (h2 : ∀ x, 12 ≤ x → x ≤ 18 → ρ' x = ρ x) : LwR b μ' ρ' := by
  unfold LwR at h ⊢
  rw [h1 (b + 12) (by omega) (by omega), h1 (b + 13) (by omega) (by omega), h1 (b + 14) (by omega) (by omega), h1 (b + 15) (by omega) (by omega), h1 (b + 16) (by omega) (by omega), h1 (b + 17) (by omega) (by omega)]
  rw [h2 12 (by omega) (by omega), h2 13 (by omega) (by omega), h2 14 (by omega) (by omega), h2 15 (by omega) (by omega), h2 16 (by omega) (by omega), h2 17 (by omega) (by omega), h2 18 (by omega) (by omega)]
  exact h
theorem VR_v {v v' : Nat → Int32} {ρ : Mem} {g w : Nat} (h : VR v ρ g w) (h' : ∀ k, k ≠ 4 → k ≠ 5 → k ≠ 6 → v' k = v k) : VR v' ρ g w := by
  unfold VR at h ⊢
  rw [h' 0 (by omega) (by omega) (by omega), h' 1 (by omega) (by omega) (by omega), h' 2 (by omega) (by omega) (by omega), h' 3 (by omega) (by omega) (by omega), h' 7 (by omega) (by omega) (by omega), h' 8 (by omega) (by omega) (by omega), h' 9 (by omega) (by omega) (by omega), h' 10 (by omega) (by omega) (by omega)]
  exact h
theorem VR_11 {v v' : Nat → Int32} {ρ : Mem} {g w : Nat} (h : VR v ρ g w) (h' : VR v' ρ g w) (h4 : v 4 = v' 4) (h5 : v 5 = v' 5) (h6 : v 6 = v' 6) : ∀ k, k < 11 → v k = v' k := by
  obtain ⟨a0, a1, a2, a3, a7, a8, a9, a10⟩ := h
  obtain ⟨b0, b1, b2, b3, b7, b8, b9, b10⟩ := h'
  intro k hk
  rcases (by omega : k = 0 ∨ k = 1 ∨ k = 2 ∨ k = 3 ∨ k = 4 ∨ k = 5 ∨ k = 6 ∨ k = 7 ∨ k = 8 ∨ k = 9 ∨ k = 10) with e | e | e | e | e | e | e | e | e | e | e <;> subst e
  · rw [a0, b0]
  · rw [a1, b1]
  · rw [a2, b2]
  · rw [a3, b3]
  · exact h4
  · exact h5
  · exact h6
  · rw [a7, b7]
  · rw [a8, b8]
  · rw [a9, b9]
  · rw [a10, b10]
theorem yes_sim {G W M g w q : Nat} {l : Int32} {μ ρ : Mem} (hG : 500 ≤ G) (P : PpR 1 μ ρ W M) (L : LwR 1 μ ρ) (V : VR (μ 94) ρ g w) (hg : g < M) (hw : w < W) (hq : q < 32) :
    ∃ v μ' ρ', f_X7_yesTold G (ρ 20 q) l μ = some (v, μ') ∧ f_X12_yesOf G (nI g) (nI w) (nI q) l ρ = some (v, ρ') ∧ (∀ x, x ≠ 94 → x ≠ 19 → μ' x = μ x) ∧ (∀ x, x ≠ 23 → x ≠ 24 → ρ' x = ρ x) ∧ VR (μ' 94) ρ g w ∧ 0 ≤ v ∧ v ≤ 1000 := by
  obtain ⟨hW, hM⟩ := PpR_in P
  obtain ⟨ρ1, a1, a2, a3, a4, a5, a6⟩ := asks_ok (G := G) P hg hw
  have b1 : f_X7_hear G (ρ 20 q) l (nI 0) μ = some (wr (wr (wr μ 94 5 (ρ 20 q)) 94 6 l) 94 4 (nI 0)) := by simp (disch := omega) only [lit, neg1, nI_1, nI_add, pk_mul, pk_sub, nI_leI, nI_ltI, nI_eq, nI_eqm, chkn, ixn, if_pos, if_neg, bndV_s, bndE_s, bndO_s, reduceIte, irmn, iminn, imaxn, f_X7_hear]
  have V1 : VR ((wr (wr (wr μ 94 5 (ρ 20 q)) 94 6 l) 94 4 (nI 0)) 94) ρ g w := VR_v V (fun k h4 h5 h6 => by rw [wr_slot h4, wr_slot h6, wr_slot h5])
  have V2 : VR ((wr (wr ρ1 23 5 (ρ 20 q)) 23 6 l) 23) ρ g w := VR_v a3 (fun k h4 h5 h6 => by rw [wr_slot h6, wr_slot h5])
  obtain ⟨v, μ', ρ', r1, r2, r3, r4⟩ := law_sim (G := G) (e := 0) (p := (nI 500 + nI 40 * ρ 5 w - nI 30 * ρ 6 w + nI 200 * (if ρ 8 g = nI w then 1 else 0))) (lo := nI 0) (hi := nI 1000) (μ := wr (wr (wr μ 94 5 (ρ 20 q)) 94 6 l) 94 4 (nI 0)) (ρ := wr (wr ρ1 23 5 (ρ 20 q)) 23 6 l) hG (by omega)
    (LwR_o L (fun x h1 h2 => by rw [wr_off (by omega), wr_off (by omega), wr_off (by omega)]) (fun x h1 h2 => by rw [wr_off (by omega), wr_off (by omega), a2 x (by omega)]))
    (VR_11 V1 V2 (by simp [wr, a4, lit]) (by simp [wr]) (by simp [wr]))
  refine ⟨f_X11_held v 0 1000, μ', ρ', ?_, ?_, ?_, ?_, ?_, (held_in (by decide)).1, (held_in (by decide)).2⟩
  · unfold f_X7_yesTold
    rw [show f_X7_hear G (ρ 20 q) l 0 μ = _ from b1, bndV_s]
    rw [V1.2.1, V1.2.2.1, V1.2.2.2.1]
    simp only [lit] at r1 ⊢
    rw [show nI (10000 + 0) = nI 10000 from rfl] at r1
    rw [r1]
    rfl
  · unfold f_X12_yesOf
    rw [a1, bndV_s, chkn (by omega) (by omega), ixn (by omega), a2 20 (by omega), chkn (by omega) (by omega), chkn (by omega) (by omega), ixn (by omega)]
    have c1 : (wr (wr ρ1 23 5 (ρ 20 q)) 23 6 l) 5 w = ρ 5 w := by rw [wr_cell (by omega), wr_cell (by omega), a2 5 (by omega)]
    have c2 : (wr (wr ρ1 23 5 (ρ 20 q)) 23 6 l) 6 w = ρ 6 w := by rw [wr_cell (by omega), wr_cell (by omega), a2 6 (by omega)]
    show bndE (f_X12_lawTells G 0 (500 + 40 * (wr (wr ρ1 23 5 (ρ 20 q)) 23 6 l) 5 w - 30 * (wr (wr ρ1 23 5 (ρ 20 q)) 23 6 l) 6 w + 200 * (wr (wr ρ1 23 5 (ρ 20 q)) 23 6 l) 23 3) 0 1000 (wr (wr ρ1 23 5 (ρ 20 q)) 23 6 l)) _ = _
    rw [c1, c2, V2.2.2.2.1]
    simp only [lit] at r2 ⊢
    rw [r2]
    exact congrArg (fun z => some (z, ρ')) (hl12 (by decide))
  · intro x hx hx2; rw [r3 x hx2, wr_off hx, wr_off hx, wr_off hx]
  · intro x hx hx2; rw [r4 x hx2, wr_off hx, wr_off hx, a2 x hx]
  · rw [r3 94 (by omega)]; exact V1
end
