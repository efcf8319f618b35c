section
variable {G n : Nat} {c : Nat → Nat} {fq : Int32 → Mem → Option Mem}
/-! after a fault, in a condition -/
theorem j127_k {v2 : Int32} (hG : 500 ≤ G) {μ : Mem} (h : SK μ) : ∃ μ', f_X5_clause_j127 G fq v2 μ = some μ' ∧ SkR μ μ' := by
  have key : ∀ r j g (μ : Mem), j + r = 9 → r < g → SK μ → ∃ μ', f_X5_clause_L129 G fq g v2 (nI j) μ = some μ' ∧ SkR μ μ' := by
    intro r
    induction r with
    | zero =>
      intro j g μ hj hg h
      obtain ⟨g, rfl⟩ : ∃ y, g = y + 1 := ⟨g - 1, by omega⟩
      obtain rfl : j = 9 := by omega
      rw [f_X5_clause_L129]
      split
      · exact ⟨μ, rfl, SkR_rfl h⟩
      · rw [if_pos (by decide)]; exact ⟨μ, rfl, SkR_rfl h⟩
    | succ r ih =>
      intro j g μ hj hg h
      obtain ⟨g, rfl⟩ : ∃ y, g = y + 1 := ⟨g - 1, by omega⟩
      rw [f_X5_clause_L129]
      split
      · exact ⟨μ, rfl, SkR_rfl h⟩
      · obtain ⟨μ1, b1, b2⟩ := put_k (G := G) (v := 10006) h
        obtain ⟨μ2, d1, d2⟩ := ih (j + 1) g μ1 (by omega) (by omega) b2.1
        rw [if_neg (show ¬ (8 : Int32) < nI j from nI_nlt (b := j) (a := 8) (by omega) (by omega)), b1, bndV_s, nI_1]
        exact ⟨μ2, d1, SkR_tr b2 d2⟩
  exact key 9 0 G μ (by omega) (by omega) h
theorem j109_k {v2 v3 s0 : Int32} (hG : 500 ≤ G) {μ : Mem} (h : SK μ) : ∃ μ', f_X5_clause_j109 G fq v2 v3 s0 μ = some μ' ∧ SkR μ μ' := by
  rw [f_X5_clause_j109, expect_k h, bndE_s, if_pos rfl]
  exact j127_k hG h
theorem j85_k {v2 : Int32} (hG : 500 ≤ G) {μ : Mem} (h : SK μ) : ∃ μ', f_X5_clause_j85 G fq v2 μ = some μ' ∧ SkR μ μ' := by
  rw [f_X5_clause_j85, expr_k hG h, bndV_s]
  split
  · exact j109_k hG h
  · exact j109_k hG h
theorem j45_k {v1 v2 : Int32} (hG : 500 ≤ G) {μ : Mem} (h : SK μ) : ∃ μ', f_X5_clause_j45 G fq v1 v2 μ = some μ' ∧ SkR μ μ' := by
  rw [f_X5_clause_j45]
  split
  · rw [opens_k h, bndE_s, if_pos rfl]
    exact j85_k hG h
  · exact j85_k hG h
theorem L4_k {v1 v2 v3 : Int32} {g : Nat} (hG : 500 ≤ G) (hg : 0 < g) {μ : Mem} (h : SK μ) : ∃ μ', f_X5_clause_L4 G fq (f_X5_clause_j45 G fq) g v1 v2 v3 μ = some μ' ∧ SkR μ μ' := by
  obtain ⟨g, rfl⟩ : ∃ y, g = y + 1 := ⟨g - 1, by omega⟩
  rw [f_X5_clause_L4]
  split
  · exact j45_k hG h
  · rw [if_neg h.1]; exact j45_k hG h
theorem L7_k {v1 v2 v3 v4 : Int32} {g : Nat} (hg : 0 < g) {μ : Mem} (h : SK μ) : f_X5_condition_L7 G fq g v1 v2 v3 v4 μ = some μ := by
  obtain ⟨g, rfl⟩ : ∃ y, g = y + 1 := ⟨g - 1, by omega⟩
  rw [f_X5_condition_L7]
  split
  · rfl
  · rw [if_neg h.1]
theorem j41_k {v1 v3 v4 : Int32} {g : Nat} (hg : 0 < g) {μ : Mem} (h : SK μ) : ∃ μ', f_X5_condition_j41 G fq (f_X5_condition_L7 G fq g) v1 v3 v4 μ = some μ' ∧ SkR μ μ' := by
  have j96 : ∀ a b (μ : Mem), SK μ → ∃ μ', f_X5_condition_j96 G fq (f_X5_condition_L7 G fq g) v1 a b v4 μ = some μ' ∧ SkR μ μ' := by
    intro a b μ h
    obtain ⟨μ1, b1, b2⟩ := adv_k (G := G) h
    exact ⟨μ1, by rw [f_X5_condition_j96, b1, bndV_s, L7_k hg b2.1], b2⟩
  have j90 : ∀ a s (μ : Mem), SK μ → ∃ μ', f_X5_condition_j90 G fq (f_X5_condition_L7 G fq g) v1 a v4 s μ = some μ' ∧ SkR μ μ' := by
    intro a s μ h
    rw [f_X5_condition_j90]
    split
    · exact ⟨μ, rfl, SkR_rfl h⟩
    · exact j96 _ _ μ h
  have j75 : ∀ a (μ : Mem), SK μ → ∃ μ', f_X5_condition_j75 G fq (f_X5_condition_L7 G fq g) v1 a v4 μ = some μ' ∧ SkR μ μ' := by
    intro a μ h
    rw [f_X5_condition_j75]
    split
    · exact j90 _ _ μ h
    · exact j90 _ _ μ h
  have j56 : ∀ s (μ : Mem), SK μ → ∃ μ', f_X5_condition_j56 G fq (f_X5_condition_L7 G fq g) v1 v3 v4 s μ = some μ' ∧ SkR μ μ' := by
    intro s μ h
    rw [f_X5_condition_j56]
    split
    · split
      · exact j75 _ μ h
      · obtain ⟨μ1, b1, b2⟩ := put_k (G := G) (v := 10004) h
        obtain ⟨μ2, d1, d2⟩ := j75 s μ1 b2.1
        exact ⟨μ2, by rw [b1, bndV_s, d1], SkR_tr b2 d2⟩
    · exact j96 _ _ μ h
  rw [f_X5_condition_j41]
  split
  · exact j56 _ μ h
  · exact j56 _ μ h
/-! what waits -/
def PnR (Q : List Int32) (ρ : Mem) : Prop := ρ 0 32 = nI Q.length ∧ ∀ i x, Q[i]? = some x → ρ 19 i = x
theorem PnR_o {Q : List Int32} {ρ ρ' : Mem} (h : PnR Q ρ) (h1 : ρ' 0 32 = ρ 0 32) (h2 : ρ' 19 = ρ 19) : PnR Q ρ' := by
  unfold PnR at h ⊢
  rw [h1, h2]
  exact h
/-- what a condition leaves, behind z codes -/
def cF (z : Nat) (μ ρ μ' ρ' : Mem) : Prop := fC μ μ' ∧ (∀ i, i < z → μ' 46 i = μ 46 i) ∧ (∀ x, x ≠ 0 → x ≠ 17 → x ≠ 18 → x ≠ 19 → ρ' x = ρ x) ∧ (∀ j, ¬ (16 ≤ j ∧ j ≤ 19) → ¬ (29 ≤ j ∧ j ≤ 34) → ρ' 0 j = ρ 0 j) ∧ ∀ i, i < 800 + z → ρ' 17 i = ρ 17 i ∧ ρ' 18 i = ρ 18 i
theorem cF_rfl {z : Nat} {μ ρ : Mem} : cF z μ ρ μ ρ := ⟨fC_rfl, fun _ _ => rfl, fun _ _ _ _ _ => rfl, fun _ _ _ => rfl, fun _ _ => ⟨rfl, rfl⟩⟩
theorem cF_tr {z z' : Nat} {μ ρ μ1 ρ1 μ2 ρ2 : Mem} (h : cF z μ ρ μ1 ρ1) (h' : cF z' μ1 ρ1 μ2 ρ2) (hz : z ≤ z') : cF z μ ρ μ2 ρ2 :=
  ⟨fC_tr h.1 h'.1, fun i hi => by rw [h'.2.1 i (by omega), h.2.1 i hi], fun x a b d e => by rw [h'.2.2.1 x a b d e, h.2.2.1 x a b d e], fun j a b => by rw [h'.2.2.2.1 j a b, h.2.2.2.1 j a b], fun i hi => ⟨by rw [(h'.2.2.2.2 i (by omega)).1, (h.2.2.2.2 i hi).1], by rw [(h'.2.2.2.2 i (by omega)).2, (h.2.2.2.2 i hi).2]⟩⟩
theorem cF_e {z : Nat} {μ ρ μ' ρ' : Mem} (h : eF z μ ρ μ' ρ') : cF z μ ρ μ' ρ' :=
  ⟨h.1, h.2.1, fun x a b d _ => h.2.2.1 x a b d, fun j a b => h.2.2.2.1 j a (by omega) (by omega) (by omega), h.2.2.2.2⟩
theorem Ty_d {μ ρ μ' ρ' : Mem} {z z' w : Nat} {S S' : List Nat} (h : Ty ρ z z' S S') (he : cF w μ ρ μ' ρ') (hw : z' ≤ w) : Ty ρ' z z' S S' := by
  refine ⟨h.1, ?_⟩
  rw [← h.2]
  refine trn_c _ _ _ (fun j h1 h2 => ?_)
  exact he.2.2.2.2 (800 + j) (by have := h.1; omega)
def FlC (μ ρ μ' ρ' : Mem) : Prop := SK μ' ∧ FtR μ' ρ' ∧ fC μ μ' ∧ (∀ x, x ≠ 0 → x ≠ 17 → x ≠ 18 → x ≠ 19 → ρ' x = ρ x) ∧ (∀ j, ¬ (16 ≤ j ∧ j ≤ 19) → ¬ (29 ≤ j ∧ j ≤ 34) → ρ' 0 j = ρ 0 j) ∧ ∀ i, i < 800 → ρ' 17 i = ρ 17 i ∧ ρ' 18 i = ρ 18 i
theorem FlC_c {z : Nat} {μ ρ μ1 ρ1 μ2 ρ2 : Mem} (he : cF z μ ρ μ1 ρ1) (h : FlC μ1 ρ1 μ2 ρ2) : FlC μ ρ μ2 ρ2 :=
  ⟨h.1, h.2.1, fC_tr he.1 h.2.2.1, fun x a b d e => by rw [h.2.2.2.1 x a b d e, he.2.2.1 x a b d e], fun j a b => by rw [h.2.2.2.2.1 j a b, he.2.2.2.1 j a b], fun i hi => ⟨by rw [(h.2.2.2.2.2 i hi).1, (he.2.2.2.2 i (by omega)).1], by rw [(h.2.2.2.2.2 i hi).2, (he.2.2.2.2 i (by omega)).2]⟩⟩
theorem FlC_f {μ ρ μ2 ρ2 : Mem} (h : Flt μ ρ μ2 ρ2) : FlC μ ρ μ2 ρ2 :=
  ⟨h.1, h.2.1, h.2.2.1, fun x a b d _ => h.2.2.2.1 x a b d, fun j a b => h.2.2.2.2.1 j a (by omega) (by omega) (by omega), h.2.2.2.2.2⟩
theorem FlC_s {μ ρ μ1 ρ1 μ2 : Mem} (h : FlC μ ρ μ1 ρ1) (hs : SkR μ1 μ2) : FlC μ ρ μ2 ρ1 :=
  ⟨hs.1, ⟨by rw [hs.2.1]; exact h.2.1.1, by rw [hs.2.2.1]; exact h.2.1.2⟩, fC_tr h.2.2.1 hs.2.2.2, h.2.2.2.1, h.2.2.2.2⟩
theorem waits_g {Q : List Int32} {x : Int32} {ρ : Mem} (h : PnR Q ρ) (hQ : Q.length < 40) : ∃ ρ', f_X12_waits G x ρ = some ρ' ∧ PnR (Q ++ [x]) ρ' ∧ (∀ y, y ≠ 0 → y ≠ 19 → ρ' y = ρ y) ∧ ∀ j, j ≠ 32 → ρ' 0 j = ρ 0 j := by
  obtain ⟨h1, h2⟩ := h
  unfold f_X12_waits
  rw [h1, chkn (by omega) (by omega), ixn (by omega)]
  show ∃ ρ', some (wr (wr ρ 19 Q.length x) 0 32 ((wr ρ 19 Q.length x) 0 32 + 1)) = some ρ' ∧ _
  rw [wr_cell (by omega), h1, nI_1]
  refine ⟨_, rfl, ⟨by rw [wr_same, List.length_append]; rfl, fun i y hy => ?_⟩, fun y g1 g2 => by rw [wr_off g1, wr_off g2], fun j hj => by rw [wr_slot hj, wr_cell (by omega)]⟩
  rw [wr_cell (by omega)]
  by_cases e : i < Q.length
  · rw [List.getElem?_append_left e] at hy
    rw [wr_slot (by omega)]
    exact h2 i y hy
  · rw [List.getElem?_append_right (by omega)] at hy
    have : i - Q.length = 0 := by
      rcases Nat.eq_zero_or_pos (i - Q.length) with z | z
      · exact z
      · rw [List.getElem?_eq_none (by simp; omega)] at hy; cases hy
    rw [this] at hy
    have hy : some x = some y := hy
    rw [show i = Q.length by omega, wr_same]
    exact Option.some.inj hy
/-- what waits last, m times, is emitted -/
theorem settles_g {w : Int32} {Q : List Int32} (hG : 500 ≤ G) : ∀ m z o g ρ, PnR (Q ++ List.replicate m w) ρ → (∀ x, Q[Q.length - 1]? = some x → x ≠ w) → (Q ++ List.replicate m w).length ≤ 40 → ρ 0 29 = nI z → z + m ≤ 400 → m < g → ρ 0 30 = nI o → (w = 9 → m ≤ o) →
    ∃ ρ', f_X12_settles_L0 G g w ρ = some ρ' ∧ PnR Q ρ' ∧ ρ' 0 29 = nI (z + m) ∧ ρ' 0 30 = (if w = 9 then nI (o - m) else nI o) ∧ (∀ y, y ≠ 0 → y ≠ 17 → y ≠ 18 → ρ' y = ρ y) ∧ (∀ j, j ≠ 29 → j ≠ 30 → j ≠ 32 → ρ' 0 j = ρ 0 j) ∧ (∀ i, i < 800 + z → ρ' 17 i = ρ 17 i ∧ ρ' 18 i = ρ 18 i) ∧ ∀ i, i < m → ρ' 17 (800 + (z + i)) = w ∧ ρ' 18 (800 + (z + i)) = 0 := by
  intro m
  induction m with
  | zero =>
    intro z o g ρ h hl hQ h29 hz hg h30 ho
    obtain ⟨g, rfl⟩ : ∃ y, g = y + 1 := ⟨g - 1, by omega⟩
    have h : PnR Q ρ := by simpa using h
    have hQ : Q.length ≤ 40 := by simpa using hQ
    refine ⟨ρ, ?_, h, h29, by split <;> exact h30, fun _ _ _ _ => rfl, fun _ _ _ _ => rfl, fun _ _ => ⟨rfl, rfl⟩, fun i hi => absurd hi (by omega)⟩
    rw [f_X12_settles_L0, h.1]
    by_cases e : Q.length = 0
    · rw [if_pos (by rw [e]; decide)]
    · have lt : Q.length - 1 < Q.length := by omega
      have hx : Q[Q.length - 1]? = some (Q[Q.length - 1]) := List.getElem?_eq_getElem lt
      have v := h.2 _ _ hx
      rw [if_neg (show ¬ nI Q.length ≤ (0 : Int32) from nI_ge (a := 0) (by omega) (by omega)), show nI Q.length - (1 : Int32) = nI (Q.length - 1) from pk_sub (b := 1) (by omega), chkn (by omega) (by omega), ixn (by omega), v, if_neg (hl _ hx)]
  | succ m ih =>
    intro z o g ρ h hl hQ h29 hz hg h30 ho
    obtain ⟨g, rfl⟩ : ∃ y, g = y + 1 := ⟨g - 1, by omega⟩
    have len : (Q ++ List.replicate (m + 1) w).length = Q.length + m + 1 := by simp; omega
    rw [len] at hQ
    obtain ⟨h1, h2⟩ := h
    rw [len] at h1
    have v : ρ 19 (Q.length + m) = w := h2 _ _ (by
      rw [List.getElem?_append_right (by omega), show Q.length + m - Q.length = m by omega, List.getElem?_replicate, if_pos (by omega)])
    have em := emit_g (G := G) (a := w) (b := 0) (ρ := wr ρ 0 32 (nI (Q.length + m))) (z := z) (by rw [wr_slot (by omega)]; exact h29) (by omega)
    let ρ1 := wr (wr (wr (wr ρ 0 32 (nI (Q.length + m))) 17 (800 + z) w) 18 (800 + z) 0) 0 29 (nI (z + 1))
    have st : f_X12_settles_L0 G (g + 1) w ρ = (if w = 9 then f_X12_settles_L0 G g w (wr ρ1 0 30 (ρ1 0 30 - 1)) else f_X12_settles_L0 G g w ρ1) := by
      rw [f_X12_settles_L0, h1, if_neg (show ¬ nI (Q.length + m + 1) ≤ (0 : Int32) from nI_ge (a := 0) (by omega) (by omega)), show nI (Q.length + m + 1) - (1 : Int32) = nI (Q.length + m) from pk_sub (b := 1) (by omega), chkn (by omega) (by omega), ixn (by omega), v, if_pos rfl]
      show bndV (f_X12_emits G w 0 (wr ρ 0 32 (nI (Q.length + m)))) _ = _
      rw [em, bndV_s]
    have pn : ∀ ρ' : Mem, ρ' 0 32 = nI (Q.length + m) → ρ' 19 = ρ 19 → PnR (Q ++ List.replicate m w) ρ' := fun ρ' a b => ⟨by rw [a]; simp, fun i x hx => by
      rw [b]
      refine h2 i x ?_
      by_cases e : i < Q.length
      · rw [List.getElem?_append_left e] at hx ⊢; exact hx
      · rw [List.getElem?_append_right (by omega)] at hx ⊢
        rw [List.getElem?_replicate] at hx ⊢
        split at hx
        · rw [if_pos (by omega)]; exact hx
        · cases hx⟩
    have r32 : ρ1 0 32 = nI (Q.length + m) := by show (wr (wr (wr (wr ρ 0 32 (nI (Q.length + m))) 17 (800 + z) w) 18 (800 + z) 0) 0 29 (nI (z + 1))) 0 32 = _; rw [wr_slot (by omega), wr_cell (by omega), wr_cell (by omega), wr_same]
    have r30 : ρ1 0 30 = nI o := by show (wr (wr (wr (wr ρ 0 32 (nI (Q.length + m))) 17 (800 + z) w) 18 (800 + z) 0) 0 29 (nI (z + 1))) 0 30 = _; rw [wr_slot (by omega), wr_cell (by omega), wr_cell (by omega), wr_slot (by omega)]; exact h30
    have r29 : ρ1 0 29 = nI (z + 1) := wr_same
    have ry : ∀ y, y ≠ 0 → y ≠ 17 → y ≠ 18 → ρ1 y = ρ y := fun y a b d => by show (wr (wr (wr (wr ρ 0 32 (nI (Q.length + m))) 17 (800 + z) w) 18 (800 + z) 0) 0 29 (nI (z + 1))) y = _; rw [wr_off a, wr_off d, wr_off b, wr_off a]
    have rj : ∀ j, j ≠ 29 → j ≠ 32 → ρ1 0 j = ρ 0 j := fun j a b => by show (wr (wr (wr (wr ρ 0 32 (nI (Q.length + m))) 17 (800 + z) w) 18 (800 + z) 0) 0 29 (nI (z + 1))) 0 j = _; rw [wr_slot a, wr_cell (by omega), wr_cell (by omega), wr_slot b]
    have rc : (∀ i, i < 800 + z → ρ1 17 i = ρ 17 i ∧ ρ1 18 i = ρ 18 i) ∧ ρ1 17 (800 + z) = w ∧ ρ1 18 (800 + z) = 0 := by
      refine ⟨fun i hi => ⟨?_, ?_⟩, ?_, ?_⟩
      · show (wr (wr (wr (wr ρ 0 32 (nI (Q.length + m))) 17 (800 + z) w) 18 (800 + z) 0) 0 29 (nI (z + 1))) 17 i = _
        rw [wr_cell (by omega), wr_cell (by omega), wr_slot (by omega), wr_cell (by omega)]
      · show (wr (wr (wr (wr ρ 0 32 (nI (Q.length + m))) 17 (800 + z) w) 18 (800 + z) 0) 0 29 (nI (z + 1))) 18 i = _
        rw [wr_cell (by omega), wr_slot (by omega), wr_cell (by omega), wr_cell (by omega)]
      · show (wr (wr (wr (wr ρ 0 32 (nI (Q.length + m))) 17 (800 + z) w) 18 (800 + z) 0) 0 29 (nI (z + 1))) 17 (800 + z) = _
        rw [wr_cell (by omega), wr_cell (by omega), wr_same]
      · show (wr (wr (wr (wr ρ 0 32 (nI (Q.length + m))) 17 (800 + z) w) 18 (800 + z) 0) 0 29 (nI (z + 1))) 18 (800 + z) = _
        rw [wr_cell (by omega), wr_same]
    have fin : ∀ (ρ2 : Mem) o2, f_X12_settles_L0 G (g + 1) w ρ = f_X12_settles_L0 G g w ρ2 → (∀ y, y ≠ 0 → ρ2 y = ρ1 y) → (∀ j, j ≠ 30 → ρ2 0 j = ρ1 0 j) → ρ2 0 30 = nI o2 → (w = 9 → m ≤ o2) → (if w = 9 then nI (o2 - m) else nI o2) = (if w = 9 then nI (o - (m + 1)) else nI o) → ∃ ρ', f_X12_settles_L0 G (g + 1) w ρ = some ρ' ∧ PnR Q ρ' ∧ ρ' 0 29 = nI (z + (m + 1)) ∧ ρ' 0 30 = (if w = 9 then nI (o - (m + 1)) else nI o) ∧ (∀ y, y ≠ 0 → y ≠ 17 → y ≠ 18 → ρ' y = ρ y) ∧ (∀ j, j ≠ 29 → j ≠ 30 → j ≠ 32 → ρ' 0 j = ρ 0 j) ∧ (∀ i, i < 800 + z → ρ' 17 i = ρ 17 i ∧ ρ' 18 i = ρ 18 i) ∧ ∀ i, i < m + 1 → ρ' 17 (800 + (z + i)) = w ∧ ρ' 18 (800 + (z + i)) = 0 := by
      intro ρ2 o2 e1 e2 e3 e4 e5 e6
      obtain ⟨ρ', f1, f2, f3, f4, f5, f6, f7, f8⟩ := ih (z + 1) o2 g ρ2 (pn ρ2 (by rw [e3 32 (by omega), r32]) (by rw [e2 19 (by omega), ry 19 (by omega) (by omega) (by omega)])) hl (by simp; omega) (by rw [e3 29 (by omega), r29]) (by omega) (by omega) e4 e5
      refine ⟨ρ', by rw [e1, f1], f2, by rw [f3]; congr 1; omega, by rw [f4, e6], fun y a b d => by rw [f5 y a b d, e2 y a, ry y a b d], fun j a b d => by rw [f6 j a b d, e3 j b, rj j a d], fun i hi => ⟨by rw [(f7 i (by omega)).1, e2 17 (by omega), (rc.1 i hi).1], by rw [(f7 i (by omega)).2, e2 18 (by omega), (rc.1 i hi).2]⟩, fun i hi => ?_⟩
      by_cases i0 : i = 0
      · rw [i0, Nat.add_zero, (f7 (800 + z) (by omega)).1, (f7 (800 + z) (by omega)).2, e2 17 (by omega), e2 18 (by omega)]
        exact rc.2
      · have := f8 (i - 1) (by omega)
        rw [show z + 1 + (i - 1) = z + i by omega] at this
        exact this
    by_cases w9 : w = 9
    · have om := ho w9
      refine fin (wr ρ1 0 30 (ρ1 0 30 - 1)) (o - 1) (by rw [st, if_pos w9]) (fun y a => wr_off a) (fun j a => wr_slot a) (by rw [wr_same, r30]; exact pk_sub (b := 1) (by omega)) (fun _ => by omega) ?_
      rw [if_pos w9, if_pos w9, show o - 1 - m = o - (m + 1) by omega]
    · refine fin ρ1 o (by rw [st, if_neg w9]) (fun _ _ => rfl) (fun _ _ => rfl) r30 (fun q => absurd q w9) ?_
      rw [if_neg w9, if_neg w9]
end
