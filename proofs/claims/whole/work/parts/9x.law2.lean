section
theorem spl_len {c : Nat → Nat} {n : Nat} : ∀ f i, i ≤ n → (spl c n f i).length ≤ n - i + 1 := by
  intro f
  induction f with
  | zero => intro i _; rw [spl]; simp
  | succ f ih =>
    intro i h
    rw [spl]
    by_cases e : n ≤ i
    · rw [if_pos e]; simp
    · rw [if_neg e]
      by_cases b : cBlk (c i) = true
      · rw [if_pos b]
        have := ih (i + 1) (by omega)
        omega
      · rw [if_neg b, List.length_cons]
        obtain ⟨te1, te2⟩ := tkE_b (c := c) (n := n) (i := i) (by omega)
        have := ih (tkE c n i) te2
        omega
theorem tK_le {c : Nat → Nat} {n : Nat} : tK c n ≤ n := by
  have := spl_len (c := c) (n := n) n 0 (by omega)
  unfold tK tsL
  omega
/-! what the tokens are -/
theorem tk_w {t k v : Int32} {w : Nat} (h : TkR t k v) (hw : w < 25) : (if k = 2 then (if v = nI w then (1 : Int32) else 0) else 0) = if t = nI (10000 + w) then 1 else 0 := by
  have ne : ∀ a b : Nat, a < 2 ^ 31 → b < 2 ^ 31 → a ≠ b → ¬ nI a = nI b := fun a b ha hb h q => h ((nI_eq ha hb).mp q)
  rcases h with ⟨x, hx, rfl, rfl, rfl⟩ | ⟨x, hx, rfl, rfl, rfl⟩ | ⟨x, hx, _, rfl, rfl, rfl⟩ | ⟨rfl, rfl⟩ | ⟨rfl, rfl⟩
  · rw [if_neg (by decide), if_neg (ne _ _ (by omega) (by omega) (by omega))]
  · rw [if_pos rfl]
    by_cases e : x = w
    · rw [if_pos (by rw [e]), if_pos (by rw [e])]
    · rw [if_neg (ne _ _ (by omega) (by omega) e), if_neg (ne _ _ (by omega) (by omega) (by omega))]
  · rw [if_neg (by decide), if_neg (ne _ _ (by omega) (by omega) (by omega))]
  · rw [if_neg (by decide), if_neg (show ¬ (30000 : Int32) = nI (10000 + w) from ne 30000 _ (by omega) (by omega) (by omega))]
  · rw [if_neg (by decide), if_neg (show ¬ (30001 : Int32) = nI (10000 + w) from ne 30001 _ (by omega) (by omega) (by omega))]
theorem tk_s {t k v : Int32} {s : Nat} (h : TkR t k v) (hs : s < 256) : (if k = 4 then (if v = nI s then (1 : Int32) else 0) else 0) = if t = nI (20000 + s) then 1 else 0 := by
  have ne : ∀ a b : Nat, a < 2 ^ 31 → b < 2 ^ 31 → a ≠ b → ¬ nI a = nI b := fun a b ha hb h q => h ((nI_eq ha hb).mp q)
  rcases h with ⟨x, hx, rfl, rfl, rfl⟩ | ⟨x, hx, rfl, rfl, rfl⟩ | ⟨x, hx, _, rfl, rfl, rfl⟩ | ⟨rfl, rfl⟩ | ⟨rfl, rfl⟩
  · rw [if_neg (by decide), if_neg (ne _ _ (by omega) (by omega) (by omega))]
  · rw [if_neg (by decide), if_neg (ne _ _ (by omega) (by omega) (by omega))]
  · rw [if_pos rfl]
    by_cases e : x = s
    · rw [if_pos (by rw [e]), if_pos (by rw [e])]
    · rw [if_neg (ne _ _ (by omega) (by omega) e), if_neg (ne _ _ (by omega) (by omega) (by omega))]
  · rw [if_neg (by decide), if_neg (show ¬ (30000 : Int32) = nI (20000 + s) from ne 30000 _ (by omega) (by omega) (by omega))]
  · rw [if_neg (by decide), if_neg (show ¬ (30001 : Int32) = nI (20000 + s) from ne 30001 _ (by omega) (by omega) (by omega))]
theorem tk_n {t k v : Int32} (h : TkR t k v) : (k = 3 ∧ ∃ x, x < 10000 ∧ t = nI x ∧ v = nI x ∧ f_X10_isNumber t = 1) ∨ (k ≠ 3 ∧ f_X10_isNumber t = 0) := by
  have ge : ∀ a : Nat, 10000 ≤ a → a < 2 ^ 31 → f_X10_isNumber (nI a) = 0 := fun a h1 h2 => by
    unfold f_X10_isNumber
    rw [if_pos (show (10000 : Int32) ≤ nI a from nI_le (a := 10000) h1 h2)]
  rcases h with ⟨x, hx, rfl, rfl, rfl⟩ | ⟨x, hx, rfl, rfl, rfl⟩ | ⟨x, hx, _, rfl, rfl, rfl⟩ | ⟨rfl, rfl⟩ | ⟨rfl, rfl⟩
  · refine Or.inl ⟨rfl, x, hx, rfl, rfl, ?_⟩
    unfold f_X10_isNumber
    rw [if_neg (show ¬ (10000 : Int32) ≤ nI x from nI_ge (b := 10000) hx (by omega))]
  · exact Or.inr ⟨by decide, ge _ (by omega) (by omega)⟩
  · exact Or.inr ⟨by decide, ge _ (by omega) (by omega)⟩
  · exact Or.inr ⟨by decide, ge 30000 (by omega) (by omega)⟩
  · exact Or.inr ⟨by decide, ge 30001 (by omega) (by omega)⟩
/-- a name: a word from the seventh to the seventeenth -/
theorem tk_m {t k v : Int32} (h : TkR t k v) (hn : k ≠ 3) : (k = 2 ∧ f_X12_isIn v 7 17 = 1 ∧ f_X10_isName t = 1 ∧ ∃ x, x < 11 ∧ t = nI (10007 + x) ∧ v - 7 = nI x) ∨ (f_X10_isName t = 0 ∧ (k = 2 → f_X12_isIn v 7 17 = 0)) := by
  have nm : ∀ a : Nat, a < 2 ^ 31 → f_X10_isName (nI a) = if 10007 ≤ a ∧ a < 10018 then 1 else 0 := fun a ha => by
    unfold f_X10_isName
    by_cases h1 : a < 10007
    · rw [if_pos (show nI a < (10007 : Int32) from nI_lt (b := 10007) h1 (by omega)), if_neg (by omega)]
    · rw [if_neg (show ¬ nI a < (10007 : Int32) from nI_nlt (b := 10007) (by omega) (by omega))]
      by_cases h2 : 10018 ≤ a
      · rw [if_pos (show (10018 : Int32) ≤ nI a from nI_le (a := 10018) h2 (by omega)), if_neg (by omega)]
      · rw [if_neg (show ¬ (10018 : Int32) ≤ nI a from nI_ge (b := 10018) (by omega) (by omega)), if_pos (by omega)]
  rcases h with ⟨x, hx, rfl, rfl, rfl⟩ | ⟨x, hx, rfl, rfl, rfl⟩ | ⟨x, hx, _, rfl, rfl, rfl⟩ | ⟨rfl, rfl⟩ | ⟨rfl, rfl⟩
  · exact absurd rfl hn
  · have ii : f_X12_isIn (nI x) 7 17 = if 7 ≤ x ∧ x ≤ 17 then 1 else 0 := by
      rw [isI]
      by_cases h : 7 ≤ x ∧ x ≤ 17
      · rw [if_pos h, if_pos ⟨nI_le (a := 7) h.1 (by omega), nI_le (b := 17) h.2 (by omega)⟩]
      · rw [if_neg h, if_neg (fun q => h ⟨(nI_leI (a := 7) (by omega) (by omega)).mp q.1, (nI_leI (b := 17) (by omega) (by omega)).mp q.2⟩)]
    rw [nm _ (by omega), ii]
    by_cases h : 7 ≤ x ∧ x ≤ 17
    · refine Or.inl ⟨rfl, if_pos h, if_pos (by omega), x - 7, by omega, by rw [show 10007 + (x - 7) = 10000 + x by omega], pk_sub (b := 7) h.1⟩
    · exact Or.inr ⟨if_neg (by omega), fun _ => if_neg h⟩
  · exact Or.inr ⟨by rw [nm _ (by omega), if_neg (by omega)], fun q => absurd q (by decide)⟩
  · exact Or.inr ⟨by decide, fun q => absurd q (by decide)⟩
  · exact Or.inr ⟨by decide, fun q => absurd q (by decide)⟩
/-! the two at one token -/
def LR (c : Nat → Nat) (n k z : Nat) (μ ρ : Mem) : Prop := k ≤ tK c n ∧ AtC c n k μ ∧ μ 45 7 = nI z ∧ AtR c n k ρ ∧ ρ 0 29 = nI z ∧ ∀ i, i < z → CdR (μ 46 i) (ρ 17 (800 + i)) (ρ 18 (800 + i))
/-- what an expression leaves, behind z codes -/
def eF (z : Nat) (μ ρ μ' ρ' : Mem) : Prop := fC μ μ' ∧ (∀ i, i < z → μ' 46 i = μ 46 i) ∧ (∀ x, x ≠ 0 → x ≠ 17 → x ≠ 18 → ρ' x = ρ x) ∧ (∀ j, ¬ (16 ≤ j ∧ j ≤ 19) → j ≠ 29 → j ≠ 33 → j ≠ 34 → ρ' 0 j = ρ 0 j) ∧ ∀ i, i < 800 + z → ρ' 17 i = ρ 17 i ∧ ρ' 18 i = ρ 18 i
theorem eF_rfl {z : Nat} {μ ρ : Mem} : eF z μ ρ μ ρ := ⟨fC_rfl, fun _ _ => rfl, fun _ _ _ _ => rfl, fun _ _ _ _ _ => rfl, fun _ _ => ⟨rfl, rfl⟩⟩
theorem eF_tr {z z' : Nat} {μ ρ μ1 ρ1 μ2 ρ2 : Mem} (h : eF z μ ρ μ1 ρ1) (h' : eF z' μ1 ρ1 μ2 ρ2) (hz : z ≤ z') : eF z μ ρ μ2 ρ2 :=
  ⟨fC_tr h.1 h'.1, fun i hi => by rw [h'.2.1 i (by omega), h.2.1 i hi], fun x a b d => by rw [h'.2.2.1 x a b d, h.2.2.1 x a b d], fun j a b d e => by rw [h'.2.2.2.1 j a b d e, h.2.2.2.1 j a b d e], fun i hi => ⟨by rw [(h'.2.2.2.2 i (by omega)).1, (h.2.2.2.2 i hi).1], by rw [(h'.2.2.2.2 i (by omega)).2, (h.2.2.2.2 i hi).2]⟩⟩
def FtR (μ ρ : Mem) : Prop := μ 41 6 = ρ 0 33 ∧ μ 41 7 = ρ 0 34
variable {G n : Nat} {c : Nat → Nat}
theorem adv_g {k : Nat} {μ : Mem} (hn : n ≤ 400) (h : AtC c n k μ) (hk : k < tK c n) : ∃ μ', f_X5_advance G μ = some μ' ∧ AtC c n (k + 1) μ' ∧ (∀ x, x ≠ 41 → μ' x = μ x) ∧ ∀ j, j ≠ 9 → j ≠ 10 → μ' 41 j = μ 41 j := by
  have hK := tK_le (c := c) (n := n)
  obtain ⟨h1, h2, h3, h4, h5⟩ := h
  unfold f_X5_advance
  rw [h1, h3, nI_1, if_neg (nI_ge (by omega) (by omega)), if_neg (show ¬ (400 : Int32) ≤ nI k from nI_ge (b := 400) (by omega) (by omega))]
  show ∃ μ', chk ((wr μ 41 9 (nI (k + 1))) 41 9) 401 (some (wr (wr μ 41 9 (nI (k + 1))) 41 10 ((wr μ 41 9 (nI (k + 1))) 43 (ix ((wr μ 41 9 (nI (k + 1))) 41 9))))) = some μ' ∧ _
  rw [wr_same, chkn (by omega) (by omega), ixn (by omega), wr_cell (by omega), (h2 (k + 1) (by omega)).1]
  exact ⟨_, rfl, ⟨by rw [wr_slot (by omega), wr_slot (by omega)]; exact h1, fun j hj => by rw [wr_cell (by omega), wr_cell (by omega), wr_cell (by omega), wr_cell (by omega)]; exact h2 j hj, by rw [wr_slot (by omega), wr_same], wr_same, by rw [wr_slot (by omega), wr_slot (by omega)]; exact h5.1, by rw [wr_slot (by omega), wr_slot (by omega)]; exact h5.2⟩, fun x hx => by rw [wr_off hx, wr_off hx], fun j g1 g2 => by rw [wr_slot g2, wr_slot g1]⟩
theorem put_g {z : Nat} {v : Int32} {μ : Mem} (h : μ 45 7 = nI z) (hz : z < 400) : f_X1_put G 45 v μ = some (wr (wr μ 46 z v) 45 7 (nI (z + 1))) := by
  unfold f_X1_put
  rw [h, if_neg (show ¬ (400 : Int32) ≤ nI z from nI_ge (b := 400) (by omega) (by omega)), chkn (by omega) (by omega), ixn (by omega)]
  show some (wr (wr μ 46 z v) 45 7 ((wr μ 46 z v) 45 7 + 1)) = _
  rw [wr_cell (by omega), h, nI_1]
theorem emit_g {z : Nat} {a b : Int32} {ρ : Mem} (h : ρ 0 29 = nI z) (hz : z < 400) : f_X12_emits G a b ρ = some (wr (wr (wr ρ 17 (800 + z) a) 18 (800 + z) b) 0 29 (nI (z + 1))) := by
  unfold f_X12_emits
  have i1 : (800 : Int32) + nI z = nI (800 + z) := nI_add 800 z
  rw [h, i1, chkn (by omega) (by omega), ixn (by omega)]
  show chk ((800 : Int32) + (wr ρ 17 (800 + z) a) 0 29) 1200 (some (wr (wr (wr ρ 17 (800 + z) a) 18 (ix ((800 : Int32) + (wr ρ 17 (800 + z) a) 0 29)) b) 0 29 ((wr (wr ρ 17 (800 + z) a) 18 (ix ((800 : Int32) + (wr ρ 17 (800 + z) a) 0 29)) b) 0 29 + 1))) = _
  rw [wr_cell (by omega), h, i1, chkn (by omega) (by omega), ixn (by omega), wr_cell (by omega), wr_cell (by omega), h, nI_1]
theorem fail_g {k : Nat} {v : Int32} {μ : Mem} (hn : n ≤ 400) (h : AtC c n k μ) (hk : k ≤ tK c n) : f_X5_fail G v μ = some (wr (wr μ 41 6 v) 41 7 (nI (tP_ c n k))) := by
  have hK := tK_le (c := c) (n := n)
  obtain ⟨h1, h2, h3, h4, h5⟩ := h
  unfold f_X5_fail
  rw [if_pos h5.1]
  show (if (wr μ 41 6 v) 41 9 < 0 then _ else if (400 : Int32) < (wr μ 41 6 v) 41 9 then _ else chk ((wr μ 41 6 v) 41 9) 401 (some (wr (wr μ 41 6 v) 41 7 ((wr μ 41 6 v) 44 (ix ((wr μ 41 6 v) 41 9)))))) = _
  rw [wr_slot (by omega), h3, if_neg (nI_pos (by omega)), if_neg (show ¬ (400 : Int32) < nI k from nI_nlt (b := k) (a := 400) (by omega) (by omega)), chkn (by omega) (by omega), ixn (by omega), wr_cell (by omega), (h2 k hk).2]
/-- both go on -/
theorem L_adv {k z : Nat} {μ ρ : Mem} (hG : 500 ≤ G) (hn : n ≤ 400) (hc : ∀ j, j < n → c j < 256) (h : LR c n k z μ ρ) (hk : k < tK c n) : ∃ μ' ρ', f_X5_advance G μ = some μ' ∧ f_X12_reads G ρ = some ρ' ∧ LR c n (k + 1) z μ' ρ' ∧ ∀ z0, eF z0 μ ρ μ' ρ' := by
  obtain ⟨a1, a2, a3, a4, a5, a6⟩ := h
  obtain ⟨μ', b1, b2, b3, b4⟩ := adv_g (G := G) hn a2 hk
  obtain ⟨ρ', d1, d2, d3, d4⟩ := reads_ok hG hn hc hk a4
  refine ⟨μ', ρ', b1, d1, ⟨by omega, b2, by rw [b3 45 (by omega)]; exact a3, d2, by rw [d4 29 (by omega)]; exact a5, fun i hi => by rw [b3 46 (by omega), d3 17 (by omega), d3 18 (by omega)]; exact a6 i hi⟩, fun z0 => ⟨⟨fun x g1 _ _ => b3 x g1, fun j _ _ g1 g2 => b4 j g1 g2, fun j _ => by rw [b3 45 (by omega)]⟩, fun i _ => by rw [b3 46 (by omega)], fun x g1 _ _ => d3 x g1, fun j g1 _ _ _ => d4 j g1, fun i _ => ⟨by rw [d3 17 (by omega)], by rw [d3 18 (by omega)]⟩⟩⟩
/-- both have one code more -/
theorem L_put {k z : Nat} {v a b : Int32} {μ ρ : Mem} (h : LR c n k z μ ρ) (hz : z < 400) (hv : CdR v a b) : ∃ μ' ρ', f_X1_put G 45 v μ = some μ' ∧ f_X12_emits G a b ρ = some ρ' ∧ LR c n k (z + 1) μ' ρ' ∧ eF z μ ρ μ' ρ' ∧ ρ' 17 (800 + z) = a ∧ ρ' 18 (800 + z) = b := by
  obtain ⟨a1, a2, a3, a4, a5, a6⟩ := h
  refine ⟨_, _, put_g a3 hz, emit_g a5 hz, ⟨a1, AtC_o a2 (by rw [wr_off (by omega), wr_off (by omega)]) (by rw [wr_off (by omega), wr_off (by omega)]) (by rw [wr_off (by omega), wr_off (by omega)]), wr_same, AtR_o a4 (fun j g1 g2 => by rw [wr_slot (by omega), wr_cell (by omega), wr_cell (by omega)]) (by rw [wr_off (by omega), wr_off (by omega), wr_off (by omega)]) (by rw [wr_off (by omega), wr_off (by omega), wr_off (by omega)]), wr_same, fun i hi => ?_⟩, ⟨⟨fun x g1 g2 g3 => by rw [wr_off g2, wr_off g3], fun j _ _ _ _ => by rw [wr_cell (by omega), wr_cell (by omega)], fun j g => by rw [wr_slot g, wr_cell (by omega)]⟩, fun i hi => by rw [wr_cell (by omega), wr_slot (by omega)], fun x g1 g2 g3 => by rw [wr_off g1, wr_off g3, wr_off g2], fun j _ g1 _ _ => by rw [wr_slot g1, wr_cell (by omega), wr_cell (by omega)], fun i hi => ⟨by rw [wr_cell (by omega), wr_cell (by omega), wr_slot (by omega)], by rw [wr_cell (by omega), wr_slot (by omega), wr_cell (by omega)]⟩⟩, by rw [wr_cell (by omega), wr_cell (by omega), wr_same], by rw [wr_cell (by omega), wr_same]⟩
  rw [wr_cell (show (46 : Nat) ≠ 45 by omega), wr_cell (show (17 : Nat) ≠ 0 by omega), wr_cell (show (17 : Nat) ≠ 18 by omega), wr_cell (show (18 : Nat) ≠ 0 by omega)]
  by_cases e : i = z
  · rw [e, wr_same, wr_same, wr_same]; exact hv
  · rw [wr_slot e, wr_slot (by omega), wr_slot (by omega), wr_cell (by omega)]; exact a6 i (by omega)
/-- both find a fault -/
theorem L_fail {k z : Nat} {v : Int32} {μ ρ : Mem} (hn : n ≤ 400) (h : LR c n k z μ ρ) (hz : z ≤ 400) (hv : v ≠ 0) : ∃ μ' ρ', f_X5_fail G v μ = some μ' ∧ f_X12_errs G v ρ = some (-1, ρ') ∧ SK μ' ∧ FtR μ' ρ' ∧ ∀ z0, eF z0 μ ρ μ' ρ' := by
  have hK := tK_le (c := c) (n := n)
  obtain ⟨a1, a2, a3, a4, a5, a6⟩ := h
  have a9 : μ 41 9 = nI k := a2.2.2.1
  have e17 : (wr ρ 0 33 v) 0 17 = nI (tP_ c n k) := by rw [wr_slot (by omega)]; exact a4.2.1
  refine ⟨_, _, fail_g hn a2 a1, rfl, ⟨by rw [wr_slot (by omega), wr_same]; exact hv, ⟨k, by omega, by rw [wr_slot (by omega), wr_slot (by omega)]; exact a9⟩, z, hz, by rw [wr_cell (by omega), wr_cell (by omega)]; exact a3⟩, ⟨by rw [wr_slot (by omega), wr_same, wr_slot (by omega), wr_same], by rw [wr_same, wr_same]; exact e17.symm⟩, fun z0 => ⟨⟨fun x g1 _ _ => by rw [wr_off g1, wr_off g1], fun j g1 g2 _ _ => by rw [wr_slot g2, wr_slot g1], fun j _ => by rw [wr_cell (by omega), wr_cell (by omega)]⟩, fun i _ => by rw [wr_cell (by omega), wr_cell (by omega)], fun x g1 _ _ => by rw [wr_off g1, wr_off g1], fun j _ _ g1 g2 => by rw [wr_slot g2, wr_slot g1], fun i _ => ⟨by rw [wr_cell (by omega), wr_cell (by omega)], by rw [wr_cell (by omega), wr_cell (by omega)]⟩⟩⟩
/-! what the codes do to the stack -/
def Ty (ρ : Mem) (z z' : Nat) (S S' : List Nat) : Prop := z ≤ z' ∧ trn (fun j => ρ 17 (800 + j)) (fun j => ρ 18 (800 + j)) (z' - z) z S = some S'
theorem trn_add {op arg : Nat → Int32} : ∀ m m' i S, trn op arg (m + m') i S = (trn op arg m i S).bind (fun S' => trn op arg m' (i + m) S')
  | 0, m', i, S => by rw [Nat.zero_add]; rfl
  | m + 1, m', i, S => by
    rw [show m + 1 + m' = (m + m') + 1 by omega, trn, trn]
    cases h : tst (op i) (arg i) S with
    | none => rfl
    | some S' =>
      show trn op arg (m + m') (i + 1) S' = (trn op arg m (i + 1) S').bind _
      rw [trn_add m m' (i + 1) S', show i + 1 + m = i + (m + 1) by omega]
theorem trn_c {op arg op' arg' : Nat → Int32} : ∀ m i S, (∀ j, i ≤ j → j < i + m → op' j = op j ∧ arg' j = arg j) → trn op' arg' m i S = trn op arg m i S
  | 0, _, _, _ => rfl
  | m + 1, i, S, h => by
    rw [trn, trn, (h i (by omega) (by omega)).1, (h i (by omega) (by omega)).2]
    congr 1
    funext S'
    exact trn_c m (i + 1) S' (fun j h1 h2 => h j (by omega) (by omega))
theorem Ty_rfl {ρ : Mem} {z : Nat} {S : List Nat} : Ty ρ z z S S := ⟨Nat.le_refl _, by rw [Nat.sub_self]; rfl⟩
theorem Ty_tr {ρ : Mem} {z z1 z2 : Nat} {S S1 S2 : List Nat} (h : Ty ρ z z1 S S1) (h' : Ty ρ z1 z2 S1 S2) : Ty ρ z z2 S S2 := by
  obtain ⟨a1, a2⟩ := h
  obtain ⟨b1, b2⟩ := h'
  refine ⟨by omega, ?_⟩
  rw [show z2 - z = (z1 - z) + (z2 - z1) by omega, trn_add, a2]
  show trn _ _ (z2 - z1) (z + (z1 - z)) S1 = _
  rw [show z + (z1 - z) = z1 by omega]
  exact b2
theorem Ty_1 {ρ : Mem} {z : Nat} {a b : Int32} {S S' : List Nat} (h1 : ρ 17 (800 + z) = a) (h2 : ρ 18 (800 + z) = b) (h : tst a b S = some S') : Ty ρ z (z + 1) S S' := by
  refine ⟨by omega, ?_⟩
  rw [show z + 1 - z = 0 + 1 by omega, trn, h1, h2, h]
  rfl
theorem Ty_c {μ ρ μ' ρ' : Mem} {z z' w : Nat} {S S' : List Nat} (h : Ty ρ z z' S S') (he : eF w μ ρ μ' ρ') (hw : z' ≤ w) : Ty ρ' z z' S S' := by
  refine ⟨h.1, ?_⟩
  rw [← h.2]
  refine trn_c _ _ _ (fun j h1 h2 => ?_)
  exact he.2.2.2.2 (800 + j) (by have := h.1; omega)
end
