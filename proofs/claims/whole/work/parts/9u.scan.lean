section
/-! the tokens of a text -/
def cLet (c : Nat) : Bool := (decide (97 ≤ c) && decide (c ≤ 122)) || (decide (65 ≤ c) && decide (c ≤ 90))
def cNum (c : Nat) : Bool := decide (48 ≤ c) && decide (c ≤ 57)
def cSgn (c : Nat) : Bool := c == 59 || c == 43 || c == 45 || c == 42 || c == 47 || c == 40 || c == 41 || c == 60 || c == 61 || c == 62
def cBlk (c : Nat) : Bool := c == 32 || c == 10
theorem ch_1 : ∀ c, c < 256 → f_X5_isLetter (nI c) = (if cLet c = true then nI 1 else nI 0) ∧ f_X12_isLetter (nI c) = (if cLet c = true then nI 1 else nI 0) ∧ f_X5_isNumeral (nI c) = (if cNum c = true then nI 1 else nI 0) ∧ f_X12_isIn (nI c) 48 57 = (if cNum c = true then nI 1 else nI 0) ∧ f_X10_ofSign (nI c) = (if cSgn c = true then nI (20000 + c) else 30001) ∧ f_X12_isMarkSign (nI c) = (if cSgn c = true then nI 1 else nI 0) := by decide +kernel
theorem ch_2 : ∀ c, c < 256 → (cBlk c = true ↔ nI c = 32 ∨ nI c = 10) ∧ (cLet c = true → cBlk c = false ∧ cNum c = false ∧ nI c ≠ 32) ∧ (cNum c = true → cBlk c = false ∧ 48 ≤ c ∧ c ≤ 57) := by decide +kernel
theorem dig12 {G c : Nat} {ρ : Mem} (hc : c < 256) : f_X12_isDigit G ρ (nI c) = some (if cNum c = true then nI 1 else nI 0) := by
  unfold f_X12_isDigit
  rw [(ch_1 c hc).2.2.2.1]
  split <;> rfl
theorem dig12m {G : Nat} {ρ : Mem} : f_X12_isDigit G ρ (-1) = some 0 := rfl
theorem let12m : f_X12_isLetter (-1) = 0 := by decide
def rE (p : Nat → Bool) (n : Nat) : Nat → Nat → Nat
  | 0, i => i
  | m + 1, i => if i < n ∧ p i = true then rE p n m (i + 1) else i
theorem rE_b {p : Nat → Bool} {n : Nat} : ∀ m i, i ≤ n → i ≤ rE p n m i ∧ rE p n m i ≤ n ∧ ∀ j, i ≤ j → j < rE p n m i → p j = true
  | 0, i, h => ⟨Nat.le_refl _, h, fun j h1 h2 => absurd h2 (by rw [rE]; omega)⟩
  | m + 1, i, h => by
    rw [rE]
    by_cases c : i < n ∧ p i = true
    · rw [if_pos c]
      obtain ⟨h1, h2, h3⟩ := rE_b (p := p) (n := n) m (i + 1) (by omega)
      refine ⟨by omega, h2, fun j q1 q2 => ?_⟩
      by_cases e : j = i
      · rw [e]; exact c.2
      · exact h3 j (by omega) q2
    · rw [if_neg c]
      exact ⟨Nat.le_refl _, h, fun j h1 h2 => absurd h2 (by omega)⟩
def nvF (c : Nat → Nat) (i : Nat) : Nat → Nat
  | 0 => 0
  | l + 1 => 10 * nvF c i l + (c (i + l) - 48)
theorem nvF_lt {c : Nat → Nat} {i : Nat} : ∀ l, (∀ j, i ≤ j → j < i + l → cNum (c j) = true) → (∀ j, i ≤ j → j < i + l → c j < 256) → nvF c i l < 10 ^ l
  | 0, _, _ => by rw [nvF]; decide
  | l + 1, h, h2 => by
    have ih := nvF_lt l (fun j h1 h2 => h j h1 (by omega)) (fun j h1 h3 => h2 j h1 (by omega))
    have d := ((ch_2 (c (i + l)) (h2 _ (by omega) (by omega))).2.2 (h (i + l) (by omega) (by omega))).2
    rw [nvF, Nat.pow_succ]
    omega
def tkE (c : Nat → Nat) (n i : Nat) : Nat := if cLet (c i) = true then rE (fun j => cLet (c j)) n (n - (i + 1)) (i + 1) else if cNum (c i) = true then rE (fun j => cNum (c j)) n (n - (i + 1)) (i + 1) else i + 1
def tkV (c : Nat → Nat) (n i : Nat) : Int32 := if cLet (c i) = true then (match kfd (kwP (fun k => nI (c k)) i (tkE c n i - i)) 25 0 with
    | some w => nI (10000 + w)
    | none => 30001) else if cNum (c i) = true then (if tkE c n i - i ≤ 4 then nI (nvF c i (tkE c n i - i)) else 30001) else if cSgn (c i) = true then nI (20000 + c i) else 30001
theorem tkE_b {c : Nat → Nat} {n i : Nat} (h : i < n) : i < tkE c n i ∧ tkE c n i ≤ n := by
  have h1 := rE_b (p := fun j => cLet (c j)) (n := n) (n - (i + 1)) (i + 1) (by omega)
  have h2 := rE_b (p := fun j => cNum (c j)) (n := n) (n - (i + 1)) (i + 1) (by omega)
  unfold tkE
  split
  · omega
  · split <;> omega
def spl (c : Nat → Nat) (n : Nat) : Nat → Nat → List (Int32 × Nat)
  | 0, _ => [(30000, n)]
  | f + 1, i => if n ≤ i then [(30000, n)] else if cBlk (c i) = true then spl c n f (i + 1) else (tkV c n i, i) :: spl c n f (tkE c n i)
/-- the kinds and values of the reference -/
def TkR (t k v : Int32) : Prop := (∃ x, x < 10000 ∧ t = nI x ∧ k = 3 ∧ v = nI x) ∨ (∃ w, w < 25 ∧ t = nI (10000 + w) ∧ k = 2 ∧ v = nI w) ∨ (∃ c, c < 256 ∧ cSgn c = true ∧ t = nI (20000 + c) ∧ k = 4 ∧ v = nI c) ∨ (t = 30000 ∧ k = 0) ∨ (t = 30001 ∧ k = 1)
theorem kfd_c {p q : Nat → Bool} (h : ∀ w, p w = q w) : ∀ m w, kfd p m w = kfd q m w
  | 0, w => rfl
  | m + 1, w => by rw [kfd, kfd, h w, kfd_c h m]
theorem kfd_lt {p : Nat → Bool} {x : Nat} : ∀ m w, kfd p m w = some x → x < w + m
  | 0, w, h => by rw [kfd] at h; cases h
  | m + 1, w, h => by
    rw [kfd] at h
    split at h
    · have := Option.some.inj h; omega
    · have := kfd_lt m (w + 1) h; omega
theorem all_c {p q : Nat → Bool} {n : Nat} (h : ∀ i, i < n → p i = q i) : (List.range n).all p = (List.range n).all q := by
  have e : ((List.range n).all p = true) ↔ ((List.range n).all q = true) := by
    rw [allK, allK]
    exact ⟨fun g v hv => by rw [← h v hv]; exact g v hv, fun g v hv => by rw [h v hv]; exact g v hv⟩
  exact Bool.eq_iff_iff.mpr e
theorem kwP_c {T T' : Nat → Int32} {a L : Nat} (h : ∀ i, i < L → T (a + i) = T' (a + i)) (w : Nat) : kwP T a L w = kwP T' a L w := by
  unfold kwP
  rw [all_c (fun i hi => by rw [h i hi])]
/-! the class's -/
theorem runE_c {G n i : Nat} {c : Nat → Nat} {μ : Mem} {fl : Bool} (hG : 500 ≤ G) (hn : n ≤ 400) (h5 : μ 41 5 = nI n) (hc : ∀ j, j < n → μ 42 j = nI (c j) ∧ c j < 256) :
    ∀ m j g, j ≤ n → n - j ≤ m → m < g → f_X5_runEnd_L14 G μ g (if fl = true then nI 1 else nI 0) (nI j) = some (nI (rE (fun k => if fl = true then cLet (c k) else cNum (c k)) n m j)) := by
  intro m
  induction m with
  | zero =>
    intro j g h1 h2 h3
    obtain ⟨g, rfl⟩ : ∃ y, g = y + 1 := ⟨g - 1, by omega⟩
    rw [f_X5_runEnd_L14, h5, if_pos (nI_le (by omega) (by omega)), rE]
  | succ m ih =>
    intro j g h1 h2 h3
    obtain ⟨g, rfl⟩ : ∃ y, g = y + 1 := ⟨g - 1, by omega⟩
    by_cases e : j = n
    · rw [f_X5_runEnd_L14, h5, if_pos (nI_le (by omega) (by omega)), rE, if_neg (by omega)]
    · obtain ⟨c1, c2⟩ := hc j (by omega)
      obtain ⟨k1, _, k3, _⟩ := ch_1 (c j) c2
      rw [f_X5_runEnd_L14, h5, if_neg (nI_ge (by omega) (by omega)), if_neg (show ¬ (400 : Int32) ≤ nI j from nI_ge (b := 400) (by omega) (by omega)), rE]
      cases fl with
      | true =>
        rw [if_pos rfl, if_neg (by decide), chkn (by omega) (by omega), ixn (by omega), c1, k1]
        by_cases q : cLet (c j) = true
        · rw [if_pos q, if_neg (by decide), if_pos ⟨by omega, q⟩, f_X5_runEnd_j60, nI_1]
          exact ih (j + 1) g (by omega) (by omega) (by omega)
        · rw [if_neg q, if_pos (show nI 0 = 0 from rfl), if_neg (fun z => q z.2)]
      | false =>
        have ih : ∀ (j g : Nat), j ≤ n → n - j ≤ m → m < g → f_X5_runEnd_L14 G μ g (nI 0) (nI j) = some (nI (rE (fun k => cNum (c k)) n m j)) := ih
        show (if nI 0 = (0 : Int32) then _ else _) = some (nI (if j < n ∧ cNum (c j) = true then rE (fun k => cNum (c k)) n m (j + 1) else j))
        rw [if_pos (show nI 0 = 0 from rfl), chkn (by omega) (by omega), ixn (by omega), c1, k3]
        by_cases q : cNum (c j) = true
        · rw [if_pos q, if_neg (by decide), if_pos (show j < n ∧ cNum (c j) = true from ⟨by omega, q⟩), f_X5_runEnd_j60, nI_1]
          exact ih (j + 1) g (by omega) (by omega) (by omega)
        · rw [if_neg q, if_pos (show nI 0 = 0 from rfl), if_neg (fun z => q z.2)]
theorem numb_c {G n i e : Nat} {c : Nat → Nat} {μ : Mem} (hG : 500 ≤ G) (hn : n ≤ 400) (hc : ∀ j, j < n → μ 42 j = nI (c j) ∧ c j < 256) (hie : i ≤ e) (hen : e ≤ n) (hnum : ∀ j, i ≤ j → j < e → cNum (c j) = true) :
    f_X5_number G μ (nI i) (nI e) = some (if e - i ≤ 4 then nI (nvF c i (e - i)) else 30001) := by
  have key : ∀ m l g, l + m = e - i → m < g → f_X5_number_L16 G μ g (nI e) (nI (nvF c i l)) (nI (i + l)) = some (nI (nvF c i (e - i))) := by
    intro m
    induction m with
    | zero =>
      intro l g h1 h2
      obtain ⟨g, rfl⟩ : ∃ y, g = y + 1 := ⟨g - 1, by omega⟩
      rw [f_X5_number_L16, if_pos (nI_le (by omega) (by omega)), show l = e - i by omega]
    | succ m ih =>
      intro l g h1 h2
      obtain ⟨g, rfl⟩ : ∃ y, g = y + 1 := ⟨g - 1, by omega⟩
      obtain ⟨c1, c2⟩ := hc (i + l) (by omega)
      have d := ((ch_2 _ c2).2.2 (hnum (i + l) (by omega) (by omega))).2
      have v : nI (nvF c i l) * 10 + nI (c (i + l)) - 48 = nI (nvF c i (l + 1)) := by
        rw [show nI (nvF c i l) * (10 : Int32) = nI (nvF c i l * 10) from pk_mul _ 10, nI_add, show nI (nvF c i l * 10 + c (i + l)) - (48 : Int32) = nI (nvF c i l * 10 + c (i + l) - 48) from pk_sub (b := 48) (by omega), nvF]
        congr 1
        omega
      rw [f_X5_number_L16, if_neg (nI_ge (by omega) (by omega)), if_neg (show ¬ (400 : Int32) ≤ nI (i + l) from nI_ge (b := 400) (by omega) (by omega)), chkn (by omega) (by omega), ixn (by omega), c1, v, nI_1]
      exact ih (l + 1) g (by omega) (by omega)
  unfold f_X5_number
  rw [pk_sub hie]
  by_cases q : e - i ≤ 4
  · rw [if_pos (show nI (e - i) ≤ (4 : Int32) from nI_le (b := 4) q (by omega)), if_pos q]
    exact key (e - i) 0 G (by omega) (by omega)
  · rw [if_neg (show ¬ nI (e - i) ≤ (4 : Int32) from nI_ge (a := 4) (by omega) (by omega)), if_neg q]
theorem addT {G k : Nat} {v : Int32} {π : Nat} {μ : Mem} (h : μ 41 8 = nI k) (hk : k ≤ 400) : f_X5_addToken G v (nI π) μ = some (wr (wr (wr μ 43 k v) 44 k (nI π)) 41 8 (nI (k + 1))) := by
  unfold f_X5_addToken
  rw [h, if_neg (show ¬ (400 : Int32) < nI k from nI_nlt (b := k) (a := 400) hk (by omega)), chkn (by omega) (by omega), ixn (by omega)]
  show chk ((wr μ 43 k v) 41 8) 401 (some (wr (wr (wr μ 43 k v) 44 (ix ((wr μ 43 k v) 41 8)) (nI π)) 41 8 ((wr (wr μ 43 k v) 44 (ix ((wr μ 43 k v) 41 8)) (nI π)) 41 8 + 1))) = _
  rw [wr_cell (by omega), h, chkn (by omega) (by omega), ixn (by omega), wr_cell (by omega), wr_cell (by omega), h, nI_1]
theorem split_c {G n : Nat} {c : Nat → Nat} (hG : 500 ≤ G) (hn : n ≤ 400) :
    ∀ f i v2 k g μ, n - i ≤ f → i ≤ n → v2 ≤ i → k ≤ i → n - i < g → μ 41 5 = nI n → μ 41 8 = nI k → (∀ j, j < n → μ 42 j = nI (c j) ∧ c j < 256) →
      ∃ μ', f_X5_splitTape_L9 G g (nI i) (nI v2) μ = some μ' ∧ μ' 41 5 = nI 0 ∧ μ' 41 8 = nI (k + (spl c n f i).length) ∧ k + (spl c n f i).length ≤ n + 1 ∧ (∀ j x, (spl c n f i)[j]? = some x → μ' 43 (k + j) = x.1 ∧ μ' 44 (k + j) = nI x.2) ∧ (∀ j, j < k → μ' 43 j = μ 43 j ∧ μ' 44 j = μ 44 j) ∧ (∀ x, x ≠ 41 → x ≠ 43 → x ≠ 44 → μ' x = μ x) ∧ ∀ j, j ≠ 5 → j ≠ 8 → μ' 41 j = μ 41 j := by
  have fin : ∀ k g i v2 μ, n ≤ i → k ≤ n → i ≤ 400 → μ 41 5 = nI n → μ 41 8 = nI k → ∃ μ', f_X5_splitTape_L9 G (g + 1) (nI i) (nI v2) μ = some μ' ∧ μ' 41 5 = nI 0 ∧ μ' 41 8 = nI (k + 1) ∧ k + 1 ≤ n + 1 ∧ (∀ j x, ([(30000, n)] : List (Int32 × Nat))[j]? = some x → μ' 43 (k + j) = x.1 ∧ μ' 44 (k + j) = nI x.2) ∧ (∀ j, j < k → μ' 43 j = μ 43 j ∧ μ' 44 j = μ 44 j) ∧ (∀ x, x ≠ 41 → x ≠ 43 → x ≠ 44 → μ' x = μ x) ∧ ∀ j, j ≠ 5 → j ≠ 8 → μ' 41 j = μ 41 j := by
    intro k g i v2 μ h1 h2 h3 h4 h5
    refine ⟨wr (wr (wr (wr μ 43 k 30000) 44 k (nI n)) 41 8 (nI (k + 1))) 41 5 (nI 0), ?_, wr_same, by rw [wr_slot (by omega), wr_same], by omega, fun j x hx => ?_, fun j hj => ?_, fun x a1 a2 a3 => by rw [wr_off a1, wr_off a1, wr_off a3, wr_off a2], fun j a1 a2 => by rw [wr_slot a1, wr_slot a2, wr_cell (by omega), wr_cell (by omega)]⟩
    · rw [f_X5_splitTape_L9, h4, addT h5 (by omega), bndV_s, if_pos (nI_le h1 (by omega))]
      split <;> rfl
    · cases j with
      | zero =>
        have hx : ((30000 : Int32), n) = x := Option.some.inj hx
        rw [← hx]
        exact ⟨by rw [wr_cell (by omega), wr_cell (by omega), wr_cell (by omega), Nat.add_zero, wr_same], by rw [wr_cell (by omega), wr_cell (by omega), Nat.add_zero, wr_same]⟩
      | succ j => cases hx
    · exact ⟨by rw [wr_cell (by omega), wr_cell (by omega), wr_cell (by omega), wr_slot (by omega)], by rw [wr_cell (by omega), wr_cell (by omega), wr_slot (by omega), wr_cell (by omega)]⟩
  intro f
  induction f with
  | zero =>
    intro i v2 k g μ h1 h2 h3 h4 h5 h6 h7 h8
    obtain ⟨g, rfl⟩ : ∃ y, g = y + 1 := ⟨g - 1, by omega⟩
    exact fin k g i v2 μ (by omega) (by omega) (by omega) h6 h7
  | succ f ih =>
    intro i v2 k g μ h1 h2 h3 h4 h5 h6 h7 h8
    obtain ⟨g, rfl⟩ : ∃ y, g = y + 1 := ⟨g - 1, by omega⟩
    by_cases e : n ≤ i
    · rw [spl, if_pos e]
      exact fin k g i v2 μ e (by omega) (by omega) h6 h7
    · obtain ⟨c1, c2⟩ := h8 i (by omega)
      obtain ⟨k1, _, k3, _, k5, _⟩ := ch_1 (c i) c2
      obtain ⟨b1, b2, b3⟩ := ch_2 (c i) c2
      obtain ⟨te1, te2⟩ := tkE_b (c := c) (n := n) (i := i) (by omega)
      have e400 : ¬ (400 : Int32) ≤ nI v2 := nI_ge (b := 400) (by omega) (by omega)
      have en : ¬ nI n ≤ nI i := nI_ge (by omega) (by omega)
      by_cases bl : cBlk (c i) = true
      · obtain ⟨μ', r⟩ := ih (i + 1) (v2 + 1) k g μ (by omega) (by omega) (by omega) (by omega) (by omega) h6 h7 h8
        rw [spl, if_neg e, if_pos bl]
        refine ⟨μ', ?_, r.2⟩
        have nl : ¬ cLet (c i) = true := fun q => by rw [(b2 q).1] at bl; cases bl
        have nn : ¬ cNum (c i) = true := fun q => by rw [(b3 q).1] at bl; cases bl
        rw [f_X5_splitTape_L9, if_neg e400, h6, if_neg en, chkn (by omega) (by omega), ixn (by omega), c1, k1, if_neg nl, if_pos (show nI 0 = 0 from rfl), k3, if_neg nn, if_pos (show nI 0 = 0 from rfl)]
        rcases b1.mp bl with q | q
        · rw [if_pos q, f_X5_splitTape_j110, nI_1, nI_1]
          exact r.1
        · rw [q, if_neg (by decide), if_pos rfl, f_X5_splitTape_j110, nI_1, nI_1]
          exact r.1
      · have st : f_X5_splitTape_L9 G (g + 1) (nI i) (nI v2) μ = f_X5_splitTape_L9 G g (nI (tkE c n i)) (nI (v2 + 1)) (wr (wr (wr μ 43 k (tkV c n i)) 44 k (nI i)) 41 8 (nI (k + 1))) := by
          have ad := fun v => addT (G := G) (v := v) (π := i) h7 (by omega)
          rw [f_X5_splitTape_L9, if_neg e400, h6, if_neg en, chkn (by omega) (by omega), ixn (by omega), c1, k1]
          by_cases ql : cLet (c i) = true
          · have re := runE_c (G := G) (fl := true) hG hn h6 h8 (i := i) (n - (i + 1)) (i + 1) G (by omega) (by omega) (by omega)
            have rb := rE_b (p := fun j => cLet (c j)) (n := n) (n - (i + 1)) (i + 1) (by omega)
            have ee : tkE c n i = rE (fun j => cLet (c j)) n (n - (i + 1)) (i + 1) := by unfold tkE; rw [if_pos ql]
            have kw := keyw_c (G := G) (a := i) (L := tkE c n i - i) (μ := μ) hG (by omega)
            rw [kfd_c (kwP_c (T' := fun k => nI (c k)) (fun j hj => (h8 (i + j) (by omega)).1)), show i + (tkE c n i - i) = tkE c n i by omega] at kw
            rw [if_pos ql, if_neg (by decide), f_X5_splitTape_j50, f_X5_runEnd, chkn (by omega) (by omega), ixn (by omega), c1, k1, if_pos ql, nI_1]
            have re : f_X5_runEnd_L14 G μ G (nI 1) (nI (i + 1)) = some (nI (tkE c n i)) := by rw [ee]; exact re
            rw [re, bndO_s, if_neg (by decide), kw, bndO_s, f_X5_splitTape_j82, ad, bndV_s, f_X5_splitTape_j110, nI_1]
            have tv : tkV c n i = (match kfd (kwP (fun k => nI (c k)) i (tkE c n i - i)) 25 0 with
              | some w => nI (10000 + w)
              | none => 30001) := by unfold tkV; rw [if_pos ql]
            rw [tv]
            rfl
          · rw [if_neg ql, if_pos (show nI 0 = 0 from rfl), k3]
            by_cases qn : cNum (c i) = true
            · have re := runE_c (G := G) (fl := false) hG hn h6 h8 (i := i) (n - (i + 1)) (i + 1) G (by omega) (by omega) (by omega)
              have rb := rE_b (p := fun j => cNum (c j)) (n := n) (n - (i + 1)) (i + 1) (by omega)
              have ee : tkE c n i = rE (fun j => cNum (c j)) n (n - (i + 1)) (i + 1) := by unfold tkE; rw [if_neg ql, if_pos qn]
              have nb := numb_c (G := G) (μ := μ) hG hn h8 (i := i) (e := tkE c n i) (by omega) te2 (fun j j1 j2 => by
                by_cases z : j = i
                · rw [z]; exact qn
                · exact rb.2.2 j (by omega) (by rw [← ee]; exact j2))
              rw [if_pos qn, if_neg (by decide), f_X5_splitTape_j50, f_X5_runEnd, chkn (by omega) (by omega), ixn (by omega), c1, k1, if_neg ql, nI_1]
              have re : f_X5_runEnd_L14 G μ G (nI 0) (nI (i + 1)) = some (nI (tkE c n i)) := by rw [ee]; exact re
              rw [re, bndO_s, if_pos (show nI 0 = 0 from rfl), nb, bndO_s, f_X5_splitTape_j82, ad, bndV_s, f_X5_splitTape_j110, nI_1]
              have tv : tkV c n i = if tkE c n i - i ≤ 4 then nI (nvF c i (tkE c n i - i)) else 30001 := by unfold tkV; rw [if_neg ql, if_pos qn]
              rw [tv]
            · have ee : tkE c n i = i + 1 := by unfold tkE; rw [if_neg ql, if_neg qn]
              have tv : tkV c n i = if cSgn (c i) = true then nI (20000 + c i) else 30001 := by unfold tkV; rw [if_neg ql, if_neg qn]
              rw [if_neg qn, if_pos (show nI 0 = 0 from rfl), if_neg (fun q => bl (b1.mpr (Or.inl q))), if_neg (fun q => bl (b1.mpr (Or.inr q))), k5, ad, bndV_s, f_X5_splitTape_j110, nI_1, nI_1, ee, tv]
        obtain ⟨μ', r1, r2, r3, r4, r5, r6, r7, r8⟩ := ih (tkE c n i) (v2 + 1) (k + 1) g (wr (wr (wr μ 43 k (tkV c n i)) 44 k (nI i)) 41 8 (nI (k + 1))) (by omega) te2 (by omega) (by omega) (by omega) (by rw [wr_slot (by omega), wr_cell (by omega), wr_cell (by omega)]; exact h6) wr_same (fun j hj => by rw [wr_off (by omega), wr_off (by omega), wr_off (by omega)]; exact h8 j hj)
        rw [spl, if_neg e, if_neg bl]
        refine ⟨μ', by rw [st, r1], r2, ?_, ?_, fun j x hx => ?_, fun j hj => ?_, fun x a1 a2 a3 => by rw [r7 x a1 a2 a3, wr_off a1, wr_off a3, wr_off a2], fun j a1 a2 => by rw [r8 j a1 a2, wr_slot a2, wr_cell (by omega), wr_cell (by omega)]⟩
        · rw [r3, List.length_cons]
          congr 1
          omega
        · rw [List.length_cons]; omega
        · cases j with
          | zero =>
            have hx : (tkV c n i, i) = x := Option.some.inj hx
            rw [← hx, Nat.add_zero, (r6 k (by omega)).1, (r6 k (by omega)).2, wr_cell (by omega), wr_cell (by omega), wr_same, wr_cell (by omega), wr_same]
            exact ⟨rfl, rfl⟩
          | succ j =>
            have := r5 j x hx
            rw [show k + (j + 1) = k + 1 + j by omega]
            exact this
        · rw [(r6 j (by omega)).1, (r6 j (by omega)).2, wr_cell (by omega), wr_cell (by omega), wr_slot (by omega), wr_cell (by omega), wr_slot (by omega), wr_cell (by omega)]
          exact ⟨rfl, rfl⟩
end
