section
/-! THE WHOLE RELATION -/
def plC (v n : Nat) : Nat := (if n / 36 = v then 1 else 0) + (if n / 6 % 6 = v then 1 else 0) + (if n % 6 = v then 1 else 0)
def rtN (a b : Nat) : Nat := (if a / 36 = b / 36 then 1 else 0) + (if a / 6 % 6 = b / 6 % 6 then 1 else 0) + (if a % 6 = b % 6 then 1 else 0)
def alN (a b : Nat) : Nat := min (plC 0 a) (plC 0 b) + min (plC 1 a) (plC 1 b) + min (plC 2 a) (plC 2 b) + min (plC 3 a) (plC 3 b) + min (plC 4 a) (plC 4 b) + min (plC 5 a) (plC 5 b)
/-- what the class tells of two rows -/
def t5 (a b : Nat) : Nat := 4 * rtN a b + alN a b
def taA (n : Nat) : Int32 := f_X4_oneMore (f_X4_oneMore (f_X4_oneMore 0 (nI (n / 36))) (nI (n / 6 % 6))) (nI (n % 6))
def fitC (μ : Mem) (n row : Nat) : Bool := (List.range n).all (fun i => nI (t5 (ix (μ 31 (3 * i))) row) == 5 * μ 31 (3 * i + 1) + μ 31 (3 * i + 2))
/-- how many of L at most can still be after the row r -/
def mcN (L : List Nat) (r : Nat) : Nat := (List.range 16).foldl (fun m v => max m (L.countP (fun x => t5 r x == v))) 0
/-- the first row of n for which that is least -/
def bsN (L : List Nat) : Nat → Nat
  | 0 => 0
  | n + 1 => if n = 0 then 0 else if mcN L n < mcN L (bsN L n) then n else bsN L n
def PlR (μ : Mem) : Prop := (∀ r, r < 216 → μ 106 r = plA r ∧ μ 107 r = taA r) ∧
  ((μ 105 4 = -2 ∧ μ 105 5 = -2) ∨ ∃ n L, n ≤ 8 ∧ μ 30 3 = nI n ∧ L = (List.range 216).filter (fitC μ n) ∧ μ 105 4 = nI L.length ∧ (∀ k x, L[k]? = some x → μ 108 k = nI x) ∧ (μ 105 5 = -2 ∨ (0 < L.length ∧ μ 105 5 = nI (bsN L 216))))
/-- what an image holds, in its order -/
def imS : List Nat := [6, 7, 37, 39, 41, 47, 51, 57, 60, 64, 68]
def imA (σ : Mem) (k : Nat) : Int32 :=
  if k < 49 then σ 1 k
  else if k < 60 then σ 0 (imS.getD (k - 49) 0)
  else if k < 120 then σ ([4, 5, 6, 22, 39].getD ((k - 60) % 5) 0) ((k - 60) / 5)
  else if k < 152 then σ ([7, 8, 30, 31].getD ((k - 120) % 4) 0) ((k - 120) / 4)
  else if k < 192 then σ ([27, 28, 29, 36].getD ((k - 152) % 4) 0) ((k - 152) / 4)
  else if k < 204 then σ ([34, 35].getD ((k - 192) % 2) 0) ((k - 192) / 2)
  else if k < 210 then σ ([40, 41].getD ((k - 204) % 2) 0) ((k - 204) / 2)
  else if k < 217 then σ 42 (k - 210)
  else if k < 233 then σ 20 (k - 217)
  else if k < 329 then σ 21 (k - 233)
  else if k < 929 then σ 9 (k - 329)
  else if k < 930 then σ 12 0
  else if k < 994 then σ ([13, 14, 15, 16].getD ((k - 930) % 4) 0) ((k - 930) / 4)
  else σ ([17, 18].getD ((k - 994) % 2) 0) ((k - 994) / 2)
def ImR (bb : Bool) (μ ρ : Mem) : Prop := if bb = true then (ρ 0 73 = 1 ∧ ∃ σ W M, ChR 112 μ σ W M ∧ ∀ k, k < 1794 → ρ 45 k = imA σ k) else ρ 0 73 = 0
def wdA (k : Nat) : Int32 := if k = 0 then 32 else keyB.getD (k - 1) 0
def ThR (ρ : Mem) : Prop := ρ 0 5 = 0 ∧ ∀ k, k < 132 → ρ 11 k = wdA k
def AR (bb : Bool) (μ ρ : Mem) : Prop := ∃ W M, ChR 1 μ ρ W M ∧ TpR μ ρ ∧ FaR μ ρ ∧ DrR μ ∧ PaR μ ρ W M ∧ PlR μ ∧ ImR bb μ ρ ∧ ThR ρ
/-! carried over -/
theorem SiR_o {b W : Nat} {μ μ' ρ ρ' : Mem} (h : SiR b μ ρ W) (h1 : μ' (b + 23) = μ (b + 23)) (h2 : μ' (b + 24) = μ (b + 24)) (h3 : ρ' 0 41 = ρ 0 41) (h4 : ρ' 22 = ρ 22) : SiR b μ' ρ' W := by
  unfold SiR LnR at h ⊢
  rw [h1, h2, h3, h4]
  exact h
theorem MeR_o {b : Nat} {μ μ' ρ ρ' : Mem} (h : MeR b μ ρ) (h1 : μ' (b + 27) = μ (b + 27)) (h2 : μ' (b + 28) = μ (b + 28)) (h3 : ρ' 0 47 = ρ 0 47) (h4 : ∀ x, 27 ≤ x → x ≤ 29 → ρ' x = ρ x) : MeR b μ' ρ' := by
  unfold MeR LnR at h ⊢
  rw [h1, h2, h3, h4 27 (by omega) (by omega), h4 28 (by omega) (by omega), h4 29 (by omega) (by omega)]
  exact h
theorem GuR_o {b : Nat} {μ μ' ρ ρ' : Mem} (h : GuR b μ ρ) (h1 : μ' (b + 29) = μ (b + 29)) (h2 : μ' (b + 30) = μ (b + 30)) (h3 : ρ' 0 51 = ρ 0 51) (h4 : ∀ x, 30 ≤ x → x ≤ 31 → ρ' x = ρ x) : GuR b μ' ρ' := by
  unfold GuR LnR at h ⊢
  rw [h1, h2, h3, h4 30 (by omega) (by omega), h4 31 (by omega) (by omega)]
  exact h
theorem OdR_o {b : Nat} {μ μ' ρ ρ' : Mem} (h : OdR b μ ρ) (h1 : μ' (b + 31) = μ (b + 31)) (h2 : μ' (b + 32) = μ (b + 32)) (h3 : ρ' 0 57 = ρ 0 57) (h4 : ∀ x, 34 ≤ x → x ≤ 35 → ρ' x = ρ x) : OdR b μ' ρ' := by
  unfold OdR LnR at h ⊢
  rw [h1, h2, h3, h4 34 (by omega) (by omega), h4 35 (by omega) (by omega)]
  exact h
theorem RoR_o {b : Nat} {μ μ' ρ ρ' : Mem} (h : RoR b μ ρ) (h1 : μ' (b + 33) = μ (b + 33)) (h2 : μ' (b + 34) = μ (b + 34)) (h3 : ρ' 0 60 = ρ 0 60) (h4 : ρ' 36 = ρ 36) : RoR b μ' ρ' := by
  unfold RoR LnR at h ⊢
  rw [h1, h2, h3, h4]
  exact h
theorem SpR_o {b : Nat} {μ μ' ρ ρ' : Mem} (h : SpR b μ ρ) (h1 : μ' (b + 35) = μ (b + 35)) (h2 : μ' (b + 36) = μ (b + 36)) (h3 : ρ' 0 64 = ρ 0 64) (h4 : ρ' 39 = ρ 39) : SpR b μ' ρ' := by
  unfold SpR LnR at h ⊢
  rw [h1, h2, h3, h4]
  exact h
theorem OfR_o {b : Nat} {μ μ' ρ ρ' : Mem} (h : OfR b μ ρ) (h1 : μ' (b + 37) = μ (b + 37)) (h2 : μ' (b + 38) = μ (b + 38)) (h3 : ρ' 0 68 = ρ 0 68) (h4 : ρ' 42 = ρ 42) : OfR b μ' ρ' := by
  unfold OfR LnR at h ⊢
  rw [h1, h2, h3, h4]
  exact h
theorem CgR_o {b : Nat} {μ μ' ρ ρ' : Mem} (h : CgR b μ ρ) (h1 : μ' (b + 39) = μ (b + 39)) (h4 : ∀ x, 40 ≤ x → x ≤ 41 → ρ' x = ρ x) : CgR b μ' ρ' := by
  unfold CgR at h ⊢
  rw [h1, h4 40 (by omega) (by omega), h4 41 (by omega) (by omega)]
  exact h
/-- the church, where the rows of the standing may have changed -/
theorem ChR_o {b W M : Nat} {μ μ' ρ ρ' : Mem} (h : ChR b μ ρ W M) (h1 : ∀ x, (x = b ∨ (b + 7 ≤ x ∧ x ≤ b + 39)) → x ≠ b + 18 → x ≠ b + 25 → x ≠ b + 26 → μ' x = μ x) (h2 : ∀ x, 4 ≤ x → x ≤ 42 → x ≠ 9 → x ≠ 10 → x ≠ 11 → x ≠ 19 → x ≠ 23 → x ≠ 24 → x ≠ 25 → x ≠ 26 → x ≠ 32 → x ≠ 33 → x ≠ 37 → x ≠ 38 → ρ' x = ρ x)
    (h3 : ∀ j, j ∈ imS → ρ' 0 j = ρ 0 j) (hS : StR μ' (b + 1) (μ' (b + 25) 3) (ρ' 1) 0) (hI : StI W M (ρ' 1) 0) (hR : RcR b μ' ρ') : ChR b μ' ρ' W M := by
  obtain ⟨a1, a2, a3, a4, a5, a6, a7, a8, a9, a10, a11, a12, a13, a14, a15⟩ := h
  have q : ∀ x, 27 ≤ x → x ≤ 42 → x ≠ 32 → x ≠ 33 → x ≠ 37 → x ≠ 38 → ρ' x = ρ x := fun x g1 g2 g3 g4 g5 g6 => h2 x (by omega) (by omega) (by omega) (by omega) (by omega) (by omega) (by omega) (by omega) (by omega) (by omega) g3 g4 g5 g6
  have q2 : ∀ x, 12 ≤ x → x ≤ 22 → x ≠ 19 → ρ' x = ρ x := fun x g1 g2 g3 => h2 x (by omega) (by omega) (by omega) (by omega) (by omega) g3 (by omega) (by omega) (by omega) (by omega) (by omega) (by omega) (by omega) (by omega)
  have q3 : ∀ x, 4 ≤ x → x ≤ 8 → ρ' x = ρ x := fun x g1 g2 => h2 x (by omega) (by omega) (by omega) (by omega) (by omega) (by omega) (by omega) (by omega) (by omega) (by omega) (by omega) (by omega) (by omega) (by omega)
  have m : ∀ x, b + 7 ≤ x → x ≤ b + 39 → x ≠ b + 18 → x ≠ b + 25 → x ≠ b + 26 → μ' x = μ x := fun x g1 g2 g3 g4 g5 => h1 x (Or.inr ⟨g1, g2⟩) g3 g4 g5
  refine ⟨PpR_o a1 (h1 b (Or.inl rfl) (by omega) (by omega) (by omega)) (fun x g1 g2 => m x (by omega) (by omega) (by omega) (by omega) (by omega)) (h3 6 (by decide)) (h3 7 (by decide)) (fun x g1 g2 => q3 x g1 g2), hS, hI, hR,
    QuR_o a5 (m _ (by omega) (by omega) (by omega) (by omega) (by omega)) (m _ (by omega) (by omega) (by omega) (by omega) (by omega)) (h3 37 (by decide)) (q2 20 (by omega) (by omega) (by omega)),
    CaR_o a6 (m _ (by omega) (by omega) (by omega) (by omega) (by omega)) (m _ (by omega) (by omega) (by omega) (by omega) (by omega)) (h3 39 (by decide)) (q2 21 (by omega) (by omega) (by omega)),
    SiR_o a7 (m _ (by omega) (by omega) (by omega) (by omega) (by omega)) (m _ (by omega) (by omega) (by omega) (by omega) (by omega)) (h3 41 (by decide)) (q2 22 (by omega) (by omega) (by omega)),
    LwR_o a8 (fun x g1 g2 => m x (by omega) (by omega) (by omega) (by omega) (by omega)) (fun x g1 g2 => q2 x (by omega) (by omega) (by omega)),
    MeR_o a9 (m _ (by omega) (by omega) (by omega) (by omega) (by omega)) (m _ (by omega) (by omega) (by omega) (by omega) (by omega)) (h3 47 (by decide)) (fun x g1 g2 => q x (by omega) (by omega) (by omega) (by omega) (by omega) (by omega)),
    GuR_o a10 (m _ (by omega) (by omega) (by omega) (by omega) (by omega)) (m _ (by omega) (by omega) (by omega) (by omega) (by omega)) (h3 51 (by decide)) (fun x g1 g2 => q x (by omega) (by omega) (by omega) (by omega) (by omega) (by omega)),
    OdR_o a11 (m _ (by omega) (by omega) (by omega) (by omega) (by omega)) (m _ (by omega) (by omega) (by omega) (by omega) (by omega)) (h3 57 (by decide)) (fun x g1 g2 => q x (by omega) (by omega) (by omega) (by omega) (by omega) (by omega)),
    RoR_o a12 (m _ (by omega) (by omega) (by omega) (by omega) (by omega)) (m _ (by omega) (by omega) (by omega) (by omega) (by omega)) (h3 60 (by decide)) (q 36 (by omega) (by omega) (by omega) (by omega) (by omega) (by omega)),
    SpR_o a13 (m _ (by omega) (by omega) (by omega) (by omega) (by omega)) (m _ (by omega) (by omega) (by omega) (by omega) (by omega)) (h3 64 (by decide)) (q 39 (by omega) (by omega) (by omega) (by omega) (by omega) (by omega)),
    OfR_o a14 (m _ (by omega) (by omega) (by omega) (by omega) (by omega)) (m _ (by omega) (by omega) (by omega) (by omega) (by omega)) (h3 68 (by decide)) (q 42 (by omega) (by omega) (by omega) (by omega) (by omega) (by omega)),
    CgR_o a15 (m _ (by omega) (by omega) (by omega) (by omega) (by omega)) (fun x g1 g2 => q x (by omega) (by omega) (by omega) (by omega) (by omega) (by omega))⟩
theorem PlR_o {μ μ' : Mem} (h : PlR μ) (h1 : ∀ x, (x = 30 ∨ x = 31 ∨ (105 ≤ x ∧ x ≤ 108)) → μ' x = μ x) : PlR μ' := by
  unfold PlR fitC at h ⊢
  rw [h1 30 (by omega), h1 31 (by omega), h1 105 (by omega), h1 106 (by omega), h1 107 (by omega), h1 108 (by omega)]
  exact h
theorem PaR_o {W M : Nat} {μ μ' ρ ρ' : Mem} (h : PaR μ ρ W M) (h1 : ∀ x, 54 ≤ x → x ≤ 92 → μ' x = μ x) (h2 : ρ' 0 3 = ρ 0 3) (h3 : ρ' 2 = ρ 2) (h4 : ρ' 1 2 = ρ 1 2) : PaR μ' ρ' W M := by
  obtain ⟨c, x, hc, hx, a1, a2, a3, a4, a5, a6⟩ := h
  refine ⟨c, x, hc, hx, by rw [h1 54 (by omega) (by omega)]; exact a1, by rw [h2]; exact a2, by rw [h1 54 (by omega) (by omega)]; exact a3, ?_, by rw [h3]; exact a5, by rw [h3, h4]; exact a6⟩
  intro j hj
  have hp : pst x c j < 6 := by unfold pst; omega
  rw [h1 56 (by omega) (by omega), h3]
  exact ⟨StR_cls (fun y g1 g2 => h1 y (by omega) (by omega)) (a4 j hj).1, (a4 j hj).2⟩
theorem ImR_o {bb : Bool} {μ μ' ρ ρ' : Mem} (h : ImR bb μ ρ) (h1 : ∀ x, 112 ≤ x → μ' x = μ x) (h2 : ρ' 0 73 = ρ 0 73) (h3 : ρ' 45 = ρ 45) : ImR bb μ' ρ' := by
  unfold ImR at h ⊢
  rw [h2, h3]
  cases bb
  · exact h
  · rw [if_pos rfl] at h ⊢
    obtain ⟨a, σ, W, M, a1, a2⟩ := h
    refine ⟨a, σ, W, M, ChR_o a1 (fun x g _ _ _ => h1 x (by omega)) (fun _ _ _ _ _ _ _ _ _ _ _ _ _ _ _ => rfl) (fun _ _ => rfl) ?_ a1.2.2.1 (RcR_o a1.2.2.2.1 (h1 _ (by omega)) (h1 _ (by omega)) rfl rfl), a2⟩
    rw [h1 137 (by omega)]
    exact StR_cls (fun x g1 g2 => h1 x (by omega)) a1.2.1
theorem TpR_o {μ μ' ρ ρ' : Mem} (h : TpR μ ρ) (h1 : μ' 41 5 = μ 41 5) (h2 : μ' 42 = μ 42) (h3 : ρ' 0 15 = ρ 0 15) (h4 : ρ' 10 = ρ 10) : TpR μ' ρ' := by
  unfold TpR at h ⊢
  rw [h1, h2, h3, h4]
  exact h
/-- scratch changes alone -/
theorem AR_scr {bb : Bool} {μ μ' ρ ρ' : Mem} (h : AR bb μ ρ) (h1 : ∀ x, x ≠ 19 → ¬ (94 ≤ x ∧ x ≤ 104) → x ≠ 109 → x ≠ 111 → μ' x = μ x) (h2 : ∀ x, x ≠ 0 → x ≠ 1 → x ≠ 3 → ¬ (23 ≤ x ∧ x ≤ 26) → x ≠ 32 → x ≠ 33 → x ≠ 37 → x ≠ 38 → x ≠ 43 → x ≠ 44 → ρ' x = ρ x)
    (h3 : ∀ j, j ≠ 0 → j ≠ 55 → ρ' 0 j = ρ 0 j) (h4 : ∀ k, k < 49 → ρ' 1 k = ρ 1 k) : AR bb μ' ρ' := by
  obtain ⟨W, M, a1, a2, a3, a4, a5, a6, a7, a8⟩ := h
  have m : ∀ x, x < 94 → x ≠ 19 → μ' x = μ x := fun x g1 g2 => h1 x g2 (by omega) (by omega) (by omega)
  refine ⟨W, M, ChR_o a1 (fun x g1 g2 _ _ => m x (by omega) (by omega)) (fun x g1 g2 g3 g4 g5 g6 g7 g8 g9 g10 g11 g12 g13 g14 => h2 x (by omega) (by omega) (by omega) (by omega) g11 g12 g13 g14 (by omega) (by omega)) (fun j hj => h3 j (by intro e; subst e; exact absurd hj (by decide)) (by intro e; subst e; exact absurd hj (by decide))) ?_ ?_ ?_,
    TpR_o a2 (by rw [m 41 (by omega) (by omega)]) (m _ (by omega) (by omega)) (h3 15 (by omega) (by omega)) (h2 10 (by omega) (by omega) (by omega) (by omega) (by omega) (by omega) (by omega) (by omega) (by omega) (by omega)), ?_, ?_, PaR_o a5 (fun x g1 g2 => m x (by omega) (by omega)) (h3 3 (by omega) (by omega)) (h2 2 (by omega) (by omega) (by omega) (by omega) (by omega) (by omega) (by omega) (by omega) (by omega) (by omega)) (h4 2 (by omega)),
    PlR_o a6 (fun x g => h1 x (by omega) (by omega) (by omega) (by omega)), ImR_o a7 (fun x g => h1 x (by omega) (by omega) (by omega) (by omega)) (h3 73 (by omega) (by omega)) (h2 45 (by omega) (by omega) (by omega) (by omega) (by omega) (by omega) (by omega) (by omega) (by omega) (by omega)), ?_⟩
  · have e := a1.2.1
    show StR μ' 2 (μ' 26 3) (ρ' 1) 0
    rw [m 26 (by omega) (by omega)]
    exact StR_cls (fun x g1 g2 => m x (by omega) (by omega)) (StR_row (fun j hj => by rw [Nat.zero_add, h4 j hj]) e)
  · exact StI_row (fun j hj => by rw [Nat.zero_add, h4 j hj]) a1.2.2.1
  · exact RcR_o a1.2.2.2.1 (m _ (by omega) (by omega)) (m _ (by omega) (by omega)) (h4 2 (by omega)) (h2 9 (by omega) (by omega) (by omega) (by omega) (by omega) (by omega) (by omega) (by omega) (by omega) (by omega))
  · unfold FaR at a3 ⊢
    rw [m 41 (by omega) (by omega), h3 35 (by omega) (by omega), h3 36 (by omega) (by omega)]
    exact a3
  · unfold DrR at a4 ⊢
    rw [m 52 (by omega) (by omega)]
    exact a4
  · unfold ThR at a8 ⊢
    rw [h3 5 (by omega) (by omega), h2 11 (by omega) (by omega) (by omega) (by omega) (by omega) (by omega) (by omega) (by omega) (by omega) (by omega)]
    exact a8
theorem AR_told {bb : Bool} {μ ρ : Mem} (h : AR bb μ ρ) : AR bb μ (wr ρ 0 0 0) := AR_scr h (fun _ _ _ _ _ => rfl) (fun x g _ _ _ _ _ _ _ _ _ => wr_off g) (fun j g _ => wr_slot g) (fun k _ => wr_cell (by omega))
end
