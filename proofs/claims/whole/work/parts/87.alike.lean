section
theorem aA {a b d : Nat} (ha : a < 100) (hb : b < 100) (hd : d < 100) : f_X11_isBelow (nI a - nI b) (nI d + nI 1) = (if b ≤ a ∧ a ≤ b + d then nI 1 else nI 0) ∧ f_X12_isIn (nI a) (nI b) (nI b + nI d) = (if b ≤ a ∧ a ≤ b + d then nI 1 else nI 0) := by
  constructor
  · rw [isB]
    by_cases h : b ≤ a
    · rw [pk_sub h, nI_add]
      by_cases h2 : a ≤ b + d
      · rw [if_pos ⟨nI_pos' (by omega), nI_lt (by omega) (by omega)⟩, if_pos ⟨h, h2⟩]; rfl
      · rw [if_neg (fun q => absurd ((nI_ltI (by omega) (by omega)).mp q.2) (by omega)), if_neg (fun q => h2 q.2)]; rfl
    · have := pk_sneg (a := a) (b := b) (by omega) (by omega)
      rw [if_neg (fun q => by have := q.1; grind), if_neg (fun q => h q.1)]; rfl
  · rw [isI, nI_add]
    by_cases h : b ≤ a
    · by_cases h2 : a ≤ b + d
      · rw [if_pos ⟨nI_le h (by omega), nI_le h2 (by omega)⟩, if_pos ⟨h, h2⟩]; rfl
      · rw [if_neg (fun q => absurd ((nI_leI (by omega) (by omega)).mp q.2) h2), if_neg (fun q => h2 q.2)]; rfl
    · rw [if_neg (fun q => absurd ((nI_leI (by omega) (by omega)).mp q.1) h), if_neg (fun q => h q.1)]; rfl
theorem aB {a b d : Nat} (ha : a < 100) (hb : b < 100) (hd : d < 100) : (nI d < iabs (nI a - nI b) ↔ ¬ (a ≤ b + d ∧ b ≤ a + d)) ∧ (nI d < f_X12_apart (nI b) (nI a) ↔ ¬ (a ≤ b + d ∧ b ≤ a + d)) := by
  have e1 : iabs (nI a - nI b) = nI (if b ≤ a then a - b else b - a) := by
    unfold iabs
    by_cases h : b ≤ a
    · rw [if_pos h, pk_sub h, if_pos (nI_pos' (by omega))]
    · have := pk_sneg (a := a) (b := b) (by omega) (by omega)
      have e : (0 : Int32) - (nI a - nI b) = nI b - nI a := by grind
      rw [if_neg h, if_neg (by grind), e, pk_sub (by omega)]
  have e2 : f_X12_apart (nI b) (nI a) = nI (if b ≤ a then a - b else b - a) := by
    unfold f_X12_apart
    by_cases h : b ≤ a
    · rw [if_pos h, if_pos (nI_le h (by omega)), pk_sub h]
    · rw [if_neg h, if_neg (nI_ge (by omega) (by omega)), pk_sub (by omega)]
  rw [e1, e2]
  have : (nI d < nI (if b ≤ a then a - b else b - a)) ↔ ¬ (a ≤ b + d ∧ b ≤ a + d) := by
    rw [nI_ltI (by omega) (by split <;> omega)]
    split <;> omega
  exact ⟨this, this⟩
def alk (s : Nat → Nat) (d i k : Nat) : Int32 := if s i ≤ s k ∧ s k ≤ s i + d then nI 1 else nI 0
def cpk (s : Nat → Nat) (d i k : Nat) : Int32 := if k < i ∧ s i ≤ s k + d ∧ s k ≤ s i + d then nI 1 else nI 0
def mxN (f : Nat → Int32) : Nat → Int32
  | 0 => nI 0
  | n + 1 => imax (mxN f n) (f n)
theorem add0 (x : Int32) : x + nI 0 = x := by
  have : nI 0 = (0 : Int32) := rfl
  grind
theorem most_ok {G n d : Nat} {s : Nat → Nat} {μ : Mem} (hG : 500 ≤ G) (n1 : LnR μ 36 12 1 n) (n3 : ∀ i, i < n → s i < 100 ∧ μ 37 i = nI (s i)) (hd : d < 100) : f_X6_mostAlike G μ (nI d) = some (mxN (fun i => smN (alk s d i) n) n) := by
  have hn := n1.2.2.2
  have e1 : μ 36 3 = nI n := n1.2.2.1
  have a0 : ∀ i, i < n → f_X2_at G 36 12 μ (nI i) (nI 0) = some (nI (s i)) := fun i hi => by
    rw [atn n1 (by omega) (by omega) (by omega) (by omega) hi (by omega), Nat.mul_one, Nat.add_zero]
    exact congrArg some (n3 i hi).2
  obtain ⟨g', x, k1, rfl⟩ := loopZ (fun g v x => f_X6_mostAlike_L4 G μ g (nI d) x v) n (fun k x => x = mxN (fun i => smN (alk s d i) n) k) (by
    rintro g i x hi rfl
    refine ⟨_, ?_, rfl⟩
    obtain ⟨g2, y, j1, rfl⟩ := loopZ (fun h v y => f_X6_mostAlike_L18 G μ (f_X6_mostAlike_L4 G μ g) (f_X6_mostAlike_j59 G μ (f_X6_mostAlike_L4 G μ g)) h (nI d) (mxN (fun i => smN (alk s d i) n) i) (nI i) y v) n (fun k y => y = smN (alk s d i) k) (by
      rintro h k y hk rfl
      refine ⟨_, ?_, rfl⟩
      have ai := a0 i hi
      have ak := a0 k hk
      have hA := (aA (a := s k) (b := s i) (d := d) (n3 k hk).1 (n3 i hi).1 hd).1
      show f_X6_mostAlike_L18 G μ _ _ (h + 1) (nI d) _ (nI i) (smN (alk s d i) k) (nI k) = f_X6_mostAlike_L18 G μ _ _ h (nI d) _ (nI i) (smN (alk s d i) k + alk s d i k) (nI (k + 1))
      by_cases c : s i ≤ s k ∧ s k ≤ s i + d
      · rw [if_pos c] at hA
        rw [show alk s d i k = nI 1 from if_pos c]
        simp (disch := omega) only [lit, neg1, nI_1, pk_mul, pk_sub, nI_leI, nI_ltI, nI_eq, nI_eqm, chkn, ixn, if_pos, if_neg, bndV_s, bndE_s, bndO_s, reduceIte, irmn, iminn, imaxn, f_X6_mostAlike_L18, e1, ai, ak, hA, f_X6_mostAlike_j53]
        rw [nI_add]
      · rw [if_neg c] at hA
        rw [show alk s d i k = nI 0 from if_neg c, add0]
        simp (disch := omega) only [lit, neg1, nI_1, pk_mul, pk_sub, nI_leI, nI_ltI, nI_eq, nI_eqm, chkn, ixn, if_pos, if_neg, bndV_s, bndE_s, bndO_s, reduceIte, irmn, iminn, imaxn, f_X6_mostAlike_L18, e1, ai, ak, hA, f_X6_mostAlike_j53]
        rw [nI_add]) (by omega : n < G) (s := (0 : Int32)) rfl
    show f_X6_mostAlike_L4 G μ (g + 1) (nI d) (mxN (fun i => smN (alk s d i) n) i) (nI i) = f_X6_mostAlike_L4 G μ g (nI d) (imax (mxN (fun i => smN (alk s d i) n) i) (smN (alk s d i) n)) (nI (i + 1))
    rw [f_X6_mostAlike_L4, if_neg (by rw [e1]; exact nI_ge hi (by omega))]
    refine Eq.trans j1 ?_
    show f_X6_mostAlike_L18 G μ _ _ (g2 + 1) (nI d) _ (nI i) (smN (alk s d i) n) (nI n) = _
    simp (disch := omega) only [lit, neg1, nI_1, nI_add, pk_mul, pk_sub, nI_leI, nI_ltI, nI_eq, nI_eqm, chkn, ixn, if_pos, if_neg, bndV_s, bndE_s, bndO_s, reduceIte, irmn, iminn, imaxn, and_self, true_and, and_true, false_and, and_false, f_X6_mostAlike_L18, e1, f_X6_mostAlike_j59]) (by omega : n < G) (s := (0 : Int32)) rfl
  refine Eq.trans k1 ?_
  show f_X6_mostAlike_L4 G μ (g' + 1) (nI d) _ (nI n) = _
  simp (disch := omega) only [lit, neg1, nI_1, nI_add, pk_mul, pk_sub, nI_leI, nI_ltI, nI_eq, nI_eqm, chkn, ixn, if_pos, if_neg, bndV_s, bndE_s, bndO_s, reduceIte, irmn, iminn, imaxn, and_self, true_and, and_true, false_and, and_false, f_X6_mostAlike_L4, e1]
theorem coup_ok {G n d : Nat} {s : Nat → Nat} {μ : Mem} (hG : 500 ≤ G) (n1 : LnR μ 36 12 1 n) (n3 : ∀ i, i < n → s i < 100 ∧ μ 37 i = nI (s i)) (hd : d < 100) : f_X6_couplesAlike G μ (nI d) = some (smN (fun i => smN (cpk s d i) i) n) := by
  have hn := n1.2.2.2
  have e1 : μ 36 3 = nI n := n1.2.2.1
  have a0 : ∀ i, i < n → f_X2_at G 36 12 μ (nI i) (nI 0) = some (nI (s i)) := fun i hi => by
    rw [atn n1 (by omega) (by omega) (by omega) (by omega) hi (by omega), Nat.mul_one, Nat.add_zero]
    exact congrArg some (n3 i hi).2
  obtain ⟨g', x, k1, rfl⟩ := loopZ (fun g v x => f_X6_couplesAlike_L4 G μ g (nI d) x v) n (fun k x => x = smN (fun i => smN (cpk s d i) i) k) (by
    rintro g i x hi rfl
    refine ⟨_, ?_, rfl⟩
    obtain ⟨g2, y, j1, rfl⟩ := loopZ (fun h v y => f_X6_couplesAlike_L15 G μ (f_X6_couplesAlike_L4 G μ g) (f_X6_couplesAlike_j51 G μ (f_X6_couplesAlike_L4 G μ g)) h (nI d) y (nI i) v) i (fun k y => y = smN (fun i => smN (cpk s d i) i) i + smN (cpk s d i) k) (by
      rintro h k y hk rfl
      refine ⟨_, ?_, rfl⟩
      have ai := a0 i hi
      have ak := a0 k (by omega)
      have hA := (aB (a := s i) (b := s k) (d := d) (n3 i hi).1 (n3 k (by omega)).1 hd).1
      show f_X6_couplesAlike_L15 G μ _ _ (h + 1) (nI d) (smN (fun i => smN (cpk s d i) i) i + smN (cpk s d i) k) (nI i) (nI k) = f_X6_couplesAlike_L15 G μ _ _ h (nI d) (smN (fun i => smN (cpk s d i) i) i + (smN (cpk s d i) k + cpk s d i k)) (nI i) (nI (k + 1))
      by_cases c : s i ≤ s k + d ∧ s k ≤ s i + d
      · have hB : ¬ nI d < iabs (nI (s i) - nI (s k)) := fun q => hA.mp q c
        rw [show cpk s d i k = nI 1 from if_pos ⟨hk, c⟩, show smN (fun i => smN (cpk s d i) i) i + (smN (cpk s d i) k + nI 1) = smN (fun i => smN (cpk s d i) i) i + smN (cpk s d i) k + nI 1 by grind]
        rw [f_X6_couplesAlike_L15, if_neg (nI_ge hk (by omega)), show (0 : Int32) = nI 0 from rfl, ai, bndO_s, ak, bndO_s, if_neg hB]
        show f_X6_couplesAlike_L15 G μ _ _ h (nI d) _ (nI i) (nI k + 1) = _
        rw [nI_1]
        rfl
      · have hB : nI d < iabs (nI (s i) - nI (s k)) := hA.mpr c
        rw [show cpk s d i k = nI 0 from if_neg (fun q => c q.2), add0]
        rw [f_X6_couplesAlike_L15, if_neg (nI_ge hk (by omega)), show (0 : Int32) = nI 0 from rfl, ai, bndO_s, ak, bndO_s, if_pos hB]
        show f_X6_couplesAlike_L15 G μ _ _ h (nI d) _ (nI i) (nI k + 1) = _
        rw [nI_1]) (by omega : i < G) (s := smN (fun i => smN (cpk s d i) i) i) (by rw [show smN (cpk s d i) 0 = nI 0 from rfl, add0])
    show f_X6_couplesAlike_L4 G μ (g + 1) (nI d) (smN (fun i => smN (cpk s d i) i) i) (nI i) = f_X6_couplesAlike_L4 G μ g (nI d) (smN (fun i => smN (cpk s d i) i) i + smN (cpk s d i) i) (nI (i + 1))
    rw [f_X6_couplesAlike_L4, if_neg (by rw [e1]; exact nI_ge hi (by omega))]
    refine Eq.trans j1 ?_
    show f_X6_couplesAlike_L15 G μ _ _ (g2 + 1) (nI d) _ (nI i) (nI i) = _
    rw [f_X6_couplesAlike_L15, if_pos (nI_le (Nat.le_refl _) (by omega))]
    show f_X6_couplesAlike_L4 G μ g (nI d) _ (nI i + 1) = _
    rw [nI_1]) (by omega : n < G) (s := (0 : Int32)) rfl
  refine Eq.trans k1 ?_
  show f_X6_couplesAlike_L4 G μ (g' + 1) (nI d) _ (nI n) = _
  simp (disch := omega) only [lit, neg1, nI_1, nI_add, pk_mul, pk_sub, nI_leI, nI_ltI, nI_eq, nI_eqm, chkn, ixn, if_pos, if_neg, bndV_s, bndE_s, bndO_s, reduceIte, irmn, iminn, imaxn, and_self, true_and, and_true, false_and, and_false, f_X6_couplesAlike_L4, e1]
end
