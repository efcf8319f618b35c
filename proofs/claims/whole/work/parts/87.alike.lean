section
theorem aA {a b d : Nat} (ha : a < 100) (hb : b < 100) (hd : d < 100) : f_X11_isBelow (nI a - nI b) (nI d + nI 1) = (if b ≤ a ∧ a ≤ b + d then nI 1 else nI 0) ∧ f_X12_isIn (nI a) (nI b) (nI b + nI d) = (if b ≤ a ∧ a ≤ b + d then nI 1 else nI 0) := by
  constructor
  · rw [isB]
    by_cases h : b ≤ a
    · rw [pk_sub h, nI_add]
      by_cases h2 : a ≤ b + d
      · rw [if_pos ⟨nI_pos' (by omega), nI_lt (by omega) (by omega)⟩, if_pos ⟨h, h2⟩]; rfl
      · rw [if_neg (fun q => absurd ((nI_ltI (by omega) (by omega)).mp q.2) (by omega)), if_neg (fun q => h2 q.2)]; rfl
    · have := pk_sneg (a := a) (b := b) (by omega) (by omega)
      rw [if_neg (fun q => by have := q.1; grind), if_neg (fun q => h q.1)]; rfl
  · rw [isI, nI_add]
    by_cases h : b ≤ a
    · by_cases h2 : a ≤ b + d
      · rw [if_pos ⟨nI_le h (by omega), nI_le h2 (by omega)⟩, if_pos ⟨h, h2⟩]; rfl
      · rw [if_neg (fun q => absurd ((nI_leI (by omega) (by omega)).mp q.2) h2), if_neg (fun q => h2 q.2)]; rfl
    · rw [if_neg (fun q => absurd ((nI_leI (by omega) (by omega)).mp q.1) h), if_neg (fun q => h q.1)]; rfl
theorem aB {a b d : Nat} (ha : a < 100) (hb : b < 100) (hd : d < 100) : (nI d < iabs (nI a - nI b) ↔ ¬ (a ≤ b + d ∧ b ≤ a + d)) ∧ (nI d < f_X12_apart (nI b) (nI a) ↔ ¬ (a ≤ b + d ∧ b ≤ a + d)) := by
  have e1 : iabs (nI a - nI b) = nI (if b ≤ a then a - b else b - a) := by
    unfold iabs
    by_cases h : b ≤ a
    · rw [if_pos h, pk_sub h, if_pos (nI_pos' (by omega))]
    · have := pk_sneg (a := a) (b := b) (by omega) (by omega)
      have e : (0 : Int32) - (nI a - nI b) = nI b - nI a := by grind
      rw [if_neg h, if_neg (by grind), e, pk_sub (by omega)]
  have e2 : f_X12_apart (nI b) (nI a) = nI (if b ≤ a then a - b else b - a) := by
    unfold f_X12_apart
    by_cases h : b ≤ a
    · rw [if_pos h, if_pos (nI_le h (by omega)), pk_sub h]
    · rw [if_neg h, if_neg (nI_ge (by omega) (by omega)), pk_sub (by omega)]
  rw [e1, e2]
  have : (nI d < nI (if b ≤ a then a - b else b - a)) ↔ ¬ (a ≤ b + d ∧ b ≤ a + d) := by
    rw [nI_ltI (by omega) (by split <;> omega)]
    split <;> omega
  exact ⟨this, this⟩
def alk (s : Nat → Nat) (d i k : Nat) : Int32 := if s i ≤ s k ∧ s k ≤ s i + d then nI 1 else nI 0
def cpk (s : Nat → Nat) (d i k : Nat) : Int32 := if k < i ∧ s i ≤ s k + d ∧ s k ≤ s i + d then nI 1 else nI 0
def mxN (f : Nat → Int32) : Nat → Int32
  | 0 => nI 0
  | n + 1 => imax (mxN f n) (f n)
theorem add0 (x : Int32) : x + nI 0 = x := by
  have : nI 0 = (0 : Int32) := rfl
  grind
theorem most_ok {G n d : Nat} {s : Nat → Nat} {μ : Mem} (hG : 500 ≤ G) (n1 : LnR μ 36 12 1 n) (n3 : ∀ i, i < n → s i < 100 ∧ μ 37 i = nI (s i)) (hd : d < 100) : f_X6_mostAlike G μ (nI d) = some (mxN (fun i => smN (alk s d i) n) n) := by
  have hn := n1.2.2.2
  have e1 : μ 36 3 = nI n := n1.2.2.1
  have a0 : ∀ i, i < n → f_X2_at G 36 12 μ (nI i) (nI 0) = some (nI (s i)) := fun i hi => by
    rw [atn n1 (by omega) (by omega) (by omega) (by omega) hi (by omega), Nat.mul_one, Nat.add_zero]
    exact congrArg some (n3 i hi).2
  obtain ⟨g', x, k1, rfl⟩ := loopZ (fun g v x => f_X6_mostAlike_L4 G μ g (nI d) x v) n (fun k x => x = mxN (fun i => smN (alk s d i) n) k) (by
    rintro g i x hi rfl
    refine ⟨_, ?_, rfl⟩
    obtain ⟨g2, y, j1, rfl⟩ := loopZ (fun h v y => f_X6_mostAlike_L18 G μ (f_X6_mostAlike_L4 G μ g) (f_X6_mostAlike_j59 G μ (f_X6_mostAlike_L4 G μ g)) h (nI d) (mxN (fun i => smN (alk s d i) n) i) (nI i) y v) n (fun k y => y = smN (alk s d i) k) (by
      rintro h k y hk rfl
      refine ⟨_, ?_, rfl⟩
      have ai := a0 i hi
      have ak := a0 k hk
      have hA := (aA (a := s k) (b := s i) (d := d) (n3 k hk).1 (n3 i hi).1 hd).1
      show f_X6_mostAlike_L18 G μ _ _ (h + 1) (nI d) _ (nI i) (smN (alk s d i) k) (nI k) = f_X6_mostAlike_L18 G μ _ _ h (nI d) _ (nI i) (smN (alk s d i) k + alk s d i k) (nI (k + 1))
      have z0 : (0 : Int32) = nI 0 := rfl
      by_cases c : s i ≤ s k ∧ s k ≤ s i + d
      · rw [if_pos c] at hA
        rw [show alk s d i k = nI 1 from if_pos c]
        rw [f_X6_mostAlike_L18, if_neg (by rw [e1]; exact nI_ge hk (by omega)), z0, ak, bndO_s, ai, bndO_s, show (1 : Int32) = nI 1 from rfl, hA, if_neg (by decide)]
        show f_X6_mostAlike_L18 G μ _ _ h (nI d) _ (nI i) _ (nI k + 1) = _
        rw [nI_1]
      · rw [if_neg c] at hA
        rw [show alk s d i k = nI 0 from if_neg c, add0]
        rw [f_X6_mostAlike_L18, if_neg (by rw [e1]; exact nI_ge hk (by omega)), z0, ak, bndO_s, ai, bndO_s, show (1 : Int32) = nI 1 from rfl, hA, if_pos rfl]
        show f_X6_mostAlike_L18 G μ _ _ h (nI d) _ (nI i) _ (nI k + 1) = _
        rw [nI_1]) (by omega : n < G) (s := (0 : Int32)) rfl
    show f_X6_mostAlike_L4 G μ (g + 1) (nI d) (mxN (fun i => smN (alk s d i) n) i) (nI i) = f_X6_mostAlike_L4 G μ g (nI d) (imax (mxN (fun i => smN (alk s d i) n) i) (smN (alk s d i) n)) (nI (i + 1))
    rw [f_X6_mostAlike_L4, if_neg (by rw [e1]; exact nI_ge hi (by omega))]
    refine Eq.trans j1 ?_
    show f_X6_mostAlike_L18 G μ _ _ (g2 + 1) (nI d) _ (nI i) (smN (alk s d i) n) (nI n) = _
    simp (disch := omega) only [lit, neg1, nI_1, nI_add, pk_mul, pk_sub, nI_leI, nI_ltI, nI_eq, nI_eqm, chkn, ixn, if_pos, if_neg, bndV_s, bndE_s, bndO_s, reduceIte, irmn, iminn, imaxn, and_self, true_and, and_true, false_and, and_false, f_X6_mostAlike_L18, e1, f_X6_mostAlike_j59]) (by omega : n < G) (s := (0 : Int32)) rfl
  refine Eq.trans k1 ?_
  show f_X6_mostAlike_L4 G μ (g' + 1) (nI d) _ (nI n) = _
  simp (disch := omega) only [lit, neg1, nI_1, nI_add, pk_mul, pk_sub, nI_leI, nI_ltI, nI_eq, nI_eqm, chkn, ixn, if_pos, if_neg, bndV_s, bndE_s, bndO_s, reduceIte, irmn, iminn, imaxn, and_self, true_and, and_true, false_and, and_false, f_X6_mostAlike_L4, e1]
theorem coup_ok {G n d : Nat} {s : Nat → Nat} {μ : Mem} (hG : 500 ≤ G) (n1 : LnR μ 36 12 1 n) (n3 : ∀ i, i < n → s i < 100 ∧ μ 37 i = nI (s i)) (hd : d < 100) : f_X6_couplesAlike G μ (nI d) = some (smN (fun i => smN (cpk s d i) i) n) := by
  have hn := n1.2.2.2
  have e1 : μ 36 3 = nI n := n1.2.2.1
  have a0 : ∀ i, i < n → f_X2_at G 36 12 μ (nI i) (nI 0) = some (nI (s i)) := fun i hi => by
    rw [atn n1 (by omega) (by omega) (by omega) (by omega) hi (by omega), Nat.mul_one, Nat.add_zero]
    exact congrArg some (n3 i hi).2
  obtain ⟨g', x, k1, rfl⟩ := loopZ (fun g v x => f_X6_couplesAlike_L4 G μ g (nI d) x v) n (fun k x => x = smN (fun i => smN (cpk s d i) i) k) (by
    rintro g i x hi rfl
    refine ⟨_, ?_, rfl⟩
    obtain ⟨g2, y, j1, rfl⟩ := loopZ (fun h v y => f_X6_couplesAlike_L15 G μ (f_X6_couplesAlike_L4 G μ g) (f_X6_couplesAlike_j51 G μ (f_X6_couplesAlike_L4 G μ g)) h (nI d) y (nI i) v) i (fun k y => y = smN (fun i => smN (cpk s d i) i) i + smN (cpk s d i) k) (by
      rintro h k y hk rfl
      refine ⟨_, ?_, rfl⟩
      have ai := a0 i hi
      have ak := a0 k (by omega)
      have hA := (aB (a := s i) (b := s k) (d := d) (n3 i hi).1 (n3 k (by omega)).1 hd).1
      show f_X6_couplesAlike_L15 G μ _ _ (h + 1) (nI d) (smN (fun i => smN (cpk s d i) i) i + smN (cpk s d i) k) (nI i) (nI k) = f_X6_couplesAlike_L15 G μ _ _ h (nI d) (smN (fun i => smN (cpk s d i) i) i + (smN (cpk s d i) k + cpk s d i k)) (nI i) (nI (k + 1))
      by_cases c : s i ≤ s k + d ∧ s k ≤ s i + d
      · have hB : ¬ nI d < iabs (nI (s i) - nI (s k)) := fun q => hA.mp q c
        rw [show cpk s d i k = nI 1 from if_pos ⟨hk, c⟩, show smN (fun i => smN (cpk s d i) i) i + (smN (cpk s d i) k + nI 1) = smN (fun i => smN (cpk s d i) i) i + smN (cpk s d i) k + nI 1 by grind]
        rw [f_X6_couplesAlike_L15, if_neg (nI_ge hk (by omega)), show (0 : Int32) = nI 0 from rfl, ai, bndO_s, ak, bndO_s, if_neg hB]
        show f_X6_couplesAlike_L15 G μ _ _ h (nI d) _ (nI i) (nI k + 1) = _
        rw [nI_1]
        rfl
      · have hB : nI d < iabs (nI (s i) - nI (s k)) := hA.mpr c
        rw [show cpk s d i k = nI 0 from if_neg (fun q => c q.2), add0]
        rw [f_X6_couplesAlike_L15, if_neg (nI_ge hk (by omega)), show (0 : Int32) = nI 0 from rfl, ai, bndO_s, ak, bndO_s, if_pos hB]
        show f_X6_couplesAlike_L15 G μ _ _ h (nI d) _ (nI i) (nI k + 1) = _
        rw [nI_1]) (by omega : i < G) (s := smN (fun i => smN (cpk s d i) i) i) (by rw [show smN (cpk s d i) 0 = nI 0 from rfl, add0])
    show f_X6_couplesAlike_L4 G μ (g + 1) (nI d) (smN (fun i => smN (cpk s d i) i) i) (nI i) = f_X6_couplesAlike_L4 G μ g (nI d) (smN (fun i => smN (cpk s d i) i) i + smN (cpk s d i) i) (nI (i + 1))
    rw [f_X6_couplesAlike_L4, if_neg (by rw [e1]; exact nI_ge hi (by omega))]
    refine Eq.trans j1 ?_
    show f_X6_couplesAlike_L15 G μ _ _ (g2 + 1) (nI d) _ (nI i) (nI i) = _
    rw [f_X6_couplesAlike_L15, if_pos (nI_le (Nat.le_refl _) (by omega))]
    show f_X6_couplesAlike_L4 G μ g (nI d) _ (nI i + 1) = _
    rw [nI_1]) (by omega : n < G) (s := (0 : Int32)) rfl
  refine Eq.trans k1 ?_
  show f_X6_couplesAlike_L4 G μ (g' + 1) (nI d) _ (nI n) = _
  simp (disch := omega) only [lit, neg1, nI_1, nI_add, pk_mul, pk_sub, nI_leI, nI_ltI, nI_eq, nI_eqm, chkn, ixn, if_pos, if_neg, bndV_s, bndE_s, bndO_s, reduceIte, irmn, iminn, imaxn, and_self, true_and, and_true, false_and, and_false, f_X6_couplesAlike_L4, e1]
theorem alk12 {G n d : Nat} {s : Nat → Nat} {ρ : Mem} (hG : 500 ≤ G) (hn : n ≤ 12) (e1 : ρ 0 64 = nI n) (n3 : ∀ i, i < n → s i < 100 ∧ ρ 39 i = nI (s i)) (hd : d < 100) (v2 : Int32) : f_X12_alike_L36 G (f_X12_alike_j151 G) G (nI d) v2 (nI 0) (nI 0) (nI 0) ρ = f_X12_alike_j151 G v2 (mxN (fun i => smN (alk s d i) n) n) (smN (fun i => smN (cpk s d i) i) n) ρ := by
  obtain ⟨g', x, k1, rfl⟩ := loopZ (fun g v (x : Int32 × Int32) => f_X12_alike_L36 G (f_X12_alike_j151 G) g (nI d) v2 x.1 x.2 v ρ) n (fun k x => x = (mxN (fun i => smN (alk s d i) n) k, smN (fun i => smN (cpk s d i) i) k)) (by
    rintro g i x hi rfl
    refine ⟨_, ?_, rfl⟩
    obtain ⟨g2, y, j1, rfl⟩ := loopZ (fun h v (y : Int32 × Int32) => f_X12_alike_L51 G (f_X12_alike_L36 G (f_X12_alike_j151 G) g) (f_X12_alike_j151 G) (f_X12_alike_j137 G (f_X12_alike_L36 G (f_X12_alike_j151 G) g) (f_X12_alike_j151 G)) h (nI d) v2 (mxN (fun i => smN (alk s d i) n) i) y.2 (nI i) y.1 v ρ) n (fun k y => y = (smN (alk s d i) k, smN (fun i => smN (cpk s d i) i) i + smN (cpk s d i) k)) (by
      rintro h k y hk rfl
      refine ⟨_, ?_, rfl⟩
      have si := n3 i hi
      have sk := n3 k hk
      have hA := (aA (a := s k) (b := s i) (d := d) sk.1 si.1 hd).2
      have hB := (aB (a := s i) (b := s k) (d := d) si.1 sk.1 hd).2
      show f_X12_alike_L51 G _ _ _ (h + 1) (nI d) v2 (mxN (fun i => smN (alk s d i) n) i) (smN (fun i => smN (cpk s d i) i) i + smN (cpk s d i) k) (nI i) (smN (alk s d i) k) (nI k) ρ = f_X12_alike_L51 G _ _ _ h (nI d) v2 (mxN (fun i => smN (alk s d i) n) i) (smN (fun i => smN (cpk s d i) i) i + (smN (cpk s d i) k + cpk s d i k)) (nI i) (smN (alk s d i) k + alk s d i k) (nI (k + 1)) ρ
      have key : ∀ v6, f_X12_alike_j96 G (f_X12_alike_L36 G (f_X12_alike_j151 G) g) (f_X12_alike_j151 G) (f_X12_alike_L51 G (f_X12_alike_L36 G (f_X12_alike_j151 G) g) (f_X12_alike_j151 G) (f_X12_alike_j137 G (f_X12_alike_L36 G (f_X12_alike_j151 G) g) (f_X12_alike_j151 G)) h) (f_X12_alike_j137 G (f_X12_alike_L36 G (f_X12_alike_j151 G) g) (f_X12_alike_j151 G)) (nI d) v2 (mxN (fun i => smN (alk s d i) n) i) (smN (fun i => smN (cpk s d i) i) i + smN (cpk s d i) k) (nI i) v6 (nI k) ρ = f_X12_alike_L51 G (f_X12_alike_L36 G (f_X12_alike_j151 G) g) (f_X12_alike_j151 G) (f_X12_alike_j137 G (f_X12_alike_L36 G (f_X12_alike_j151 G) g) (f_X12_alike_j151 G)) h (nI d) v2 (mxN (fun i => smN (alk s d i) n) i) (smN (fun i => smN (cpk s d i) i) i + (smN (cpk s d i) k + cpk s d i k)) (nI i) v6 (nI (k + 1)) ρ := by
        intro v6
        by_cases ki : k < i
        · by_cases c : s i ≤ s k + d ∧ s k ≤ s i + d
          · have hB' : ¬ nI d < f_X12_apart (nI (s k)) (nI (s i)) := fun q => hB.mp q c
            rw [show cpk s d i k = nI 1 from if_pos ⟨ki, c⟩, show smN (fun i => smN (cpk s d i) i) i + (smN (cpk s d i) k + nI 1) = smN (fun i => smN (cpk s d i) i) i + smN (cpk s d i) k + nI 1 by grind]
            rw [f_X12_alike_j96, if_neg (nI_ge ki (by omega)), chkn (by omega) (by omega), chkn (by omega) (by omega), ixn (by omega), ixn (by omega), sk.2, si.2, if_neg hB', f_X12_alike_j131, nI_1]
            rfl
          · have hB' : nI d < f_X12_apart (nI (s k)) (nI (s i)) := hB.mpr c
            rw [show cpk s d i k = nI 0 from if_neg (fun q => c q.2), add0]
            rw [f_X12_alike_j96, if_neg (nI_ge ki (by omega)), chkn (by omega) (by omega), chkn (by omega) (by omega), ixn (by omega), ixn (by omega), sk.2, si.2, if_pos hB', f_X12_alike_j131, nI_1]
        · rw [show cpk s d i k = nI 0 from if_neg (fun q => ki q.1), add0]
          rw [f_X12_alike_j96, if_pos (nI_le (by omega) (by omega)), f_X12_alike_j131, nI_1]
      by_cases c : s i ≤ s k ∧ s k ≤ s i + d
      · rw [if_pos c] at hA
        rw [show alk s d i k = nI 1 from if_pos c]
        refine Eq.trans ?_ (key _)
        rw [f_X12_alike_L51, if_neg (by rw [e1]; exact nI_ge hk (by omega)), chkn (by omega) (by omega), chkn (by omega) (by omega), chkn (by omega) (by omega), ixn (by omega), ixn (by omega), sk.2, si.2, hA, if_neg (by decide)]
        rfl
      · rw [if_neg c] at hA
        rw [show alk s d i k = nI 0 from if_neg c, add0]
        refine Eq.trans ?_ (key _)
        rw [f_X12_alike_L51, if_neg (by rw [e1]; exact nI_ge hk (by omega)), chkn (by omega) (by omega), chkn (by omega) (by omega), chkn (by omega) (by omega), ixn (by omega), ixn (by omega), sk.2, si.2, hA, if_pos (show nI 0 = 0 from rfl)]) (by omega : n < G) (s := ((0 : Int32), smN (fun i => smN (cpk s d i) i) i)) (by rw [show smN (cpk s d i) 0 = nI 0 from rfl, add0]; rfl)
    show f_X12_alike_L36 G (f_X12_alike_j151 G) (g + 1) (nI d) v2 (mxN (fun i => smN (alk s d i) n) i) (smN (fun i => smN (cpk s d i) i) i) (nI i) ρ = f_X12_alike_L36 G (f_X12_alike_j151 G) g (nI d) v2 (imax (mxN (fun i => smN (alk s d i) n) i) (smN (alk s d i) n)) (smN (fun i => smN (cpk s d i) i) i + smN (cpk s d i) i) (nI (i + 1)) ρ
    rw [f_X12_alike_L36, if_neg (by rw [e1]; exact nI_ge hi (by omega))]
    refine Eq.trans j1 ?_
    show f_X12_alike_L51 G _ _ _ (g2 + 1) (nI d) v2 (mxN (fun i => smN (alk s d i) n) i) (smN (fun i => smN (cpk s d i) i) i + smN (cpk s d i) n) (nI i) (smN (alk s d i) n) (nI n) ρ = _
    rw [f_X12_alike_L51, if_pos (by rw [e1]; exact nI_le (Nat.le_refl _) (by omega)), f_X12_alike_j137, gr12, nI_1, smN_z (f := cpk s d i) (n := n) (a := i) (by omega) (fun k h1 h2 => if_neg (fun q => by omega))]) (by omega : n < G) (s := ((0 : Int32), (0 : Int32))) rfl
  refine Eq.trans k1 ?_
  show f_X12_alike_L36 G (f_X12_alike_j151 G) (g' + 1) (nI d) v2 _ _ (nI n) ρ = _
  rw [f_X12_alike_L36, if_pos (by rw [e1]; exact nI_le (Nat.le_refl _) (by omega))]
theorem spR_of {μ ρ : Mem} (h : SpR 1 μ ρ) : ∃ (n : Nat) (s : Nat → Nat), LnR μ 36 12 1 n ∧ ρ 0 64 = nI n ∧ ∀ i, i < n → s i < 100 ∧ μ 37 i = nI (s i) ∧ ρ 39 i = nI (s i) := by
  obtain ⟨n, n1, n2, n3⟩ := h
  refine ⟨n, fun i => if h : i < n then (n3 i h).choose else 0, n1, n2, fun i hi => ?_⟩
  have := (n3 i hi).choose_spec
  simp only [dif_pos hi]
  exact this
theorem s_alike {G : Nat} {bb : Bool} {μ ρ : Mem} (hG : 500 ≤ G) (h : AR bb μ ρ) (p q : Int32) : ∃ r ρ', f_X11_alike G μ p q = some r ∧ f_X12_alike G p q ρ = some (r, ρ') ∧ AR bb μ ρ' := by
  have h0 : AR bb μ (wr ρ 0 0 (nI 0)) := AR_told h
  obtain ⟨n, s, n1, n2, n3⟩ := spR_of (AR_ch h0).2.2.2.2.1
  have hn := n1.2.2.2
  by_cases hp : nI 0 ≤ p ∧ p < nI 100
  · obtain ⟨d, hd, rfl⟩ := lt_of 100 rfl (by omega) hp.1 hp.2
    have m1 := most_ok (s := s) hG n1 (fun i hi => ⟨(n3 i hi).1, (n3 i hi).2.1⟩) hd
    have m2 := coup_ok (s := s) hG n1 (fun i hi => ⟨(n3 i hi).1, (n3 i hi).2.1⟩) hd
    have m3 := alk12 (s := s) (G := G) hG hn n2 (fun i hi => ⟨(n3 i hi).1, (n3 i hi).2.2⟩) hd q
    by_cases q0 : q = nI 0
    · subst q0
      refine no_r h (r := mxN (fun i => smN (alk s d i) n) n) ?_ ?_
      · simp (disch := omega) only [lit, neg1, nI_1, nI_add, pk_mul, pk_sub, nI_leI, nI_ltI, nI_eq, nI_eqm, chkn, ixn, if_pos, if_neg, bndV_s, bndE_s, bndO_s, reduceIte, irmn, iminn, imaxn, and_self, true_and, and_true, false_and, and_false, f_X11_alike, isB, m1]
      · simp (disch := omega) only [lit, neg1, nI_1, nI_add, pk_mul, pk_sub, nI_leI, nI_ltI, nI_eq, nI_eqm, chkn, ixn, if_pos, if_neg, bndV_s, bndE_s, bndO_s, reduceIte, irmn, iminn, imaxn, and_self, true_and, and_true, false_and, and_false, f_X12_alike, isI]
        rw [m3, f_X12_alike_j151, if_pos (show nI 0 = 0 from rfl)]
    · by_cases q1 : q = nI 1
      · subst q1
        refine no_r h (r := smN (fun i => smN (cpk s d i) i) n) ?_ ?_
        · simp (disch := omega) only [lit, neg1, nI_1, nI_add, pk_mul, pk_sub, nI_leI, nI_ltI, nI_eq, nI_eqm, chkn, ixn, if_pos, if_neg, bndV_s, bndE_s, bndO_s, reduceIte, irmn, iminn, imaxn, and_self, true_and, and_true, false_and, and_false, f_X11_alike, isB, m2]
        · simp (disch := omega) only [lit, neg1, nI_1, nI_add, pk_mul, pk_sub, nI_leI, nI_ltI, nI_eq, nI_eqm, chkn, ixn, if_pos, if_neg, bndV_s, bndE_s, bndO_s, reduceIte, irmn, iminn, imaxn, and_self, true_and, and_true, false_and, and_false, f_X12_alike, isI]
          rw [m3, f_X12_alike_j151, if_neg (by decide)]
      · have qq : ¬ (nI 0 ≤ q ∧ q ≤ nI 1) := by
          rintro ⟨c1, c2⟩
          obtain ⟨k, hk, rfl⟩ := in_of 1 rfl (by omega) c1 c2
          rcases (by omega : k = 0 ∨ k = 1) with e | e
          · exact q0 (by rw [e])
          · exact q1 (by rw [e])
        refine no_r h (r := nI 4294967295) ?_ ?_
        · simp (disch := omega) only [lit, neg1, nI_1, nI_add, pk_mul, pk_sub, nI_leI, nI_ltI, nI_eq, nI_eqm, chkn, ixn, if_pos, if_neg, bndV_s, bndE_s, bndO_s, reduceIte, irmn, iminn, imaxn, and_self, true_and, and_true, false_and, and_false, f_X11_alike, isB, q0, q1]
        · simp (disch := omega) only [lit, neg1, nI_1, nI_add, pk_mul, pk_sub, nI_leI, nI_ltI, nI_eq, nI_eqm, chkn, ixn, if_pos, if_neg, bndV_s, bndE_s, bndO_s, reduceIte, irmn, iminn, imaxn, and_self, true_and, and_true, false_and, and_false, f_X12_alike, isI, qq]
  · have n0 : nI 0 = (0 : Int32) := rfl
    have n99 : nI 99 = (99 : Int32) := rfl
    have n100 : nI 100 = (100 : Int32) := rfl
    have pp : ¬ (nI 0 ≤ p ∧ p ≤ nI 99) := fun c => hp ⟨c.1, by grind⟩
    refine no_r h (r := nI 4294967295) ?_ ?_
    · simp (disch := omega) only [lit, neg1, nI_1, nI_add, pk_mul, pk_sub, nI_leI, nI_ltI, nI_eq, nI_eqm, chkn, ixn, if_pos, if_neg, bndV_s, bndE_s, bndO_s, reduceIte, irmn, iminn, imaxn, and_self, true_and, and_true, false_and, and_false, f_X11_alike, isB, hp]
    · simp (disch := omega) only [lit, neg1, nI_1, nI_add, pk_mul, pk_sub, nI_leI, nI_ltI, nI_eq, nI_eqm, chkn, ixn, if_pos, if_neg, bndV_s, bndE_s, bndO_s, reduceIte, irmn, iminn, imaxn, and_self, true_and, and_true, false_and, and_false, f_X12_alike, isI, pp]
end
