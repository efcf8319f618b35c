section
theorem loop2E {σ τ X Y : Type} (L : Nat → Int32 → σ → Option X) (K : Nat → Int32 → τ → Option Y) (n : Nat) (I : Nat → σ → τ → Prop)
    (h : ∀ g f k s t, k < n → I k s t → ∃ s' t', L (g + 1) (nI k) s = L g (nI (k + 1)) s' ∧ K (f + 1) (nI k) t = K f (nI (k + 1)) t' ∧ I (k + 1) s' t') :
    ∀ (m g f k : Nat) (s : σ) (t : τ), k + m = n → m < g → m < f → I k s t → ∃ s' t', L g (nI k) s = L (g - m) (nI n) s' ∧ K f (nI k) t = K (f - m) (nI n) t' ∧ I n s' t' := by
  intro m
  induction m with
  | zero =>
    intro g f k s t hk hg hf hI
    have : k = n := by omega
    subst this
    exact ⟨s, t, rfl, rfl, hI⟩
  | succ m ih =>
    intro g f k s t hk hg hf hI
    obtain ⟨s', t', h1, h1', h2⟩ := h (g - 1) (f - 1) k s t (by omega) hI
    obtain ⟨s'', t'', h3, h3', h4⟩ := ih (g - 1) (f - 1) (k + 1) s' t' (by omega) (by omega) (by omega) h2
    refine ⟨s'', t'', ?_, ?_, h4⟩
    · rw [show g - 1 + 1 = g by omega] at h1
      rw [h1, h3, show g - 1 - m = g - (m + 1) by omega]
    · rw [show f - 1 + 1 = f by omega] at h1'
      rw [h1', h3', show f - 1 - m = f - (m + 1) by omega]
def kF (G : Nat) (ρ : Mem) (c : Nat) : Nat := ix ((f_X12_kinOf G ρ (nI c)).getD 0)
def kI (G : Nat) (ρ : Mem) (c : Nat) : Nat → Nat
  | 0 => c
  | n + 1 => kF G ρ (kI G ρ c n)
theorem grp_ok {G W M w : Nat} {μ ρ : Mem} (hG : 500 ≤ G) (P : PpR 1 μ ρ W M) (S : SiR 1 μ ρ W) (hw : w < W) : ∃ r, r < 4096 ∧ f_X0_groupOf G μ (nI w) = some (nI r) ∧ f_X12_groupOf G ρ (nI w) = some (nI r) := by
  have hW := P.2.2.1
  have st : ∀ c, c < 4096 → ∃ s, f_X0_sistersOf G μ (nI c) = some (nI s) ∧ c ||| s = kF G ρ c ∧ kF G ρ c < 4096 ∧ f_X12_kinOf G ρ (nI c) = some (nI (kF G ρ c)) := by
    intro c hc
    obtain ⟨s, t, hs, ht, e1, e2, e3, _⟩ := kin_ok hG P S hc
    have ef : kF G ρ c = t := by
      unfold kF
      rw [e3]
      exact ixn (by omega)
    rw [ef]
    exact ⟨s, e1, e2, ht, e3⟩
  have h2w : 2 ^ w < 4096 := pw_lt (k := 12) (by omega)
  have lt : ∀ n, kI G ρ (2 ^ w) n < 4096 := by
    intro n
    induction n with
    | zero => exact h2w
    | succ n ih => obtain ⟨_, _, _, h, _⟩ := st _ ih; exact h
  have sub : ∀ n i, (kI G ρ (2 ^ w) n).testBit i = true → (kI G ρ (2 ^ w) (n + 1)).testBit i = true := by
    intro n i h
    obtain ⟨s, _, e, _, _⟩ := st _ (lt n)
    show (kF G ρ (kI G ρ (2 ^ w) n)).testBit i = true
    rw [← e, Nat.testBit_or, h]
    rfl
  have fx : kI G ρ (2 ^ w) 12 = kI G ρ (2 ^ w) 11 := by
    by_cases hx : ∃ i, i < 12 ∧ kI G ρ (2 ^ w) (i + 1) = kI G ρ (2 ^ w) i
    · obtain ⟨i, hi, e⟩ := hx
      have stay : ∀ j, kI G ρ (2 ^ w) (i + j + 1) = kI G ρ (2 ^ w) (i + j) := by
        intro j
        induction j with
        | zero => exact e
        | succ j ih =>
          show kF G ρ (kI G ρ (2 ^ w) (i + (j + 1))) = kF G ρ (kI G ρ (2 ^ w) (i + j))
          rw [show i + (j + 1) = i + j + 1 by omega, ih]
      have := stay (11 - i)
      rw [show i + (11 - i) = 11 by omega] at this
      exact this
    · exfalso
      have grow : ∀ i, i ≤ 12 → i + 1 ≤ pcn (kI G ρ (2 ^ w) i) 12 := by
        intro i
        induction i with
        | zero =>
          intro _
          have : pcn 0 12 < pcn (2 ^ w) 12 := pcn_lt (fun i _ h => by simp at h) ⟨w, by omega, by simp [pw_bit], by simp⟩
          show 0 + 1 ≤ pcn (2 ^ w) 12
          omega
        | succ i ih =>
          intro hi
          have h1 := ih (by omega)
          have h2 : pcn (kI G ρ (2 ^ w) i) 12 < pcn (kI G ρ (2 ^ w) (i + 1)) 12 := by
            refine pcn_lt (fun j _ h => sub i j h) ?_
            by_cases hy : ∃ j, j < 12 ∧ (kI G ρ (2 ^ w) (i + 1)).testBit j = true ∧ (kI G ρ (2 ^ w) i).testBit j = false
            · exact hy
            · exfalso
              apply hx
              refine ⟨i, by omega, bits_eq (fun j => ?_)⟩
              by_cases hj : j < 12
              · cases ha : (kI G ρ (2 ^ w) (i + 1)).testBit j <;> cases hb : (kI G ρ (2 ^ w) i).testBit j
                · rfl
                · have := sub i j hb; rw [ha] at this; cases this
                · exact absurd ⟨j, hj, ha, hb⟩ hy
                · rfl
              · rw [bit_ge (k := 12) (lt (i + 1)) (by omega), bit_ge (k := 12) (lt i) (by omega)]
          omega
      have h1 := grow 12 (by omega)
      have h2 := pcn_max (a := kI G ρ (2 ^ w) 12) (n := 12)
      omega
  refine ⟨kI G ρ (2 ^ w) 12, lt 12, ?_, ?_⟩
  · obtain ⟨g', s', k1, k2⟩ := loopI (fun g v x => f_X0_groupOf_L6 G μ g x v) 12 (fun k x => x = nI (kI G ρ (2 ^ w) (k - 1)) ∧ 1 ≤ k) (by
      rintro g i x hi ⟨rfl, h1⟩
      obtain ⟨s, e1, e2, e3, e4⟩ := st _ (lt (i - 1))
      refine ⟨nI (kI G ρ (2 ^ w) i), ?_, ?_, by omega⟩
      · show f_X0_groupOf_L6 G μ (g + 1) (nI (kI G ρ (2 ^ w) (i - 1))) (nI i) = f_X0_groupOf_L6 G μ g _ (nI (i + 1))
        have e5 : kF G ρ (kI G ρ (2 ^ w) (i - 1)) = kI G ρ (2 ^ w) i := by
          show kI G ρ (2 ^ w) (i - 1 + 1) = _
          rw [show i - 1 + 1 = i by omega]
        simp (disch := omega) only [lit, neg1, nI_1, nI_add, pk_mul, pk_sub, nI_leI, nI_ltI, nI_eq, nI_eqm, chkn, ixn, if_pos, if_neg, bndV_s, bndE_s, bndO_s, reduceIte, irmn, iminn, imaxn, and_self, true_and, and_true, false_and, and_false, f_X0_groupOf_L6, e1, b_nor, e2, e5]
      · rw [Nat.add_sub_cancel]) 11 G 1 (nI (2 ^ w)) (by omega) (by omega) ⟨rfl, by omega⟩
    have : f_X0_groupOf G μ (nI w) = f_X0_groupOf_L6 G μ G (nI (2 ^ w)) (nI 1) := by simp (disch := omega) only [lit, neg1, nI_1, nI_add, pk_mul, pk_sub, nI_leI, nI_ltI, nI_eq, nI_eqm, chkn, ixn, if_pos, if_neg, bndV_s, bndE_s, bndO_s, reduceIte, irmn, iminn, imaxn, and_self, true_and, and_true, false_and, and_false, f_X0_groupOf, sl1]
    rw [this]
    refine Eq.trans k1 ?_
    show f_X0_groupOf_L6 G μ (g' + 1) s' (nI 12) = _
    rw [k2.1, fx]
    simp (disch := omega) only [lit, neg1, nI_1, nI_add, pk_mul, pk_sub, nI_leI, nI_ltI, nI_eq, nI_eqm, chkn, ixn, if_pos, if_neg, bndV_s, bndE_s, bndO_s, reduceIte, irmn, iminn, imaxn, and_self, true_and, and_true, false_and, and_false, f_X0_groupOf_L6]
  · obtain ⟨g', s', k1, k2⟩ := loopZ (fun g v x => f_X12_groupOf_L6 G ρ g x v) 12 (fun k x => x = nI (kI G ρ (2 ^ w) k)) (by
      rintro g i x hi rfl
      obtain ⟨s, e1, e2, e3, e4⟩ := st _ (lt i)
      refine ⟨nI (kI G ρ (2 ^ w) (i + 1)), ?_, rfl⟩
      show f_X12_groupOf_L6 G ρ (g + 1) (nI (kI G ρ (2 ^ w) i)) (nI i) = f_X12_groupOf_L6 G ρ g (nI (kF G ρ (kI G ρ (2 ^ w) i))) (nI (i + 1))
      simp (disch := omega) only [lit, neg1, nI_1, nI_add, pk_mul, pk_sub, nI_leI, nI_ltI, nI_eq, nI_eqm, chkn, ixn, if_pos, if_neg, bndV_s, bndE_s, bndO_s, reduceIte, irmn, iminn, imaxn, and_self, true_and, and_true, false_and, and_false, f_X12_groupOf_L6, e4]) (by omega : 12 < G) (s := nI (2 ^ w)) rfl
    have : f_X12_groupOf G ρ (nI w) = f_X12_groupOf_L6 G ρ G (nI (2 ^ w)) 0 := by simp (disch := omega) only [lit, neg1, nI_1, nI_add, pk_mul, pk_sub, nI_leI, nI_ltI, nI_eq, nI_eqm, chkn, ixn, if_pos, if_neg, bndV_s, bndE_s, bndO_s, reduceIte, irmn, iminn, imaxn, and_self, true_and, and_true, false_and, and_false, f_X12_groupOf, sl1]
    rw [this]
    refine Eq.trans k1 ?_
    show f_X12_groupOf_L6 G ρ (g' + 1) s' (nI 12) = _
    rw [k2]
    simp (disch := omega) only [lit, neg1, nI_1, nI_add, pk_mul, pk_sub, nI_leI, nI_ltI, nI_eq, nI_eqm, chkn, ixn, if_pos, if_neg, bndV_s, bndE_s, bndO_s, reduceIte, irmn, iminn, imaxn, and_self, true_and, and_true, false_and, and_false, f_X12_groupOf_L6]
theorem s_groups {G : Nat} {bb : Bool} {μ ρ : Mem} (hG : 500 ≤ G) (h : AR bb μ ρ) (p : Int32) : ∃ r ρ', f_X11_groups G μ p = some r ∧ f_X12_groups G p ρ = some (r, ρ') ∧ AR bb μ ρ' := by
  obtain ⟨W, M, H⟩ := id h
  have H0 : AT bb W M μ (wr ρ 0 0 (nI 0)) := told0 H
  have R := WR_of H0
  have S := H0.1.2.2.2.2.2.2.1
  obtain ⟨hW, hM⟩ := WR_W R
  have e6 : μ 1 6 = nI W := R.1.1
  have e6' : (wr ρ 0 0 (nI 0)) 0 6 = nI W := R.1.2.1
  have all : f_X0_allWomen μ = nI (2 ^ W - 1) := by
    have : 1 ≤ 2 ^ W := Nat.one_le_two_pow
    simp (disch := omega) only [lit, neg1, nI_1, nI_add, pk_mul, pk_sub, nI_leI, nI_ltI, nI_eq, nI_eqm, chkn, ixn, if_pos, if_neg, bndV_s, bndE_s, bndO_s, reduceIte, irmn, iminn, imaxn, and_self, true_and, and_true, false_and, and_false, f_X0_allWomen, e6, sl1]
  obtain ⟨a, b, k1, k2, ⟨l, sn, c, gg, q1, q2, q3, rfl, rfl, q6⟩⟩ := loop2E (fun g v (x : Int32 × Int32 × Int32) => f_X11_groups_L16 G μ (f_X11_groups_j76 G μ) g p x.1 x.2.1 x.2.2 v) (fun g v (x : Int32 × Int32 × Int32) => f_X12_groups_L27 G (f_X12_groups_j91 G) g p x.1 x.2.1 x.2.2 v (wr ρ 0 0 (nI 0))) W
    (fun k a b => ∃ l sn c gg, l < 4096 ∧ sn < 4096 ∧ gg < 4096 ∧ a = (nI l, nI c, nI gg) ∧ b = (nI sn, nI c, nI gg) ∧ ∀ i, l.testBit i = true ↔ (i < W ∧ sn.testBit i = false)) (by
    rintro g f i a b hi ⟨l, sn, c, gg, q1, q2, q3, rfl, rfl, q6⟩
    obtain ⟨r, hr, r1, r2⟩ := grp_ok hG R.1 S hi
    have hh := hasn (a := l) (w := i) (by omega) (by omega)
    have hh2 := hasn (a := sn) (w := i) (by omega) (by omega)
    rw [← has12] at hh2
    have b1 := bc12 r hr
    have b2 := bc12 gg q3
    have o1 := ones_ok (ρ := wr ρ 0 0 (nI 0)) hG hr
    have o2 := ones_ok (ρ := wr ρ 0 0 (nI 0)) hG q3
    have m1 := pcn_max (a := r) (n := 12)
    have m2 := pcn_max (a := gg) (n := 12)
    by_cases bt : l.testBit i = true
    · have bs := (q6 i).mp bt
      rw [if_pos bt] at hh
      rw [bs.2, if_neg (by decide)] at hh2
      have q6' : ∀ j, (wo l r).testBit j = true ↔ (j < W ∧ (sn ||| r).testBit j = false) := by
        intro j
        by_cases hj : j < 32
        · rw [wo_bit hj, Nat.testBit_or]
          have := q6 j
          cases hx : l.testBit j <;> cases hy : sn.testBit j <;> cases hz : r.testBit j <;> simp_all
        · rw [bit_ge (k := 12) (Nat.lt_of_le_of_lt wo_le q1) (by omega)]
          constructor
          · intro q; cases q
          · rintro ⟨q, _⟩; omega
      by_cases cmp : pcn r 12 ≤ pcn gg 12
      · refine ⟨(nI (wo l r), nI (c + 1), nI gg), (nI (sn ||| r), nI (c + 1), nI gg), ?_, ?_, _, _, _, _, Nat.lt_of_le_of_lt wo_le q1, or_lt (k := 12) q2 hr, q3, rfl, rfl, q6'⟩
        · show f_X11_groups_L16 G μ (f_X11_groups_j76 G μ) (g + 1) p (nI l) (nI c) (nI gg) (nI i) = f_X11_groups_L16 G μ (f_X11_groups_j76 G μ) g p (nI (wo l r)) (nI (c + 1)) (nI gg) (nI (i + 1))
          simp (disch := omega) only [lit, neg1, nI_1, nI_add, pk_mul, pk_sub, nI_leI, nI_ltI, nI_eq, nI_eqm, chkn, ixn, if_pos, if_neg, bndV_s, bndE_s, bndO_s, reduceIte, irmn, iminn, imaxn, and_self, true_and, and_true, false_and, and_false, f_X11_groups_L16, hh, r1, b1, b2, won, f_X11_groups_j70]
        · show f_X12_groups_L27 G (f_X12_groups_j91 G) (f + 1) p (nI sn) (nI c) (nI gg) (nI i) (wr ρ 0 0 (nI 0)) = f_X12_groups_L27 G (f_X12_groups_j91 G) f p (nI (sn ||| r)) (nI (c + 1)) (nI gg) (nI (i + 1)) (wr ρ 0 0 (nI 0))
          simp (disch := omega) only [lit, neg1, nI_1, nI_add, pk_mul, pk_sub, nI_leI, nI_ltI, nI_eq, nI_eqm, chkn, ixn, if_pos, if_neg, bndV_s, bndE_s, bndO_s, reduceIte, irmn, iminn, imaxn, and_self, true_and, and_true, false_and, and_false, f_X12_groups_L27, e6', hh2, r2, o1, o2, b_nor, f_X12_groups_j85]
      · refine ⟨(nI (wo l r), nI (c + 1), nI r), (nI (sn ||| r), nI (c + 1), nI r), ?_, ?_, _, _, _, _, Nat.lt_of_le_of_lt wo_le q1, or_lt (k := 12) q2 hr, hr, rfl, rfl, q6'⟩
        · show f_X11_groups_L16 G μ (f_X11_groups_j76 G μ) (g + 1) p (nI l) (nI c) (nI gg) (nI i) = f_X11_groups_L16 G μ (f_X11_groups_j76 G μ) g p (nI (wo l r)) (nI (c + 1)) (nI r) (nI (i + 1))
          simp (disch := omega) only [lit, neg1, nI_1, nI_add, pk_mul, pk_sub, nI_leI, nI_ltI, nI_eq, nI_eqm, chkn, ixn, if_pos, if_neg, bndV_s, bndE_s, bndO_s, reduceIte, irmn, iminn, imaxn, and_self, true_and, and_true, false_and, and_false, f_X11_groups_L16, hh, r1, b1, b2, won, f_X11_groups_j70]
        · show f_X12_groups_L27 G (f_X12_groups_j91 G) (f + 1) p (nI sn) (nI c) (nI gg) (nI i) (wr ρ 0 0 (nI 0)) = f_X12_groups_L27 G (f_X12_groups_j91 G) f p (nI (sn ||| r)) (nI (c + 1)) (nI r) (nI (i + 1)) (wr ρ 0 0 (nI 0))
          simp (disch := omega) only [lit, neg1, nI_1, nI_add, pk_mul, pk_sub, nI_leI, nI_ltI, nI_eq, nI_eqm, chkn, ixn, if_pos, if_neg, bndV_s, bndE_s, bndO_s, reduceIte, irmn, iminn, imaxn, and_self, true_and, and_true, false_and, and_false, f_X12_groups_L27, e6', hh2, r2, o1, o2, b_nor, f_X12_groups_j85]
    · have bs : sn.testBit i = true := by
        cases hx : sn.testBit i
        · exact absurd ((q6 i).mpr ⟨hi, hx⟩) bt
        · rfl
      rw [if_neg bt] at hh
      rw [if_pos bs] at hh2
      refine ⟨(nI l, nI c, nI gg), (nI sn, nI c, nI gg), ?_, ?_, _, _, _, _, q1, q2, q3, rfl, rfl, q6⟩
      · show f_X11_groups_L16 G μ (f_X11_groups_j76 G μ) (g + 1) p (nI l) (nI c) (nI gg) (nI i) = f_X11_groups_L16 G μ (f_X11_groups_j76 G μ) g p (nI l) (nI c) (nI gg) (nI (i + 1))
        simp (disch := omega) only [lit, neg1, nI_1, nI_add, pk_mul, pk_sub, nI_leI, nI_ltI, nI_eq, nI_eqm, chkn, ixn, if_pos, if_neg, bndV_s, bndE_s, bndO_s, reduceIte, irmn, iminn, imaxn, and_self, true_and, and_true, false_and, and_false, f_X11_groups_L16, hh, f_X11_groups_j70]
      · show f_X12_groups_L27 G (f_X12_groups_j91 G) (f + 1) p (nI sn) (nI c) (nI gg) (nI i) (wr ρ 0 0 (nI 0)) = f_X12_groups_L27 G (f_X12_groups_j91 G) f p (nI sn) (nI c) (nI gg) (nI (i + 1)) (wr ρ 0 0 (nI 0))
        simp (disch := omega) only [lit, neg1, nI_1, nI_add, pk_mul, pk_sub, nI_leI, nI_ltI, nI_eq, nI_eqm, chkn, ixn, if_pos, if_neg, bndV_s, bndE_s, bndO_s, reduceIte, irmn, iminn, imaxn, and_self, true_and, and_true, false_and, and_false, f_X12_groups_L27, e6', hh2, f_X12_groups_j85]) W G G 0 (nI (2 ^ W - 1), nI 0, nI 0) (nI 0, nI 0, nI 0) (by omega) (by omega) (by omega) ⟨2 ^ W - 1, 0, 0, 0, by have := Nat.pow_le_pow_right (n := 2) (by decide) hW; omega, by omega, by omega, rfl, rfl, fun i => by rw [Nat.testBit_two_pow_sub_one]; simp⟩
  obtain ⟨g2, ⟨a1, a2, a3⟩, k3, k4⟩ := loopI (fun g v (x : Int32 × Int32 × Int32) => f_X11_groups_L16 G μ (f_X11_groups_j76 G μ) g p x.1 x.2.1 x.2.2 v) 12 (fun k x => W ≤ k ∧ x = (nI l, nI c, nI gg)) (by
    rintro g i x hi ⟨h1, rfl⟩
    have bt : l.testBit i = false := by
      cases hx : l.testBit i
      · rfl
      · have := (q6 i).mp hx; omega
    have hh := hasn (a := l) (w := i) (by omega) (by omega)
    rw [bt, if_neg (by decide)] at hh
    refine ⟨_, ?_, by omega, rfl⟩
    show f_X11_groups_L16 G μ (f_X11_groups_j76 G μ) (g + 1) p (nI l) (nI c) (nI gg) (nI i) = f_X11_groups_L16 G μ (f_X11_groups_j76 G μ) g p (nI l) (nI c) (nI gg) (nI (i + 1))
    simp (disch := omega) only [lit, neg1, nI_1, nI_add, pk_mul, pk_sub, nI_leI, nI_ltI, nI_eq, nI_eqm, chkn, ixn, if_pos, if_neg, bndV_s, bndE_s, bndO_s, reduceIte, irmn, iminn, imaxn, and_self, true_and, and_true, false_and, and_false, f_X11_groups_L16, hh, f_X11_groups_j70]) (12 - W) (G - W) W (nI l, nI c, nI gg) (by omega) (by omega) ⟨Nat.le_refl _, rfl⟩
  have ek := k4.2
  have fin : f_X11_groups G μ p = f_X11_groups_j76 G μ p (nI c) (nI gg) := by
    unfold f_X11_groups
    rw [all]
    refine Eq.trans k1 (Eq.trans k3 ?_)
    rw [ek]
    show f_X11_groups_L16 G μ (f_X11_groups_j76 G μ) (g2 + 1) p (nI l) (nI c) (nI gg) (nI 12) = _
    simp (disch := omega) only [lit, neg1, nI_1, nI_add, pk_mul, pk_sub, nI_leI, nI_ltI, nI_eq, nI_eqm, chkn, ixn, if_pos, if_neg, bndV_s, bndE_s, bndO_s, reduceIte, irmn, iminn, imaxn, and_self, true_and, and_true, false_and, and_false, f_X11_groups_L16]
  obtain ⟨f2, hf2⟩ : ∃ f2, G - W = f2 + 1 := ⟨G - W - 1, by omega⟩
  have fin2 : f_X12_groups_L27 G (f_X12_groups_j91 G) G p 0 0 0 0 (wr ρ 0 0 (nI 0)) = f_X12_groups_j91 G p (nI c) (nI gg) (wr ρ 0 0 (nI 0)) := by
    refine Eq.trans k2 ?_
    show f_X12_groups_L27 G (f_X12_groups_j91 G) (G - W) p (nI sn) (nI c) (nI gg) (nI W) (wr ρ 0 0 (nI 0)) = _
    rw [hf2]
    simp (disch := omega) only [lit, neg1, nI_1, nI_add, pk_mul, pk_sub, nI_leI, nI_ltI, nI_eq, nI_eqm, chkn, ixn, if_pos, if_neg, bndV_s, bndE_s, bndO_s, reduceIte, irmn, iminn, imaxn, and_self, true_and, and_true, false_and, and_false, f_X12_groups_L27, e6']
  rw [fin]
  have fin3 : f_X12_groups_L27 G (f_X12_groups_j91 G) G p (nI 0) (nI 0) (nI 0) (nI 0) (wr ρ 0 0 (nI 0)) = f_X12_groups_j91 G p (nI c) (nI gg) (wr ρ 0 0 (nI 0)) := fin2
  by_cases p0 : p = nI 0
  · subst p0
    exact no_r h (r := nI c) (by simp (disch := omega) only [lit, neg1, nI_1, nI_add, pk_mul, pk_sub, nI_leI, nI_ltI, nI_eq, nI_eqm, chkn, ixn, if_pos, if_neg, bndV_s, bndE_s, bndO_s, reduceIte, irmn, iminn, imaxn, and_self, true_and, and_true, false_and, and_false, f_X11_groups_j76]) (by simp (disch := omega) only [lit, neg1, nI_1, nI_add, pk_mul, pk_sub, nI_leI, nI_ltI, nI_eq, nI_eqm, chkn, ixn, if_pos, if_neg, bndV_s, bndE_s, bndO_s, reduceIte, irmn, iminn, imaxn, and_self, true_and, and_true, false_and, and_false, f_X12_groups, isI, fin3, f_X12_groups_j91])
  by_cases p1 : p = nI 1
  · subst p1
    exact no_r h (r := nI gg) (by simp (disch := omega) only [lit, neg1, nI_1, nI_add, pk_mul, pk_sub, nI_leI, nI_ltI, nI_eq, nI_eqm, chkn, ixn, if_pos, if_neg, bndV_s, bndE_s, bndO_s, reduceIte, irmn, iminn, imaxn, and_self, true_and, and_true, false_and, and_false, f_X11_groups_j76]) (by simp (disch := omega) only [lit, neg1, nI_1, nI_add, pk_mul, pk_sub, nI_leI, nI_ltI, nI_eq, nI_eqm, chkn, ixn, if_pos, if_neg, bndV_s, bndE_s, bndO_s, reduceIte, irmn, iminn, imaxn, and_self, true_and, and_true, false_and, and_false, f_X12_groups, isI, fin3, f_X12_groups_j91])
  have hp : ¬ (nI 0 ≤ p ∧ p ≤ nI 1) := by
    rintro ⟨c1, c2⟩
    obtain ⟨k, hk, rfl⟩ := in_of 1 rfl (by omega) c1 c2
    rcases (by omega : k = 0 ∨ k = 1) with e | e <;> subst e <;> contradiction
  exact no_r h (r := nI 4294967295) (by simp (disch := omega) only [lit, neg1, nI_1, nI_add, pk_mul, pk_sub, nI_leI, nI_ltI, nI_eq, nI_eqm, chkn, ixn, if_pos, if_neg, bndV_s, bndE_s, bndO_s, reduceIte, irmn, iminn, imaxn, and_self, true_and, and_true, false_and, and_false, f_X11_groups_j76, p0, p1]) (by simp (disch := omega) only [lit, neg1, nI_1, nI_add, pk_mul, pk_sub, nI_leI, nI_ltI, nI_eq, nI_eqm, chkn, ixn, if_pos, if_neg, bndV_s, bndE_s, bndO_s, reduceIte, irmn, iminn, imaxn, and_self, true_and, and_true, false_and, and_false, f_X12_groups, isI, hp])
end
