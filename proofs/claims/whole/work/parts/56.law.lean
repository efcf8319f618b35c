section
/-! what THE LAW tells: the two stacks -/
def StkT : List Nat → (Nat → Int32) → Prop
  | [], _ => True
  | x :: S, st => (x = 1 → st S.length = 0 ∨ st S.length = 1) ∧ (x = 2 → st S.length ≠ 0) ∧ StkT S st
theorem StkT_up {S : List Nat} {st st' : Nat → Int32} (h : StkT S st) (h2 : ∀ j, j < S.length → st' j = st j) : StkT S st' := by
  induction S with
  | nil => trivial
  | cons x S ih =>
    obtain ⟨a, b, c⟩ := h
    refine ⟨?_, ?_, ih c (fun j hj => h2 j (by simp; omega))⟩
    · rw [h2 _ (by simp)]; exact a
    · rw [h2 _ (by simp)]; exact b
theorem nIw {n : Nat} (h : 4294967296 ≤ n) : nI n = nI (n - 4294967296) := by
  unfold nI
  apply Int32.toBitVec_inj.mp
  show BitVec.ofNat 32 n = BitVec.ofNat 32 (n - 4294967296)
  apply BitVec.eq_of_toNat_eq
  rw [BitVec.toNat_ofNat, BitVec.toNat_ofNat]
  omega
theorem two_eq {G : Nat} {μ ρ : Mem} {t o a x y : Int32} {u v : Nat} {S S' : List Nat} (hc : CdR t o a) (ht : tst o a (u :: v :: S) = some S') (h0 : o ≠ 0) (h1 : o ≠ 1) (h9 : o ≠ 9)
    (hx1 : v = 1 → x = 0 ∨ x = 1) (hy1 : u = 1 → y = 0 ∨ y = 1) (hy2 : u = 2 → y ≠ 0) :
    ∃ w z, f_X1_joined G μ t x y = some w ∧ f_X12_twoOf G ρ o x y = some w ∧ S' = z :: S ∧ (z = 1 → w = 0 ∨ w = 1) ∧ z ≠ 2 ∧ f_X10_isNumber t = 0 ∧ f_X10_isName t = 0 ∧ t ≠ 10006 := by
  rcases hc with ⟨n, _, _, q, _⟩ | ⟨n, _, _, q, _⟩ | ⟨rfl, rfl⟩ | ⟨rfl, rfl⟩ | ⟨rfl, rfl⟩ | ⟨rfl, rfl⟩ | ⟨rfl, rfl⟩ | ⟨rfl, rfl⟩ | ⟨rfl, rfl⟩ | ⟨rfl, q⟩ | ⟨rfl, rfl⟩ | ⟨rfl, rfl⟩
  · exact absurd q h0
  · exact absurd q h1
  · refine ⟨x + y, 0, rfl, rfl, ?_, fun q => absurd q (by decide), by decide, by decide, by decide, by decide⟩
    simp [tst] at ht; exact ht.2.symm
  · refine ⟨x - y, 0, rfl, rfl, ?_, fun q => absurd q (by decide), by decide, by decide, by decide, by decide⟩
    simp [tst] at ht; exact ht.2.symm
  · refine ⟨x * y, 0, rfl, rfl, ?_, fun q => absurd q (by decide), by decide, by decide, by decide, by decide⟩
    simp [tst] at ht; exact ht.2.symm
  · have hu : u = 2 ∧ S' = 0 :: S := by
      match u, ht with
      | 2, ht => simp [tst] at ht; exact ⟨rfl, ht.2.symm⟩
      | 0, ht => simp [tst] at ht
      | 1, ht => simp [tst] at ht
      | k + 3, ht => simp [tst] at ht
    have hy := hy2 hu.1
    refine ⟨x / y, 0, ?_, ?_, hu.2, fun q => absurd q (by decide), by decide, by decide, by decide, by decide⟩
    · simp [f_X1_joined, hy, dvkn hy]
    · simp [f_X12_twoOf, dvkn hy]
  · refine ⟨if y ≤ x then 0 else 1, 1, ?_, ?_, ?_, by intro _; split <;> simp, by decide, by decide, by decide, by decide⟩
    · simp [f_X1_joined]; split <;> rfl
    · simp [f_X12_twoOf]; split <;> rfl
    · simp [tst] at ht; exact ht.2.symm
  · refine ⟨if x = y then 1 else 0, 1, ?_, ?_, ?_, by intro _; split <;> simp, by decide, by decide, by decide, by decide⟩
    · simp [f_X1_joined]; split <;> rfl
    · simp [f_X12_twoOf]; split <;> rfl
    · simp [tst] at ht; exact ht.2.symm
  · refine ⟨if x ≤ y then 0 else 1, 1, ?_, ?_, ?_, by intro _; split <;> simp, by decide, by decide, by decide, by decide⟩
    · simp [f_X1_joined]; split <;> rfl
    · simp [f_X12_twoOf]; split <;> rfl
    · simp [tst] at ht; exact ht.2.symm
  · exact absurd q h9
  · have hu : u = 1 ∧ v = 1 ∧ S' = 1 :: S := by
      match u, v, ht with
      | 1, 1, ht => simp [tst] at ht; exact ⟨rfl, rfl, ht.symm⟩
      | 0, _, ht => simp [tst] at ht
      | k + 2, _, ht => simp [tst] at ht
      | 1, 0, ht => simp [tst] at ht
      | 1, k + 2, ht => simp [tst] at ht
    rcases hx1 hu.2.1 with rfl | rfl <;> rcases hy1 hu.1 with rfl | rfl <;> exact ⟨_, 1, rfl, rfl, hu.2.2, fun _ => by decide, by decide, by decide, by decide, by decide⟩
  · have hu : u = 1 ∧ v = 1 ∧ S' = 1 :: S := by
      match u, v, ht with
      | 1, 1, ht => simp [tst] at ht; exact ⟨rfl, rfl, ht.symm⟩
      | 0, _, ht => simp [tst] at ht
      | k + 2, _, ht => simp [tst] at ht
      | 1, 0, ht => simp [tst] at ht
      | 1, k + 2, ht => simp [tst] at ht
    rcases hx1 hu.2.1 with rfl | rfl <;> rcases hy1 hu.1 with rfl | rfl <;> exact ⟨_, 1, rfl, rfl, hu.2.2, fun _ => by decide, by decide, by decide, by decide, by decide⟩
theorem tst0 {a : Int32} {S S' : List Nat} (h : tst 0 a S = some S') : S.length < 40 ∧ S' = (if a = 0 then 0 else 2) :: S := by
  simp [tst] at h
  exact ⟨h.1, h.2.symm⟩
theorem tst1 {a : Int32} {S S' : List Nat} (h : tst 1 a S = some S') : S.length < 40 ∧ S' = 0 :: S := by
  simp [tst] at h
  exact ⟨h.1, h.2.symm⟩
theorem tst9 {a : Int32} {S S' : List Nat} (h : tst 9 a S = some S') : ∃ T, S = 1 :: T ∧ S' = 1 :: T := by
  match S, h with
  | [], h => simp [tst] at h
  | 0 :: T, h => simp [tst] at h
  | 1 :: T, h => simp [tst] at h; exact ⟨T, rfl, h.symm⟩
  | (k + 2) :: T, h => simp [tst] at h
theorem tst2 {o a : Int32} {S S' : List Nat} (h : tst o a S = some S') (h0 : o ≠ 0) (h1 : o ≠ 1) (h9 : o ≠ 9) : ∃ u v T, S = u :: v :: T := by
  match S, h with
  | [], h =>
    exfalso
    unfold tst at h
    rw [if_neg h0, if_neg h1, if_neg h9] at h
    split at h
    · cases h
    · split at h
      · cases h
      · split at h
        · cases h
        · split at h <;> cases h
  | [u], h =>
    exfalso
    unfold tst at h
    rw [if_neg h0, if_neg h1, if_neg h9] at h
    split at h
    · split at h <;> simp_all
    · split at h
      · split at h <;> simp_all
      · split at h
        · cases h
        · split at h <;> cases h
  | u :: v :: T, h => exact ⟨u, v, T, rfl⟩
theorem run_sim {G : Nat} (hG : 2 ≤ G) (kk : Int32 → Mem → Option (Int32 × Mem)) : ∀ (n i : Nat) (S S' : List Nat) (μ ρ : Mem) (g f : Nat), trn (ρ 17) (ρ 18) n i S = some S' → (∀ k, i ≤ k → k < i + n → CdR (μ 14 k) (ρ 17 k) (ρ 18 k)) → i + n ≤ 400 → (∀ k, k < 11 → μ 94 k = ρ 23 k) →
    (∀ j, j < S.length → μ 19 j = ρ 24 j) → StkT S (ρ 24) → S.length ≤ 40 → n < g → n < f →
    ∃ μ' ρ', f_X1_run_L10 G kk g (nI (i + n)) (nI S.length) (nI i) μ = kk (nI S'.length) μ' ∧ f_X12_runs_L12 G f (nI 0) (nI (i + n)) (nI S.length) (nI i) ρ = some (ρ' 24 0, ρ') ∧ (∀ x, x ≠ 19 → μ' x = μ x) ∧ (∀ x, x ≠ 24 → ρ' x = ρ x) ∧ (∀ j, j < S'.length → μ' 19 j = ρ' 24 j) ∧ StkT S' (ρ' 24) := by
  intro n
  induction n with
  | zero =>
    intro i S S' μ ρ g f ht hc hi hv hs hT hl hg hf
    obtain ⟨g, rfl⟩ : ∃ q, g = q + 1 := ⟨g - 1, by omega⟩
    obtain ⟨f, rfl⟩ : ∃ q, f = q + 1 := ⟨f - 1, by omega⟩
    simp only [trn, Option.some.injEq] at ht
    subst ht
    refine ⟨μ, ρ, ?_, ?_, fun _ _ => rfl, fun _ _ => rfl, hs, hT⟩
    · simp (disch := omega) only [lit, neg1, nI_1, nI_add, pk_mul, pk_sub, nI_leI, nI_ltI, nI_eq, nI_eqm, chkn, ixn, if_pos, if_neg, bndV_s, bndE_s, bndO_s, reduceIte, irmn, iminn, imaxn, f_X1_run_L10, Nat.add_zero]
    · simp (disch := omega) only [lit, neg1, nI_1, nI_add, pk_mul, pk_sub, nI_leI, nI_ltI, nI_eq, nI_eqm, chkn, ixn, if_pos, if_neg, bndV_s, bndE_s, bndO_s, reduceIte, irmn, iminn, imaxn, f_X12_runs_L12, Nat.add_zero, Nat.mul_zero, Nat.zero_add]
  | succ n ih =>
    intro i S S' μ ρ g f ht hc hi hv hs hT hl hg hf
    obtain ⟨g, rfl⟩ : ∃ q, g = q + 1 := ⟨g - 1, by omega⟩
    obtain ⟨f, rfl⟩ : ∃ q, f = q + 1 := ⟨f - 1, by omega⟩
    simp only [trn] at ht
    obtain ⟨S1, ht1, ht2⟩ := Option.bind_eq_some_iff.mp ht
    have hci := hc i (by omega) (by omega)
    have go : ∀ (μ1 ρ1 : Mem) (S1 : List Nat), trn (ρ 17) (ρ 18) n (i + 1) S1 = some S' → (∀ x, x ≠ 19 → μ1 x = μ x) → (∀ x, x ≠ 24 → ρ1 x = ρ x) → (∀ j, j < S1.length → μ1 19 j = ρ1 24 j) → StkT S1 (ρ1 24) → S1.length ≤ 40 →
        ∃ μ' ρ', f_X1_run_L10 G kk g (nI (i + (n + 1))) (nI S1.length) (nI (i + 1)) μ1 = kk (nI S'.length) μ' ∧ f_X12_runs_L12 G f (nI 0) (nI (i + (n + 1))) (nI S1.length) (nI (i + 1)) ρ1 = some (ρ' 24 0, ρ') ∧ (∀ x, x ≠ 19 → μ' x = μ x) ∧ (∀ x, x ≠ 24 → ρ' x = ρ x) ∧ (∀ j, j < S'.length → μ' 19 j = ρ' 24 j) ∧ StkT S' (ρ' 24) := by
      intro μ1 ρ1 S1 q1 q2 q3 q4 q5 q6
      obtain ⟨μ', ρ', r1, r2, r3, r4, r5, r6⟩ := ih (i + 1) S1 S' μ1 ρ1 g f (by rw [q3 17 (by omega), q3 18 (by omega)]; exact q1) (fun k k1 k2 => by rw [q2 14 (by omega), q3 17 (by omega), q3 18 (by omega)]; exact hc k (by omega) (by omega)) (by omega) (fun k hk => by rw [q2 94 (by omega), q3 23 (by omega)]; exact hv k hk) q4 q5 q6 (by omega) (by omega)
      rw [show i + 1 + n = i + (n + 1) by omega] at r1 r2
      exact ⟨μ', ρ', r1, r2, fun x hx => by rw [r3 x hx, q2 x hx], fun x hx => by rw [r4 x hx, q3 x hx], r5, r6⟩
    by_cases h0 : ρ 17 i = 0
    · rw [h0] at ht1
      obtain ⟨hl2, rfl⟩ := tst0 ht1
      obtain ⟨m, hm, e1, e2⟩ : ∃ m, m < 10000 ∧ μ 14 i = nI m ∧ ρ 18 i = nI m := by
        rcases hci with ⟨n, a, b, _, c⟩ | ⟨n, _, _, q, _⟩ | ⟨_, q⟩ | ⟨_, q⟩ | ⟨_, q⟩ | ⟨_, q⟩ | ⟨_, q⟩ | ⟨_, q⟩ | ⟨_, q⟩ | ⟨_, q⟩ | ⟨_, q⟩ | ⟨_, q⟩
        · exact ⟨n, a, b, c⟩
        all_goals (rw [h0] at q; exact absurd q (by decide))
      have hneg : nI m - nI 10007 < nI 0 := pk_sneg (by omega) (by omega)
      have hT1 : StkT ((if ρ 18 i = 0 then 0 else 2) :: S) (wr ρ 24 S.length (nI m) 24) := by
        refine ⟨?_, ?_, StkT_up hT (fun j hj => by rw [wr_slot (by omega)])⟩
        · intro q
          split at q <;> cases q
        · intro q
          rw [wr_same]
          split at q
          · cases q
          · rename_i k
            rw [← e2]
            exact k
      obtain ⟨μ', ρ', r1, r2, r3⟩ := go (wr μ 19 S.length (nI m)) (wr ρ 24 S.length (nI m)) _ ht2 (fun x hx => wr_off hx) (fun x hx => wr_off hx) (fun j hj => by
          by_cases e : j = S.length
          · subst e; rw [wr_same, wr_same]
          · rw [wr_slot e, wr_slot e]; exact hs j (by simp at hj; omega)) hT1 (by simp; omega)
      refine ⟨μ', ρ', ?_, ?_, r3⟩
      · rw [← r1]
        simp (disch := omega) only [lit, neg1, nI_1, nI_add, pk_mul, pk_sub, nI_leI, nI_ltI, nI_eq, nI_eqm, chkn, ixn, if_pos, if_neg, bndV_s, bndE_s, bndO_s, reduceIte, irmn, iminn, imaxn, f_X1_run_L10, e1, f_X10_isNumber, f_X1_run_j49, hneg, f_X1_run_j89, f_X1_run_j91, f_X1_run_j187, List.length_cons]
      · rw [← r2]
        simp (disch := omega) only [lit, neg1, nI_1, nI_add, pk_mul, pk_sub, nI_leI, nI_ltI, nI_eq, nI_eqm, chkn, ixn, if_pos, if_neg, bndV_s, bndE_s, bndO_s, reduceIte, irmn, iminn, imaxn, f_X12_runs_L12, h0, e2, f_X12_runs_j45, f_X12_runs_j83, f_X12_runs_j170, List.length_cons, Nat.mul_zero, Nat.zero_add]
    by_cases h1 : ρ 17 i = 1
    · rw [h1] at ht1
      obtain ⟨hl2, rfl⟩ := tst1 ht1
      obtain ⟨m, hm, e1, e2⟩ : ∃ m, m < 11 ∧ μ 14 i = nI (10007 + m) ∧ ρ 18 i = nI m := by
        rcases hci with ⟨n, _, _, q, _⟩ | ⟨n, a, b, _, c⟩ | ⟨_, q⟩ | ⟨_, q⟩ | ⟨_, q⟩ | ⟨_, q⟩ | ⟨_, q⟩ | ⟨_, q⟩ | ⟨_, q⟩ | ⟨_, q⟩ | ⟨_, q⟩ | ⟨_, q⟩
        · rw [h1] at q; exact absurd q (by decide)
        · exact ⟨n, a, b, c⟩
        all_goals (rw [h1] at q; exact absurd q (by decide))
      obtain ⟨μ', ρ', r1, r2, r3⟩ := go (wr μ 19 S.length (ρ 23 m)) (wr ρ 24 S.length (ρ 23 m)) _ ht2 (fun x hx => wr_off hx) (fun x hx => wr_off hx) (fun j hj => by
          by_cases e : j = S.length
          · subst e; rw [wr_same, wr_same]
          · rw [wr_slot e, wr_slot e]; exact hs j (by simp at hj; omega)) ⟨fun q => absurd q (by decide), fun q => absurd q (by decide), StkT_up hT (fun j hj => by rw [wr_slot (by omega)])⟩ (by simp; omega)
      have e3 : nI (10007 + m) - nI 10007 = nI m := by rw [pk_sub (by omega), show 10007 + m - 10007 = m by omega]
      refine ⟨μ', ρ', ?_, ?_, r3⟩
      · rw [← r1]
        simp (disch := omega) only [lit, neg1, nI_1, nI_add, pk_mul, pk_sub, nI_leI, nI_ltI, nI_eq, nI_eqm, chkn, ixn, if_pos, if_neg, bndV_s, bndE_s, bndO_s, reduceIte, irmn, iminn, imaxn, f_X1_run_L10, e1, f_X10_isNumber, f_X10_isName, f_X1_run_j49, e3, hv, f_X1_run_j91, f_X1_run_j187, List.length_cons, Nat.add_sub_cancel_left]
      · rw [← r2]
        simp (disch := omega) only [lit, neg1, nI_1, nI_add, pk_mul, pk_sub, nI_leI, nI_ltI, nI_eq, nI_eqm, chkn, ixn, if_pos, if_neg, bndV_s, bndE_s, bndO_s, reduceIte, irmn, iminn, imaxn, f_X12_runs_L12, h1, e2, f_X12_runs_j45, f_X12_runs_j83, f_X12_runs_j170, List.length_cons, Nat.mul_zero, Nat.zero_add]
    by_cases h9 : ρ 17 i = 9
    · rw [h9] at ht1
      obtain ⟨T, rfl, rfl⟩ := tst9 ht1
      have e1 : μ 14 i = 10006 := by
        rcases hci with ⟨n, _, _, q, _⟩ | ⟨n, _, _, q, _⟩ | ⟨_, q⟩ | ⟨_, q⟩ | ⟨_, q⟩ | ⟨_, q⟩ | ⟨_, q⟩ | ⟨_, q⟩ | ⟨_, q⟩ | ⟨c, q⟩ | ⟨_, q⟩ | ⟨_, q⟩
        all_goals (first | exact c | (rw [h9] at q; exact absurd q (by decide)))
      have hb : ρ 24 T.length = 0 ∨ ρ 24 T.length = 1 := hT.1 rfl
      have hs0 := hs T.length (by simp)
      have hT1 : StkT (1 :: T) (wr ρ 24 T.length (1 - ρ 24 T.length) 24) := by
        refine ⟨?_, fun q => absurd q (by decide), StkT_up hT.2.2 (fun j hj => by rw [wr_slot (by omega)])⟩
        intro _
        rw [wr_same]
        rcases hb with e | e <;> rw [e] <;> decide
      obtain ⟨μ', ρ', r1, r2, r3⟩ := go (wr μ 19 T.length (1 - ρ 24 T.length)) (wr ρ 24 T.length (1 - ρ 24 T.length)) _ ht2 (fun x hx => wr_off hx) (fun x hx => wr_off hx) (fun j hj => by
          by_cases e : j = T.length
          · subst e; rw [wr_same, wr_same]
          · rw [wr_slot e, wr_slot e]; exact hs j hj) hT1 hl
      simp only [List.length_cons] at hl
      refine ⟨μ', ρ', ?_, ?_, r3⟩
      · rw [← r1]
        simp (disch := omega) only [lit, neg1, nI_1, nI_add, pk_mul, pk_sub, nI_leI, nI_ltI, nI_eq, nI_eqm, chkn, ixn, if_pos, if_neg, bndV_s, bndE_s, bndO_s, reduceIte, irmn, iminn, imaxn, f_X1_run_L10, e1, f_X10_isNumber, f_X10_isName, f_X1_run_j187, List.length_cons, Nat.add_sub_cancel, hs0]
      · rw [← r2]
        simp (disch := omega) only [lit, neg1, nI_1, nI_add, pk_mul, pk_sub, nI_leI, nI_ltI, nI_eq, nI_eqm, chkn, ixn, if_pos, if_neg, bndV_s, bndE_s, bndO_s, reduceIte, irmn, iminn, imaxn, f_X12_runs_L12, h9, f_X12_runs_j170, List.length_cons, Nat.mul_zero, Nat.zero_add, Nat.add_sub_cancel]
    obtain ⟨u, v, T, rfl⟩ := tst2 ht1 h0 h1 h9
    obtain ⟨t1, t2, t3⟩ := hT
    obtain ⟨t4, t5, t6⟩ := t3
    obtain ⟨w, z, w1, w2, rfl, w4, w5, w6, w7, w8⟩ := two_eq (G := G) (μ := μ) (ρ := ρ) hci ht1 h0 h1 h9 (x := ρ 24 T.length) (y := ρ 24 (T.length + 1)) t4 t1 t2
    have hs0 := hs T.length (by simp; omega)
    have hs1 := hs (T.length + 1) (by simp)
    obtain ⟨μ', ρ', r1, r2, r3⟩ := go (wr μ 19 T.length w) (wr ρ 24 T.length w) _ ht2 (fun x hx => wr_off hx) (fun x hx => wr_off hx) (fun j hj => by
        by_cases e : j = T.length
        · subst e; rw [wr_same, wr_same]
        · rw [wr_slot e, wr_slot e]; exact hs j (by simp at hj ⊢; omega)) ⟨fun q => by rw [wr_same]; exact w4 q, fun q => absurd q w5, StkT_up t6 (fun j hj => by rw [wr_slot (by omega)])⟩ (by simp at hl ⊢; omega)
    simp only [List.length_cons] at hl
    have h0' : ¬ ρ 17 i = nI 0 := h0
    have h1' : ¬ ρ 17 i = nI 1 := h1
    have h9' : ¬ ρ 17 i = nI 9 := h9
    have w6' : f_X10_isNumber (μ 14 i) = nI 0 := w6
    have w7' : f_X10_isName (μ 14 i) = nI 0 := w7
    have w8' : ¬ μ 14 i = nI 10006 := w8
    have m1 : nI (T.length + 1 + 1) + nI 4294967295 = nI (T.length + 1) := by rw [nI_add, nIw (by omega), show T.length + 1 + 1 + 4294967295 - 4294967296 = T.length + 1 by omega]
    refine ⟨μ', ρ', ?_, ?_, r3⟩
    · rw [← r1]
      simp (disch := omega) only [lit, neg1, nI_1, pk_mul, pk_sub, nI_leI, nI_ltI, nI_eq, nI_eqm, chkn, ixn, if_pos, if_neg, bndV_s, bndE_s, bndO_s, reduceIte, irmn, iminn, imaxn, f_X1_run_L10, w6', w7', w8', f_X1_run_j187, List.length_cons, m1, Nat.add_sub_cancel, hs0, hs1, w1]
      rw [nI_add]
    · rw [← r2]
      simp (disch := omega) only [lit, neg1, nI_1, nI_add, pk_mul, pk_sub, nI_leI, nI_ltI, nI_eq, nI_eqm, chkn, ixn, if_pos, if_neg, bndV_s, bndE_s, bndO_s, reduceIte, irmn, iminn, imaxn, f_X12_runs_L12, h0', h1', h9', f_X12_runs_j170, List.length_cons, Nat.mul_zero, Nat.zero_add, Nat.add_sub_cancel, w2]
theorem run_ok {G f w : Nat} {x : Nat} {μ ρ : Mem} (hG : 500 ≤ G) (hfw : f ≤ w) (hw : w ≤ 400) (ht : trn (ρ 17) (ρ 18) (w - f) f [] = some [x]) (hc : ∀ i, f ≤ i → i < w → CdR (μ 14 i) (ρ 17 i) (ρ 18 i)) (hv : ∀ k, k < 11 → μ 94 k = ρ 23 k) :
    ∃ v μ' ρ', f_X1_run G (nI f) (nI w) μ = some (v, μ') ∧ f_X12_runs G (nI 0) (nI f) (nI w) ρ = some (v, ρ') ∧ (∀ x, x ≠ 19 → μ' x = μ x) ∧ (∀ x, x ≠ 24 → ρ' x = ρ x) := by
  obtain ⟨μ', ρ', r1, r2, r3, r4, r5, r6⟩ := run_sim (G := G) (by omega) (f_X1_run_j193 G) (w - f) f [] [x] μ ρ G G ht (fun k h1 h2 => hc k h1 (by omega)) (by omega) hv (fun j hj => absurd hj (by simp)) trivial (by simp) (by omega) (by omega)
  rw [show f + (w - f) = w by omega] at r1 r2
  refine ⟨ρ' 24 0, μ', ρ', ?_, ?_, r3, r4⟩
  · unfold f_X1_run
    rw [show imax 0 (nI f) = nI f by rw [show (0 : Int32) = nI 0 from rfl, imaxn (by omega) (by omega), show max 0 f = f by omega]]
    refine Eq.trans r1 ?_
    rw [← r5 0 (by simp)]
    rfl
  · unfold f_X12_runs
    rw [show (400 : Int32) * nI 0 + nI f = nI f by simp only [lit, pk_mul, nI_add, Nat.mul_zero, Nat.zero_add]]
    exact r2
theorem law_sim {G e : Nat} {p lo hi : Int32} {μ ρ : Mem} (hG : 500 ≤ G) (he : e < 3) (hL : LwR 1 μ ρ) (hv : ∀ k, k < 11 → μ 94 k = ρ 23 k) :
    ∃ v μ' ρ', f_X1_reckon G (nI (10000 + e)) p μ = some (v, μ') ∧ f_X12_lawTells G (nI e) p lo hi ρ = some (f_X12_held v lo hi, ρ') ∧ (∀ x, x ≠ 19 → μ' x = μ x) ∧ (∀ x, x ≠ 24 → ρ' x = ρ x) := by
  obtain ⟨n, hn, h1, h2, h3⟩ := hL
  have key : ∀ (m l g f : Nat) (μ1 ρ1 : Mem), l + m = n → m < g → m < f → (∀ x, x ≠ 19 → μ1 x = μ x) → (∀ x, x ≠ 24 → ρ1 x = ρ x) →
      ∃ v μ' ρ', f_X1_reckon_L3 G g (nI (10000 + e)) p (nI l) μ1 = some (v, μ') ∧ (∀ x, x ≠ 19 → μ' x = μ x) ∧ (∀ x, x ≠ 24 → ρ' x = ρ x) ∧
        ((f_X12_lineOf_L2 G f (nI e) (nI l) ρ1 = some (-1, ρ') ∧ v = p) ∨ ∃ j ρ2 a b, j < 16 ∧ ρ2 14 j = nI a ∧ ρ2 15 j = nI b ∧ f_X12_lineOf_L2 G f (nI e) (nI l) ρ1 = some (nI j, ρ2) ∧ f_X12_runs G (nI 0) (nI a) (nI b) ρ2 = some (v, ρ')) := by
    intro m
    induction m with
    | zero =>
      intro l g f μ1 ρ1 hl hg hf q1 q2
      obtain ⟨g, rfl⟩ : ∃ q, g = q + 1 := ⟨g - 1, by omega⟩
      obtain ⟨f, rfl⟩ : ∃ q, f = q + 1 := ⟨f - 1, by omega⟩
      have a1 : μ1 13 6 = nI n := by rw [q1 13 (by omega)]; exact h1
      have a2 : ρ1 12 0 = nI n := by rw [q2 12 (by omega)]; exact h2
      exact ⟨p, μ1, ρ1, by simp (disch := omega) only [lit, neg1, nI_1, nI_add, pk_mul, pk_sub, nI_leI, nI_ltI, nI_eq, nI_eqm, chkn, ixn, if_pos, if_neg, bndV_s, bndE_s, bndO_s, reduceIte, irmn, iminn, imaxn, f_X1_reckon_L3, a1], q1, q2, Or.inl ⟨by simp (disch := omega) only [lit, neg1, nI_1, nI_add, pk_mul, pk_sub, nI_leI, nI_ltI, nI_eq, nI_eqm, chkn, ixn, if_pos, if_neg, bndV_s, bndE_s, bndO_s, reduceIte, irmn, iminn, imaxn, f_X12_lineOf_L2, a2], rfl⟩⟩
    | succ m ih =>
      intro l g f μ1 ρ1 hl hg hf q1 q2
      obtain ⟨g, rfl⟩ : ∃ q, g = q + 1 := ⟨g - 1, by omega⟩
      obtain ⟨f, rfl⟩ : ∃ q, f = q + 1 := ⟨f - 1, by omega⟩
      have a1 : μ1 13 6 = nI n := by rw [q1 13 (by omega)]; exact h1
      have a2 : ρ1 12 0 = nI n := by rw [q2 12 (by omega)]; exact h2
      obtain ⟨e', a, b, t, c1, c2, c3, c4, c5, c6, c7, c8, c9, ⟨d1, d2, d3, ⟨x, d4, d4'⟩, d5⟩, d6⟩ := h3 l (by omega)
      have c2 : μ1 15 l = nI (10000 + e') := by rw [q1 15 (by omega)]; exact c2
      have c3 : ρ1 13 l = nI e' := by rw [q2 13 (by omega)]; exact c3
      have c4 : μ1 16 l = nI a := by rw [q1 16 (by omega)]; exact c4
      have c5 : ρ1 14 l = nI a := by rw [q2 14 (by omega)]; exact c5
      have c6 : μ1 17 l = nI b := by rw [q1 17 (by omega)]; exact c6
      have c7 : ρ1 15 l = nI b := by rw [q2 15 (by omega)]; exact c7
      have c8 : μ1 18 l = nI t := by rw [q1 18 (by omega)]; exact c8
      have c9 : ρ1 16 l = nI t := by rw [q2 16 (by omega)]; exact c9
      have hc : ∀ (μ2 ρ2 : Mem), (∀ x, x ≠ 19 → μ2 x = μ x) → (∀ x, x ≠ 24 → ρ2 x = ρ x) → (∀ i, a ≤ i → i < t → CdR (μ2 14 i) (ρ2 17 i) (ρ2 18 i)) ∧ (∀ k, k < 11 → μ2 94 k = ρ2 23 k) ∧ ρ2 17 = ρ 17 ∧ ρ2 18 = ρ 18 := by
        intro μ2 ρ2 g1 g2
        rw [g1 14 (by omega), g1 94 (by omega), g2 17 (by omega), g2 18 (by omega), g2 23 (by omega)]
        exact ⟨d6, hv, rfl, rfl⟩
      by_cases ee : e' = e
      · subst ee
        by_cases hbt : b = t
        · obtain ⟨k1, k2, k3, k4⟩ := hc μ1 ρ1 q1 q2
          obtain ⟨v, μ', ρ', r1, r2, r3, r4⟩ := run_ok hG d1 (by omega) (by rw [k3, k4]; exact d4) (fun i i1 i2 => k1 i i1 (by omega)) k2
          subst hbt
          refine ⟨v, μ', ρ', by simp (disch := omega) only [lit, neg1, nI_1, nI_add, pk_mul, pk_sub, nI_leI, nI_ltI, nI_eq, nI_eqm, chkn, ixn, if_pos, if_neg, bndV_s, bndE_s, bndO_s, reduceIte, irmn, iminn, imaxn, f_X1_reckon_L3, a1, c2, c4, c6, c8, r1], fun x hx => by rw [r3 x hx, q1 x hx], fun x hx => by rw [r4 x hx, q2 x hx], Or.inr ⟨l, ρ1, a, b, by omega, c5, c7, ?_, r2⟩⟩
          simp (disch := omega) only [lit, neg1, nI_1, nI_add, pk_mul, pk_sub, nI_leI, nI_ltI, nI_eq, nI_eqm, chkn, ixn, if_pos, if_neg, bndV_s, bndE_s, bndO_s, reduceIte, irmn, iminn, imaxn, f_X12_lineOf_L2, a2, c3, c7, c9]
        · obtain ⟨k1, k2, k3, k4⟩ := hc μ1 ρ1 q1 q2
          obtain ⟨v, μ2, ρ2, r1, r2, r3, r4⟩ := run_ok hG (show b ≤ t by omega) (by omega) (by rw [k3, k4]; exact d5 (by omega)) (fun i i1 i2 => k1 i (by omega) i2) k2
          have q1' : ∀ x, x ≠ 19 → μ2 x = μ x := fun x hx => by rw [r3 x hx, q1 x hx]
          have q2' : ∀ x, x ≠ 24 → ρ2 x = ρ x := fun x hx => by rw [r4 x hx, q2 x hx]
          by_cases hv0 : v = nI 0
          · subst hv0
            obtain ⟨v', μ', ρ', s1, s2, s3, s4⟩ := ih (l + 1) g f μ2 ρ2 (by omega) (by omega) (by omega) q1' q2'
            refine ⟨v', μ', ρ', ?_, s2, s3, ?_⟩
            · rw [← s1]
              simp (disch := omega) only [lit, neg1, nI_1, nI_add, pk_mul, pk_sub, nI_leI, nI_ltI, nI_eq, nI_eqm, chkn, ixn, if_pos, if_neg, bndV_s, bndE_s, bndO_s, reduceIte, irmn, iminn, imaxn, f_X1_reckon_L3, a1, c2, c4, c6, c8, r1, f_X1_reckon_j89]
            · have : f_X12_lineOf_L2 G (f + 1) (nI e') (nI l) ρ1 = f_X12_lineOf_L2 G f (nI e') (nI (l + 1)) ρ2 := by
                simp (disch := omega) only [lit, neg1, nI_1, nI_add, pk_mul, pk_sub, nI_leI, nI_ltI, nI_eq, nI_eqm, chkn, ixn, if_pos, if_neg, bndV_s, bndE_s, bndO_s, reduceIte, irmn, iminn, imaxn, f_X12_lineOf_L2, a2, c3, c7, c9, r2, f_X12_lineOf_j59]
              rw [this]
              exact s4
          · obtain ⟨k1, k2, k3, k4⟩ := hc μ2 ρ2 q1' q2'
            obtain ⟨v', μ3, ρ3, s1, s2, s3, s4⟩ := run_ok hG d1 (by omega) (by rw [k3, k4]; exact d4) (fun i i1 i2 => k1 i i1 (by omega)) k2
            have c4' : μ2 16 l = nI a := by rw [r3 16 (by omega), c4]
            have c6' : μ2 17 l = nI b := by rw [r3 17 (by omega), c6]
            have c5' : ρ2 14 l = nI a := by rw [r4 14 (by omega), c5]
            have c7' : ρ2 15 l = nI b := by rw [r4 15 (by omega), c7]
            refine ⟨v', μ3, ρ3, ?_, fun x hx => by rw [s3 x hx, q1' x hx], fun x hx => by rw [s4 x hx, q2' x hx], Or.inr ⟨l, ρ2, a, b, by omega, c5', c7', ?_, s2⟩⟩
            · simp (disch := omega) only [lit, neg1, nI_1, nI_add, pk_mul, pk_sub, nI_leI, nI_ltI, nI_eq, nI_eqm, chkn, ixn, if_pos, if_neg, bndV_s, bndE_s, bndO_s, reduceIte, irmn, iminn, imaxn, f_X1_reckon_L3, a1, c2, c4, c6, c8, r1, hv0, c4', c6', s1]
            · simp (disch := omega) only [lit, neg1, nI_1, nI_add, pk_mul, pk_sub, nI_leI, nI_ltI, nI_eq, nI_eqm, chkn, ixn, if_pos, if_neg, bndV_s, bndE_s, bndO_s, reduceIte, irmn, iminn, imaxn, f_X12_lineOf_L2, a2, c3, c7, c9, r2, hv0]
      · obtain ⟨v', μ', ρ', s1, s2, s3, s4⟩ := ih (l + 1) g f μ1 ρ1 (by omega) (by omega) (by omega) q1 q2
        refine ⟨v', μ', ρ', ?_, s2, s3, ?_⟩
        · rw [← s1]
          simp (disch := omega) only [lit, neg1, nI_1, nI_add, pk_mul, pk_sub, nI_leI, nI_ltI, nI_eq, nI_eqm, chkn, ixn, if_pos, if_neg, bndV_s, bndE_s, bndO_s, reduceIte, irmn, iminn, imaxn, f_X1_reckon_L3, a1, c2, f_X1_reckon_j89]
        · have : f_X12_lineOf_L2 G (f + 1) (nI e) (nI l) ρ1 = f_X12_lineOf_L2 G f (nI e) (nI (l + 1)) ρ1 := by
            simp (disch := omega) only [lit, neg1, nI_1, nI_add, pk_mul, pk_sub, nI_leI, nI_ltI, nI_eq, nI_eqm, chkn, ixn, if_pos, if_neg, bndV_s, bndE_s, bndO_s, reduceIte, irmn, iminn, imaxn, f_X12_lineOf_L2, a2, c3, f_X12_lineOf_j59]
          rw [this]
          exact s4
  obtain ⟨v, μ', ρ', s1, s2, s3, s4⟩ := key n 0 G G μ ρ (by omega) (by omega) (by omega) (fun _ _ => rfl) (fun _ _ => rfl)
  refine ⟨v, μ', ρ', s1, ?_, s2, s3⟩
  rcases s4 with ⟨t1, rfl⟩ | ⟨j, ρ2, a, b, hj, t1, t2, t3, t4⟩
  · unfold f_X12_lawTells
    rw [show f_X12_lineOf G (nI e) ρ = some (-1, ρ') from t1]
    simp (disch := omega) only [lit, neg1, nI_1, nI_add, pk_mul, pk_sub, nI_leI, nI_ltI, nI_eq, nI_eqm, chkn, ixn, if_pos, if_neg, bndV_s, bndE_s, bndO_s, reduceIte, irmn, iminn, imaxn]
  · unfold f_X12_lawTells
    rw [show f_X12_lineOf G (nI e) ρ = some (nI j, ρ2) from t3]
    simp (disch := omega) only [lit, neg1, nI_1, nI_add, pk_mul, pk_sub, nI_leI, nI_ltI, nI_eq, nI_eqm, chkn, ixn, if_pos, if_neg, bndV_s, bndE_s, bndO_s, reduceIte, irmn, iminn, imaxn, t1, t2, t4]
end
