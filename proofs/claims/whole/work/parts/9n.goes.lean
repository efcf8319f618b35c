section
theorem tot12 {G s W M : Nat} {μ ρ : Mem} (hG : 500 ≤ G) (R : WR s 1 μ ρ W M) (v2 : Int32) :
    f_X12_goes_j52 G v2 ρ = f_X12_goes_j122 G v2 (smN (μ (s + 4)) 8) (smN (μ (s + 3)) 8) (smN (fun k => if μ (s + 2) k = nI 4294967295 then 0 else 1) 8) ρ := by
  obtain ⟨hW, hM⟩ := WR_W R
  have P := R.1
  have S := R.2.2.2.2.1
  have I := R.2.2.2.2.2.1
  have e7 : ρ 0 7 = nI M := P.2.2.2.2.1
  have c4 : ∀ k, k < 8 → μ (s + 4) k = ρ 1 (33 + k) := fun k hk => by rw [S.2.2.2.2.2.2.2.2.1 k hk, Nat.zero_add]
  have c3 : ∀ k, k < 8 → μ (s + 3) k = ρ 1 (25 + k) := fun k hk => by rw [S.2.2.2.2.2.2.2.1 k hk, Nat.zero_add]
  have c2 : ∀ k, k < 8 → μ (s + 2) k + 1 = ρ 1 (17 + k) := fun k hk => by rw [S.2.2.2.2.2.2.1 k hk, Nat.zero_add]
  obtain ⟨g', ⟨a, b, d⟩, k1, i1, i2, i3⟩ := loopZ (fun f v (σ : Int32 × Int32 × Int32) => f_X12_goes_L63 G (f_X12_goes_j122 G) f v2 σ.1 σ.2.1 σ.2.2 v ρ) M (fun k σ => σ.1 = smN (μ (s + 4)) k ∧ σ.2.1 = smN (μ (s + 3)) k ∧ σ.2.2 = smN (fun k => if μ (s + 2) k = nI 4294967295 then 0 else 1) k) (by
    rintro f g ⟨a, b, d⟩ hg ⟨rfl, rfl, rfl⟩
    have x4 := c4 g (by omega)
    have x3 := c3 g (by omega)
    have i1 : (33 : Int32) + nI g = nI (33 + g) := nI_add 33 g
    have i2 : (25 : Int32) + nI g = nI (25 + g) := nI_add 25 g
    rcases wife_of (G := G) R hg with ⟨w1, w2, w3⟩ | ⟨w, w0, w1, w2, w3⟩
    · refine ⟨(smN (μ (s + 4)) g + ρ 1 (33 + g), smN (μ (s + 3)) g + ρ 1 (25 + g), smN (fun k => if μ (s + 2) k = nI 4294967295 then 0 else 1) g), ?_, ?_, ?_, ?_⟩
      · show f_X12_goes_L63 G (f_X12_goes_j122 G) (f + 1) v2 (smN (μ (s + 4)) g) (smN (μ (s + 3)) g) (smN (fun k => if μ (s + 2) k = nI 4294967295 then 0 else 1) g) (nI g) ρ = f_X12_goes_L63 G (f_X12_goes_j122 G) f v2 (smN (μ (s + 4)) g + ρ 1 (33 + g)) (smN (μ (s + 3)) g + ρ 1 (25 + g)) (smN (fun k => if μ (s + 2) k = nI 4294967295 then 0 else 1) g) (nI (g + 1)) ρ
        rw [f_X12_goes_L63, e7, if_neg (nI_ge (by omega) (by omega)), i1, i2, chkn (by omega) (by omega), chkn (by omega) (by omega), w3, bndO_s, if_pos (show nI 4294967295 = -1 from rfl), f_X12_goes_j116, ixn (by omega), ixn (by omega), show (1 : Int32) = nI 1 from rfl, nI_add]
      · show _ = smN _ (g + 1)
        rw [smN, x4]
      · show _ = smN _ (g + 1)
        rw [smN, x3]
      · show _ = smN _ (g + 1)
        rw [smN, if_pos w2]
        exact (Int32.add_zero _).symm
    · have wn : ¬ nI w = -1 := nI_m1 (by omega)
      refine ⟨(smN (μ (s + 4)) g + ρ 1 (33 + g), smN (μ (s + 3)) g + ρ 1 (25 + g), smN (fun k => if μ (s + 2) k = nI 4294967295 then 0 else 1) g + 1), ?_, ?_, ?_, ?_⟩
      · show f_X12_goes_L63 G (f_X12_goes_j122 G) (f + 1) v2 (smN (μ (s + 4)) g) (smN (μ (s + 3)) g) (smN (fun k => if μ (s + 2) k = nI 4294967295 then 0 else 1) g) (nI g) ρ = f_X12_goes_L63 G (f_X12_goes_j122 G) f v2 (smN (μ (s + 4)) g + ρ 1 (33 + g)) (smN (μ (s + 3)) g + ρ 1 (25 + g)) (smN (fun k => if μ (s + 2) k = nI 4294967295 then 0 else 1) g + 1) (nI (g + 1)) ρ
        rw [f_X12_goes_L63, e7, if_neg (nI_ge (by omega) (by omega)), i1, i2, chkn (by omega) (by omega), chkn (by omega) (by omega), w3, bndO_s, if_neg wn, f_X12_goes_j116, ixn (by omega), ixn (by omega), ← nI_1 g]
      · show _ = smN _ (g + 1)
        rw [smN, x4]
      · show _ = smN _ (g + 1)
        rw [smN, x3]
      · show _ = smN _ (g + 1)
        rw [smN, if_neg (by rw [w2]; exact wn)]) (by omega : M < G) (s := (0, 0, 0)) ⟨rfl, rfl, rfl⟩
  unfold f_X12_goes_j52
  refine Eq.trans k1 ?_
  show f_X12_goes_L63 G (f_X12_goes_j122 G) (g' + 1) v2 a b d (nI M) ρ = _
  have i1 : a = smN (μ (s + 4)) M := i1
  have i2 : b = smN (μ (s + 3)) M := i2
  have i3 : d = smN (fun k => if μ (s + 2) k = nI 4294967295 then 0 else 1) M := i3
  rw [f_X12_goes_L63, e7, if_pos (Int32.le_refl _), i1, i2, i3]
  have z4 : smN (μ (s + 4)) 8 = smN (μ (s + 4)) M := smN_z hM (fun k h1 h2 => by
    obtain ⟨w, w1, w2, w3⟩ := I.2.2.2.2.2.1 k h2
    rw [c4 k h2, show 33 + k = 0 + 33 + k by omega, w2, w3 h1]
    rfl)
  have z3 : smN (μ (s + 3)) 8 = smN (μ (s + 3)) M := smN_z hM (fun k h1 h2 => by
    rw [c3 k h2, show 25 + k = 0 + 25 + k by omega]
    exact I.2.2.2.2.1 k h2 h1)
  have z2 : smN (fun k => if μ (s + 2) k = nI 4294967295 then (0 : Int32) else 1) 8 = smN (fun k => if μ (s + 2) k = nI 4294967295 then (0 : Int32) else 1) M := smN_z hM (fun k h1 h2 => by
    obtain ⟨w, w1, w2, w3⟩ := I.2.2.2.1 k h2
    have w2 : ρ 1 (0 + 17 + k) = nI w := w2
    have e := c2 k h2
    rw [show 17 + k = 0 + 17 + k by omega, w2, w3 h1] at e
    have : μ (s + 2) k = nI 4294967295 := by
      have n : nI 4294967295 = (-1 : Int32) := rfl
      have z : nI 0 = (0 : Int32) := rfl
      rw [n]; rw [z] at e; grind
    exact if_pos this)
  rw [z4, z3, z2]
theorem s_goes {G : Nat} {bb : Bool} {μ ρ : Mem} (hG : 500 ≤ G) (h : AR bb μ ρ) (p k : Int32) : ∃ r μ' ρ', f_X11_goes G p k μ = some (r, μ') ∧ f_X12_goes G p k ρ = some (r, ρ') ∧ AR bb μ' ρ' := by
  obtain ⟨W, M, H⟩ := id h
  have H0 : AT bb W M μ (wr ρ 0 0 (nI 0)) := told0 H
  have R0 := WR_of H0
  have C0 : CaR 1 μ (wr ρ 0 0 (nI 0)) W M := H0.1.2.2.2.2.2.1
  have ref : ∀ a b c : Option (Int32 × Mem), (f_X12_goes G p k ρ = if f_X12_isIn p 1 60 = 0 then some (-10000, wr ρ 0 0 (nI 0)) else if f_X12_isIn k 0 3 = 0 then some (-10000, wr ρ 0 0 (nI 0)) else bndV (f_X12_thinks G (wr ρ 0 0 (nI 0))) (fun m5 => f_X12_goes_L36 G (f_X12_goes_j52 G) G p k 0 m5)) := fun _ _ _ => rfl
  have ref := ref none none none
  by_cases hp : 1 ≤ p ∧ p ≤ 60
  · by_cases hk : 0 ≤ k ∧ k ≤ 3
    · rw [isI, if_pos hp, if_neg (by decide), isI, if_pos hk, if_neg (by decide)] at ref
      obtain ⟨n, hn, rfl⟩ := in_of 60 rfl (by omega) (by have := hp.1; grind) hp.2
      obtain ⟨ρ1, a1, a2, a3, a4, a5⟩ := thinks_ok (G := G) (ρ := wr ρ 0 0 (nI 0)) hG
      obtain ⟨μ1, b1, b2, b3⟩ := cpStd (G := G) (a := 99) (b := 2) (μ := μ) (by omega)
      rw [a1, bndV_s] at ref
      have b26 : μ1 26 = μ 26 := b2 26 (by omega)
      have S1 : StR μ1 99 (μ1 26 3) (ρ1 1) 0 := by
        rw [b26, a2 1 (by omega) (by omega)]
        exact b3 _ _ _ R0.2.2.2.2.1
      have m : ∀ x, x < 99 → μ1 x = μ x := fun x hx => b2 x (Or.inl hx)
      have R1 : WR 99 1 μ1 ρ1 W M := by
        obtain ⟨q1, q2, q3, q4, q5, q6, q7, q8⟩ := R0
        have r : ∀ x, 4 ≤ x → ρ1 x = (wr ρ 0 0 (nI 0)) x := fun x hx => a2 x (by omega) (by omega)
        exact ⟨PpR_o q1 (m _ (by omega)) (fun x _ _ => m x (by omega)) (a3 6 (by omega)) (a3 7 (by omega)) (fun x _ _ => r x (by omega)), LwR_o q2 (fun x _ _ => m x (by omega)) (fun x _ _ => r x (by omega)), QuR_o q3 (m _ (by omega)) (m _ (by omega)) (a3 37 (by omega)) (r 20 (by omega)), RcR_o q4 (m _ (by omega)) (m _ (by omega)) (by rw [a2 1 (by omega) (by omega)]) (r 9 (by omega)), S1, by rw [a2 1 (by omega) (by omega)]; exact q6, a4, Or.inr ⟨rfl, Or.inr rfl⟩⟩
      have C1 : CaR 1 μ1 ρ1 W M := CaR_o C0 (m _ (by omega)) (m _ (by omega)) (a3 39 (by omega)) (a2 21 (by omega) (by omega))
      obtain ⟨g', f', μ2, ρ2, k1, k2, R2, C2, F2, G2⟩ := loop2Z (fun g v (x : Mem) => f_X11_goes_L40 G (f_X11_goes_j64 G) g (nI n) k v x) (fun g v (x : Mem) => f_X12_goes_L36 G (f_X12_goes_j52 G) g (nI n) k v x) n (fun _ a b => WR 99 1 a b W M ∧ CaR 1 a b W M ∧ Fc 99 1 μ1 a ∧ Fr 1 ρ1 b) (by
        intro g f i a b hi ⟨A1, A2, A3, A4⟩
        obtain ⟨r, a', b', c1, c2, c3, c4, c5, c6⟩ := pass_sim hG A1 A2
        refine ⟨a', b', ?_, ?_, c3, c4, Fc_tr A3 c5, Fr_tr A4 c6⟩
        · show f_X11_goes_L40 G (f_X11_goes_j64 G) (g + 1) (nI n) k (nI i) a = f_X11_goes_L40 G (f_X11_goes_j64 G) g (nI n) k (nI (i + 1)) a'
          rw [f_X11_goes_L40, if_neg (nI_ge (by omega) (by omega)), c1, bndE_s, nI_1]
        · show f_X12_goes_L36 G (f_X12_goes_j52 G) (f + 1) (nI n) k (nI i) b = f_X12_goes_L36 G (f_X12_goes_j52 G) f (nI n) k (nI (i + 1)) b'
          rw [f_X12_goes_L36, if_neg (nI_ge (by omega) (by omega)), c2, bndE_s, nI_1]) (by omega : n < G) (by omega : n < G) (s := μ1) (t := ρ1) ⟨R1, C1, Fc_rfl, Fr_rfl⟩
      obtain ⟨ρ3, d1, d2, d3, d4, d5⟩ := ends_ok (G := G) (ρ := ρ2) hG
      have t05 : (wr ρ 0 0 (nI 0)) 0 5 = 0 := R0.2.2.2.2.2.2.1
      have hb : bk (wr ρ 0 0 (nI 0)) ρ3 := by
        refine ⟨fun x h1 h3 h4 h5 h6 h7 => ?_, fun j hj => ?_⟩
        · by_cases e0 : x = 0
          · subst e0
            funext j
            by_cases e5 : j = 5
            · rw [e5, d4, t05]
            · rw [d3 j e5, G2.1 0 (by omega) (by omega) (by omega) (by omega) (by omega) (by omega), a3 j e5]
          · rw [d2 x e0 h1]
            by_cases e9 : x = 9
            · rw [e9, (G2.2.1 rfl).1, a2 9 (by omega) (by omega)]
            · rw [G2.1 x h1 e9 h4 h5 h6 h7, a2 x e0 h3]
        · rw [d5 j hj, G2.1 3 (by omega) (by omega) (by omega) (by omega) (by omega) (by omega), a5 j hj]
      have A3 : AR bb μ2 ρ3 := AR_bk ⟨W, M, H0⟩ (fun x h1 h2 => by
        by_cases e26 : x = 26
        · rw [e26, (F2.2 rfl).1, b26]
        · by_cases e27 : x = 27
          · rw [e27, (F2.2 rfl).2, m 27 (by omega)]
          · rw [F2.1 x (by omega) h1 (by omega) (by omega) (by omega) e26 e27, b2 x (by omega)]) hb
      have cls : f_X11_goes G (nI n) k μ = f_X11_goes_j64 G k μ2 := by
        unfold f_X11_goes
        rw [if_neg (by have := hp.1; grind), if_neg (by have := hp.2; grind), if_neg (by have := hk.1; grind), if_pos hk.2, b1, bndV_s]
        refine Eq.trans k1 ?_
        show f_X11_goes_L40 G (f_X11_goes_j64 G) (g' + 1) (nI n) k (nI n) μ2 = _
        rw [f_X11_goes_L40, if_pos (Int32.le_refl _)]
      have rf : f_X12_goes G (nI n) k ρ = f_X12_goes_j52 G k ρ2 := by
        rw [ref]
        refine Eq.trans k2 ?_
        show f_X12_goes_L36 G (f_X12_goes_j52 G) (f' + 1) (nI n) k (nI n) ρ2 = _
        rw [f_X12_goes_L36, if_pos (Int32.le_refl _)]
      rw [tot12 hG R2] at rf
      have e6 : μ2 99 6 = ρ2 1 3 := R2.2.2.2.2.1.2.2.2.1
      have s1 := sumOf_ok (G := G) (a := 103) (μ := μ2) hG
      have s2 := sumOf_ok (G := G) (a := 102) (μ := μ2) hG
      have s3 := wives_ok (G := G) (a := 99) (μ := μ2) hG
      unfold f_X11_goes_j64 at cls
      unfold f_X12_goes_j122 at rf
      rw [d1] at rf
      simp only [bndV_s] at rf
      by_cases k0 : k = 0
      · rw [if_pos k0] at cls rf
        exact ⟨_, _, _, cls, by rw [e6]; exact rf, A3⟩
      · rw [if_neg k0] at cls rf
        by_cases k1 : k = 1
        · rw [if_pos k1] at cls rf
          rw [s1, bndO_s] at cls
          exact ⟨_, _, _, cls, rf, A3⟩
        · rw [if_neg k1] at cls rf
          by_cases k2 : k = 2
          · rw [if_pos k2] at cls rf
            rw [s2, bndO_s] at cls
            exact ⟨_, _, _, cls, rf, A3⟩
          · rw [if_neg k2] at cls rf
            rw [s3, bndO_s] at cls
            exact ⟨_, _, _, cls, rf, A3⟩
    · rw [isI, if_pos hp, if_neg (by decide), isI, if_neg hk, if_pos rfl] at ref
      refine ⟨-10000, μ, _, ?_, ref, AR_told h⟩
      unfold f_X11_goes
      rw [if_neg (by have := hp.1; grind), if_neg (by have := hp.2; grind)]
      by_cases k0 : k < 0
      · rw [if_pos k0]
      · rw [if_neg k0, if_neg (fun q => hk ⟨by grind, q⟩)]
  · rw [isI, if_neg hp, if_pos rfl] at ref
    refine ⟨-10000, μ, _, ?_, ref, AR_told h⟩
    unfold f_X11_goes
    by_cases k0 : p < 1
    · rw [if_pos k0]
    · rw [if_neg k0, if_pos (by grind)]
end
