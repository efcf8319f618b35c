section
def eS (m : Nat) : Int32 := if m = 0 then -1 else nI m
def eV (m : Nat) (v : Int32) : Int32 := if m = 0 then -100000000 else v
theorem sentR {G W M g nq c e : Nat} {μ0 ρ0 : Mem} {k : Int32} (hG : 500 ≤ G) (R : WR 2 0 μ0 ρ0 W M) (hg : g < M) (he : e < W) (he3 : ρ0 8 g = nI e) (hnq : ρ0 0 37 = nI nq) (hnq2 : nq ≤ 16) (hc : ρ0 1 4 = nI c) (hc2 : c < 2 ^ W) :
    ∃ ρ', f_X12_sent_L40 G (f_X12_sent_j174 G) G (nI g) k (-1) (-100000000) 0 ρ0 = some (if 2 ≤ pcn (cmN μ0 W e) 12 then (if k = 0 then nI (sO (vP G g μ0 c nq e) (cmN μ0 W e) 12).1 else (sO (vP G g μ0 c nq e) (cmN μ0 W e) 12).2) else -10000, ρ') ∧ bk ρ0 ρ' := by
  obtain ⟨hW, hM⟩ := WR_W R
  have cl := cm_lt (μ0 := μ0) (e := e) hW
  have cb := fun b => cm_bit (μ0 := μ0) (e := e) (b := b) hW
  have vb : ∀ a b, a < W → b < W → -1000000 ≤ (vP G g μ0 c nq e a b).toInt := by
    intro a b ha hb
    obtain ⟨ρ1, a1, a2, a3, a4, a5⟩ := thinks_ok (G := G) (ρ := ρ0) hG
    have R1 : WR 2 1 μ0 ρ1 W M := WR_th R (fun x h0 h1 h3 h4 h5 h6 h7 => a2 x h0 h3) a3 a4 (fun k hk => by rw [a2 1 (by omega) (by omega)])
    have n1 : ρ1 0 37 = nI nq := by rw [a3 37 (by omega)]; exact hnq
    have t1 := tP_b (c := c) (l := 1) hG R1 hg he (by omega) n1 hnq2
    have t0 := tP_b (c := c) (l := 0) hG R1 hg hb (by omega) n1 hnq2
    have t2 := tP_b (c := c) (l := 2) hG R1 hg ha (by omega) n1 hnq2
    have tm := imax_b t0 t2
    unfold vP
    rw [tI_sub (by omega) (by omega)]
    omega
  have e6 : ∀ ρ, bk ρ0 ρ → ρ 0 6 = nI W := fun ρ hb => by rw [hb.1 0 (by omega) (by omega) (by omega) (by omega) (by omega) (by omega)]; exact R.1.2.1
  have e8 : ∀ ρ, bk ρ0 ρ → ρ 8 g = nI e := fun ρ hb => by rw [hb.1 8 (by omega) (by omega) (by omega) (by omega) (by omega) (by omega)]; exact he3
  have more := fun a b ha hb h1 h2 h3 ρ B => moreBy_ok (μ0 := μ0) (ρ := ρ) (a := a) (b := b) hG R hg he he3 ha hb h1 h2 h3 hnq hnq2 hc hc2 B
  have z12 : sO (vP G g μ0 c nq e) (cmN μ0 W e) 12 = sO (vP G g μ0 c nq e) (cmN μ0 W e) W := by
    have := sO_e (V := vP G g μ0 c nq e) (c := cmN μ0 W e) (W := W) (fun i hi q => by have := ((cb i).mp q).1; omega) (12 - W)
    rw [show W + (12 - W) = 12 by omega] at this
    exact this
  have zz := sO_z (V := vP G g μ0 c nq e) (c := cmN μ0 W e) 12
  have zl := sO_b (V := vP G g μ0 c nq e) (c := cmN μ0 W e) 12
  rw [z12] at zz zl ⊢
  generalize vP G g μ0 c nq e = V at *
  generalize cmN μ0 W e = m at *
  obtain ⟨g', ⟨σ, ρ1⟩, k1, rfl, B1⟩ := loopZ (fun f v (s : (Nat × Int32) × Mem) => f_X12_sent_L40 G (f_X12_sent_j174 G) f (nI g) k (eS s.1.1) (eV s.1.1 s.1.2) v s.2) W (fun a s => s.1 = sO V m a ∧ bk ρ0 s.2) (by
    rintro f a ⟨σ, ρ⟩ ha ⟨rfl, B⟩
    have B : bk ρ0 ρ := B
    show ∃ s' : (Nat × Int32) × Mem, f_X12_sent_L40 G (f_X12_sent_j174 G) (f + 1) (nI g) k (eS (sO V m a).1) (eV (sO V m a).1 (sO V m a).2) (nI a) ρ = f_X12_sent_L40 G (f_X12_sent_j174 G) f (nI g) k (eS s'.1.1) (eV s'.1.1 s'.1.2) (nI (a + 1)) s'.2 ∧ _
    obtain ⟨g2, ⟨σ, ρ2⟩, k2, rfl, B2⟩ := loopZ (fun f2 v (s : (Nat × Int32) × Mem) => f_X12_sent_L52 G (f_X12_sent_L40 G (f_X12_sent_j174 G) f) (f_X12_sent_j174 G) (f_X12_sent_j168 G (f_X12_sent_L40 G (f_X12_sent_j174 G) f) (f_X12_sent_j174 G)) f2 (nI g) k (eS s.1.1) (eV s.1.1 s.1.2) (nI a) v s.2) a (fun b s => s.1 = sI V m a (sO V m a) b ∧ bk ρ0 s.2) (by
      rintro f2 b ⟨σ, ρ⟩ hb ⟨rfl, B⟩
      have B : bk ρ0 ρ := B
      have bd := sI_b (V := V) (c := m) (sO_b (V := V) (c := m) a) b (by omega)
      have ob := or_add hb
      have pa : 2 ^ a ≤ 2 ^ 11 := Nat.pow_le_pow_right (by decide) (by omega)
      have pb : 2 ^ b ≤ 2 ^ 11 := Nat.pow_le_pow_right (by decide) (by omega)
      have p0 := Nat.two_pow_pos a
      show ∃ s' : (Nat × Int32) × Mem, f_X12_sent_L52 G (f_X12_sent_L40 G (f_X12_sent_j174 G) f) (f_X12_sent_j174 G) (f_X12_sent_j168 G (f_X12_sent_L40 G (f_X12_sent_j174 G) f) (f_X12_sent_j174 G)) (f2 + 1) (nI g) k (eS (sI V m a (sO V m a) b).1) (eV (sI V m a (sO V m a) b).1 (sI V m a (sO V m a) b).2) (nI a) (nI b) ρ = f_X12_sent_L52 G (f_X12_sent_L40 G (f_X12_sent_j174 G) f) (f_X12_sent_j174 G) (f_X12_sent_j168 G (f_X12_sent_L40 G (f_X12_sent_j174 G) f) (f_X12_sent_j174 G)) f2 (nI g) k (eS s'.1.1) (eV s'.1.1 s'.1.2) (nI a) (nI (b + 1)) s'.2 ∧ s'.1 = sX V m (sI V m a (sO V m a) b) a b ∧ bk ρ0 s'.2
      generalize sI V m a (sO V m a) b = σ at *
      obtain ⟨n, v⟩ := σ
      have bd : n < 2 ^ a + 2 ^ b := bd
      show ∃ s' : (Nat × Int32) × Mem, f_X12_sent_L52 G (f_X12_sent_L40 G (f_X12_sent_j174 G) f) (f_X12_sent_j174 G) (f_X12_sent_j168 G (f_X12_sent_L40 G (f_X12_sent_j174 G) f) (f_X12_sent_j174 G)) (f2 + 1) (nI g) k (eS n) (eV n v) (nI a) (nI b) ρ = _ ∧ _
      have z1 : ¬ nI 1 = (0 : Int32) := by decide
      have z0 : nI 0 = (0 : Int32) := rfl
      have R' := WR_bk R B
      have skip : (¬ (m.testBit b = true ∧ m.testBit a = true)) → f_X12_sent_L52 G (f_X12_sent_L40 G (f_X12_sent_j174 G) f) (f_X12_sent_j174 G) (f_X12_sent_j168 G (f_X12_sent_L40 G (f_X12_sent_j174 G) f) (f_X12_sent_j174 G)) (f2 + 1) (nI g) k (eS n) (eV n v) (nI a) (nI b) ρ = f_X12_sent_L52 G (f_X12_sent_L40 G (f_X12_sent_j174 G) f) (f_X12_sent_j174 G) (f_X12_sent_j168 G (f_X12_sent_L40 G (f_X12_sent_j174 G) f) (f_X12_sent_j174 G)) f2 (nI g) k (eS n) (eV n v) (nI a) (nI (b + 1)) ρ → ∃ s' : (Nat × Int32) × Mem, f_X12_sent_L52 G (f_X12_sent_L40 G (f_X12_sent_j174 G) f) (f_X12_sent_j174 G) (f_X12_sent_j168 G (f_X12_sent_L40 G (f_X12_sent_j174 G) f) (f_X12_sent_j174 G)) (f2 + 1) (nI g) k (eS n) (eV n v) (nI a) (nI b) ρ = f_X12_sent_L52 G (f_X12_sent_L40 G (f_X12_sent_j174 G) f) (f_X12_sent_j174 G) (f_X12_sent_j168 G (f_X12_sent_L40 G (f_X12_sent_j174 G) f) (f_X12_sent_j174 G)) f2 (nI g) k (eS s'.1.1) (eV s'.1.1 s'.1.2) (nI a) (nI (b + 1)) s'.2 ∧ s'.1 = sX V m (n, v) a b ∧ bk ρ0 s'.2 :=
        fun h1 h2 => ⟨((n, v), ρ), h2, by rw [sX, if_neg h1], B⟩
      rcases free_of (G := G) R' (show b < 12 by omega) with ⟨fb1, fb2⟩ | ⟨fb1, fb2⟩
      · rcases free_of (G := G) R' (show a < 12 by omega) with ⟨fa1, fa2⟩ | ⟨fa1, fa2⟩
        · by_cases be : b = e
          · refine skip (fun q => ((cb b).mp q.1).2.2 be) ?_
            rw [f_X12_sent_L52, if_neg (nI_ge (by omega) (by omega)), fb2, bndO_s, if_neg z1, fa2, bndO_s, if_neg z1, chkn (by omega) (by omega), ixn (by omega), e8 ρ B, if_pos (by rw [be]), f_X12_sent_j162, show (1 : Int32) = nI 1 from rfl, nI_add]
          · by_cases ae : a = e
            · refine skip (fun q => ((cb a).mp q.2).2.2 ae) ?_
              rw [f_X12_sent_L52, if_neg (nI_ge (by omega) (by omega)), fb2, bndO_s, if_neg z1, fa2, bndO_s, if_neg z1, chkn (by omega) (by omega), ixn (by omega), e8 ρ B, if_neg (show ¬ nI b = nI e by rw [nI_eq (by omega) (by omega)]; exact be), chkn (by omega) (by omega), if_pos (by rw [ae]), f_X12_sent_j162, show (1 : Int32) = nI 1 from rfl, nI_add]
            · have ok : m.testBit b = true ∧ m.testBit a = true := ⟨(cb b).mpr ⟨by omega, fb1, be⟩, (cb a).mpr ⟨ha, fa1, ae⟩⟩
              obtain ⟨ρ', q1, q2⟩ := more a b ha (by omega) (by omega) ae be ρ B
              have vb' := vb a b ha (by omega)
              have st : f_X12_sent_L52 G (f_X12_sent_L40 G (f_X12_sent_j174 G) f) (f_X12_sent_j174 G) (f_X12_sent_j168 G (f_X12_sent_L40 G (f_X12_sent_j174 G) f) (f_X12_sent_j174 G)) (f2 + 1) (nI g) k (eS n) (eV n v) (nI a) (nI b) ρ = f_X12_sent_L52 G (f_X12_sent_L40 G (f_X12_sent_j174 G) f) (f_X12_sent_j174 G) (f_X12_sent_j168 G (f_X12_sent_L40 G (f_X12_sent_j174 G) f) (f_X12_sent_j174 G)) f2 (nI g) k (eS (sX V m (n, v) a b).1) (eV (sX V m (n, v) a b).1 (sX V m (n, v) a b).2) (nI a) (nI (b + 1)) ρ' := by
                rw [f_X12_sent_L52, if_neg (nI_ge (by omega) (by omega)), fb2, bndO_s, if_neg z1, fa2, bndO_s, if_neg z1, chkn (by omega) (by omega), ixn (by omega), e8 ρ B, if_neg (show ¬ nI b = nI e by rw [nI_eq (by omega) (by omega)]; exact be), chkn (by omega) (by omega), if_neg (show ¬ nI a = nI e by rw [nI_eq (by omega) (by omega)]; exact ae), q1, bndE_s]
                unfold f_X12_sent_j149 f_X12_sent_j152 f_X12_sent_j162
                rw [nI_1, show sl (1 : Int32) (nI b) = nI (2 ^ b) from sl1 (by omega), show sl (1 : Int32) (nI a) = nI (2 ^ a) from sl1 (by omega), b_nor, gr12, sX, if_pos (show m.testBit b = true ∧ m.testBit a = true from ok)]
                have on : eS (2 ^ b ||| 2 ^ a) = nI (2 ^ b ||| 2 ^ a) := if_neg (by omega)
                have ov : ∀ x, eV (2 ^ b ||| 2 ^ a) x = x := fun x => if_neg (by omega)
                by_cases n0 : n = 0
                · subst n0
                  have e1 : eS 0 = -1 := rfl
                  have e2 : eV 0 v = -100000000 := rfl
                  have lt : (-100000000 : Int32) < V a b := by
                    rw [Int32.lt_iff_toInt_lt]
                    have : (-100000000 : Int32).toInt = -100000000 := by decide
                    omega
                  have mx : imax (-100000000) (V a b) = V a b := if_pos lt
                  rw [e1, e2, if_pos rfl, if_pos (show ((0 : Nat), v).1 = 0 from rfl), on, ov, mx]
                · have e1 : eS n = nI n := if_neg n0
                  have e2 : eV n v = v := if_neg n0
                  rw [e1, e2, if_neg (nI_m1 (by omega)), if_neg (show ¬ ((n, v) : Nat × Int32).1 = 0 from n0)]
                  by_cases lt : v < V a b
                  · have mx : imax v (V a b) = V a b := if_pos lt
                    rw [if_pos lt, if_neg (show ¬ V a b ≤ ((n, v) : Nat × Int32).2 from fun q => by have q : V a b ≤ v := q; grind), on, ov, mx]
                  · have mx : imax v (V a b) = v := if_neg lt
                    have le : V a b ≤ v := by grind
                    have set : nI n ≤ nI (2 ^ b ||| 2 ^ a) := nI_le (by omega) (by omega)
                    rw [if_neg lt, if_pos (show V a b ≤ ((n, v) : Nat × Int32).2 from le), if_pos set, mx]
                    have e1' : eS ((n, v) : Nat × Int32).1 = nI n := e1
                    have e2' : eV ((n, v) : Nat × Int32).1 ((n, v) : Nat × Int32).2 = v := e2
                    rw [e1', e2']
                    split <;> rfl
              exact ⟨(sX V m (n, v) a b, ρ'), st, rfl, q2⟩
        · refine skip (fun q => fa1 ((cb a).mp q.2).2.1) ?_
          rw [f_X12_sent_L52, if_neg (nI_ge (by omega) (by omega)), fb2, bndO_s, if_neg z1, fa2, bndO_s, if_pos z0, f_X12_sent_j162, show (1 : Int32) = nI 1 from rfl, nI_add]
      · refine skip (fun q => fb1 ((cb b).mp q.1).2.1) ?_
        rw [f_X12_sent_L52, if_neg (nI_ge (by omega) (by omega)), fb2, bndO_s, if_pos z0, f_X12_sent_j162, show (1 : Int32) = nI 1 from rfl, nI_add]) (by omega : a < G) (s := (sO V m a, ρ)) ⟨rfl, B⟩
    refine ⟨(sI V m a (sO V m a) a, ρ2), ?_, rfl, B2⟩
    rw [f_X12_sent_L40, e6 ρ B, if_neg (nI_ge (by omega) (by omega))]
    refine Eq.trans k2 ?_
    show f_X12_sent_L52 G _ _ _ (g2 + 1) (nI g) k _ _ (nI a) (nI a) ρ2 = _
    rw [f_X12_sent_L52, if_pos (Int32.le_refl _), f_X12_sent_j168, show (1 : Int32) = nI 1 from rfl, nI_add]) (by omega : W < G) (s := ((0, 0), ρ0)) ⟨rfl, fun _ _ _ _ _ _ _ => rfl, fun _ _ => rfl⟩
  refine ⟨ρ1, ?_, B1⟩
  refine Eq.trans k1 ?_
  show f_X12_sent_L40 G _ (g' + 1) (nI g) k (eS (sO V m W).1) (eV (sO V m W).1 (sO V m W).2) (nI W) ρ1 = _
  rw [f_X12_sent_L40, e6 ρ1 B1, if_pos (Int32.le_refl _), f_X12_sent_j174]
  by_cases n0 : (sO V m W).1 = 0
  · rw [if_neg (zz.mp n0), n0, if_pos (show eS 0 = -1 from rfl)]
  · have two : 2 ≤ pcn m 12 := by
      rcases Classical.em (2 ≤ pcn m 12) with q | q
      · exact q
      · exact absurd (zz.mpr q) n0
    have e1 : eS (sO V m W).1 = nI (sO V m W).1 := if_neg n0
    have e2 : eV (sO V m W).1 (sO V m W).2 = (sO V m W).2 := if_neg n0
    rw [e1, e2, if_neg (nI_m1 (by omega)), if_pos two]
    by_cases k0 : k = 0
    · rw [if_pos k0, if_pos k0]
    · rw [if_neg k0, if_neg k0]
theorem s_sent {G : Nat} {bb : Bool} {μ ρ : Mem} (hG : 500 ≤ G) (h : AR bb μ ρ) (p k : Int32) : ∃ r μ' ρ', f_X11_sent G p k μ = some (r, μ') ∧ f_X12_sent G p k ρ = some (r, ρ') ∧ AR bb μ' ρ' := by
  obtain ⟨W, M, H⟩ := id h
  have H0 : AT bb W M μ (wr ρ 0 0 (nI 0)) := told0 H
  have R0 := WR_of H0
  have z0 : nI 0 = (0 : Int32) := rfl
  have z1 : ¬ nI 1 = (0 : Int32) := by decide
  have ref : ∀ a : Option (Int32 × Mem), (f_X12_sent G p k ρ = if f_X12_isGroom (wr ρ 0 0 (nI 0)) p = 0 then some (-10000, wr ρ 0 0 (nI 0)) else if f_X12_isIn k 0 1 = 0 then some (-10000, wr ρ 0 0 (nI 0)) else f_X12_sent_L40 G (f_X12_sent_j174 G) G p k (-1) (-100000000) 0 (wr ρ 0 0 (nI 0))) := fun _ => rfl
  have ref := ref none
  rcases groom_of R0.1 p with ⟨g1, g2⟩ | ⟨g, hg, rfl, g1, g2⟩
  · rw [g2, if_pos z0] at ref
    refine ⟨-10000, μ, _, ?_, ref, AR_told h⟩
    rw [f_X11_sent, g1, if_pos z0]
  rw [g2, if_neg z1] at ref
  by_cases hk : 0 ≤ k ∧ k ≤ 1
  · rw [isI, if_pos hk, if_neg (by decide)] at ref
    obtain ⟨nq, c, hnq2, hnq, _, hc, hc2⟩ := WR_cn R0
    obtain ⟨e, he, he2, he3⟩ := she_of R0 hg
    obtain ⟨ρ', r1, r2⟩ := sentR (μ0 := μ) (k := k) hG R0 hg he he3 hnq hnq2 hc hc2
    obtain ⟨μ', c1, c2⟩ := sentC (μ0 := μ) (k := k) hG R0 hg he he2 hnq hnq2 hc hc2
    rw [r1] at ref
    refine ⟨_, μ', ρ', ?_, ref, AR_bk ⟨W, M, H0⟩ c2 r2⟩
    rw [f_X11_sent, g1, if_neg z1, if_neg (by have := hk.1; grind), if_pos hk.2]
    obtain ⟨j, hj, rfl⟩ := in_of 1 rfl (by omega) hk.1 hk.2
    rcases (by omega : j = 0 ∨ j = 1) with q | q
    · subst q
      rw [if_neg (by decide)]
      rw [show f_X7_bestBeside G (nI g) 0 μ = _ from c1, bndE_s]
    · subst q
      rw [if_pos (show nI 1 = 1 from rfl)]
      rw [show f_X7_bestBeside G (nI g) 1 μ = _ from c1, bndE_s]
  · rw [isI, if_neg hk, if_pos rfl] at ref
    refine ⟨-10000, μ, _, ?_, ref, AR_told h⟩
    rw [f_X11_sent, g1, if_neg z1]
    by_cases k0 : k < 0
    · rw [if_pos k0]
    · rw [if_neg k0, if_neg (fun q => hk ⟨by grind, q⟩)]
end
