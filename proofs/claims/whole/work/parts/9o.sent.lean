section
theorem tI_add {a b : Int32} (h : -1000000000 ≤ a.toInt ∧ a.toInt ≤ 1000000000) (h2 : -1000000000 ≤ b.toInt ∧ b.toInt ≤ 1000000000) : (a + b).toInt = a.toInt + b.toInt := by
  rw [Int32.toInt_add]
  exact Int.bmod_eq_of_le (by omega) (by omega)
theorem tI_sub {a b : Int32} (h : -1000000000 ≤ a.toInt ∧ a.toInt ≤ 1000000000) (h2 : -1000000000 ≤ b.toInt ∧ b.toInt ≤ 1000000000) : (a - b).toInt = a.toInt - b.toInt := by
  rw [Int32.toInt_sub]
  exact Int.bmod_eq_of_le (by omega) (by omega)
theorem smN_b {f : Nat → Int32} : ∀ n : Nat, n ≤ 1000 → (∀ k, k < n → -99 ≤ f k ∧ f k ≤ 99) → -(99 * n : Int) ≤ (smN f n).toInt ∧ (smN f n).toInt ≤ (99 * n : Int)
  | 0, _, _ => by rw [smN]; decide
  | n + 1, hn, h => by
    obtain ⟨i1, i2⟩ := smN_b n (by omega) (fun k hk => h k (by omega))
    obtain ⟨h1, h2⟩ := h n (by omega)
    have h1 := Int32.le_iff_toInt_le.mp h1
    have h2 := Int32.le_iff_toInt_le.mp h2
    have e1 : (-99 : Int32).toInt = -99 := by decide
    have e2 : (99 : Int32).toInt = 99 := by decide
    rw [smN, tI_add (by omega) (by omega)]
    omega
theorem tP_b {G W M g w l nq c : Nat} {μ0 ρ0 : Mem} (hG : 500 ≤ G) (R : WR 2 1 μ0 ρ0 W M) (hg : g < M) (hw : w < W) (hl : l < 3) (hnq : ρ0 0 37 = nI nq) (hnq2 : nq ≤ 16) : -1600 ≤ (tP G g μ0 c nq l w).toInt ∧ (tP G g μ0 c nq l w).toInt ≤ 1600 := by
  have h := smN_b (f := fun q => cV G g μ0 q l w) nq (by omega) (fun q hq => ⟨(cV_ok hG R hg hw hl hnq hnq2 hq).1, (cV_ok hG R hg hw hl hnq hnq2 hq).2.1⟩)
  unfold tP
  have e1 : (nI 10).toInt = 10 := by decide
  have e0 : (nI 0).toInt = 0 := by decide
  split
  · rw [tI_add (by omega) (by omega)]; omega
  · rw [tI_add (by omega) (by omega)]; omega
theorem imax_b {a b : Int32} (h : -1600 ≤ a.toInt ∧ a.toInt ≤ 1600) (h2 : -1600 ≤ b.toInt ∧ b.toInt ≤ 1600) : -1600 ≤ (imax a b).toInt ∧ (imax a b).toInt ≤ 1600 := by
  unfold imax
  split
  · exact h2
  · exact h
/-! the best two beside her -/
def sX (V : Nat → Nat → Int32) (c : Nat) (σ : Nat × Int32) (a b : Nat) : Nat × Int32 := if c.testBit b = true ∧ c.testBit a = true then (if σ.1 = 0 then (2 ^ b ||| 2 ^ a, V a b) else if V a b ≤ σ.2 then σ else (2 ^ b ||| 2 ^ a, V a b)) else σ
def sI (V : Nat → Nat → Int32) (c a : Nat) (σ : Nat × Int32) : Nat → Nat × Int32
  | 0 => σ
  | b + 1 => sX V c (sI V c a σ b) a b
def sO (V : Nat → Nat → Int32) (c : Nat) : Nat → Nat × Int32
  | 0 => (0, 0)
  | a + 1 => sI V c a (sO V c a) a
theorem or_add {a b : Nat} (h : b < a) : 2 ^ b ||| 2 ^ a = 2 ^ a + 2 ^ b := by
  rw [Nat.or_comm]
  have := Nat.two_pow_add_eq_or_of_lt (i := a) (b := 2 ^ b) (Nat.pow_lt_pow_right (by decide) h) 1
  rw [Nat.mul_one] at this
  exact this.symm
theorem sI_b {V : Nat → Nat → Int32} {c a : Nat} {σ : Nat × Int32} (h : σ.1 < 2 ^ a) : ∀ b, b ≤ a → (sI V c a σ b).1 < 2 ^ a + 2 ^ b
  | 0, _ => by rw [sI]; omega
  | b + 1, hb => by
    have ih := sI_b (V := V) (c := c) h b (by omega)
    have e := or_add (a := a) (b := b) (by omega)
    have p : 2 ^ (b + 1) = 2 ^ b + 2 ^ b := by rw [Nat.pow_succ, Nat.mul_two]
    have p0 : 0 < 2 ^ b := Nat.two_pow_pos b
    rw [sI, sX]
    split
    · split
      · show 2 ^ b ||| 2 ^ a < _; omega
      · split
        · omega
        · show 2 ^ b ||| 2 ^ a < _; omega
    · omega
theorem sO_b {V : Nat → Nat → Int32} {c : Nat} : ∀ a, (sO V c a).1 < 2 ^ a
  | 0 => by rw [sO]; decide
  | a + 1 => by
    rw [sO]
    have := sI_b (V := V) (c := c) (sO_b (V := V) (c := c) a) a (Nat.le_refl _)
    rw [Nat.pow_succ, Nat.mul_two]
    exact this
theorem sI_z {V : Nat → Nat → Int32} {c a : Nat} {σ : Nat × Int32} : ∀ b, b ≤ a → ((sI V c a σ b).1 = 0 ↔ σ.1 = 0 ∧ ¬ ∃ b', b' < b ∧ c.testBit b' = true ∧ c.testBit a = true)
  | 0, _ => by rw [sI]; exact ⟨fun h => ⟨h, fun ⟨b', h1, _⟩ => absurd h1 (by omega)⟩, fun h => h.1⟩
  | b + 1, hb => by
    have ih := sI_z (V := V) (c := c) (a := a) (σ := σ) b (by omega)
    have e := or_add (a := a) (b := b) (by omega)
    have p0 : 0 < 2 ^ b := Nat.two_pow_pos b
    rw [sI, sX]
    by_cases h : c.testBit b = true ∧ c.testBit a = true
    · rw [if_pos h]
      have r : ¬ (σ.1 = 0 ∧ ¬ ∃ b', b' < b + 1 ∧ c.testBit b' = true ∧ c.testBit a = true) := fun q => q.2 ⟨b, by omega, h⟩
      refine ⟨fun q => ?_, fun q => absurd q r⟩
      split at q
      · have q : 2 ^ b ||| 2 ^ a = 0 := q
        have p1 : 0 < 2 ^ a + 2 ^ b := Nat.add_pos_left (Nat.two_pow_pos a) _
        rw [e] at q
        rw [q] at p1
        exact absurd p1 (by decide)
      · rename_i n
        split at q
        · exact absurd q n
        · have q : 2 ^ b ||| 2 ^ a = 0 := q
          have p1 : 0 < 2 ^ a + 2 ^ b := Nat.add_pos_left (Nat.two_pow_pos a) _
          rw [e] at q
          rw [q] at p1
          exact absurd p1 (by decide)
    · rw [if_neg h, ih]
      refine ⟨fun ⟨q1, q2⟩ => ⟨q1, fun ⟨b', h1, h2⟩ => ?_⟩, fun ⟨q1, q2⟩ => ⟨q1, fun ⟨b', h1, h2⟩ => q2 ⟨b', by omega, h2⟩⟩⟩
      by_cases e : b' = b
      · rw [e] at h2; exact h h2
      · exact q2 ⟨b', by omega, h2⟩
theorem pcn_1 {c : Nat} : ∀ n, 0 < pcn c n ↔ ∃ b, b < n ∧ c.testBit b = true
  | 0 => by rw [pcn]; exact ⟨fun h => absurd h (by decide), fun ⟨b, h, _⟩ => absurd h (by omega)⟩
  | n + 1 => by
    have ih := pcn_1 (c := c) n
    rw [pcn]
    by_cases h : c.testBit n = true
    · rw [if_pos h]
      exact ⟨fun _ => ⟨n, by omega, h⟩, fun _ => by omega⟩
    · rw [if_neg h, Nat.add_zero, ih]
      refine ⟨fun ⟨b, h1, h2⟩ => ⟨b, by omega, h2⟩, fun ⟨b, h1, h2⟩ => ⟨b, ?_, h2⟩⟩
      rcases Nat.lt_or_ge b n with q | q
      · exact q
      · have : b = n := by omega
        rw [this] at h2; exact absurd h2 h
theorem pcn_2 {c : Nat} : ∀ n, 2 ≤ pcn c n ↔ ∃ a b, b < a ∧ a < n ∧ c.testBit b = true ∧ c.testBit a = true
  | 0 => by rw [pcn]; exact ⟨fun h => absurd h (by decide), fun ⟨a, b, _, h, _⟩ => absurd h (by omega)⟩
  | n + 1 => by
    have ih := pcn_2 (c := c) n
    have i1 := pcn_1 (c := c) n
    rw [pcn]
    by_cases h : c.testBit n = true
    · rw [if_pos h]
      constructor
      · intro q
        obtain ⟨b, b1, b2⟩ := i1.mp (by omega)
        exact ⟨n, b, b1, by omega, b2, h⟩
      · rintro ⟨a, b, h1, h2, h3, h4⟩
        have := i1.mpr ⟨b, by omega, h3⟩
        omega
    · rw [if_neg h, Nat.add_zero, ih]
      refine ⟨fun ⟨a, b, h1, h2, h3⟩ => ⟨a, b, h1, by omega, h3⟩, fun ⟨a, b, h1, h2, h3, h4⟩ => ⟨a, b, h1, ?_, h3, h4⟩⟩
      rcases Nat.lt_or_ge a n with q | q
      · exact q
      · have : a = n := by omega
        rw [this] at h4; exact absurd h4 h
theorem sO_z {V : Nat → Nat → Int32} {c : Nat} : ∀ n, (sO V c n).1 = 0 ↔ ¬ 2 ≤ pcn c n
  | 0 => by rw [sO, pcn]; exact ⟨fun _ => by decide, fun _ => rfl⟩
  | n + 1 => by
    have i1 := pcn_1 (c := c) n
    rw [sO, sI_z n (Nat.le_refl _), sO_z n, pcn]
    by_cases h : c.testBit n = true
    · rw [if_pos h]
      constructor
      · rintro ⟨h1, h2⟩ h3
        obtain ⟨b, b1, b2⟩ := i1.mp (by omega)
        exact h2 ⟨b, b1, b2, h⟩
      · intro h1
        refine ⟨by omega, fun ⟨b, b1, b2, _⟩ => ?_⟩
        have := i1.mpr ⟨b, b1, b2⟩
        omega
    · rw [if_neg h, Nat.add_zero]
      exact ⟨fun h1 => h1.1, fun h1 => ⟨h1, fun ⟨_, _, _, q⟩ => h q⟩⟩
theorem sI_e {V : Nat → Nat → Int32} {c a : Nat} {σ : Nat × Int32} (h : ¬ c.testBit a = true) : ∀ b, sI V c a σ b = σ
  | 0 => rfl
  | b + 1 => by rw [sI, sI_e h b, sX, if_neg (fun q => h q.2)]
theorem sO_e {V : Nat → Nat → Int32} {c W : Nat} (h : ∀ i, W ≤ i → ¬ c.testBit i = true) : ∀ n, sO V c (W + n) = sO V c W
  | 0 => rfl
  | n + 1 => by
    show sI V c (W + n) (sO V c (W + n)) (W + n) = _
    rw [sI_e (h _ (by omega)), sO_e h n]
theorem freeW_ok {G W : Nat} {μ : Mem} (hG : 500 ≤ G) (h : μ 1 6 = nI W) (hW : W ≤ 12) : f_X0_freeWomen G μ = some (nI (mkM (fun w => decide (μ 3 w = nI 4294967295)) W)) := by
  obtain ⟨g', s, k1, rfl⟩ := loopZ (fun g v (x : Int32) => f_X0_freeWomen_L4 G μ g x v) W (fun k x => x = nI (mkM (fun w => decide (μ 3 w = nI 4294967295)) k)) (by
    rintro g w x hw rfl
    refine ⟨_, ?_, rfl⟩
    show f_X0_freeWomen_L4 G μ (g + 1) _ (nI w) = f_X0_freeWomen_L4 G μ g (nI (mkM _ (w + 1))) (nI (w + 1))
    rw [f_X0_freeWomen_L4, h, if_neg (nI_ge (by omega) (by omega)), if_neg (show ¬ (12 : Int32) ≤ nI w from nI_ge (b := 12) (by omega) (by omega)), chkn (by omega) (by omega), ixn (by omega), mkM]
    by_cases c : μ 3 w = nI 4294967295
    · rw [if_pos (show μ 3 w = -1 from c), if_pos (decide_eq_true c), f_X0_freeWomen_j37, show (1 : Int32) = nI 1 from rfl, sl1 (by omega), b_nor, nI_add]
    · rw [if_neg (show ¬ μ 3 w = -1 from c), if_neg (by rw [decide_eq_true_iff]; exact c), f_X0_freeWomen_j37, show (1 : Int32) = nI 1 from rfl, nI_add]) (by omega : W < G) (s := 0) rfl
  refine Eq.trans k1 ?_
  show f_X0_freeWomen_L4 G μ (g' + 1) _ (nI W) = _
  rw [f_X0_freeWomen_L4, h, if_pos (Int32.le_refl _)]
/-- the class's loops -/
theorem sC {G c : Nat} {μ : Mem} {V : Nat → Nat → Int32} {v5 k : Int32} (hG : 500 ≤ G) (hc : c < 4096) (hV : ∀ a b, a < 12 → b < a → c.testBit b = true → c.testBit a = true → v5 - imax (μ 97 b) (μ 98 a) = V a b) :
    f_X7_bestBeside_j103 G k (nI c) v5 μ = some (if k = 0 then nI (sO V c 12).1 else (sO V c 12).2, μ) := by
  have hs : ∀ i, i < 12 → f_X11_has (nI c) (nI i) = if c.testBit i = true then nI 1 else nI 0 := fun i hi => hasn (by omega) (by omega)
  obtain ⟨g', s, k1, rfl⟩ := loopI (fun g v (σ : Nat × Int32) => f_X7_bestBeside_L112 G (f_X7_bestBeside_j210 G) g k (nI c) v5 (nI σ.1) σ.2 v μ) 12 (fun a σ => σ = sO V c a) (by
    rintro g a σ ha rfl
    refine ⟨_, ?_, rfl⟩
    show f_X7_bestBeside_L112 G (f_X7_bestBeside_j210 G) (g + 1) k (nI c) v5 (nI (sO V c a).1) (sO V c a).2 (nI a) μ = f_X7_bestBeside_L112 G (f_X7_bestBeside_j210 G) g k (nI c) v5 (nI (sO V c (a + 1)).1) (sO V c (a + 1)).2 (nI (a + 1)) μ
    obtain ⟨g2, s, k2, rfl⟩ := loopZ (fun f v (σ : Nat × Int32) => f_X7_bestBeside_L122 G (f_X7_bestBeside_L112 G (f_X7_bestBeside_j210 G) g) (f_X7_bestBeside_j210 G) (f_X7_bestBeside_j204 G (f_X7_bestBeside_L112 G (f_X7_bestBeside_j210 G) g) (f_X7_bestBeside_j210 G)) f k (nI c) v5 (nI σ.1) σ.2 (nI a) v μ) a (fun b σ => σ = sI V c a (sO V c a) b) (by
      rintro f b σ hb rfl
      refine ⟨_, ?_, rfl⟩
      have bd := sI_b (V := V) (c := c) (sO_b (V := V) (c := c) a) b (by omega)
      have ob := or_add hb
      have pa : 2 ^ a ≤ 2 ^ 11 := Nat.pow_le_pow_right (by decide) (by omega)
      have pb : 2 ^ b ≤ 2 ^ 11 := Nat.pow_le_pow_right (by decide) (by omega)
      have sv := hV a b ha hb
      show f_X7_bestBeside_L122 G _ _ _ (f + 1) k (nI c) v5 (nI (sI V c a (sO V c a) b).1) (sI V c a (sO V c a) b).2 (nI a) (nI b) μ = f_X7_bestBeside_L122 G _ _ _ f k (nI c) v5 (nI (sX V c (sI V c a (sO V c a) b) a b).1) (sX V c (sI V c a (sO V c a) b) a b).2 (nI a) (nI (b + 1)) μ
      generalize sI V c a (sO V c a) b = σ at *
      obtain ⟨m, v⟩ := σ
      have bd : m < 2 ^ a + 2 ^ b := bd
      show f_X7_bestBeside_L122 G _ _ _ (f + 1) k (nI c) v5 (nI m) v (nI a) (nI b) μ = _
      rw [f_X7_bestBeside_L122, if_neg (nI_ge (by omega) (by omega)), chkn (by omega) (by omega), chkn (by omega) (by omega), hs b (by omega), hs a ha, ixn (by omega), ixn (by omega)]
      unfold f_X7_bestBeside_j183 f_X7_bestBeside_j198
      rw [show (1 : Int32) = nI 1 from rfl, nI_add, sl1 (by omega), sl1 (by omega), b_nor]
      have z1 : ¬ nI 1 = (0 : Int32) := by decide
      have z0 : nI 0 = (0 : Int32) := rfl
      by_cases c1 : c.testBit b = true
      · by_cases c2 : c.testBit a = true
        · have sv := sv c1 c2
          rw [if_pos c1, if_neg z1, if_pos c2, if_neg z1, sv, sX, if_pos (show c.testBit b = true ∧ c.testBit a = true from ⟨c1, c2⟩)]
          by_cases m0 : m = 0
          · rw [if_pos m0, m0, if_pos z0]
          · rw [if_neg m0, if_neg (nI_ne0 (by omega) (by omega))]
            by_cases le : V a b ≤ v
            · rw [if_pos le, if_pos le]
            · rw [if_neg le, if_neg le]
        · rw [if_pos c1, if_neg z1, if_neg c2, if_pos z0, sX, if_neg (show ¬ (c.testBit b = true ∧ c.testBit a = true) from fun q => c2 q.2)]
      · rw [if_neg c1, if_pos z0, sX, if_neg (show ¬ (c.testBit b = true ∧ c.testBit a = true) from fun q => c1 q.1)]) (by omega : a < G) (s := sO V c a) rfl
    rw [f_X7_bestBeside_L112, if_neg (show ¬ (12 : Int32) ≤ nI a from nI_ge (b := 12) ha (by omega))]
    refine Eq.trans k2 ?_
    show f_X7_bestBeside_L122 G _ _ _ (g2 + 1) k (nI c) v5 _ _ (nI a) (nI a) μ = _
    rw [f_X7_bestBeside_L122, if_pos (Int32.le_refl _), f_X7_bestBeside_j204, show (1 : Int32) = nI 1 from rfl, nI_add]
    rfl) 11 G 1 ((0, 0) : Nat × Int32) (by omega) (by omega) rfl
  unfold f_X7_bestBeside_j103
  refine Eq.trans k1 ?_
  show f_X7_bestBeside_L112 G _ (g' + 1) k (nI c) v5 _ _ (nI 12) μ = _
  rw [f_X7_bestBeside_L112, if_pos (by decide), f_X7_bestBeside_j210]
  by_cases e : k = 0
  · rw [if_pos e, if_pos e]
  · rw [if_neg e, if_neg e]
end
