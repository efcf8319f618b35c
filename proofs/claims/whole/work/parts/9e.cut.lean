section
def lwb (v : Nat) : Nat := if v.testBit 0 = true then 0 else if v.testBit 1 = true then 1 else if v.testBit 2 = true then 2 else if v.testBit 3 = true then 3 else if v.testBit 4 = true then 4 else if v.testBit 5 = true then 5 else if v.testBit 6 = true then 6 else if v.testBit 7 = true then 7 else if v.testBit 8 = true then 8 else 9
theorem lwb_1 : ∀ a, a < 32 → ∀ b, b < 32 → (32 * a + b ≠ 0 → (32 * a + b).testBit (lwb (32 * a + b)) = true) ∧ lwb (32 * a + b) < 10 := by decide +kernel
theorem lwb_2 : ∀ a, a < 32 → ∀ b, b < 32 → 32 * a + b ≠ 0 → f_J6_bitCount_0f7a4 ((nI (32 * a + b) - nI 1) &&& (nI (32 * a + b) ^^^ nI 4294967295)) = nI (lwb (32 * a + b)) ∧ nI (32 * a + b) &&& (nI (32 * a + b) - nI 1) = nI (wo (32 * a + b) (2 ^ lwb (32 * a + b))) := by decide +kernel
theorem lwb_ok {v : Nat} (h : v < 1024) (h0 : v ≠ 0) : lwb v < 10 ∧ v.testBit (lwb v) = true ∧ f_J6_bitCount_0f7a4 ((nI v - nI 1) &&& (nI v ^^^ nI 4294967295)) = nI (lwb v) ∧ nI v &&& (nI v - nI 1) = nI (wo v (2 ^ lwb v)) := by
  have e : 32 * (v / 32) + v % 32 = v := Nat.div_add_mod v 32
  have h1 := lwb_1 (v / 32) (by omega) (v % 32) (by omega)
  have h2 := lwb_2 (v / 32) (by omega) (v % 32) (by omega)
  rw [e] at h1 h2
  exact ⟨h1.2, h1.1 h0, (h2 h0).1, (h2 h0).2⟩
/-- a set with a that no street leaves, but into S -/
def ClY (N : Nat → Nat) (S a : Nat) (Y : Nat → Prop) : Prop := Y a ∧ ∀ u v, u < 10 → Y u → (N u).testBit v = true → S.testBit v = false → Y v
def SepN (N : Nat → Nat) (S a b : Nat) : Prop := ∃ Y : Nat → Prop, ClY N S a Y ∧ ¬ Y b
theorem pcn_full {c : Nat} : ∀ n, pcn c n = n → ∀ i, i < n → c.testBit i = true
  | 0, _, i, hi => by omega
  | n + 1, h, i, hi => by
    have := pcn_max (a := c) (n := n)
    rw [pcn] at h
    by_cases e : i = n
    · subst e
      cases hb : c.testBit i with
      | true => rfl
      | false => rw [hb] at h; simp at h; omega
    · refine pcn_full n ?_ i (by omega)
      split at h <;> omega
theorem parts_s {G a b S : Nat} {μ : Mem} {N : Nat → Nat} (hG : 500 ≤ G) (hN : ∀ u, u < 10 → N u < 1024 ∧ μ 111 u = nI (N u)) (ha : a < 10) (hb : b < 10) (hS : S < 1024) :
    ∃ s, s < 1024 ∧ f_X9_parts G μ (nI a) (nI b) (nI S) = f_X9_parts_j95 G μ (nI b) (nI s) ∧ ClY N S a (fun u => s.testBit u = true) ∧ ∀ Y, ClY N S a Y → ∀ u, s.testBit u = true → Y u := by
  have key : ∀ m k s p g, k + m = 10 → m < g → s < 1024 → p < 1024 → (∀ i, p.testBit i = true → s.testBit i = true) → s.testBit a = true → (∀ u v, u < 10 → s.testBit u = true → p.testBit u = false → (N u).testBit v = true → S.testBit v = false → s.testBit v = true) → (∀ Y, ClY N S a Y → ∀ u, s.testBit u = true → Y u) → pcn (wo s p) 10 = k →
      ∃ t, t < 1024 ∧ f_X9_parts_L12 G μ (f_X9_parts_j95 G μ) g (nI b) (nI S) (nI s) (nI p) (nI k) = f_X9_parts_j95 G μ (nI b) (nI t) ∧ ClY N S a (fun u => t.testBit u = true) ∧ ∀ Y, ClY N S a Y → ∀ u, t.testBit u = true → Y u := by
    intro m
    induction m with
    | zero =>
      intro k s p g hk hg hs hp i1 i2 i3 i4 i5
      obtain ⟨g, rfl⟩ : ∃ x, g = x + 1 := ⟨g - 1, by omega⟩
      obtain rfl : k = 10 := by omega
      have al := pcn_full 10 i5
      refine ⟨s, hs, by rw [f_X9_parts_L12, if_pos (by decide)], ⟨i2, fun u v hu h1 h2 h3 => i3 u v hu h1 ?_ h2 h3⟩, i4⟩
      have := al u hu
      rw [wo_bit (by omega), h1, Bool.true_and] at this
      cases hb : p.testBit u with
      | true => rw [hb] at this; cases this
      | false => rfl
    | succ m ih =>
      intro k s p g hk hg hs hp i1 i2 i3 i4 i5
      obtain ⟨g, rfl⟩ : ∃ x, g = x + 1 := ⟨g - 1, by omega⟩
      have e10 : ¬ (10 : Int32) ≤ nI k := nI_ge (b := 10) (by omega) (by omega)
      by_cases p0 : p = 0
      · subst p0
        refine ⟨s, hs, ?_, ⟨i2, fun u v hu h1 h2 h3 => i3 u v hu h1 (Nat.zero_testBit u) h2 h3⟩, i4⟩
        rw [f_X9_parts_L12, if_neg e10, if_pos (by decide)]
      · obtain ⟨l1, l2, l3, l4⟩ := lwb_ok hp p0
        obtain ⟨n1, n2⟩ := hN _ l1
        have sw := i1 _ l2
        generalize lwb p = w at *
        have nl : wo (wo (N w) S) s < 1024 := Nat.lt_of_le_of_lt (Nat.le_trans wo_le wo_le) n1
        have nb : ∀ v, v < 32 → (wo (wo (N w) S) s).testBit v = ((N w).testBit v && !S.testBit v && !s.testBit v) := fun v hv => by rw [wo_bit hv, wo_bit hv]
        have big : ∀ v, 10 ≤ v → (N w).testBit v = false := fun v hv => bit_ge (k := 10) n1 hv
        have pb : ∀ v, (wo p (2 ^ w) ||| wo (wo (N w) S) s).testBit v = ((p.testBit v && !decide (w = v)) || (wo (wo (N w) S) s).testBit v) := fun v => by
          by_cases hv : v < 32
          · rw [Nat.testBit_or, wo_bit hv, pw_bit]
          · rw [Nat.testBit_or, bit_ge (k := 10) (Nat.lt_of_le_of_lt wo_le hp) (by omega), bit_ge (k := 10) hp (by omega)]
            rfl
        have nb2 : ∀ v, (wo (wo (N w) S) s).testBit v = true ↔ ((N w).testBit v = true ∧ S.testBit v = false ∧ s.testBit v = false) := fun v => by
          by_cases hv : v < 32
          · rw [nb v hv]
            cases (N w).testBit v <;> cases S.testBit v <;> cases s.testBit v <;> decide
          · rw [bit_ge (k := 10) nl (by omega), big v (by omega)]
            exact ⟨fun h => absurd h (by decide), fun h => absurd h.1 (by decide)⟩
        have st : f_X9_parts_L12 G μ (f_X9_parts_j95 G μ) (g + 1) (nI b) (nI S) (nI s) (nI p) (nI k) = f_X9_parts_L12 G μ (f_X9_parts_j95 G μ) g (nI b) (nI S) (nI (s ||| wo (wo (N w) S) s)) (nI (wo p (2 ^ w) ||| wo (wo (N w) S) s)) (nI (k + 1)) := by
          have l3 : f_J6_bitCount_0f7a4 ((nI p - 1) &&& (nI p ^^^ (-1))) = nI w := l3
          have pz : ¬ nI p = (0 : Int32) := nI_ne0 (by omega) (by omega)
          have bl : f_X11_isBelow (nI w) 10 = 1 := by rw [isB, if_pos ⟨nI_pos' (by omega), nI_lt (b := 10) l1 (by omega)⟩]
          have l4 : nI p &&& (nI p - 1) = nI (wo p (2 ^ w)) := l4
          have r1 : ∀ x y : Nat, nI x &&& (nI y ^^^ (-1)) = nI (wo x y) := fun x y => won
          rw [f_X9_parts_L12, if_neg e10, if_neg pz, l3, bl, if_neg (by decide), chkn l1 (by omega), ixn (by omega), n2, r1, r1]
          unfold f_X9_parts_j68
          rw [l4, b_nor, b_nor, show (1 : Int32) = nI 1 from rfl, nI_add]
        rw [st]
        have sb : ∀ v, (s ||| wo (wo (N w) S) s).testBit v = true ↔ (s.testBit v = true ∨ (wo (wo (N w) S) s).testBit v = true) := fun v => by rw [Nat.testBit_or, Bool.or_eq_true]
        refine ih (k + 1) _ _ g (by omega) (by omega) (or_lt (k := 10) hs nl) (or_lt (k := 10) (Nat.lt_of_le_of_lt wo_le hp) nl) (fun i h => ?_) ((sb a).mpr (Or.inl i2)) (fun u v hu h1 h2 h3 h4 => ?_) (fun Y hY u hu => ?_) ?_
        · rw [pb] at h
          rw [sb]
          rcases Bool.or_eq_true _ _ ▸ h with h | h
          · exact Or.inl (i1 i (Bool.and_eq_true _ _ ▸ h).1)
          · exact Or.inr h
        · rw [sb]
          rw [pb] at h2
          by_cases sv : s.testBit v = true
          · exact Or.inl sv
          · have sv' : s.testBit v = false := by cases hh : s.testBit v with | true => exact absurd hh sv | false => rfl
            by_cases uw : w = u
            · subst uw
              exact Or.inr ((nb2 v).mpr ⟨h3, h4, sv'⟩)
            · have dw : decide (w = u) = false := decide_eq_false uw
              rw [dw] at h2
              simp only [Bool.not_false, Bool.and_true, Bool.or_eq_false_iff] at h2
              have su : s.testBit u = true := by
                rcases (sb u).mp h1 with h | h
                · exact h
                · rw [h2.2] at h; cases h
              exact Or.inl (i3 u v hu su h2.1 h3 h4)
        · rcases (sb u).mp hu with h | h
          · exact i4 Y hY u h
          · obtain ⟨q1, q2, q3⟩ := (nb2 u).mp h
            exact hY.2 w u l1 (i4 Y hY w sw) q1 q2
        · have e : ∀ v, v < 10 → (wo (s ||| wo (wo (N w) S) s) (wo p (2 ^ w) ||| wo (wo (N w) S) s)).testBit v = (wo s p ||| 2 ^ w).testBit v := by
            intro v hv
            have q2 : (wo s p).testBit v = (s.testBit v && !p.testBit v) := wo_bit (by omega)
            rw [wo_bit (a := s ||| wo (wo (N w) S) s) (by omega), pb, Nat.testBit_or, Nat.testBit_or, q2, pw_bit]
            cases hn : (wo (wo (N w) S) s).testBit v with
            | true =>
              have q3 := ((nb2 v).mp hn).2.2
              have wv : ¬ w = v := fun e => by rw [e] at sw; rw [sw] at q3; cases q3
              rw [q3, decide_eq_false wv]
              simp
            | false =>
              by_cases wv : w = v
              · rw [decide_eq_true wv]
                rw [wv] at sw
                rw [sw]
                simp
              · rw [decide_eq_false wv]
                simp
          have pe : ∀ (x y : Nat) n, (∀ v, v < n → x.testBit v = y.testBit v) → pcn x n = pcn y n := by
            intro x y n
            induction n with
            | zero => intro _; rfl
            | succ n ihn => intro h; rw [pcn, pcn, ihn (fun v hv => h v (by omega)), h n (by omega)]
          have wn : (wo s p).testBit w = false := by rw [wo_bit (by omega), l2]; simp
          rw [pe _ _ 10 e, pcn_in wn, i5, if_pos l1]
  have sa : sl (1 : Int32) (nI a) = nI (2 ^ a) := sl1 (by omega)
  have pa : 2 ^ a < 1024 := pw_lt (k := 10) ha
  have aa : (2 ^ a).testBit a = true := by rw [pw_bit]; simp
  unfold f_X9_parts
  rw [sa]
  refine key 10 0 (2 ^ a) (2 ^ a) G (by omega) (by omega) pa pa (fun i h => h) aa (fun u v _ h1 h2 _ _ => by rw [h1] at h2; cases h2) (fun Y hY u hu => ?_) ?_
  · rw [pw_bit, decide_eq_true_iff] at hu
    rw [← hu]
    exact hY.1
  · have : wo (2 ^ a) (2 ^ a) = 0 := by
      apply bits_eq
      intro i
      rw [Nat.zero_testBit]
      by_cases hi : i < 32
      · rw [wo_bit hi]; cases (2 ^ a).testBit i <;> rfl
      · exact bit_ge (k := 10) (Nat.lt_of_le_of_lt wo_le pa) (by omega)
    rw [this, pcn_z]
theorem parts_ok {G a b S : Nat} {μ : Mem} {N : Nat → Nat} (hG : 500 ≤ G) (hN : ∀ u, u < 10 → N u < 1024 ∧ μ 111 u = nI (N u)) (ha : a < 10) (hb : b < 10) (hS : S < 1024) : (f_X9_parts G μ (nI a) (nI b) (nI S) = some (nI 1) ∧ SepN N S a b) ∨ (f_X9_parts G μ (nI a) (nI b) (nI S) = some (nI 0) ∧ ¬ SepN N S a b) := by
  obtain ⟨s, s1, s2, s3, s4⟩ := parts_s (b := b) hG hN ha hb hS
  have hh := hasn (a := s) (w := b) (by omega) (by omega)
  rw [s2, f_X9_parts_j95]
  by_cases c : s.testBit b = true
  · rw [if_pos c] at hh
    right
    rw [hh, if_neg (by decide)]
    exact ⟨rfl, fun ⟨Y, y1, y2⟩ => y2 (s4 Y y1 b c)⟩
  · rw [if_neg c] at hh
    left
    rw [hh, if_pos (by decide)]
    exact ⟨rfl, _, s3, c⟩
/-- the streets without the one from a to b -/
def wod (M : Nat → Nat) (a b u : Nat) : Nat := if u = a then wo (M a) (2 ^ b) else M u
theorem apart_ok {G a b : Nat} {μ : Mem} {M : Nat → Nat} (hG : 2000 ≤ G) (hM : ∀ u, u < 10 → M u < 1024 ∧ μ 111 u = nI (M u)) (ha : a < 10) (hb : b < 10) :
    ∃ m μ', f_X9_apart G (nI a) (nI b) μ = some (nI (m + if (M a).testBit b = true then 1 else 0), μ') ∧ (∀ x, x ≠ 111 → μ' x = μ x) ∧
      (m = 10 ∨ ∃ c, c < 1024 ∧ c.testBit a = false ∧ c.testBit b = false ∧ SepN (wod M a b) c a b ∧ pcn c 10 = m) ∧ ∀ c, c < 1024 → c.testBit a = false → c.testBit b = false → SepN (wod M a b) c a b → m ≤ pcn c 10 := by
  obtain ⟨m1, m2⟩ := hM a ha
  have hN : ∀ u, u < 10 → wod M a b u < 1024 ∧ (wr μ 111 a (nI (wo (M a) (2 ^ b)))) 111 u = nI (wod M a b u) := by
    intro u hu
    unfold wod
    by_cases c : u = a
    · rw [if_pos c, c, wr_same]
      exact ⟨Nat.lt_of_le_of_lt wo_le m1, rfl⟩
    · rw [if_neg c, wr_slot c]
      exact hM u hu
  generalize hμ : wr μ 111 a (nI (wo (M a) (2 ^ b))) = μ2 at hN
  obtain ⟨g', s, k1, m, rfl, i1, i2, i3⟩ := loopZ (fun g v (x : Int32) => f_X9_apart_L32 G g (nI a) (nI b) (nI (if (M a).testBit b = true then 1 else 0)) x v μ2) 1024 (fun k x => ∃ m, x = nI m ∧ m ≤ 10 ∧ (m = 10 ∨ ∃ c, c < 1024 ∧ c.testBit a = false ∧ c.testBit b = false ∧ SepN (wod M a b) c a b ∧ pcn c 10 = m) ∧ ∀ c, c < k → c.testBit a = false → c.testBit b = false → SepN (wod M a b) c a b → m ≤ pcn c 10) (by
    rintro g c x hc ⟨m, rfl, i1, i2, i3⟩
    have ec : ¬ (1024 : Int32) ≤ nI c := nI_ge (b := 1024) hc (by omega)
    have ha' := hasn (a := c) (w := a) (by omega) (by omega)
    have hb' := hasn (a := c) (w := b) (by omega) (by omega)
    have bc := bc12 c (by omega)
    rw [pcn_ext (n := 10) hc 12 (by omega)] at bc
    have pm := pcn_max (a := c) (n := 10)
    have keep : (c.testBit a = false → c.testBit b = false → SepN (wod M a b) c a b → m ≤ pcn c 10) → ∀ d, d < c + 1 → d.testBit a = false → d.testBit b = false → SepN (wod M a b) d a b → m ≤ pcn d 10 := by
      intro h d hd
      by_cases e : d = c
      · rw [e]; exact h
      · exact i3 d (by omega)
    show ∃ s', f_X9_apart_L32 G (g + 1) (nI a) (nI b) _ (nI m) (nI c) μ2 = f_X9_apart_L32 G g (nI a) (nI b) _ s' (nI (c + 1)) μ2 ∧ _
    by_cases ca : c.testBit a = true
    · rw [if_pos ca] at ha'
      refine ⟨nI m, ?_, m, rfl, i1, i2, keep (fun h => by rw [ca] at h; cases h)⟩
      rw [f_X9_apart_L32, if_neg ec, ha', if_neg (by decide), f_X9_apart_j86, show (1 : Int32) = nI 1 from rfl, nI_add]
    · rw [if_neg ca] at ha'
      by_cases cb : c.testBit b = true
      · rw [if_pos cb] at hb'
        refine ⟨nI m, ?_, m, rfl, i1, i2, keep (fun _ h => by rw [cb] at h; cases h)⟩
        rw [f_X9_apart_L32, if_neg ec, ha', if_pos (by decide), hb', if_neg (by decide), f_X9_apart_j86, show (1 : Int32) = nI 1 from rfl, nI_add]
      · rw [if_neg cb] at hb'
        have ca' : c.testBit a = false := by cases h : c.testBit a with | true => exact absurd h ca | false => rfl
        have cb' : c.testBit b = false := by cases h : c.testBit b with | true => exact absurd h cb | false => rfl
        by_cases cm : m ≤ pcn c 10
        · refine ⟨nI m, ?_, m, rfl, i1, i2, keep (fun _ _ _ => cm)⟩
          rw [f_X9_apart_L32, if_neg ec, ha', if_pos (by decide), hb', if_pos (by decide), bc, if_pos (nI_le cm (by omega)), f_X9_apart_j86, show (1 : Int32) = nI 1 from rfl, nI_add]
        · rcases parts_ok (G := G) (b := b) (by omega) hN ha hb hc with ⟨p1, p2⟩ | ⟨p1, p2⟩
          · refine ⟨nI (pcn c 10), ?_, pcn c 10, rfl, by omega, Or.inr ⟨c, hc, ca', cb', p2, rfl⟩, fun d hd q1 q2 q3 => ?_⟩
            · rw [f_X9_apart_L32, if_neg ec, ha', if_pos (by decide), hb', if_pos (by decide), bc, if_neg (nI_ge (by omega) (by omega)), p1, bndO_s, if_neg (by decide), f_X9_apart_j86, show (1 : Int32) = nI 1 from rfl, nI_add]
            · by_cases e : d = c
              · rw [e]; exact Nat.le_refl _
              · have := i3 d (by omega) q1 q2 q3
                omega
          · refine ⟨nI m, ?_, m, rfl, i1, i2, keep (fun _ _ h => absurd h p2)⟩
            rw [f_X9_apart_L32, if_neg ec, ha', if_pos (by decide), hb', if_pos (by decide), bc, if_neg (nI_ge (by omega) (by omega)), p1, bndO_s, if_pos (by decide), f_X9_apart_j86, show (1 : Int32) = nI 1 from rfl, nI_add]) (by omega : 1024 < G) (s := nI 10) ⟨10, rfl, Nat.le_refl _, Or.inl rfl, fun c hc => absurd hc (by omega)⟩
  refine ⟨m, μ2, ?_, fun x hx => by rw [← hμ, wr_off hx], i2, fun c hc => i3 c hc⟩
  have sb : sl (1 : Int32) (nI b) = nI (2 ^ b) := sl1 (by omega)
  have bit : (sr (nI (M a)) (nI b)) &&& (1 : Int32) = nI (if (M a).testBit b = true then 1 else 0) := by
    rw [srn (by omega) (by omega), show (1 : Int32) = nI 1 from rfl, b_nand, Nat.and_one_is_mod, Nat.testBit_eq_decide_div_mod_eq]
    congr 1
    by_cases q : M a / 2 ^ b % 2 = 1
    · rw [decide_eq_true q, if_pos rfl, q]
    · rw [decide_eq_false q, if_neg (by decide)]; omega
  unfold f_X9_apart
  rw [chkn ha (by omega), chkn ha (by omega), chkn ha (by omega), ixn (by omega), m2, bit, sb]
  have r1 : ∀ x y : Nat, nI x &&& (nI y ^^^ (-1)) = nI (wo x y) := fun x y => won
  rw [r1]
  show f_X9_apart_L32 G G (nI a) (nI b) _ (nI 10) (nI 0) (wr μ 111 a (nI (wo (M a) (2 ^ b)))) = _
  rw [hμ]
  refine Eq.trans k1 ?_
  show f_X9_apart_L32 G (g' + 1) (nI a) (nI b) _ (nI m) (nI 1024) μ2 = _
  rw [f_X9_apart_L32, if_pos (by decide), nI_add]
end
