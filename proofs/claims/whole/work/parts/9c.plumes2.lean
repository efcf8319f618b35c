section
theorem bsN_lt {L : List Nat} : ∀ n, bsN L (n + 1) ≤ n
  | 0 => Nat.le_refl _
  | n + 1 => by
    have := bsN_lt (L := L) n
    rw [bsN, if_neg (by omega)]
    split <;> omega
theorem bsN_s {L : List Nat} {n : Nat} : bsN L (n + 1) = if n = 0 then 0 else if mcN L n < mcN L (bsN L n) then n else bsN L n := rfl
theorem best12 {G : Nat} {L : List Nat} {ρ : Mem} (hG : 1000 ≤ G) (hL : ∀ j, j < L.length → L.getD j 0 < 216) (hl : L.length ≤ 216) (e : ρ 0 55 = nI L.length) (h33 : ∀ j, j < L.length → ρ 33 j = nI (dgt (L.getD j 0))) :
    ∃ ρ', f_X12_nextGuess G ρ = some (nI (dgt (bsN L 216)), ρ') ∧ ∀ x, x ≠ 32 → ρ' x = ρ x := by
  have ml : ∀ r, mcN L r ≤ 216 := fun r => by rw [mcN_mx]; exact mxf_c (fun v _ => Nat.le_trans kc_le hl)
  obtain ⟨g', ⟨v1, v2, μ1⟩, k1, i1, _, i3⟩ := loopZ (fun g v (s : Int32 × Int32 × Mem) => f_X12_nextGuess_L8 G g s.1 s.2.1 v s.2.2) 556 (fun v s => (∀ x, x ≠ 32 → s.2.2 x = ρ x) ∧ (rk v = 0 → s.1 = nI 4294967295 ∧ s.2.1 = nI 100000000) ∧ (0 < rk v → s.1 = nI (dgt (bsN L (rk v))) ∧ s.2.1 = nI (mcN L (bsN L (rk v))))) (by
    rintro g v ⟨v1, v2, s⟩ hv ⟨i1, i2, i3⟩
    have i1 : ∀ x, x ≠ 32 → s x = ρ x := i1
    have i2 : rk v = 0 → v1 = nI 4294967295 ∧ v2 = nI 100000000 := i2
    have i3 : 0 < rk v → v1 = nI (dgt (bsN L (rk v))) ∧ v2 = nI (mcN L (bsN L (rk v))) := i3
    have e556 : ¬ (556 : Int32) ≤ nI v := nI_ge (b := 556) hv (by omega)
    show ∃ s' : Int32 × Int32 × Mem, f_X12_nextGuess_L8 G (g + 1) v1 v2 (nI v) s = f_X12_nextGuess_L8 G g s'.1 s'.2.1 (nI (v + 1)) s'.2.2 ∧ _
    rcases rk_ok v hv with ⟨q1, q2, q3, q4⟩ | ⟨q1, q2⟩
    · obtain ⟨s2, m1, m2⟩ := most12 (G := G) (r := rk v) (L := L) (ρ := s) (by omega) q4 hL hl (by rw [i1 0 (by omega)]; exact e) (fun j hj => by rw [i1 33 (by omega)]; exact h33 j hj)
      rw [q2] at m1
      have st : ∀ v1 v2, f_X12_nextGuess_L8 G (g + 1) v1 v2 (nI v) s = f_X12_nextGuess_L8 G g (if v2 ≤ nI (mcN L (rk v)) then v1 else nI v) (imin v2 (nI (mcN L (rk v)))) (nI (v + 1)) s2 := by
        intro v1 v2
        rw [f_X12_nextGuess_L8, if_neg e556, q1, if_neg (by decide), m1, bndE_s]
        unfold f_X12_nextGuess_j44 f_X12_nextGuess_j53
        rw [ls12, show (1 : Int32) = nI 1 from rfl, nI_add]
        split <;> rfl
      have m2' : ∀ x, x ≠ 32 → s2 x = ρ x := fun x hx => by rw [m2 x hx]; exact i1 x hx
      rw [q3]
      by_cases z : rk v = 0
      · obtain ⟨rfl, rfl⟩ := i2 z
        refine ⟨(nI v, nI (mcN L 0), s2), ?_, m2', fun h => by omega, fun _ => ?_⟩
        · rw [st, z]
          have m0 := ml 0
          rw [if_neg (nI_ge (by omega) (by omega)), iminn (by omega) (by omega), Nat.min_eq_right (by omega)]
        · show nI v = _ ∧ nI _ = _
          rw [bsN_s, if_pos z]
          exact ⟨by rw [← q2, z], rfl⟩
      · obtain ⟨rfl, rfl⟩ := i3 (by omega)
        have a1 := ml (rk v)
        have a2 := ml (bsN L (rk v))
        by_cases c : mcN L (rk v) < mcN L (bsN L (rk v))
        · refine ⟨(nI v, nI (mcN L (rk v)), s2), ?_, m2', fun h => by omega, fun _ => ?_⟩
          · rw [st, if_neg (nI_ge c (by omega)), iminn (by omega) (by omega), Nat.min_eq_right (by omega)]
          · show nI v = _ ∧ nI _ = _
            rw [bsN_s, if_neg z, if_pos c]
            exact ⟨by rw [q2], rfl⟩
        · refine ⟨(nI (dgt (bsN L (rk v))), nI (mcN L (bsN L (rk v))), s2), ?_, m2', fun h => by omega, fun _ => ?_⟩
          · rw [st, if_pos (nI_le (by omega) (by omega)), iminn (by omega) (by omega), Nat.min_eq_left (by omega)]
          · show nI _ = _ ∧ nI _ = _
            rw [bsN_s, if_neg z, if_neg c]
            exact ⟨rfl, rfl⟩
    · refine ⟨(v1, v2, s), ?_, i1, by rw [q2]; exact i2, by rw [q2]; exact i3⟩
      rw [f_X12_nextGuess_L8, if_neg e556, q1, if_pos (by decide), f_X12_nextGuess_j53, show (1 : Int32) = nI 1 from rfl, nI_add]) (by omega : 556 < G) (s := (nI 4294967295, nI 100000000, ρ)) ⟨fun x _ => rfl, fun _ => ⟨rfl, rfl⟩, fun h => absurd h (by decide)⟩
  obtain ⟨rfl, rfl⟩ : v1 = nI (dgt (bsN L 216)) ∧ v2 = nI (mcN L (bsN L 216)) := i3 (by decide)
  refine ⟨μ1, ?_, i1⟩
  refine Eq.trans k1 ?_
  show f_X12_nextGuess_L8 G (g' + 1) _ _ (nI 556) μ1 = _
  rw [f_X12_nextGuess_L8, if_pos (by decide)]
theorem digs {n : Nat} (hn : n < 216) : f_X4_digitsOf (nI n) = nI (dgt n) := by
  unfold f_X4_digitsOf dgt
  simp (disch := omega) only [lit, neg1, nI_1, nI_add, pk_mul, pk_sub, nI_leI, nI_ltI, nI_eq, nI_eqm, chkn, ixn, if_pos, if_neg, bndV_s, bndE_s, bndO_s, reduceIte, irmn, iminn, imaxn, and_self, true_and, and_true, false_and, and_false, pk_div]
theorem best11 {G : Nat} {L : List Nat} {μ : Mem} (hG : 500 ≤ G) (P : ∀ r, r < 216 → μ 106 r = plA r ∧ μ 107 r = taA r) (hL : ∀ j, j < L.length → L.getD j 0 < 216) (hl : L.length ≤ 216) (e : μ 105 4 = nI L.length) (h108 : ∀ j, j < L.length → μ 108 j = nI (L.getD j 0)) :
    ∃ μ', f_X4_best_L24 G G (nI 217) (nI 0) μ = some (nI (dgt (bsN L 216)), μ') ∧ (∀ x, x ≠ 105 → x ≠ 109 → μ' x = μ x) ∧ (∀ j, j ≠ 5 → μ' 105 j = μ 105 j) ∧ μ' 105 5 = nI (bsN L 216) := by
  have ml : ∀ r, mcN L r ≤ 216 := fun r => by rw [mcN_mx]; exact mxf_c (fun v _ => Nat.le_trans kc_le hl)
  obtain ⟨g', ⟨v1, μ1⟩, k1, i1, i2, _, i4⟩ := loopZ (fun g v (s : Int32 × Mem) => f_X4_best_L24 G g s.1 v s.2) 216 (fun r s => (∀ x, x ≠ 105 → x ≠ 109 → s.2 x = μ x) ∧ (∀ j, j ≠ 5 → s.2 105 j = μ 105 j) ∧ (r = 0 → s.1 = nI 217) ∧ (0 < r → s.1 = nI (mcN L (bsN L r)) ∧ s.2 105 5 = nI (bsN L r))) (by
    rintro g r ⟨v1, s⟩ hr ⟨q1, q2, q3, q4⟩
    have i3 : r = 0 → v1 = nI 217 := q3
    have i4 : 0 < r → v1 = nI (mcN L (bsN L r)) ∧ s 105 5 = nI (bsN L r) := q4
    show ∃ s' : Int32 × Mem, f_X4_best_L24 G (g + 1) v1 (nI r) s = f_X4_best_L24 G g s'.1 (nI (r + 1)) s'.2 ∧ _
    obtain ⟨b, hb, rfl, hb2⟩ : ∃ b, b ≤ 217 ∧ v1 = nI b ∧ b = (if r = 0 then 217 else mcN L (bsN L r)) := by
      by_cases z : r = 0
      · exact ⟨217, by omega, i3 z, by rw [if_pos z]⟩
      · exact ⟨_, by have := ml (bsN L r); omega, (i4 (by omega)).1, by rw [if_neg z]⟩
    have i1 : ∀ x, x ≠ 105 → x ≠ 109 → s x = μ x := q1
    have i2 : ∀ j, j ≠ 5 → s 105 j = μ 105 j := q2
    have i5 : 0 < r → s 105 5 = nI (bsN L r) := fun h => (q4 h).2
    clear q1 q2 q3 q4 i3 i4
    obtain ⟨w, s2, m1, m2, m3, m4⟩ := most11 (G := G) (r := r) (b := b) (L := L) (μ := s) hG (fun r hr => by rw [i1 106 (by omega) (by omega), i1 107 (by omega) (by omega)]; exact P r hr) hr hb hL hl (by rw [i2 4 (by omega)]; exact e) (fun j hj => by rw [i1 108 (by omega) (by omega)]; exact h108 j hj)
    have e216 : ¬ (216 : Int32) ≤ nI r := nI_ge (b := 216) hr (by omega)
    have n1 : ∀ x, x ≠ 105 → x ≠ 109 → s2 x = μ x := fun x h1 h2 => by rw [m2 x h2]; exact i1 x h1 h2
    have n2 : ∀ j, j ≠ 5 → s2 105 j = μ 105 j := fun j hj => by rw [m2 105 (by omega)]; exact i2 j hj
    by_cases c : b ≤ w
    · have r0 : r ≠ 0 := fun z => by rw [if_pos z] at hb2; omega
      rw [if_neg r0] at hb2
      have c2 : ¬ mcN L r < mcN L (bsN L r) := by omega
      refine ⟨(nI b, s2), ?_, n1, n2, fun h => by omega, fun _ => ?_⟩
      · rw [f_X4_best_L24, if_neg e216, m1, bndE_s, if_pos (nI_le c (by omega)), f_X4_best_j50, show (1 : Int32) = nI 1 from rfl, nI_add]
      · show nI b = _ ∧ s2 105 5 = _
        rw [bsN_s, if_neg r0, if_neg c2, hb2, m2 105 (by omega)]
        exact ⟨rfl, i5 (by omega)⟩
    · have bs : bsN L (r + 1) = r := by
        rw [bsN_s]
        by_cases z : r = 0
        · rw [if_pos z, z]
        · rw [if_neg z] at hb2 ⊢
          rw [if_pos (by omega)]
      refine ⟨(nI w, wr s2 105 5 (nI r)), ?_, fun x h1 h2 => ?_, fun j hj => ?_, fun h => by omega, fun _ => ?_⟩
      · rw [f_X4_best_L24, if_neg e216, m1, bndE_s, if_neg (nI_ge (by omega) (by omega))]
        show f_X4_best_j50 G _ (nI w) (nI r) (wr s2 105 5 (nI r)) = _
        rw [f_X4_best_j50, show (1 : Int32) = nI 1 from rfl, nI_add]
      · show wr s2 105 5 (nI r) x = _
        rw [wr_off h1]; exact n1 x h1 h2
      · show wr s2 105 5 (nI r) 105 j = _
        rw [wr_slot hj]; exact n2 j hj
      · show nI w = _ ∧ wr s2 105 5 (nI r) 105 5 = _
        rw [bs, wr_same]
        exact ⟨congrArg nI (by rcases m4 with m | m; exact m.2; exact absurd m.1 c), rfl⟩) (by omega : 216 < G) (s := (nI 217, μ)) ⟨fun x _ _ => rfl, fun j _ => rfl, fun _ => rfl, fun h => absurd h (by omega)⟩
  obtain ⟨rfl, i5⟩ : v1 = nI (mcN L (bsN L 216)) ∧ μ1 105 5 = nI (bsN L 216) := i4 (by omega)
  have bl : bsN L 216 ≤ 215 := bsN_lt 215
  refine ⟨μ1, ?_, i1, i2, i5⟩
  refine Eq.trans k1 ?_
  show f_X4_best_L24 G (g' + 1) _ (nI 216) μ1 = _
  rw [f_X4_best_L24, if_pos (by decide), i5, digs (by omega)]
/-- only the plumes' rows are other than before -/
theorem AR_plu {bb : Bool} {μ μ' ρ : Mem} (h : AR bb μ ρ) (h1 : ∀ x, x ≠ 105 → x ≠ 108 → x ≠ 109 → μ' x = μ x) (c8 : PlR μ') : AR bb μ' ρ := by
  obtain ⟨W, M, ⟨a1, a2, a3, a4, a5, a6, a7, a8, a9, a10, a11, a12, a13, a14, a15⟩, b2, b3, b4, b5, b6, b7, b8⟩ := h
  have m : ∀ x, x < 105 ∨ 109 < x → μ' x = μ x := fun x g => h1 x (by omega) (by omega) (by omega)
  refine ⟨W, M, ⟨PpR_o a1 (m _ (by omega)) (fun x _ _ => m x (by omega)) rfl rfl (fun x _ _ => rfl), ?_, a3, RcR_o a4 (m _ (by omega)) (m _ (by omega)) rfl rfl, QuR_o a5 (m _ (by omega)) (m _ (by omega)) rfl rfl, CaR_o a6 (m _ (by omega)) (m _ (by omega)) rfl rfl, SiR_o a7 (m _ (by omega)) (m _ (by omega)) rfl rfl, LwR_o a8 (fun x _ _ => m x (by omega)) (fun x _ _ => rfl),
    MeR_o a9 (m _ (by omega)) (m _ (by omega)) rfl (fun x _ _ => rfl), GuR_o a10 (m _ (by omega)) (m _ (by omega)) rfl (fun x _ _ => rfl), OdR_o a11 (m _ (by omega)) (m _ (by omega)) rfl (fun x _ _ => rfl), RoR_o a12 (m _ (by omega)) (m _ (by omega)) rfl rfl, SpR_o a13 (m _ (by omega)) (m _ (by omega)) rfl rfl, OfR_o a14 (m _ (by omega)) (m _ (by omega)) rfl rfl, CgR_o a15 (m _ (by omega)) (fun x _ _ => rfl)⟩,
    TpR_o b2 (by rw [m 41 (by omega)]) (m 42 (by omega)) rfl rfl, ?_, ?_, PaR_o b5 (fun x _ _ => m x (by omega)) rfl rfl rfl, c8, ImR_o b7 (fun x _ => m x (by omega)) rfl rfl, b8⟩
  · show StR μ' 2 (μ' 26 3) (ρ 1) 0
    rw [m 26 (by omega)]
    exact StR_cls (fun x _ _ => m x (by omega)) a2
  · unfold FaR at b3 ⊢
    rw [m 41 (by omega)]
    exact b3
  · unfold DrR at b4 ⊢
    rw [m 52 (by omega)]
    exact b4
theorem lst_get {f : Nat → Bool} {k : Nat} : ∀ j, j < ((List.range k).filter f).length → ((List.range k).filter f).getD j 0 < k ∧ ((List.range k).filter f)[j]? = some (((List.range k).filter f).getD j 0) := by
  intro j hj
  rw [List.getD_eq_getElem?_getD, List.getElem?_eq_getElem hj]
  refine ⟨?_, rfl⟩
  have : ((List.range k).filter f)[j] ∈ List.range k := (List.mem_filter.mp (List.getElem_mem hj)).1
  exact List.mem_range.mp this
theorem study11 {G n : Nat} {μ ρ : Mem} {Q R E : Nat → Nat} (hG : 500 ≤ G) (D : GuD μ ρ n Q R E) (P : PlR μ) :
    ∃ μ', f_X4_study G μ = some μ' ∧ (∀ x, x ≠ 105 → x ≠ 108 → μ' x = μ x) ∧ μ' 105 4 = nI ((List.range 216).filter (ftB n Q R E)).length ∧ (∀ j x, ((List.range 216).filter (ftB n Q R E))[j]? = some x → μ' 108 j = nI x) ∧ (μ' 105 5 = nI 4294967294 ∨ (0 < ((List.range 216).filter (ftB n Q R E)).length ∧ μ' 105 5 = nI (bsN ((List.range 216).filter (ftB n Q R E)) 216))) := by
  obtain ⟨P1, P2⟩ := P
  rcases P2 with ⟨c4, c5⟩ | ⟨n', L, l0, l1, l2, l3, l4, l5⟩
  · have c4 : μ 105 4 = nI 4294967294 := c4
    have c5 : μ 105 5 = nI 4294967294 := c5
    have D' : GuD (wr μ 105 4 (nI 0)) ρ n Q R E := by
      unfold GuD LnR at D ⊢
      rw [wr_off (by omega), wr_off (by omega)]
      exact D
    obtain ⟨μ', s1, s2, s3, s4, s5⟩ := study_ok (G := G) hG D' (fun r hr => by rw [wr_off (by omega), wr_off (by omega)]; exact P1 r hr) wr_same
    refine ⟨μ', ?_, fun x h1 h2 => by rw [s2 x h1 h2, wr_off h1], s4, s5, Or.inl ?_⟩
    · rw [← s1]
      unfold f_X4_study
      rw [c4, if_pos (show nI 4294967294 = -2 from rfl)]
      rfl
    · rw [s3 5 (by omega), wr_slot (by omega)]; exact c5
  · have en : n' = n := by
      have := l1.symm.trans D.1.2.2.1
      have hn := D.1.2.2.2
      exact (nI_eq (by omega) (by omega)).mp this
    subst en
    have eL : L = (List.range 216).filter (ftB n' Q R E) := by
      rw [l2]
      exact List.filter_congr (fun x hx => fitC_ft D (List.mem_range.mp hx))
    rw [← eL]
    refine ⟨μ, ?_, fun x _ _ => rfl, l3, l4, l5⟩
    unfold f_X4_study
    rw [l3, if_neg]
    intro q
    have ll : L.length ≤ 216 := by rw [eL]; exact lst_len
    have : (0 : Int32) ≤ nI L.length := nI_pos' (by omega)
    grind
theorem s_plumes {G : Nat} {bb : Bool} {μ ρ : Mem} (hG : 1000 ≤ G) (h : AR bb μ ρ) (p : Int32) : ∃ r μ' ρ', f_X11_plumes G p μ = some (r, μ') ∧ f_X12_plumes G p ρ = some (r, ρ') ∧ AR bb μ' ρ' := by
  have h0 : AR bb μ (wr ρ 0 0 (nI 0)) := AR_told h
  obtain ⟨n, Q, R, E, D⟩ := guD_of (AR_ch h0).2.1
  have P := (AR_ch h0).2.2.2.2.2.2.2
  obtain ⟨μ1, s1, s2, s3, s4, s5⟩ := study11 (G := G) (by omega) D P
  obtain ⟨ρ1, f1, f2, f3, f4, f5⟩ := finds_ok (G := G) hG D
  have D1 : GuD μ1 (wr ρ 0 0 (nI 0)) n Q R E := by
    unfold GuD LnR at D ⊢
    rw [s2 30 (by omega) (by omega), s2 31 (by omega) (by omega)]
    exact D
  have fc : (List.range 216).filter (fitC μ1 n) = (List.range 216).filter (ftB n Q R E) := List.filter_congr (fun x hx => fitC_ft D1 (List.mem_range.mp hx))
  have P1 : PlR μ1 := ⟨fun r hr => by rw [s2 106 (by omega) (by omega), s2 107 (by omega) (by omega)]; exact P.1 r hr, Or.inr ⟨n, (List.range 216).filter (ftB n Q R E), D.1.2.2.2, D1.1.2.2.1, fc.symm, s3, s4, s5⟩⟩
  have hl := lst_len (f := ftB n Q R E) (k := 216)
  have lg := lst_get (f := ftB n Q R E) (k := 216)
  have A1 : AR bb μ1 (wr ρ 0 0 (nI 0)) := AR_plu h0 (fun x a b _ => s2 x a b) P1
  have B1 : AR bb μ1 ρ1 := AR_scr A1 (fun x _ _ _ _ => rfl) (fun x g1 _ _ _ _ g2 _ _ _ _ => f2 x g1 g2) (fun j _ g => f3 j g) (fun k _ => by rw [f2 1 (by omega) (by omega)])
  generalize (List.range 216).filter (ftB n Q R E) = L at *
  have h108 : ∀ j, j < L.length → μ1 108 j = nI (L.getD j 0) := fun j hj => s4 j _ (lg j hj).2
  have h33 : ∀ j, j < L.length → ρ1 33 j = nI (dgt (L.getD j 0)) := fun j hj => f5 j _ (lg j hj).2
  by_cases p0 : p = nI 0
  · subst p0
    exact ⟨nI L.length, μ1, ρ1, by simp (disch := omega) only [lit, neg1, nI_1, nI_add, pk_mul, pk_sub, nI_leI, nI_ltI, nI_eq, nI_eqm, chkn, ixn, if_pos, if_neg, bndV_s, bndE_s, bndO_s, reduceIte, irmn, iminn, imaxn, and_self, true_and, and_true, false_and, and_false, f_X11_plumes, s1, s3], by simp (disch := omega) only [lit, neg1, nI_1, nI_add, pk_mul, pk_sub, nI_leI, nI_ltI, nI_eq, nI_eqm, chkn, ixn, if_pos, if_neg, bndV_s, bndE_s, bndO_s, reduceIte, irmn, iminn, imaxn, and_self, true_and, and_true, false_and, and_false, f_X12_plumes, isI, f1, f4], B1⟩
  by_cases p1 : p = nI 1
  · subst p1
    by_cases z : L.length = 0
    · rw [z] at s3 f4
      exact ⟨nI 4294967295, μ1, ρ1, by simp (disch := omega) only [lit, neg1, nI_1, nI_add, pk_mul, pk_sub, nI_leI, nI_ltI, nI_eq, nI_eqm, chkn, ixn, if_pos, if_neg, bndV_s, bndE_s, bndO_s, reduceIte, irmn, iminn, imaxn, and_self, true_and, and_true, false_and, and_false, f_X11_plumes, s1, s3, f_X4_least], by simp (disch := omega) only [lit, neg1, nI_1, nI_add, pk_mul, pk_sub, nI_leI, nI_ltI, nI_eq, nI_eqm, chkn, ixn, if_pos, if_neg, bndV_s, bndE_s, bndO_s, reduceIte, irmn, iminn, imaxn, and_self, true_and, and_true, false_and, and_false, f_X12_plumes, isI, f1, f4], B1⟩
    · have l0 := (lg 0 (by omega)).1
      have c0 := h108 0 (by omega)
      have d0 := h33 0 (by omega)
      exact ⟨nI (dgt (L.getD 0 0)), μ1, ρ1, by simp (disch := omega) only [lit, neg1, nI_1, nI_add, pk_mul, pk_sub, nI_leI, nI_ltI, nI_eq, nI_eqm, chkn, ixn, if_pos, if_neg, bndV_s, bndE_s, bndO_s, reduceIte, irmn, iminn, imaxn, and_self, true_and, and_true, false_and, and_false, f_X11_plumes, s1, s3, f_X4_least, c0, digs l0], by simp (disch := omega) only [lit, neg1, nI_1, nI_add, pk_mul, pk_sub, nI_leI, nI_ltI, nI_eq, nI_eqm, chkn, ixn, if_pos, if_neg, bndV_s, bndE_s, bndO_s, reduceIte, irmn, iminn, imaxn, and_self, true_and, and_true, false_and, and_false, f_X12_plumes, isI, f1, f4, d0], B1⟩
  by_cases p2 : p = nI 2
  · subst p2
    by_cases z : L.length = 0
    · rw [z] at s3 f4
      exact ⟨nI 4294967295, μ1, ρ1, by simp (disch := omega) only [lit, neg1, nI_1, nI_add, pk_mul, pk_sub, nI_leI, nI_ltI, nI_eq, nI_eqm, chkn, ixn, if_pos, if_neg, bndV_s, bndE_s, bndO_s, reduceIte, irmn, iminn, imaxn, and_self, true_and, and_true, false_and, and_false, f_X11_plumes, s1, f_X4_best, s3], by simp (disch := omega) only [lit, neg1, nI_1, nI_add, pk_mul, pk_sub, nI_leI, nI_ltI, nI_eq, nI_eqm, chkn, ixn, if_pos, if_neg, bndV_s, bndE_s, bndO_s, reduceIte, irmn, iminn, imaxn, and_self, true_and, and_true, false_and, and_false, f_X12_plumes, isI, f1, f4], B1⟩
    · obtain ⟨ρ2, n1, n2⟩ := best12 (G := G) hG (fun j hj => (lg j hj).1) hl f4 h33
      have bl : bsN L 216 ≤ 215 := bsN_lt 215
      have x12 : f_X12_plumes G (nI 2) ρ = some (nI (dgt (bsN L 216)), ρ2) := by
        simp (disch := omega) only [lit, neg1, nI_1, nI_add, pk_mul, pk_sub, nI_leI, nI_ltI, nI_eq, nI_eqm, chkn, ixn, if_pos, if_neg, bndV_s, bndE_s, bndO_s, reduceIte, irmn, iminn, imaxn, and_self, true_and, and_true, false_and, and_false, f_X12_plumes, isI, f1, f4, n1]
      have B2 : ∀ μ', AR bb μ' (wr ρ 0 0 (nI 0)) → AR bb μ' ρ2 := fun μ' A => AR_scr A (fun x _ _ _ _ => rfl) (fun x g1 _ _ _ g3 g2 _ _ _ _ => by rw [n2 x g3]; exact f2 x g1 g2) (fun j _ g => by rw [n2 0 (by omega)]; exact f3 j g) (fun k _ => by rw [n2 1 (by omega), f2 1 (by omega) (by omega)])
      rcases s5 with s5 | ⟨l0, s5⟩
      · obtain ⟨μ2, m1, m2, m3, m4⟩ := best11 (G := G) (by omega) P1.1 (fun j hj => (lg j hj).1) hl s3 h108
        have P2 : PlR μ2 := by
          refine ⟨fun r hr => by rw [m2 106 (by omega) (by omega), m2 107 (by omega) (by omega)]; exact P1.1 r hr, Or.inr ⟨n, L, D.1.2.2.2, by rw [m2 30 (by omega) (by omega)]; exact D1.1.2.2.1, ?_, by rw [m3 4 (by omega)]; exact s3, by rw [m2 108 (by omega) (by omega)]; exact s4, Or.inr ⟨by omega, m4⟩⟩⟩
          rw [← fc]
          unfold fitC
          rw [m2 31 (by omega) (by omega)]
        refine ⟨_, μ2, ρ2, ?_, x12, B2 _ (AR_plu A1 (fun x a b c => m2 x a c) P2)⟩
        have lp : (0 : Int32) < nI L.length := nI_lt (a := 0) (by omega) (by omega)
        rw [f_X11_plumes, s1, bndV_s, if_neg (by decide), if_neg (by decide), if_pos (by decide), f_X4_best, s3, if_pos lp, s5, if_pos (by decide), show (217 : Int32) = nI 217 from rfl, show (0 : Int32) = nI 0 from rfl, m1, bndE_s]
      · refine ⟨_, μ1, ρ2, ?_, x12, B2 _ A1⟩
        have ne : ¬ nI (bsN L 216) = (-2 : Int32) := by
          intro q
          have : (0 : Int32) ≤ nI (bsN L 216) := nI_pos' (by omega)
          grind
        have lp : (0 : Int32) < nI L.length := nI_lt (a := 0) (by omega) (by omega)
        rw [f_X11_plumes, s1, bndV_s, if_neg (by decide), if_neg (by decide), if_pos (by decide), f_X4_best, s3, if_pos lp, s5, if_neg ne, digs (by omega), bndE_s]
  · refine ⟨nI 4294967295, μ1, wr ρ 0 0 (nI 0), ?_, ?_, A1⟩
    · simp (disch := omega) only [lit, neg1, nI_1, nI_add, pk_mul, pk_sub, nI_leI, nI_ltI, nI_eq, nI_eqm, chkn, ixn, if_pos, if_neg, bndV_s, bndE_s, bndO_s, reduceIte, irmn, iminn, imaxn, and_self, true_and, and_true, false_and, and_false, f_X11_plumes, s1, p0, p1, p2]
    · have pp : ¬ (nI 0 ≤ p ∧ p ≤ nI 2) := by
        rintro ⟨c1, c2⟩
        obtain ⟨k, hk, rfl⟩ := in_of 2 rfl (by omega) c1 c2
        rcases (by omega : k = 0 ∨ k = 1 ∨ k = 2) with e | e | e
        · exact p0 (by rw [e])
        · exact p1 (by rw [e])
        · exact p2 (by rw [e])
      simp (disch := omega) only [lit, neg1, nI_1, nI_add, pk_mul, pk_sub, nI_leI, nI_ltI, nI_eq, nI_eqm, chkn, ixn, if_pos, if_neg, bndV_s, bndE_s, bndO_s, reduceIte, irmn, iminn, imaxn, and_self, true_and, and_true, false_and, and_false, f_X12_plumes, isI, pp]
end
