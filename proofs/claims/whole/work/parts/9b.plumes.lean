section
def mxf (f : Nat → Nat) : Nat → Nat
  | 0 => 0
  | n + 1 => max (mxf f n) (f n)
theorem mxf_e {f h : Nat → Nat} : ∀ {n}, (∀ v, v < n → f v = h v) → mxf f n = mxf h n
  | 0, _ => rfl
  | n + 1, H => by rw [mxf, mxf, mxf_e (fun v hv => H v (by omega)), H n (by omega)]
theorem mxf_0 {f : Nat → Nat} : ∀ {n}, (∀ v, v < n → f v = 0) → mxf f n = 0
  | 0, _ => rfl
  | n + 1, H => by rw [mxf, mxf_0 (fun v hv => H v (by omega)), H n (by omega)]; rfl
theorem mxf_ge {f : Nat → Nat} {v : Nat} : ∀ {n}, v < n → f v ≤ mxf f n
  | n + 1, h => by
    rw [mxf]
    by_cases e : v = n
    · subst e; omega
    · have := mxf_ge (f := f) (v := v) (n := n) (by omega); omega
theorem mxf_le {f h : Nat → Nat} : ∀ {n}, (∀ v, v < n → f v ≤ h v) → mxf f n ≤ mxf h n
  | 0, _ => Nat.le_refl _
  | n + 1, H => by
    have h1 := mxf_le (f := f) (h := h) (n := n) (fun v hv => H v (by omega))
    have h2 := H n (by omega)
    rw [mxf, mxf]; omega
theorem mxf_c {f : Nat → Nat} {c : Nat} : ∀ {n}, (∀ v, v < n → f v ≤ c) → mxf f n ≤ c
  | 0, _ => Nat.zero_le _
  | n + 1, H => by
    have h1 := mxf_c (f := f) (c := c) (n := n) (fun v hv => H v (by omega))
    have h2 := H n (by omega)
    rw [mxf]; omega
theorem mxf_up {f h : Nat → Nat} {j : Nat} : ∀ {n}, j < n → (∀ v, v < n → v ≠ j → h v = f v) → f j ≤ h j → mxf h n = max (mxf f n) (h j)
  | n + 1, hj, H, hle => by
    rw [mxf, mxf]
    by_cases e : j = n
    · subst e
      rw [mxf_e (fun v hv => H v (by omega) (by omega))]
      omega
    · rw [mxf_up (n := n) (by omega) (fun v hv => H v (by omega)) hle, H n (by omega) (fun q => e q.symm)]
      omega
/-- how often the key is v -/
def kc (key : Nat → Nat) (L : List Nat) (v : Nat) : Nat := L.countP (fun x => key x == v)
theorem kc_s {key : Nat → Nat} {L : List Nat} {x v : Nat} : kc key (L ++ [x]) v = kc key L v + (if key x = v then 1 else 0) := by
  unfold kc
  rw [List.countP_append, List.countP_cons, List.countP_nil, Nat.zero_add]
  congr 1
  by_cases h : key x = v
  · rw [if_pos h, if_pos (by rw [beq_iff_eq]; exact h)]
  · rw [if_neg h, if_neg (by rw [beq_iff_eq]; exact h)]
theorem kc_le {key : Nat → Nat} {L : List Nat} {v : Nat} : kc key L v ≤ L.length := List.countP_le_length
theorem mx_s {key : Nat → Nat} {L : List Nat} {x : Nat} (h : key x < 16) : mxf (kc key (L ++ [x])) 16 = max (mxf (kc key L) 16) (kc key L (key x) + 1) := by
  rw [mxf_up (f := kc key L) (j := key x) h (fun v _ hv => by rw [kc_s, if_neg (fun q => hv q.symm), Nat.add_zero]) (by rw [kc_s]; omega), kc_s, if_pos rfl]
theorem mx_0 {key : Nat → Nat} {L : List Nat} : mxf (kc key (List.take 0 L)) 16 = 0 := by rw [List.take_zero]; rfl
theorem mcN_mx {L : List Nat} {r : Nat} : mcN L r = mxf (kc (fun x => t5 r x) L) 16 := rfl
theorem take_s {L : List Nat} {j : Nat} (h : j < L.length) : L.take (j + 1) = L.take j ++ [L.getD j 0] := by
  rw [List.take_succ_eq_append_getElem h, List.getD_eq_getElem?_getD, List.getElem?_eq_getElem h]
  rfl
theorem mx_sd {L : List Nat} {r : Nat} (hr : r < 216) (hL : ∀ j, j < L.length → L.getD j 0 < 216) : mxf (kc (fun x => sd x r) L) 16 = mcN L r := by
  rw [mcN_mx]
  have cc : ∀ x, x < 216 → ∀ k, k ≤ L.length → kc (fun x => sd x r) (L.take k) (sd x r) = kc (fun x => t5 r x) (L.take k) (t5 r x) := by
    intro x hx k
    induction k with
    | zero => intro _; rfl
    | succ k ih =>
      intro hk
      rw [take_s (by omega), kc_s, kc_s, ih (by omega)]
      congr 1
      have hy := hL k (by omega)
      have c1 := sd_c (a := L.getD k 0) (b := r)
      have c2 := sd_c (a := x) (b := r)
      have e : sd (L.getD k 0) r = sd x r ↔ t5 r (L.getD k 0) = t5 r x := by
        rw [sd_t5 hy hr hx hr]
        unfold t5
        rw [c1.1, c1.2, c2.1, c2.2]
      by_cases q : sd (L.getD k 0) r = sd x r
      · rw [if_pos q, if_pos (e.mp q)]
      · rw [if_neg q, if_neg (fun z => q (e.mpr z))]
  have main : ∀ k, k ≤ L.length → mxf (kc (fun x => sd x r) (L.take k)) 16 = mxf (kc (fun x => t5 r x) (L.take k)) 16 := by
    intro k
    induction k with
    | zero => intro _; rw [mx_0, mx_0]
    | succ k ih =>
      intro hk
      have hy := hL k (by omega)
      have b := sd_re (r := 0) (e := 0) hy hr (by omega)
      rw [take_s (by omega), mx_s (key := fun x => sd x r) b.2.1, mx_s (key := fun x => t5 r x) b.2.2, ih (by omega), cc _ hy k (by omega)]
  have := main L.length (Nat.le_refl _)
  rwa [List.take_length] at this
/-- the reference's greatest class -/
theorem most12 {G r : Nat} {L : List Nat} {ρ : Mem} (hG : 500 ≤ G) (hr : r < 216) (hL : ∀ j, j < L.length → L.getD j 0 < 216) (hl : L.length ≤ 216) (e : ρ 0 55 = nI L.length) (h33 : ∀ j, j < L.length → ρ 33 j = nI (dgt (L.getD j 0))) :
    ∃ ρ', f_X12_mostLeft G (nI (dgt r)) ρ = some (nI (mcN L r), ρ') ∧ ∀ x, x ≠ 32 → ρ' x = ρ x := by
  obtain ⟨g1, μ1, k1, i1, i2⟩ := loopZ (fun g v (s : Mem) => f_X12_mostLeft_L2 G (f_X12_mostLeft_j21 G) g (nI (dgt r)) v s) 16 (fun k s => (∀ x, x ≠ 32 → s x = ρ x) ∧ ∀ j, j < k → s 32 j = nI 0) (by
    rintro g v s hv ⟨i1, i2⟩
    refine ⟨wr s 32 v (nI 0), ?_, fun x hx => by rw [wr_off hx]; exact i1 x hx, fun j hj => ?_⟩
    · simp (disch := omega) only [lit, neg1, nI_1, nI_add, pk_mul, pk_sub, nI_leI, nI_ltI, nI_eq, nI_eqm, chkn, ixn, if_pos, if_neg, bndV_s, bndE_s, bndO_s, reduceIte, irmn, iminn, imaxn, and_self, true_and, and_true, false_and, and_false, f_X12_mostLeft_L2]
    · by_cases c : j = v
      · rw [c, wr_same]
      · rw [wr_slot c]; exact i2 j (by omega)) (by omega : 16 < G) (s := ρ) ⟨fun x _ => rfl, fun j hj => absurd hj (by omega)⟩
  obtain ⟨g2, ⟨m, μ2⟩, k2, rfl, i3, i4⟩ := loopZ (fun g v (s : Int32 × Mem) => f_X12_mostLeft_L25 G g (nI (dgt r)) s.1 v s.2) L.length (fun k s => s.1 = nI (mxf (kc (fun x => sd x r) (L.take k)) 16) ∧ (∀ x, x ≠ 32 → s.2 x = ρ x) ∧ ∀ v, v < 16 → s.2 32 v = nI (kc (fun x => sd x r) (L.take k) v)) (by
    rintro g j ⟨m, s⟩ hj ⟨rfl, i3, i4⟩
    have i3 : ∀ x, x ≠ 32 → s x = ρ x := i3
    have i4 : ∀ v, v < 16 → s 32 v = nI (kc (fun x => sd x r) (L.take j) v) := i4
    have hy := hL j hj
    have b := sd_re (r := 0) (e := 0) hy hr (by omega)
    have sk := said_ok (G := G) (ρ := s) hG hy hr
    have e2 : s 0 55 = nI L.length := by rw [i3 0 (by omega)]; exact e
    have e3 : s 33 j = nI (dgt (L.getD j 0)) := by rw [i3 33 (by omega)]; exact h33 j hj
    have e4 := i4 _ b.2.1
    have kl : kc (fun x => sd x r) (L.take j) (sd (L.getD j 0) r) ≤ 216 := Nat.le_trans kc_le (by rw [List.length_take]; omega)
    have ml : mxf (kc (fun x => sd x r) (L.take j)) 16 ≤ 216 := mxf_c (fun v _ => Nat.le_trans kc_le (by rw [List.length_take]; omega))
    refine ⟨(nI (mxf (kc (fun x => sd x r) (L.take (j + 1))) 16), wr s 32 (sd (L.getD j 0) r) (nI (kc (fun x => sd x r) (L.take j) (sd (L.getD j 0) r) + 1))), ?_, rfl, fun x hx => ?_, fun v hv => ?_⟩
    · show f_X12_mostLeft_L25 G (g + 1) (nI (dgt r)) (nI (mxf (kc (fun x => sd x r) (L.take j)) 16)) (nI j) s = f_X12_mostLeft_L25 G g (nI (dgt r)) (nI (mxf (kc (fun x => sd x r) (L.take (j + 1))) 16)) (nI (j + 1)) _
      rw [take_s hj, mx_s (key := fun x => sd x r) b.2.1]
      have bb := b.2.1
      generalize sd (L.getD j 0) r = q at *
      simp (disch := omega) only [lit, neg1, nI_1, nI_add, pk_mul, pk_sub, nI_leI, nI_ltI, nI_eq, nI_eqm, chkn, ixn, if_pos, if_neg, bndV_s, bndE_s, bndO_s, reduceIte, irmn, iminn, imaxn, and_self, true_and, and_true, false_and, and_false, f_X12_mostLeft_L25, e2, e3, sk, gr12, e4, wr_same]
    · show wr s 32 _ _ x = _
      rw [wr_off hx]; exact i3 x hx
    · show wr s 32 _ _ 32 v = _
      rw [take_s hj, kc_s]
      by_cases c : v = sd (L.getD j 0) r
      · rw [c, wr_same, if_pos rfl]
      · rw [wr_slot c, if_neg (fun z => c z.symm), Nat.add_zero]; exact i4 v hv) (by omega : L.length < G) (s := ((0 : Int32), μ1)) ⟨by rw [mx_0]; rfl, i1, fun v hv => i2 v hv⟩
  refine ⟨μ2, ?_, i3⟩
  refine Eq.trans k1 ?_
  show f_X12_mostLeft_L2 G (f_X12_mostLeft_j21 G) (g1 + 1) (nI (dgt r)) (nI 16) μ1 = _
  rw [f_X12_mostLeft_L2, if_pos (show (16 : Int32) ≤ nI 16 by decide), f_X12_mostLeft_j21]
  refine Eq.trans k2 ?_
  show f_X12_mostLeft_L25 G (g2 + 1) (nI (dgt r)) (nI (mxf (kc (fun x => sd x r) (L.take L.length)) 16)) (nI L.length) μ2 = _
  have e2 : μ2 0 55 = nI L.length := by rw [show μ2 0 = ρ 0 from i3 0 (by omega)]; exact e
  rw [f_X12_mostLeft_L25, if_pos (by rw [e2]; exact Int32.le_refl _), List.take_length, mx_sd hr hL]
/-- the class's, that stops where b is reached -/
theorem most11 {G r b : Nat} {L : List Nat} {μ : Mem} (hG : 500 ≤ G) (P : ∀ r, r < 216 → μ 106 r = plA r ∧ μ 107 r = taA r) (hr : r < 216) (hb : b ≤ 217) (hL : ∀ j, j < L.length → L.getD j 0 < 216) (hl : L.length ≤ 216) (e : μ 105 4 = nI L.length) (h108 : ∀ j, j < L.length → μ 108 j = nI (L.getD j 0)) :
    ∃ w μ', f_X4_greatestClass G (nI r) (nI b) μ = some (nI w, μ') ∧ (∀ x, x ≠ 109 → μ' x = μ x) ∧ w ≤ 216 ∧ ((w < b ∧ w = mcN L r) ∨ (b ≤ w ∧ b ≤ mcN L r)) := by
  obtain ⟨μ1, f1, f2, f3⟩ := filln (G := G) (a := 109) (n := 16) (v := nI 0) (μ := μ) (by omega) (by omega)
  have tl : ∀ k, mxf (kc (fun x => t5 r x) (L.take k)) 16 ≤ mcN L r := fun k => by
    rw [mcN_mx]
    exact mxf_le (fun v _ => List.Sublist.countP_le (List.take_sublist k L))
  have main : ∀ m j g s, j + m = L.length → m < g → (∀ x, x ≠ 109 → s x = μ x) → (∀ v, v < 16 → s 109 v = nI (kc (fun x => t5 r x) (L.take j) v)) →
      ∃ w μ', f_X4_greatestClass_L13 G g (nI r) (nI b) (nI (mxf (kc (fun x => t5 r x) (L.take j)) 16)) (nI j) s = some (nI w, μ') ∧ (∀ x, x ≠ 109 → μ' x = μ x) ∧ w ≤ 216 ∧ ((w < b ∧ w = mcN L r) ∨ (b ≤ w ∧ b ≤ mcN L r)) := by
    intro m
    induction m with
    | zero =>
      intro j g s hj hg i3 i4
      obtain ⟨g, rfl⟩ : ∃ x, g = x + 1 := ⟨g - 1, by omega⟩
      have e2 : s 105 4 = nI L.length := by rw [i3 105 (by omega)]; exact e
      have ml : mcN L r ≤ 216 := by rw [mcN_mx]; exact mxf_c (fun v _ => Nat.le_trans kc_le hl)
      rw [show j = L.length by omega, List.take_length, ← mcN_mx]
      refine ⟨mcN L r, s, ?_, i3, ml, ?_⟩
      · rw [f_X4_greatestClass_L13, if_pos (by rw [e2]; exact Int32.le_refl _)]
      · omega
    | succ m ih =>
      intro j g s hj hg i3 i4
      obtain ⟨g, rfl⟩ : ∃ x, g = x + 1 := ⟨g - 1, by omega⟩
      have e2 : s 105 4 = nI L.length := by rw [i3 105 (by omega)]; exact e
      have hy := hL j (by omega)
      have bd := sd_re (r := 0) (e := 0) hy hr (by omega)
      have tk := told_ok (G := G) (μ := s) (fun r hr => by rw [i3 106 (by omega), i3 107 (by omega)]; exact P r hr) hr hy
      have e3 : s 108 j = nI (L.getD j 0) := by rw [i3 108 (by omega)]; exact h108 j (by omega)
      have e4 := i4 _ bd.2.2
      have tlj := tl j
      have kl : kc (fun x => t5 r x) (L.take j) (t5 r (L.getD j 0)) ≤ 216 := Nat.le_trans kc_le (by rw [List.length_take]; omega)
      have ml : mxf (kc (fun x => t5 r x) (L.take j)) 16 ≤ 216 := mxf_c (fun v _ => Nat.le_trans kc_le (by rw [List.length_take]; omega))
      by_cases c : b ≤ mxf (kc (fun x => t5 r x) (L.take j)) 16
      · refine ⟨mxf (kc (fun x => t5 r x) (L.take j)) 16, s, ?_, i3, ml, Or.inr ⟨c, by omega⟩⟩
        generalize mxf (kc (fun x => t5 r x) (L.take j)) 16 = q at *
        simp (disch := omega) only [lit, neg1, nI_1, nI_add, pk_mul, pk_sub, nI_leI, nI_ltI, nI_eq, nI_eqm, chkn, ixn, if_pos, if_neg, bndV_s, bndE_s, bndO_s, reduceIte, irmn, iminn, imaxn, and_self, true_and, and_true, false_and, and_false, f_X4_greatestClass_L13, e2, c]
      · have ih' := ih (j + 1) g (wr s 109 (t5 r (L.getD j 0)) (nI (kc (fun x => t5 r x) (L.take j) (t5 r (L.getD j 0)) + 1))) (by omega) (by omega) (fun x hx => by rw [wr_off hx]; exact i3 x hx) (fun v hv => by
          rw [take_s (by omega), kc_s]
          by_cases c : v = t5 r (L.getD j 0)
          · rw [c, wr_same, if_pos rfl]
          · rw [wr_slot c, if_neg (fun z => c z.symm), Nat.add_zero]; exact i4 v hv)
        obtain ⟨w, μ', w1, w2, w3⟩ := ih'
        refine ⟨w, μ', ?_, w2, w3⟩
        rw [← w1, take_s (by omega), mx_s (key := fun x => t5 r x) bd.2.2]
        have bb := bd.2.2
        generalize mxf (kc (fun x => t5 r x) (L.take j)) 16 = q at *
        generalize t5 r (L.getD j 0) = p at *
        simp (disch := omega) only [lit, neg1, nI_1, nI_add, pk_mul, pk_sub, nI_leI, nI_ltI, nI_eq, nI_eqm, chkn, ixn, if_pos, if_neg, bndV_s, bndE_s, bndO_s, reduceIte, irmn, iminn, imaxn, and_self, true_and, and_true, false_and, and_false, f_X4_greatestClass_L13, e2, c, e3, tk, e4, wr_same]
  obtain ⟨w, μ', w1, w2, w3⟩ := main L.length 0 G μ1 (by omega) (by omega) f2 (fun v hv => f3 v hv)
  refine ⟨w, μ', ?_, w2, w3⟩
  rw [← w1]
  unfold f_X4_greatestClass
  rw [show (0 : Int32) = nI 0 from rfl, f1, bndV_s, mx_0]
end
