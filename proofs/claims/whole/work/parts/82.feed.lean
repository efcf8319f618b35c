section
def TpN (n : Nat) (μ ρ : Mem) : Prop := μ 41 5 = nI n ∧ ρ 0 15 = nI n ∧ ∀ k, k < n → μ 42 k = ρ 10 k ∧ ∃ c, c < 256 ∧ ρ 10 k = nI c
theorem tk1 {G g n : Nat} {v s : Int32} {μ : Mem} (h : μ 41 5 = nI n) (hn : n < 400) (hs : ¬ s < 0) : f_X5_take_L3 G (g + 1) v s μ = f_X5_take_L3 G g v (s + -8) (wr (wr μ 42 n (sr v s &&& 255)) 41 5 (nI (n + 1))) := by
  rw [f_X5_take_L3, if_neg hs, h, if_neg (show ¬ (400 : Int32) ≤ nI n from nI_ge (b := 400) hn (by omega)), chkn hn (by omega), ixn (by omega)]
  show f_X5_take_L3 G g v (s + -8) (wr (wr μ 42 n (sr v s &&& 255)) 41 5 ((wr μ 42 n (sr v s &&& 255)) 41 5 + 1)) = _
  rw [wr_cell (by omega), h, nI_1]
theorem ty1 {G g n : Nat} {v s : Int32} {ρ : Mem} (h : ρ 0 15 = nI n) (hn : n < 400) (hs : ¬ s < 0) : f_X12_types_L3 G (g + 1) v s ρ = f_X12_types_L3 G g v (s + -8) (wr (wr ρ 10 n (sr v s &&& 255)) 0 15 (nI (n + 1))) := by
  rw [f_X12_types_L3, if_neg hs, h, chkn hn (by omega), ixn (by omega)]
  show f_X12_types_L3 G g v (s + -8) (wr (wr ρ 10 n (sr v s &&& 255)) 0 15 ((wr ρ 10 n (sr v s &&& 255)) 0 15 + 1)) = _
  rw [wr_cell (by omega), h, nI_1]
theorem tp1 {n : Nat} {b : Int32} {μ ρ : Mem} (h : TpN n μ ρ) (hb : ∃ c, c < 256 ∧ b = nI c) : TpN (n + 1) (wr (wr μ 42 n b) 41 5 (nI (n + 1))) (wr (wr ρ 10 n b) 0 15 (nI (n + 1))) := by
  refine ⟨wr_same, wr_same, fun k hk => ?_⟩
  rw [wr_cell (show (42 : Nat) ≠ 41 by omega), wr_cell (show (10 : Nat) ≠ 0 by omega)]
  by_cases e : k = n
  · subst e; rw [wr_same, wr_same]; exact ⟨rfl, hb⟩
  · rw [wr_slot e, wr_slot e]; exact h.2.2 k (by omega)
def Ff (μ μ' ρ ρ' : Mem) : Prop := (∀ x, x ≠ 41 → x ≠ 42 → μ' x = μ x) ∧ (∀ j, j ≠ 5 → μ' 41 j = μ 41 j) ∧ (∀ x, x ≠ 0 → x ≠ 10 → ρ' x = ρ x) ∧ (∀ j, j ≠ 15 → ρ' 0 j = ρ 0 j)
theorem Ff_tr {μ μ1 μ2 ρ ρ1 ρ2 : Mem} (h : Ff μ μ1 ρ ρ1) (h' : Ff μ1 μ2 ρ1 ρ2) : Ff μ μ2 ρ ρ2 :=
  ⟨fun x a b => by rw [h'.1 x a b, h.1 x a b], fun j a => by rw [h'.2.1 j a, h.2.1 j a], fun x a b => by rw [h'.2.2.1 x a b, h.2.2.1 x a b], fun j a => by rw [h'.2.2.2 j a, h.2.2.2 j a]⟩
theorem Ff_1 {n : Nat} {b v : Int32} {μ ρ : Mem} : Ff μ (wr (wr μ 42 n b) 41 5 v) ρ (wr (wr ρ 10 n b) 0 15 v) :=
  ⟨fun x a b => by rw [wr_off a, wr_off b], fun j a => by rw [wr_slot a, wr_cell (by omega)], fun x a b => by rw [wr_off a, wr_off b], fun j a => by rw [wr_slot a, wr_cell (by omega)]⟩
theorem take_sim {G n : Nat} {v : Int32} {μ ρ : Mem} (hG : 500 ≤ G) (h : TpN n μ ρ) (hn : n + 4 ≤ 400) : ∃ μ' ρ', f_X5_take G v μ = some μ' ∧ f_X12_types G v ρ = some ρ' ∧ TpN (n + 4) μ' ρ' ∧ Ff μ μ' ρ ρ' := by
  obtain ⟨g, rfl⟩ : ∃ g, G = g + 1 + 1 + 1 + 1 + 1 := ⟨G - 5, by omega⟩
  have by' : ∀ s, ∃ c, c < 256 ∧ sr v s &&& 255 = nI c := fun s => pk_andE (sr v s) 8 rfl
  have t1 := tp1 h (by' 24)
  have t2 := tp1 t1 (by' 16)
  have t3 := tp1 t2 (by' 8)
  have t4 := tp1 t3 (by' 0)
  refine ⟨_, _, ?_, ?_, t4, Ff_tr (Ff_tr (Ff_tr Ff_1 Ff_1) Ff_1) Ff_1⟩
  · unfold f_X5_take
    rw [tk1 (G := g + 1 + 1 + 1 + 1 + 1) (s := 24) h.1 (by omega) (by decide), show (24 : Int32) + -8 = 16 from rfl, tk1 (s := 16) t1.1 (by omega) (by decide), show (16 : Int32) + -8 = 8 from rfl, tk1 (s := 8) t2.1 (by omega) (by decide), show (8 : Int32) + -8 = 0 from rfl, tk1 (s := 0) t3.1 (by omega) (by decide), f_X5_take_L3, if_pos (by decide)]
  · unfold f_X12_types
    rw [ty1 (G := g + 1 + 1 + 1 + 1 + 1) (s := 24) h.2.1 (by omega) (by decide), show (24 : Int32) + -8 = 16 from rfl, ty1 (s := 16) t1.2.1 (by omega) (by decide), show (16 : Int32) + -8 = 8 from rfl, ty1 (s := 8) t2.2.1 (by omega) (by decide), show (8 : Int32) + -8 = 0 from rfl, ty1 (s := 0) t3.2.1 (by omega) (by decide), f_X12_types_L3, if_pos (by decide)]
theorem s_feed {G : Nat} {bb : Bool} {μ ρ : Mem} (hG : 500 ≤ G) (h : AR bb μ ρ) (a b c d e : Int32) : ∃ r μ' ρ', f_X11_feed G a b c d e μ = some (r, μ') ∧ f_X12_feed G a b c d e ρ = some (r, ρ') ∧ AR bb μ' ρ' := by
  obtain ⟨W, M, H⟩ := id h
  have H0 : AT bb W M μ (wr ρ 0 0 (nI 0)) := told0 H
  obtain ⟨C, ⟨n, n1, n2, n3, n4⟩, b3, b4, b5, b6, b7, b8⟩ := id H0
  have T : TpN n μ (wr ρ 0 0 (nI 0)) := ⟨n2, n3, n4⟩
  by_cases hc : n ≤ 380
  · obtain ⟨μ1, ρ1, a1, a2, a3, a4⟩ := take_sim (v := a) hG T (by omega)
    obtain ⟨μ2, ρ2, c1, c2, c3, c4⟩ := take_sim (v := b) hG a3 (by omega)
    obtain ⟨μ3, ρ3, d1, d2, d3, d4⟩ := take_sim (v := c) hG c3 (by omega)
    obtain ⟨μ4, ρ4, e1, e2, e3, e4⟩ := take_sim (v := d) hG d3 (by omega)
    obtain ⟨μ5, ρ5, f1, f2, f3, f4⟩ := take_sim (v := e) hG e3 (by omega)
    obtain ⟨F1, F2, F3, F4⟩ := Ff_tr (Ff_tr (Ff_tr (Ff_tr a4 c4) d4) e4) f4
    refine ⟨nI (n + 4 + 4 + 4 + 4 + 4), μ5, ρ5, ?_, ?_, ?_⟩
    · simp (disch := omega) only [lit, neg1, nI_1, nI_add, pk_mul, pk_sub, nI_leI, nI_ltI, nI_eq, nI_eqm, chkn, ixn, if_pos, if_neg, bndV_s, bndE_s, bndO_s, reduceIte, irmn, iminn, imaxn, and_self, true_and, and_true, false_and, and_false, f_X11_feed, f_X5_hasRoom, n2, a1, c1, d1, e1, f1, f3.1]
    · simp (disch := omega) only [lit, neg1, nI_1, nI_add, pk_mul, pk_sub, nI_leI, nI_ltI, nI_eq, nI_eqm, chkn, ixn, if_pos, if_neg, bndV_s, bndE_s, bndO_s, reduceIte, irmn, iminn, imaxn, and_self, true_and, and_true, false_and, and_false, f_X12_feed, n3, a2, c2, d2, e2, f2, f3.2.1]
    · refine ⟨W, M, ChR_o C (fun x g1 g2 g3 g4 => F1 x (by omega) (by omega)) (fun x g1 g2 _ g3 _ _ _ _ _ _ _ _ _ _ => F3 x (by omega) g3) (fun j hj => F4 j (by intro e; subst e; exact absurd hj (by decide))) ?_ ?_ (RcR_o C.2.2.2.1 (F1 _ (by omega) (by omega)) (F1 _ (by omega) (by omega)) (by rw [F3 1 (by omega) (by omega)]) (F3 _ (by omega) (by omega))), ⟨n + 4 + 4 + 4 + 4 + 4, by omega, f3⟩, ?_, ?_, PaR_o b5 (fun x g1 g2 => F1 x (by omega) (by omega)) (F4 _ (by omega)) (F3 _ (by omega) (by omega)) (by rw [F3 1 (by omega) (by omega)]), PlR_o b6 (fun x g => F1 x (by omega) (by omega)), ImR_o b7 (fun x g => F1 x (by omega) (by omega)) (F4 _ (by omega)) (F3 _ (by omega) (by omega)), ?_⟩
      · rw [F1 _ (by omega) (by omega), F3 1 (by omega) (by omega)]
        exact StR_cls (fun x g1 g2 => F1 x (by omega) (by omega)) C.2.1
      · rw [F3 1 (by omega) (by omega)]; exact C.2.2.1
      · exact ⟨by rw [F2 6 (by omega), F4 35 (by omega)]; exact b3.1, by rw [F2 7 (by omega), F4 36 (by omega)]; exact b3.2⟩
      · unfold DrR at b4 ⊢
        rw [F1 52 (by omega) (by omega)]
        exact b4
      · unfold ThR at b8 ⊢
        rw [F4 5 (by omega), F3 11 (by omega) (by omega)]
        exact b8
  · exact no_st h (r := nI 4294967295) (by simp (disch := omega) only [lit, neg1, nI_1, nI_add, pk_mul, pk_sub, nI_leI, nI_ltI, nI_eq, nI_eqm, chkn, ixn, if_pos, if_neg, bndV_s, bndE_s, bndO_s, reduceIte, irmn, iminn, imaxn, and_self, true_and, and_true, false_and, and_false, f_X11_feed, f_X5_hasRoom, n2]) (by simp (disch := omega) only [lit, neg1, nI_1, nI_add, pk_mul, pk_sub, nI_leI, nI_ltI, nI_eq, nI_eqm, chkn, ixn, if_pos, if_neg, bndV_s, bndE_s, bndO_s, reduceIte, irmn, iminn, imaxn, and_self, true_and, and_true, false_and, and_false, f_X12_feed, n3])
end
