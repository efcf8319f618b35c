section
variable {G : Nat}
theorem ChR_mu {b W M : Nat} {μ μ' ρ : Mem} (a1 : ChR b μ ρ W M) (h1 : ∀ x, b ≤ x → x ≤ b + 39 → μ' x = μ x) : ChR b μ' ρ W M := by
  refine ChR_o a1 (fun x g _ _ _ => h1 x (by omega) (by omega)) (fun _ _ _ _ _ _ _ _ _ _ _ _ _ _ _ => rfl) (fun _ _ => rfl) ?_ a1.2.2.1 (RcR_o a1.2.2.2.1 (h1 _ (by omega) (by omega)) (h1 _ (by omega) (by omega)) rfl rfl)
  rw [h1 (b + 25) (by omega) (by omega)]
  exact StR_cls (fun x g1 g2 => h1 x (by omega) (by omega)) a1.2.1
/-- the reference's taking -/
theorem im_take (hG : 1000 ≤ G) {ρ : Mem} : ∃ ρ', f_X12_image G 1 ρ = some (1, ρ') ∧ (∀ c, c ≠ 0 → c ≠ 45 → ρ' c = ρ c) ∧ (∀ j, j ≠ 0 → j ≠ 72 → j ≠ 73 → j ≠ 74 → ρ' 0 j = ρ 0 j) ∧ ρ' 0 73 = 1 ∧ ∀ k, k < 1794 → ρ' 45 k = imA ρ k := by
  let m6 := wr (wr (wr (wr ρ 0 0 0) 0 72 1) 0 73 1) 0 74 (nI 0)
  have c6 : ∀ c, c ≠ 0 → m6 c = ρ c := fun c hc => by
    show (wr (wr (wr (wr ρ 0 0 0) 0 72 1) 0 73 1) 0 74 (nI 0)) c = _
    rw [wr_off hc, wr_off hc, wr_off hc, wr_off hc]
  have s6 : ∀ j, j ≠ 0 → j ≠ 72 → j ≠ 73 → j ≠ 74 → m6 0 j = ρ 0 j := fun j h0 h1 h2 h3 => by
    show (wr (wr (wr (wr ρ 0 0 0) 0 72 1) 0 73 1) 0 74 (nI 0)) 0 j = _
    rw [wr_slot h3, wr_slot h2, wr_slot h1, wr_slot h0]
  obtain ⟨m', e, i1, i2, i3, i4, i5, i6⟩ := im_walk (tk_stp (G := G) (ρ := m6)) hG 1 (m := m6) ⟨fun _ _ _ => rfl, fun _ _ _ _ => rfl, by
    show (wr (wr (wr (wr ρ 0 0 0) 0 72 1) 0 73 1) 0 74 (nI 0)) 0 72 = 1
    rw [wr_slot (by omega), wr_slot (by omega), wr_same], by
    show (wr (wr (wr (wr ρ 0 0 0) 0 72 1) 0 73 1) 0 74 (nI 0)) 0 73 = 1
    rw [wr_slot (by omega), wr_same], wr_same, fun i hi => absurd hi (by omega)⟩
  refine ⟨m', ?_, fun c h1 h2 => by rw [i1 c h1 h2, c6 c h1], fun j h0 h1 h2 h3 => by rw [i2 j h1 h2 h3, s6 j h0 h1 h2 h3], i4, fun k hk => ?_⟩
  · unfold f_X12_image
    refine Eq.trans (if_neg (by decide)) ?_
    unfold f_X12_image_j18
    refine Eq.trans bkk1 ?_
    refine Eq.trans e ?_
    rw [if_neg (by decide)]
  · rw [i6 k hk, imA_po, imA_po]
    by_cases c0 : (poI k).1 = 0
    · have := im_S ((po_ok k hk).2.2.2.2.2 c0)
      rw [c0, s6 _ this.1 this.2.2.2.2.2.2.1 this.2.2.2.2.2.2.2.1 this.2.2.2.2.2.2.2.2]
    · rw [c6 _ c0]
/-- after a taking -/
theorem AR_taken {W M : Nat} {μ μ' ρ ρ' : Mem} (a1 : ChR 1 μ ρ W M) (a2 : TpR μ ρ) (a3 : FaR μ ρ) (a4 : DrR μ) (a5 : PaR μ ρ W M) (a6 : PlR μ) (a8 : ThR ρ) (f : ∀ x, x < 112 → μ' x = μ x) (c : ChR 112 μ' ρ W M)
    (r1 : ∀ c, c ≠ 0 → c ≠ 45 → ρ' c = ρ c) (r2 : ∀ j, j ≠ 0 → j ≠ 72 → j ≠ 73 → j ≠ 74 → ρ' 0 j = ρ 0 j) (r3 : ρ' 0 73 = 1) (r4 : ∀ k, k < 1794 → ρ' 45 k = imA ρ k) : AR true μ' ρ' := by
  refine ⟨W, M, ChR_im (ChR_mu a1 (fun x _ _ => f x (by omega))) (fun k hk => ?_), TpR_o a2 (by rw [f _ (by omega)]) (f _ (by omega)) (r2 _ (by omega) (by omega) (by omega) (by omega)) (r1 _ (by omega) (by omega)), ?_, ?_, PaR_o a5 (fun x _ _ => f x (by omega)) (r2 _ (by omega) (by omega) (by omega) (by omega)) (r1 _ (by omega) (by omega)) (by rw [r1 1 (by omega) (by omega)]), PlR_o a6 (fun x g => f x (by omega)), ?_, ?_⟩
  · obtain ⟨_, o2, _, _, _, o6⟩ := po_ok k hk
    by_cases c0 : (poI k).1 = 0
    · have := im_S (o6 c0)
      rw [c0, r2 _ this.1 this.2.2.2.2.2.2.1 this.2.2.2.2.2.2.2.1 this.2.2.2.2.2.2.2.2]
    · rw [r1 _ c0 (by omega)]
  · unfold FaR at a3 ⊢
    rw [f _ (by omega), r2 _ (by omega) (by omega) (by omega) (by omega), r2 _ (by omega) (by omega) (by omega) (by omega)]
    exact a3
  · unfold DrR at a4 ⊢
    rw [f _ (by omega)]
    exact a4
  · unfold ImR
    rw [if_pos rfl]
    exact ⟨r3, ρ, W, M, c, r4⟩
  · unfold ThR at a8 ⊢
    rw [r2 _ (by omega) (by omega) (by omega) (by omega), r1 _ (by omega) (by omega)]
    exact a8
theorem s_image_t (hG : 1000 ≤ G) {μ ρ : Mem} (h : AR true μ ρ) : ∃ μ' ρ', f_X11_image G true 1 μ = some (1, μ') ∧ f_X12_image G 1 ρ = some (1, ρ') ∧ AR true μ' ρ' := by
  obtain ⟨W, M, a1, a2, a3, a4, a5, a6, a7, a8⟩ := h
  obtain ⟨ρ', e, r1, r2, r3, r4⟩ := im_take (G := G) hG (ρ := ρ)
  unfold ImR at a7
  rw [if_pos rfl] at a7
  obtain ⟨_, σ, W', M', c', _⟩ := a7
  obtain ⟨μ', e2, f2, c2⟩ := cpyCh (G := G) (by omega) (Or.inr (by omega)) (TgW_of c') a1
  refine ⟨μ', ρ', ?_, e, AR_taken a1 a2 a3 a4 a5 a6 a8 (fun x hx => f2 x (by omega)) c2 r1 r2 r3 r4⟩
  unfold f_X11_image
  rw [if_neg (show ¬ (1 : Int32) = 0 by decide), if_pos rfl, e2, bndV_s]
theorem s_image_n (hG : 1000 ≤ G) {μ ρ : Mem} (h : AR false μ ρ) : ∃ μ' ρ', f_X11_image G false 1 μ = some (1, μ') ∧ f_X12_image G 1 ρ = some (1, ρ') ∧ AR true μ' ρ' := by
  obtain ⟨W, M, a1, a2, a3, a4, a5, a6, a7, a8⟩ := h
  obtain ⟨ρ', e, r1, r2, r3, r4⟩ := im_take (G := G) hG (ρ := ρ)
  obtain ⟨m1, e1, f1, _, _, _, _, _, _, ⟨l1, l2, l3, l4, l5, l6, l7, l8, l9, l10⟩, _⟩ := x0_ok (G := G) (a := 112) (m := μ) (by omega)
  have a1' : ChR 1 m1 ρ W M := ChR_mu a1 (fun x _ _ => f1 x (by omega))
  obtain ⟨μ', e2, f2, c2⟩ := cpyCh (G := G) (a := 112) (by omega) (Or.inr (by omega)) ⟨⟨_, l1⟩, ⟨_, l2⟩, ⟨_, l3⟩, ⟨_, l4⟩, ⟨_, l5⟩, ⟨_, l6⟩, ⟨_, l7⟩, ⟨_, l8⟩, ⟨_, l9⟩, ⟨_, l10⟩⟩ a1'
  refine ⟨μ', ρ', ?_, e, AR_taken a1 a2 a3 a4 a5 a6 a8 (fun x hx => by rw [f2 x (by omega), f1 x (by omega)]) c2 r1 r2 r3 r4⟩
  unfold f_X11_image
  rw [if_neg (show ¬ (1 : Int32) = 0 by decide), if_neg (show ¬ false = true by decide), e1, bndV_s, e2, bndV_s]
theorem s_image_f {μ ρ : Mem} (h : AR false μ ρ) : ∃ ρ', f_X11_image G false 0 μ = some (0, μ) ∧ f_X12_image G 0 ρ = some (0, ρ') ∧ AR false μ ρ' := by
  refine ⟨wr ρ 0 0 0, rfl, ?_, AR_told h⟩
  obtain ⟨W, M, a1, a2, a3, a4, a5, a6, a7, a8⟩ := h
  have a7 : ρ 0 73 = 0 := a7
  unfold f_X12_image
  refine Eq.trans (if_pos rfl) ?_
  refine Eq.trans (if_pos ?_) rfl
  rw [wr_slot (by omega), a7]
theorem s_image_b (hG : 1000 ≤ G) {μ ρ : Mem} (h : AR true μ ρ) : ∃ μ' ρ', f_X11_image G true 0 μ = some (1, μ') ∧ f_X12_image G 0 ρ = some (1, ρ') ∧ AR true μ' ρ' := by
  obtain ⟨W, M, a1, a2, a3, a4, a5, a6, a7, a8⟩ := h
  unfold ImR at a7
  rw [if_pos rfl] at a7
  obtain ⟨a9, σ, W', M', c', q⟩ := a7
  -- the reference
  let m6 := wr (wr (wr (wr ρ 0 0 0) 0 72 0) 0 73 1) 0 74 (nI 0)
  have c6 : ∀ c, c ≠ 0 → m6 c = ρ c := fun c hc => by
    show (wr (wr (wr (wr ρ 0 0 0) 0 72 0) 0 73 1) 0 74 (nI 0)) c = _
    rw [wr_off hc, wr_off hc, wr_off hc, wr_off hc]
  have s6 : ∀ j, j ≠ 0 → j ≠ 72 → j ≠ 73 → j ≠ 74 → m6 0 j = ρ 0 j := fun j h0 h1 h2 h3 => by
    show (wr (wr (wr (wr ρ 0 0 0) 0 72 0) 0 73 1) 0 74 (nI 0)) 0 j = _
    rw [wr_slot h3, wr_slot h2, wr_slot h1, wr_slot h0]
  obtain ⟨m', e, i1, i2, i3, i4, i5, i6⟩ := im_walk (rs_stp (G := G) (ρ := m6)) hG 0 (m := m6) ⟨rfl, by
    show (wr (wr (wr (wr ρ 0 0 0) 0 72 0) 0 73 1) 0 74 (nI 0)) 0 72 = 0
    rw [wr_slot (by omega), wr_slot (by omega), wr_same], by
    show (wr (wr (wr (wr ρ 0 0 0) 0 72 0) 0 73 1) 0 74 (nI 0)) 0 73 = 1
    rw [wr_slot (by omega), wr_same], wr_same, fun i hi => absurd hi (by omega), fun _ _ _ _ => rfl⟩
  have np : ∀ {c s : Nat}, (c = 2 ∨ c = 10 ∨ c = 11 ∨ 42 < c ∨ (c = 0 ∧ (s = 0 ∨ s = 3 ∨ s = 5 ∨ s = 15 ∨ s = 35 ∨ s = 36 ∨ s = 73))) → ∀ i, i < 1794 → poI i ≠ (c, s) := fun {c s} hc i hi e => by
    obtain ⟨_, o2, o3, o4, o5, o6⟩ := po_ok i hi
    rw [e] at o2 o3 o4 o5 o6
    have o2 : c ≤ 42 := o2
    have o3 : c ≠ 2 := o3
    have o4 : c ≠ 10 := o4
    have o5 : c ≠ 11 := o5
    have o6 : c = 0 → s ∈ imS := o6
    rcases hc with hc | hc | hc | hc | ⟨hc, hs⟩
    · exact o3 hc
    · exact o4 hc
    · exact o5 hc
    · omega
    · have := im_S (o6 hc)
      rcases hs with hs | hs | hs | hs | hs | hs | hs <;> simp [hs] at this
  have k1 : ∀ c, (c = 2 ∨ c = 10 ∨ c = 11 ∨ 42 < c) → m' c = ρ c := fun c hc => by
    funext s
    rw [i6 c s (np (by omega)) (fun w => by omega), c6 c (by omega)]
  have k0 : ∀ s, (s = 3 ∨ s = 5 ∨ s = 15 ∨ s = 35 ∨ s = 36) → m' 0 s = ρ 0 s := fun s hs => by
    rw [i6 0 s (np (by omega)) (fun w => by omega), s6 s (by omega) (by omega) (by omega) (by omega)]
  -- the class
  obtain ⟨μ1, e2, f2, c2⟩ := cpyCh (G := G) (a := 1) (by omega) (Or.inl (by omega)) (TgW_of a1) c'
  let μ' := wr (wr (wr μ1 54 3 0) 105 4 (-2)) 105 5 (-2)
  have u : ∀ x, x ≠ 54 → x ≠ 105 → μ' x = μ1 x := fun x h1 h2 => by
    show (wr (wr (wr μ1 54 3 0) 105 4 (-2)) 105 5 (-2)) x = _
    rw [wr_off h2, wr_off h2, wr_off h1]
  have u2 : ∀ x, 40 < x → x ≠ 54 → x ≠ 105 → μ' x = μ x := fun x h0 h1 h2 => by rw [u x h1 h2, f2 x (by omega)]
  have pe : ∀ k, k < 1794 → m' (poI k).1 (poI k).2 = σ (poI k).1 (poI k).2 := fun k hk => by
    rw [i5 k hk, c6 45 (by omega), q k hk, imA_po]
  have z : ∀ c s, ¬ (c = 0 ∧ s = 3) → (wr m' 0 3 0) c s = m' c s := fun c s h => if_neg h
  have c3 : ChR 1 μ' (wr m' 0 3 0) W' M' := by
    refine ChR_im (ChR_mu c2 (fun x g1 g2 => u x (by omega) (by omega))) (fun k hk => ?_)
    rw [z _ _ (fun w => (im_S ((po_ok k hk).2.2.2.2.2 w.1)).2.1 w.2), pe k hk]
  have c4 : ChR 112 μ' σ W' M' := ChR_mu c' (fun x g1 g2 => u2 x (by omega) (by omega) (by omega))
  refine ⟨μ', wr m' 0 3 0, ?_, ?_, W', M', c3, ?_, ?_, ?_, ?_, ?_, ?_, ?_⟩
  · unfold f_X11_image
    rw [if_pos rfl, if_pos rfl, e2, bndV_s]
    rfl
  · unfold f_X12_image
    refine Eq.trans (if_pos rfl) ?_
    refine Eq.trans (if_neg ?_) ?_
    · rw [wr_slot (by omega), a9]; decide
    unfold f_X12_image_j18
    refine Eq.trans bkk0 ?_
    refine Eq.trans e ?_
    rw [if_pos rfl]
  · exact TpR_o a2 (by rw [u2 _ (by omega) (by omega) (by omega)]) (u2 _ (by omega) (by omega) (by omega)) (by rw [z _ _ (by omega), k0 15 (by omega)]) (by rw [wr_off (by omega), k1 10 (by omega)])
  · unfold FaR at a3 ⊢
    rw [u2 _ (by omega) (by omega) (by omega), z _ _ (by omega), z _ _ (by omega), k0 35 (by omega), k0 36 (by omega)]
    exact a3
  · unfold DrR at a4 ⊢
    rw [u2 _ (by omega) (by omega) (by omega)]
    exact a4
  · refine PaR_0 a5 ?_ ?_ wr_same
    · show (wr (wr (wr μ1 54 3 0) 105 4 (-2)) 105 5 (-2)) 54 3 = nI 0
      rw [wr_cell (by omega), wr_cell (by omega), wr_same]; rfl
    · show (wr (wr (wr μ1 54 3 0) 105 4 (-2)) 105 5 (-2)) 54 2 = _
      rw [wr_cell (by omega), wr_cell (by omega), wr_slot (by omega), f2 54 (by omega)]
  · refine ⟨fun r hr => by rw [u2 106 (by omega) (by omega) (by omega), u2 107 (by omega) (by omega) (by omega)]; exact a6.1 r hr, Or.inl ⟨?_, wr_same⟩⟩
    show (wr (wr (wr μ1 54 3 0) 105 4 (-2)) 105 5 (-2)) 105 4 = _
    rw [wr_slot (by omega), wr_same]
  · unfold ImR
    rw [if_pos rfl]
    refine ⟨?_, σ, W', M', c4, fun k hk => ?_⟩
    · rw [z _ _ (by omega)]; exact i3
    · rw [wr_off (by omega), i1, c6 45 (by omega)]; exact q k hk
  · unfold ThR at a8 ⊢
    rw [z _ _ (by omega), k0 5 (by omega), wr_off (by omega), k1 11 (by omega)]
    exact a8
end
