section
/-- the first of the farthest -/
def bM (N : Nat → Nat) : Nat → Nat
  | 0 => 0
  | k + 1 => if N k ≤ N (bM N k) then bM N k else k
theorem bM_lt {N : Nat → Nat} : ∀ n, 0 < n → bM N n < n
  | 0, h => absurd h (by decide)
  | n + 1, _ => by
    rw [bM]
    split
    · rcases Nat.eq_zero_or_pos n with e | e
      · rw [e, bM]; omega
      · have := bM_lt (N := N) n e
        omega
    · omega
theorem tellsC {G W M g s nq : Nat} {t : Int32} {μ0 ρ0 μ : Mem} {w : Nat → Nat} {k : Int32} (hG : 500 ≤ G) (R : WR 2 t μ0 ρ0 W M) (hg : g < M) (hw : ∀ l, l < 3 → w l < W) (hnq : ρ0 0 37 = nI nq) (hnq2 : nq ≤ 16) (hq : 0 < nq) (hs : s < 3) (A : agC μ0 μ) (hse : ∀ l, l < 3 → μ 95 l = nI (w l)) :
    ∃ μ', f_X7_tellsMost_L65 G (f_X7_tellsMost_j112 G) G (nI g) k (nI s) (-1) (-1) 0 μ = some (if k = 0 then nI (bM (nrN G g ρ0 w s) nq) else nI (nrN G g ρ0 w s (bM (nrN G g ρ0 w s) nq)), μ') ∧ ∀ x, x ≠ 19 → ¬ (94 ≤ x ∧ x ≤ 104) → μ' x = μ x := by
  have n3 : ∀ m, agC μ0 m → m 20 3 = nI nq := fun m h => by
    obtain ⟨n, n1, n2, n3, n4⟩ := WR_q (WR_ag R h (fun _ _ _ _ _ => rfl))
    rw [n2, ← n3, hnq]
  have nb : ∀ q, nrN G g ρ0 w s q ≤ 1000 := fun q => mF_le 3
  obtain ⟨g', ⟨σ, μ2⟩, k1, i0, i1, i2, i3⟩ := loopZ (fun f v (m : (Int32 × Int32) × Mem) => f_X7_tellsMost_L65 G (f_X7_tellsMost_j112 G) f (nI g) k (nI s) m.1.1 m.1.2 v m.2) nq (fun q m => m.1 = (if q = 0 then (-1, -1) else (nI (bM (nrN G g ρ0 w s) q), nI (nrN G g ρ0 w s (bM (nrN G g ρ0 w s) q)))) ∧ agC μ0 m.2 ∧ m.2 95 = μ 95 ∧ ∀ x, x ≠ 19 → ¬ (94 ≤ x ∧ x ≤ 104) → m.2 x = μ x) (by
    rintro f q ⟨x, m⟩ hq ⟨rfl, i1, i2, i3⟩
    have i1 : agC μ0 m := i1
    have i2 : m 95 = μ 95 := i2
    have i3 : ∀ x, x ≠ 19 → ¬ (94 ≤ x ∧ x ≤ 104) → m x = μ x := i3
    obtain ⟨m', c1, c2, c3, c4⟩ := near_ok (μ := m) hG R hg hw hnq hnq2 hq hs i1 (fun l hl => by rw [i2]; exact hse l hl)
    have nq1 := nb q
    refine ⟨((nI (bM (nrN G g ρ0 w s) (q + 1)), nI (nrN G g ρ0 w s (bM (nrN G g ρ0 w s) (q + 1)))), m'), ?_, by rw [if_neg (by omega)], c2, by show m' 95 = _; rw [c3, i2], fun x h h2 => by show m' x = _; rw [c4 x h h2]; exact i3 x h h2⟩
    show f_X7_tellsMost_L65 G (f_X7_tellsMost_j112 G) (f + 1) (nI g) k (nI s) (if q = 0 then ((-1 : Int32), (-1 : Int32)) else _).1 (if q = 0 then ((-1 : Int32), (-1 : Int32)) else _).2 (nI q) m = f_X7_tellsMost_L65 G (f_X7_tellsMost_j112 G) f (nI g) k (nI s) (nI (bM (nrN G g ρ0 w s) (q + 1))) (nI (nrN G g ρ0 w s (bM (nrN G g ρ0 w s) (q + 1)))) (nI (q + 1)) m'
    rw [f_X7_tellsMost_L65, n3 m i1, if_neg (nI_ge (by omega) (by omega)), c1, bndE_s]
    unfold f_X7_tellsMost_j106
    rw [nI_1]
    by_cases q0 : q = 0
    · subst q0
      have e : bM (nrN G g ρ0 w s) (0 + 1) = 0 := by rw [bM]; split <;> rfl
      rw [if_pos rfl, e, if_neg (show ¬ nI (nrN G g ρ0 w s 0) ≤ (-1 : Int32) from fun q => by
        have h1 := nI_pos (n := nrN G g ρ0 w s 0) (by omega)
        grind)]
    · rw [if_neg q0, bM]
      have nb2 := nb (bM (nrN G g ρ0 w s) q)
      by_cases le : nrN G g ρ0 w s q ≤ nrN G g ρ0 w s (bM (nrN G g ρ0 w s) q)
      · rw [if_pos le, if_pos (nI_le le (by omega))]
      · rw [if_neg le, if_neg (nI_ge (by omega) (by omega))]) (by omega : nq < G) (s := ((-1, -1), μ)) ⟨by rw [if_pos rfl], A, rfl, fun _ _ _ => rfl⟩
  have i0 : σ = (nI (bM (nrN G g ρ0 w s) nq), nI (nrN G g ρ0 w s (bM (nrN G g ρ0 w s) nq))) := by rw [if_neg (by omega)] at i0; exact i0
  refine ⟨μ2, ?_, i3⟩
  refine Eq.trans k1 ?_
  show f_X7_tellsMost_L65 G (f_X7_tellsMost_j112 G) (g' + 1) (nI g) k (nI s) σ.1 σ.2 (nI nq) μ2 = _
  rw [f_X7_tellsMost_L65, n3 μ2 i1, if_pos (Int32.le_refl _), f_X7_tellsMost_j112, i0]
  by_cases e : k = 0
  · rw [if_pos e, if_pos e]
  · rw [if_neg e, if_neg e]
theorem tellsR {G W M g s nq : Nat} {t : Int32} {μ0 ρ0 ρ : Mem} {w : Nat → Nat} {k : Int32} (hG : 500 ≤ G) (R : WR 2 t μ0 ρ0 W M) (hg : g < M) (hw : ∀ l, l < 3 → w l < W) (hnq : ρ0 0 37 = nI nq) (hnq2 : nq ≤ 16) (hq : 0 < nq) (hs : s < 3) (A : agR ρ0 ρ) (hse : ∀ l, l < 3 → ρ 25 l = nI (w l)) :
    ∃ ρ', f_X12_tells_j90 G (nI g) k (nI s) ρ = some (if k = 0 then nI (bM (nrN G g ρ0 w s) nq) else nI (nrN G g ρ0 w s (bM (nrN G g ρ0 w s) nq)), ρ') ∧ agR ρ0 ρ' := by
  have nb : ∀ q, nrN G g ρ0 w s q ≤ 1000 := fun q => mF_le 3
  have tl := fun q hq ρ A hse => tellsBy_ok (ρ := ρ) (q := q) hG R hg hw hnq2 hq hs A hse
  obtain ⟨g', ⟨b, ρ2⟩, k1, i0, i1, i2⟩ := loopI (fun f v (m : Int32 × Mem) => f_X12_tells_L104 G (f_X12_tells_j144 G) f (nI g) k (nI s) m.1 v m.2) nq (fun q m => m.1 = nI (bM (nrN G g ρ0 w s) q) ∧ agR ρ0 m.2 ∧ (∀ l, l < 3 → m.2 25 l = nI (w l)) ∧ 0 < q) (by
    rintro f q ⟨x, m⟩ hq ⟨rfl, i1, i2, i3⟩
    have i1 : agR ρ0 m := i1
    have i2 : ∀ l, l < 3 → m 25 l = nI (w l) := i2
    have bl := bM_lt (N := nrN G g ρ0 w s) q i3
    obtain ⟨m1, c1, c2, c3⟩ := tl q hq m i1 i2
    obtain ⟨m2, d1, d2, d3⟩ := tl (bM (nrN G g ρ0 w s) q) (by omega) m1 c2 (fun l hl => by rw [c3]; exact i2 l hl)
    have n1 := nb q
    have n2 := nb (bM (nrN G g ρ0 w s) q)
    refine ⟨(nI (bM (nrN G g ρ0 w s) (q + 1)), m2), ?_, rfl, d2, fun l hl => by show m2 25 l = _; rw [d3, c3]; exact i2 l hl, by omega⟩
    show f_X12_tells_L104 G (f_X12_tells_j144 G) (f + 1) (nI g) k (nI s) (nI (bM (nrN G g ρ0 w s) q)) (nI q) m = f_X12_tells_L104 G (f_X12_tells_j144 G) f (nI g) k (nI s) (nI (if nrN G g ρ0 w s q ≤ nrN G g ρ0 w s (bM (nrN G g ρ0 w s) q) then bM (nrN G g ρ0 w s) q else q)) (nI (q + 1)) m2
    rw [f_X12_tells_L104, show m 0 37 = nI nq by rw [i1 0 (by omega) (by omega) (by omega) (by omega)]; exact hnq, if_neg (nI_ge (by omega) (by omega)), c1, bndE_s, d1, bndE_s]
    unfold f_X12_tells_j138
    rw [nI_1]
    by_cases le : nrN G g ρ0 w s q ≤ nrN G g ρ0 w s (bM (nrN G g ρ0 w s) q)
    · rw [if_pos le, if_pos (nI_le le (by omega))]
    · rw [if_neg le, if_neg (nI_ge (by omega) (by omega))]) (nq - 1) G 1 (nI 0, ρ) (by omega) (by omega) ⟨by
      have e : bM (nrN G g ρ0 w s) 1 = 0 := by rw [bM]; split <;> rfl
      rw [e], A, hse, by decide⟩
  have i0 : b = nI (bM (nrN G g ρ0 w s) nq) := i0
  have i1 : agR ρ0 ρ2 := i1
  have i2 : ∀ l, l < 3 → ρ2 25 l = nI (w l) := i2.1
  have st : f_X12_tells_j90 G (nI g) k (nI s) ρ = f_X12_tells_j144 G (nI g) k (nI s) (nI (bM (nrN G g ρ0 w s) nq)) ρ2 := by
    unfold f_X12_tells_j90
    rw [if_neg (nI_m1 (by omega))]
    refine Eq.trans k1 ?_
    show f_X12_tells_L104 G (f_X12_tells_j144 G) (g' + 1) (nI g) k (nI s) b (nI nq) ρ2 = _
    rw [f_X12_tells_L104, show ρ2 0 37 = nI nq by rw [i1 0 (by omega) (by omega) (by omega) (by omega)]; exact hnq, if_pos (Int32.le_refl _), i0]
  rw [st, f_X12_tells_j144]
  by_cases e : k = 0
  · rw [if_pos e, if_pos e]
    exact ⟨ρ2, rfl, i1⟩
  · rw [if_neg e, if_neg e]
    obtain ⟨ρ3, d1, d2, d3⟩ := tl (bM (nrN G g ρ0 w s) nq) (bM_lt nq hq) ρ2 i1 i2
    exact ⟨ρ3, by rw [d1, bndE_s], d2⟩
theorem s_tells {G : Nat} {bb : Bool} {μ ρ : Mem} (hG : 500 ≤ G) (h : AR bb μ ρ) (p a b c k : Int32) : ∃ r μ' ρ', f_X11_tells G p a b c k μ = some (r, μ') ∧ f_X12_tells G p a b c k ρ = some (r, ρ') ∧ AR bb μ' ρ' := by
  obtain ⟨W, M, H⟩ := id h
  have H0 : AT bb W M μ (wr ρ 0 0 (nI 0)) := told0 H
  have R0 := WR_of H0
  obtain ⟨hW, hM⟩ := WR_W R0
  have z0 : nI 0 = (0 : Int32) := rfl
  have z1 : ¬ nI 1 = (0 : Int32) := by decide
  have ref : ∀ q : Option (Int32 × Mem), (f_X12_tells G p a b c k ρ = if f_X12_isGroom (wr ρ 0 0 (nI 0)) p = 0 then some (-1, wr ρ 0 0 (nI 0)) else if f_X12_areUnlike (wr ρ 0 0 (nI 0)) a b c = 0 then some (-1, wr ρ 0 0 (nI 0)) else if (wr ρ 0 0 (nI 0)) 0 37 = 0 then some (-1, wr ρ 0 0 (nI 0)) else if f_X12_isIn k 0 1 = 0 then some (-1, wr ρ 0 0 (nI 0)) else bndV (f_X12_isSent G a b c (wr ρ 0 0 (nI 0))) (fun m7 => f_X12_tells_L58 G (f_X12_tells_j90 G) G p k (-1) 0 m7)) := fun _ => rfl
  have ref := ref none
  rcases groom_of R0.1 p with ⟨g1, g2⟩ | ⟨g, hg, rfl, g1, g2⟩
  · rw [g2, if_pos z0] at ref
    refine ⟨-1, μ, _, ?_, ref, AR_told h⟩
    rw [f_X11_tells, g1, if_pos z0]
  rw [g2, if_neg z1] at ref
  rcases three_of R0.1 a b c with ⟨t1, t2⟩ | ⟨x, y, z, hx, hy, hz, u1, u2, u3, rfl, rfl, rfl, t1, t2⟩
  · rw [t2, if_pos z0] at ref
    refine ⟨-1, μ, _, ?_, ref, AR_told h⟩
    rw [f_X11_tells, g1, if_neg z1, t1, if_pos z0]
  rw [t2, if_neg z1] at ref
  obtain ⟨nq, cc, hnq2, hnq, hnqc, hc, hc2⟩ := WR_cn R0
  obtain ⟨e, he, he2, he3⟩ := she_of R0 hg
  let w : Nat → Nat := fun l => if l = 0 then x else if l = 1 then y else z
  have hw : ∀ l, l < 3 → w l < W := fun l _ => by
    show (if l = 0 then x else if l = 1 then y else z) < W
    split
    · exact hx
    · split
      · exact hy
      · exact hz
  obtain ⟨μ1, a1, a2, a3, a4, a5⟩ := seatC (G := G) (a := nI x) (b := nI y) (c := nI z) (μ := μ)
  obtain ⟨ρ1, b1, b2, b3, b4, b5⟩ := seatR (G := G) (a := nI x) (b := nI y) (c := nI z) (ρ := wr ρ 0 0 (nI 0))
  have sC : ∀ l, l < 3 → μ1 95 l = nI (w l) := fun l hl => by
    rcases (by omega : l = 0 ∨ l = 1 ∨ l = 2) with q | q | q <;> subst q
    · exact a3
    · exact a4
    · exact a5
  have sR : ∀ l, l < 3 → ρ1 25 l = nI (w l) := fun l hl => by
    rcases (by omega : l = 0 ∨ l = 1 ∨ l = 2) with q | q | q <;> subst q
    · exact b3
    · exact b4
    · exact b5
  have AC : agC μ μ1 := fun x h _ => a2 x (by omega)
  have AR1 : agR (wr ρ 0 0 (nI 0)) ρ1 := fun x _ _ h _ => b2 x h
  have backR : ∀ ρ', agR (wr ρ 0 0 (nI 0)) ρ' → bk (wr ρ 0 0 (nI 0)) ρ' := fun ρ' h => ⟨fun x _ _ h4 h5 h6 h7 => h x h4 h5 h6 h7, fun j _ => by rw [h 1 (by omega) (by omega) (by omega) (by omega)]⟩
  have e8 : ρ1 8 g = nI e := by rw [b2 8 (by omega)]; exact he3
  have m12 : μ1 12 g = nI e := by rw [a2 12 (by omega)]; exact he2
  -- where she sits
  have seat : (∃ s, s < 3 ∧ w s = e) ∨ (e ≠ x ∧ e ≠ y ∧ e ≠ z) := by
    by_cases q0 : e = x
    · exact Or.inl ⟨0, by omega, q0.symm⟩
    · by_cases q1 : e = y
      · exact Or.inl ⟨1, by omega, q1.symm⟩
      · by_cases q2 : e = z
        · exact Or.inl ⟨2, by omega, q2.symm⟩
        · exact Or.inr ⟨q0, q1, q2⟩
  have inj : ∀ i j, i < 3 → j < 3 → w i = w j → i = j := fun i j hi hj e1 => by
    have e1 : (if i = 0 then x else if i = 1 then y else z) = (if j = 0 then x else if j = 1 then y else z) := e1
    rcases (by omega : i = 0 ∨ i = 1 ∨ i = 2) with q | q | q <;> rcases (by omega : j = 0 ∨ j = 1 ∨ j = 2) with r | r | r <;> subst q <;> subst r <;> simp at e1 ⊢
    · exact u1 e1
    · exact u3 e1
    · exact u1 e1.symm
    · exact u2 e1
    · exact u3 e1.symm
    · exact u2 e1.symm
  have neE : ∀ v, v < W → v ≠ e → ¬ nI v = nI e := fun v hv h q => h ((nI_eq (by omega) (by omega)).mp q)
  -- the reference's search
  have find : ∃ r, f_X12_tells_L58 G (f_X12_tells_j90 G) G (nI g) k (-1) 0 ρ1 = f_X12_tells_j90 G (nI g) k r ρ1 ∧ ((∀ s, s < 3 → w s = e → r = nI s) ∧ ((∀ s, s < 3 → w s ≠ e) → r = -1)) := by
    obtain ⟨g', r, k1, i1⟩ := loopZ (fun f v (r : Int32) => f_X12_tells_L58 G (f_X12_tells_j90 G) f (nI g) k r v ρ1) 3 (fun l r => (∀ s, s < l → w s = e → r = nI s) ∧ ((∀ s, s < l → w s ≠ e) → r = -1)) (by
      rintro f l r hl ⟨i1, i2⟩
      by_cases q : w l = e
      · refine ⟨nI l, ?_, fun s hs h => by rw [inj s l (by omega) hl (h.trans q.symm)], fun h => absurd q (h l (by omega))⟩
        rw [f_X12_tells_L58, if_neg (show ¬ (3 : Int32) ≤ nI l from nI_ge (b := 3) hl (by omega)), chkn hl (by omega), chkn (by omega) (by omega), ixn (by omega), ixn (by omega), sR l hl, e8, if_pos (by rw [q]), f_X12_tells_j84, nI_1]
      · refine ⟨r, ?_, fun s hs h => ?_, fun h => i2 (fun s hs => h s (by omega))⟩
        · rw [f_X12_tells_L58, if_neg (show ¬ (3 : Int32) ≤ nI l from nI_ge (b := 3) hl (by omega)), chkn hl (by omega), chkn (by omega) (by omega), ixn (by omega), ixn (by omega), sR l hl, e8, if_neg (neE _ (hw l hl) q), f_X12_tells_j84, nI_1]
        · by_cases es : s = l
          · rw [es] at h; exact absurd h q
          · exact i1 s (by omega) h) (by omega : 3 < G) (s := -1) ⟨fun s hs => absurd hs (by omega), fun _ => rfl⟩
    refine ⟨r, ?_, i1⟩
    refine Eq.trans k1 ?_
    show f_X12_tells_L58 G (f_X12_tells_j90 G) (g' + 1) (nI g) k r (nI 3) ρ1 = _
    rw [f_X12_tells_L58, if_pos (by decide)]
  obtain ⟨r, f1, f2, f3⟩ := find
  -- the class's
  have ctm : ∀ kk, f_X7_tellsMost G (nI g) (nI x) (nI y) (nI z) kk μ = if nI e = nI x then f_X7_tellsMost_j40 G (nI g) kk (nI e) 0 μ1 else if nI e = nI y then f_X7_tellsMost_j40 G (nI g) kk (nI e) 1 μ1 else f_X7_tellsMost_j40 G (nI g) kk (nI e) 2 μ1 := fun kk => by
    unfold f_X7_tellsMost
    rw [a1, bndV_s, chkn (by omega) (by omega), ixn (by omega), m12]
  have cls0 : 0 ≤ k ∧ k ≤ 1 → f_X11_tells G (nI g) (nI x) (nI y) (nI z) k μ = f_X7_tellsMost G (nI g) (nI x) (nI y) (nI z) k μ := fun hk => by
    rw [f_X11_tells, g1, if_neg z1, t1, if_neg z1, if_neg (by have := hk.1; grind), if_pos hk.2]
    obtain ⟨j, hj, rfl⟩ := in_of 1 rfl (by omega) hk.1 hk.2
    have pr : ∀ o : Option (Int32 × Mem), bndE o (fun w m => some (w, m)) = o := fun o => by
      cases o with
      | none => rfl
      | some v => rfl
    rcases (by omega : j = 0 ∨ j = 1) with q | q
    · subst q
      rw [if_neg (by decide), pr]
      rfl
    · subst q
      rw [if_pos (show nI 1 = 1 from rfl), pr]
      rfl
  have clsn : ¬ (0 ≤ k ∧ k ≤ 1) → f_X11_tells G (nI g) (nI x) (nI y) (nI z) k μ = some (-1, μ) := fun hk => by
    rw [f_X11_tells, g1, if_neg z1, t1, if_neg z1]
    by_cases k0 : k < 0
    · rw [if_pos k0]
    · rw [if_neg k0, if_neg (fun q => hk ⟨by grind, q⟩)]
  have fr1 : ∀ μ' : Mem, (∀ x, x ≠ 19 → ¬ (94 ≤ x ∧ x ≤ 104) → μ' x = μ1 x) → ∀ x, x ≠ 19 → ¬ (94 ≤ x ∧ x ≤ 104) → μ' x = μ x := fun μ' h x h1 h2 => by rw [h x h1 h2, a2 x (by omega)]
  have j40 : ∀ s, s < 3 → w s = e → f_X7_tellsMost G (nI g) (nI x) (nI y) (nI z) k μ = f_X7_tellsMost_L65 G (f_X7_tellsMost_j112 G) G (nI g) k (nI s) (-1) (-1) 0 μ1 := fun s hs h => by
    rw [ctm]
    have j : ∀ s, s < 3 → w s = e → f_X7_tellsMost_j40 G (nI g) k (nI e) (nI s) μ1 = f_X7_tellsMost_L65 G (f_X7_tellsMost_j112 G) G (nI g) k (nI s) (-1) (-1) 0 μ1 := fun s hs h => by
      rw [f_X7_tellsMost_j40, chkn hs (by omega), ixn (by omega), sC s hs, if_pos (by rw [h])]
    rcases (by omega : s = 0 ∨ s = 1 ∨ s = 2) with q | q | q <;> subst q
    · have h' : x = e := h
      rw [if_pos (by rw [h'])]
      exact j 0 (by omega) h
    · have h' : y = e := h
      rw [if_neg (fun q => neE x hx (fun r => u1 (r.trans h'.symm)) q.symm), if_pos (by rw [h'])]
      exact j 1 (by omega) h
    · have h' : z = e := h
      rw [if_neg (fun q => neE x hx (fun r => u3 (r.trans h'.symm)) q.symm), if_neg (fun q => neE y hy (fun r => u2 (r.trans h'.symm)) q.symm)]
      exact j 2 (by omega) h
  have jno : (e ≠ x ∧ e ≠ y ∧ e ≠ z) → f_X7_tellsMost G (nI g) (nI x) (nI y) (nI z) k μ = some (-1, μ1) := fun ⟨h0, h1, h2⟩ => by
    rw [ctm, if_neg (fun q => neE x hx (fun r => h0 r.symm) q.symm), if_neg (fun q => neE y hy (fun r => h1 r.symm) q.symm)]
    show f_X7_tellsMost_j40 G (nI g) k (nI e) (nI 2) μ1 = _
    have s2 : μ1 95 2 = nI z := a5
    rw [f_X7_tellsMost_j40, chkn (by omega) (by omega), ixn (by omega), s2, if_neg (neE z hz (fun r => h2 r.symm))]
  by_cases q0 : nq = 0
  · -- no question
    have z37 : (wr ρ 0 0 (nI 0)) 0 37 = 0 := by rw [hnq, q0]; rfl
    rw [z37, if_pos rfl] at ref
    by_cases hk : 0 ≤ k ∧ k ≤ 1
    · rcases seat with ⟨s, s1, s2⟩ | no
      · refine ⟨-1, μ1, _, ?_, ref, AR_bk ⟨W, M, H0⟩ (fr1 μ1 (fun _ _ _ => rfl)) (backR _ (fun _ _ _ _ _ => rfl))⟩
        have m3 : μ1 20 3 = nI 0 := by rw [a2 20 (by omega), hnqc, q0]
        rw [cls0 hk, j40 s s1 s2]
        have hl : ∀ n, 0 < n → f_X7_tellsMost_L65 G (f_X7_tellsMost_j112 G) n (nI g) k (nI s) (-1) (-1) 0 μ1 = some (-1, μ1) := fun n hn => by
          obtain ⟨n, rfl⟩ : ∃ m, n = m + 1 := ⟨n - 1, by omega⟩
          rw [f_X7_tellsMost_L65, m3, if_pos (show nI 0 ≤ (0 : Int32) from Int32.le_refl _), f_X7_tellsMost_j112]
          split <;> rfl
        exact hl G (by omega)
      · refine ⟨-1, μ1, _, ?_, ref, AR_bk ⟨W, M, H0⟩ (fr1 μ1 (fun _ _ _ => rfl)) (backR _ (fun _ _ _ _ _ => rfl))⟩
        rw [cls0 hk, jno no]
    · exact ⟨-1, μ, _, clsn hk, ref, AR_told h⟩
  · have z37 : ¬ (wr ρ 0 0 (nI 0)) 0 37 = 0 := by rw [hnq]; exact nI_ne0 (by omega) (by omega)
    rw [if_neg z37] at ref
    by_cases hk : 0 ≤ k ∧ k ≤ 1
    · rw [isI, if_pos hk, if_neg (by decide), b1, bndV_s, f1] at ref
      rcases seat with ⟨s, s1, s2⟩ | no
      · rw [f2 s s1 s2] at ref
        obtain ⟨ρ', r1, r2⟩ := tellsR (k := k) hG R0 hg hw hnq hnq2 (by omega) s1 AR1 sR
        obtain ⟨μ', c1, c2⟩ := tellsC (k := k) hG R0 hg hw hnq hnq2 (by omega) s1 AC sC
        rw [r1] at ref
        exact ⟨_, μ', ρ', by rw [cls0 hk, j40 s s1 s2, c1], ref, AR_bk ⟨W, M, H0⟩ (fr1 μ' c2) (backR _ r2)⟩
      · have r0 : r = -1 := f3 (fun s hs h => by
          rcases (by omega : s = 0 ∨ s = 1 ∨ s = 2) with q | q | q <;> subst q
          · exact no.1 h.symm
          · exact no.2.1 h.symm
          · exact no.2.2 h.symm)
        rw [r0, f_X12_tells_j90, if_pos rfl] at ref
        exact ⟨-1, μ1, ρ1, by rw [cls0 hk, jno no], ref, AR_bk ⟨W, M, H0⟩ (fr1 μ1 (fun _ _ _ => rfl)) (backR _ AR1)⟩
    · rw [isI, if_neg hk, if_pos rfl] at ref
      exact ⟨-1, μ, _, clsn hk, ref, AR_told h⟩
end
