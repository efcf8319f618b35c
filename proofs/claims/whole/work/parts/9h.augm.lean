section
theorem nsm_upd {f h : Nat → Nat} {y0 : Nat} : ∀ {n}, y0 < n → (∀ y, y < n → y ≠ y0 → h y = f y) → nsm h n + f y0 = nsm f n + h y0
  | n + 1, hn, H => by
    rw [nsm, nsm]
    by_cases e : y0 = n
    · subst e
      rw [nsm_e (fun y hy => H y (by omega) (by omega))]
      omega
    · have := nsm_upd (n := n) (by omega) (fun y hy => H y (by omega))
      rw [H n (by omega) (fun q => e q.symm)]
      omega
def fup (F : Nat → Nat → Nat) (x p c i j : Nat) : Nat := if i = x ∧ j = p then c else F i j
theorem upd_out {F : Nat → Nat → Nat} {x p c y : Nat} (hp : p < 20) : outN (fup F x p c) y + (if y = x then F x p else 0) = outN F y + (if y = x then c else 0) := by
  unfold outN
  by_cases e : y = x
  · subst e
    rw [if_pos rfl, if_pos rfl]
    have := nsm_upd (f := fun j => F y j) (h := fun j => fup F y p c y j) (y0 := p) (n := 20) hp (fun j _ hj => if_neg (fun q => hj q.2))
    rw [show fup F y p c y p = c from if_pos ⟨rfl, rfl⟩] at this
    exact this
  · rw [if_neg e, if_neg e]
    rw [Nat.add_zero, Nat.add_zero]
    apply nsm_e
    intro j _
    unfold fup
    rw [if_neg (fun q => e q.1)]
theorem upd_inn {F : Nat → Nat → Nat} {x p c y : Nat} (hx : x < 20) : innN (fup F x p c) y + (if y = p then F x p else 0) = innN F y + (if y = p then c else 0) := by
  unfold innN
  by_cases e : y = p
  · subst e
    rw [if_pos rfl, if_pos rfl]
    have := nsm_upd (f := fun j => F j y) (h := fun j => fup F x y c j y) (y0 := x) (n := 20) hx (fun j _ hj => if_neg (fun q => hj q.1))
    rw [show fup F x y c x y = c from if_pos ⟨rfl, rfl⟩] at this
    exact this
  · rw [if_neg e, if_neg e]
    rw [Nat.add_zero, Nat.add_zero]
    apply nsm_e
    intro j _
    unfold fup
    rw [if_neg (fun q => e q.2)]
/-- the flow in the memory -/
def FlM (ρ : Mem) (F : Nat → Nat → Nat) : Prop := ∀ i j, i < 20 → j < 20 → ρ 37 (20 * i + j) = nI (F i j)
theorem FlM_wr {ρ : Mem} {F : Nat → Nat → Nat} {x p c : Nat} (h : FlM ρ F) (hx : x < 20) (hp : p < 20) : FlM (wr ρ 37 (20 * x + p) (nI c)) (fup F x p c) := by
  intro i j hi hj
  unfold fup
  by_cases e : i = x ∧ j = p
  · rw [if_pos e, e.1, e.2, wr_same]
  · rw [if_neg e, wr_slot (by omega)]
    exact h i j hi hj
def LbM (ρ : Mem) (lab : Nat → Bool) (pv : Nat → Nat) : Prop := ∀ x, x < 20 → ρ 38 x = if lab x = true then nI (pv x) else nI 4294967295
def LbI (M : Nat → Nat) (F : Nat → Nat → Nat) (lab : Nat → Bool) (pv dp : Nat → Nat) (s : Nat) : Prop := lab s = true ∧ pv s = s ∧ ∀ x, x < 20 → lab x = true → x ≠ s → pv x < 20 ∧ lab (pv x) = true ∧ lfB M F (pv x) x = true ∧ dp (pv x) < dp x
theorem augm {G s t k : Nat} {M : Nat → Nat} {F : Nat → Nat → Nat} {lab : Nat → Bool} {pv dp : Nat → Nat} (hs : s < 20) (L : LbI M F lab pv dp s) :
    ∀ n x g F' μ, dp x ≤ n → n < g → x < 20 → lab x = true → FlM μ F' → LbM μ lab pv → FlE M F' → (∀ y, y < 20 → outN F' y + (if y = t then k + 1 else 0) = innN F' y + (if y = s then k else 0) + (if y = x then 1 else 0)) → (∀ y, y < 20 → lab y = true → y ≠ s → dp y ≤ dp x → F' y (pv y) = F y (pv y) ∧ F' (pv y) y = F (pv y) y) →
      ∃ F'' μ', f_X12_goesOneMore_L146 G g (nI s) (nI x) μ = some (nI 1, μ') ∧ (∀ z, z ≠ 37 → μ' z = μ z) ∧ FlM μ' F'' ∧ FlE M F'' ∧ FlI F'' s t (k + 1) := by
  intro n
  induction n with
  | zero =>
    intro x g F' μ hd hg hx hl fm lm fe fx keep
    obtain ⟨g, rfl⟩ : ∃ y, g = y + 1 := ⟨g - 1, by omega⟩
    have xs : x = s := by
      rcases Classical.em (x = s) with e | e
      · exact e
      · have := (L.2.2 x hx hl e).2.2.2; omega
    subst xs
    refine ⟨F', μ, ?_, fun z _ => rfl, fm, fe, fun y hy => ?_⟩
    · rw [f_X12_goesOneMore_L146, if_pos rfl]; rfl
    · have := fx y hy
      by_cases c : y = x
      · rw [if_pos c, if_pos c] at this
        rw [if_pos c]; omega
      · rw [if_neg c, if_neg c] at this
        rw [if_neg c]; omega
  | succ n ih =>
    intro x g F' μ hd hg hx hl fm lm fe fx keep
    obtain ⟨g, rfl⟩ : ∃ y, g = y + 1 := ⟨g - 1, by omega⟩
    by_cases xs : x = s
    · subst xs
      refine ⟨F', μ, ?_, fun z _ => rfl, fm, fe, fun y hy => ?_⟩
      · rw [f_X12_goesOneMore_L146, if_pos rfl]; rfl
      · have := fx y hy
        by_cases c : y = x
        · rw [if_pos c, if_pos c] at this
          rw [if_pos c]; omega
        · rw [if_neg c, if_neg c] at this
          rw [if_neg c]; omega
    · obtain ⟨l1, l2, l3, l4⟩ := L.2.2 x hx hl xs
      obtain ⟨k1, k2⟩ := keep x hx hl xs (Nat.le_refl _)
      have e38 : μ 38 x = nI (pv x) := by rw [lm x hx, if_pos hl]
      have keep' : ∀ y, y < 20 → lab y = true → y ≠ s → dp y ≤ dp (pv x) → (¬ (y = x ∧ pv y = pv x)) ∧ (¬ (pv y = x ∧ y = pv x)) := by
        intro y hy h1 h2 h3
        have hy4 := (L.2.2 y hy h1 h2).2.2.2
        constructor
        · rintro ⟨q, _⟩
          rw [q] at h3; omega
        · rintro ⟨q, q2⟩
          rw [q] at hy4; omega
      have i1 : nI 20 * nI x + nI (pv x) = nI (20 * x + pv x) := by rw [pk_mul, nI_add]
      have i2 : nI 20 * nI (pv x) + nI x = nI (20 * pv x + x) := by rw [pk_mul, nI_add]
      have i1 : (20 : Int32) * nI x + nI (pv x) = nI (20 * x + pv x) := i1
      have i2 : (20 : Int32) * nI (pv x) + nI x = nI (20 * pv x + x) := i2
      have nxs : ¬ nI x = nI s := by rw [nI_eq (by omega) (by omega)]; exact xs
      have m1 := fm x (pv x) hx l1
      generalize pv x = p at *
      by_cases c : F' x p = 1
      · obtain ⟨F'', μ', r1, r2, r3⟩ := ih p g (fup F' x p 0) (wr μ 37 (20 * x + p) (nI 0)) (by omega) (by omega) l1 l2 (FlM_wr fm hx l1) (fun y hy => by rw [wr_off (by omega)]; exact lm y hy) (fun i j hi hj => by
          unfold fup
          split
          · exact ⟨by omega, fun q => by cases q⟩
          · exact fe i j hi hj) (fun y hy => by
          have h := fx y hy
          have o := upd_out (F := F') (x := x) (p := p) (c := 0) (y := y) l1
          have i := upd_inn (F := F') (x := x) (p := p) (c := 0) (y := y) hx
          rw [c] at o i
          by_cases yx : y = x
          · rw [if_pos yx] at o h
            rw [if_pos yx] at o
            by_cases yp : y = p
            · rw [if_pos yp] at i ⊢
              rw [if_pos yp] at i
              omega
            · rw [if_neg yp] at i ⊢
              rw [if_neg yp] at i
              omega
          · rw [if_neg yx] at o h
            rw [if_neg yx] at o
            by_cases yp : y = p
            · rw [if_pos yp] at i ⊢
              rw [if_pos yp] at i
              omega
            · rw [if_neg yp] at i ⊢
              rw [if_neg yp] at i
              omega) (fun y hy h1 h2 h3 => by
          obtain ⟨n1, n2⟩ := keep' y hy h1 h2 h3
          obtain ⟨z1, z2⟩ := keep y hy h1 h2 (by omega)
          unfold fup
          rw [if_neg n1, if_neg n2]
          exact ⟨z1, z2⟩)
        refine ⟨F'', μ', ?_, fun z hz => by rw [r2 z hz, wr_off hz], r3⟩
        rw [← r1, f_X12_goesOneMore_L146, if_neg nxs, chkn hx (by omega), ixn (by omega), e38, i1, chkn (by omega) (by omega), ixn (by omega), m1, c, if_pos (by decide), chkn (by omega) (by omega)]
        rfl
      · have c0 : F' x p = 0 := by have := (fe x p hx l1).1; omega
        have hl3 : edB M p x = true ∧ F' p x = 0 := by
          unfold lfB at l3
          rw [← k1, c0, Bool.or_eq_true] at l3
          rcases l3 with h | h
          · cases h
          · rw [Bool.and_eq_true] at h
            refine ⟨h.1, ?_⟩
            rw [k2]
            exact eq_of_beq h.2
        obtain ⟨F'', μ', r1, r2, r3⟩ := ih p g (fup F' p x 1) (wr μ 37 (20 * p + x) (nI 1)) (by omega) (by omega) l1 l2 (FlM_wr fm l1 hx) (fun y hy => by rw [wr_off (by omega)]; exact lm y hy) (fun i j hi hj => by
          unfold fup
          split
          · rename_i q
            exact ⟨by omega, fun _ => by rw [q.1, q.2]; exact hl3.1⟩
          · exact fe i j hi hj) (fun y hy => by
          have h := fx y hy
          have o := upd_out (F := F') (x := p) (p := x) (c := 1) (y := y) hx
          have i := upd_inn (F := F') (x := p) (p := x) (c := 1) (y := y) l1
          rw [hl3.2] at o i
          by_cases yx : y = x
          · rw [if_pos yx] at i h
            rw [if_pos yx] at i
            by_cases yp : y = p
            · rw [if_pos yp] at o ⊢
              rw [if_pos yp] at o
              omega
            · rw [if_neg yp] at o ⊢
              rw [if_neg yp] at o
              omega
          · rw [if_neg yx] at i h
            rw [if_neg yx] at i
            by_cases yp : y = p
            · rw [if_pos yp] at o ⊢
              rw [if_pos yp] at o
              omega
            · rw [if_neg yp] at o ⊢
              rw [if_neg yp] at o
              omega) (fun y hy h1 h2 h3 => by
          obtain ⟨n1, n2⟩ := keep' y hy h1 h2 h3
          obtain ⟨z1, z2⟩ := keep y hy h1 h2 (by omega)
          unfold fup
          rw [if_neg (fun q => n2 ⟨q.2, q.1⟩), if_neg (fun q => n1 ⟨q.2, q.1⟩)]
          exact ⟨z1, z2⟩)
        refine ⟨F'', μ', ?_, fun z hz => by rw [r2 z hz, wr_off hz], r3⟩
        rw [← r1, f_X12_goesOneMore_L146, if_neg nxs, chkn hx (by omega), ixn (by omega), e38, i1, chkn (by omega) (by omega), ixn (by omega), m1, c0, if_neg (by decide), i2, chkn (by omega) (by omega), ixn (by omega)]
        rfl
end
