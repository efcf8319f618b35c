section
/-! flows of ones on twenty nodes -/
def outN (F : Nat → Nat → Nat) (x : Nat) : Nat := nsm (fun y => F x y) 20
def innN (F : Nat → Nat → Nat) (x : Nat) : Nat := nsm (fun y => F y x) 20
def FlI (F : Nat → Nat → Nat) (s t k : Nat) : Prop := ∀ x, x < 20 → outN F x + (if x = t then k else 0) = innN F x + (if x = s then k else 0)
theorem nsm_pt {f : Nat → Nat} {y0 : Nat} : ∀ {n}, (∀ y, y < n → y ≠ y0 → f y = 0) → nsm f n = if y0 < n then f y0 else 0
  | 0, _ => rfl
  | n + 1, h => by
    rw [nsm, nsm_pt (n := n) (fun y hy => h y (by omega))]
    by_cases e : y0 = n
    · subst e
      rw [if_neg (by omega), if_pos (by omega), Nat.zero_add]
    · rw [h n (by omega) (by omega)]
      by_cases c : y0 < n
      · rw [if_pos c, if_pos (by omega), Nat.add_zero]
      · rw [if_neg c, if_neg (by omega)]
theorem nsm_ge {f : Nat → Nat} {y0 : Nat} : ∀ {n}, y0 < n → f y0 ≤ nsm f n
  | n + 1, h => by
    rw [nsm]
    by_cases e : y0 = n
    · subst e; omega
    · have := nsm_ge (f := f) (y0 := y0) (n := n) (by omega); omega
/-- what goes out of X -/
def crs (X : Nat → Bool) (F : Nat → Nat → Nat) : Nat := nsm (fun x => nsm (fun y => if X x = true ∧ X y = false then F x y else 0) 20) 20
theorem cut_eq {F : Nat → Nat → Nat} {s t k : Nat} {X : Nat → Bool} (h : FlI F s t k) (hs : s < 20) (ht : t < 20) (xs : X s = true) (xt : X t = false) : crs X F = crs X (fun x y => F y x) + k := by
  have sp : ∀ H : Nat → Nat → Nat, nsm (fun x => if X x = true then nsm (fun y => H x y) 20 else 0) 20 = nsm (fun x => nsm (fun y => if X x = true ∧ X y = true then H x y else 0) 20) 20 + crs X H := by
    intro H
    unfold crs
    rw [← nsm_add]
    apply nsm_e
    intro x _
    by_cases c : X x = true
    · rw [if_pos c, ← nsm_add]
      apply nsm_e
      intro y _
      cases hy : X y <;> simp [c]
    · rw [if_neg c, nsm_0 (fun y _ => by rw [if_neg (fun q => c q.1)]), nsm_0 (fun y _ => by rw [if_neg (fun q => c q.1)])]
  have h1 := sp F
  have h2 := sp (fun x y => F y x)
  have h3 : nsm (fun x => nsm (fun y => if X x = true ∧ X y = true then F y x else 0) 20) 20 = nsm (fun x => nsm (fun y => if X x = true ∧ X y = true then F x y else 0) 20) 20 := by
    rw [nsm_swap]
    exact nsm_e (fun x _ => nsm_e (fun y _ => by simp only [and_comm]))
  have h4 : nsm (fun x => if X x = true then nsm (fun y => F x y) 20 else 0) 20 = nsm (fun x => if X x = true then nsm (fun y => F y x) 20 else 0) 20 + k := by
    have e : nsm (fun x => if x = s then k else 0) 20 = k := by
      rw [nsm_pt (y0 := s) (fun y _ hy => if_neg hy), if_pos hs, if_pos rfl]
    have e2 := nsm_add (f := fun x => if X x = true then nsm (fun y => F y x) 20 else 0) (h := fun x => if x = s then k else 0) (n := 20)
    rw [e] at e2
    rw [← e2]
    apply nsm_e
    intro x hx
    have hx' := h x hx
    unfold outN innN at hx'
    by_cases c : X x = true
    · have : x ≠ t := fun q => by rw [q, xt] at c; cases c
      rw [if_neg this] at hx'
      rw [if_pos c, if_pos c]
      omega
    · have : x ≠ s := fun q => c (by rw [q]; exact xs)
      rw [if_neg c, if_neg c, if_neg this]
  omega
def edB (M : Nat → Nat) (x y : Nat) : Bool := if x % 2 = 0 then y == x + 1 else (y % 2 == 0 && (M (x / 2)).testBit (y / 2))
def FlE (M : Nat → Nat) (F : Nat → Nat → Nat) : Prop := ∀ x y, x < 20 → y < 20 → F x y ≤ 1 ∧ (F x y = 1 → edB M x y = true)
theorem pairs {h : Nat → Nat} : nsm h 20 = nsm (fun u => h (2 * u) + h (2 * u + 1)) 10 := by
  rw [show 20 = 10 * 2 from rfl, nsm_blk]
  apply nsm_e
  intro u _
  show 0 + h (u * 2 + 0) + h (u * 2 + 1) = _
  rw [Nat.zero_add, Nat.add_zero, Nat.mul_comm]
theorem bool_ne {b : Bool} (h : ¬ b = true) : b = false := by cases b with | true => exact absurd rfl h | false => rfl
/-- no more can go than a cut lets through -/
theorem weak {M : Nat → Nat} {F : Nat → Nat → Nat} {a b k S : Nat} (hM : ∀ u, u < 10 → M u < 1024) (ha : a < 10) (hb : b < 10) (hE : FlE M F) (hF : FlI F (2 * a + 1) (2 * b) k) (Sa : S.testBit a = false) (Sb : S.testBit b = false) (hS : SepN (wod M a b) S a b) :
    k ≤ pcn S 10 + if (M a).testBit b = true then 1 else 0 := by
  obtain ⟨Y, ⟨y1, y2⟩, y3⟩ := hS
  obtain ⟨z, hz⟩ : ∃ z : Nat → Bool, ∀ u, z u = true ↔ Y u := ⟨fun u => @decide (Y u) (Classical.propDecidable _), fun u => @decide_eq_true_iff (Y u) (Classical.propDecidable _)⟩
  let X : Nat → Bool := fun x => if x % 2 = 0 then (z (x / 2) || S.testBit (x / 2)) else z (x / 2)
  have Xe : ∀ u, X (2 * u) = (z u || S.testBit u) := fun u => by
    show (if _ then _ else _) = _
    rw [if_pos (by omega), show 2 * u / 2 = u by omega]
  have Xo : ∀ u, X (2 * u + 1) = z u := fun u => by
    show (if _ then _ else _) = _
    rw [if_neg (by omega), show (2 * u + 1) / 2 = u by omega]
  have xs : X (2 * a + 1) = true := by rw [Xo]; exact (hz a).mpr y1
  have zb : z b = false := bool_ne (fun q => y3 ((hz b).mp q))
  have xt : X (2 * b) = false := by rw [Xe, zb, Sb]; rfl
  have hc := cut_eq hF (show 2 * a + 1 < 20 by omega) (show 2 * b < 20 by omega) xs xt
  have fz : ∀ x y, x < 20 → y < 20 → edB M x y = false → F x y = 0 := fun x y hx hy h => by
    obtain ⟨q1, q2⟩ := hE x y hx hy
    by_cases c : F x y = 1
    · rw [q2 c] at h; cases h
    · omega
  have le : crs X F ≤ pcn S 10 + if (M a).testBit b = true then 1 else 0 := by
    have e1 : nsm (fun u => if u = a then (if (M a).testBit b = true then 1 else 0) else 0) 10 = if (M a).testBit b = true then 1 else 0 := by
      rw [nsm_pt (y0 := a) (fun y _ hy => if_neg hy), if_pos ha, if_pos rfl]
    rw [pcn_nsm, ← e1, ← nsm_add]
    unfold crs
    rw [pairs]
    apply nsm_le
    intro u hu
    apply Nat.add_le_add
    · rw [nsm_pt (y0 := 2 * u + 1) (fun y hy ne => by
        split
        · refine fz (2 * u) y (by omega) hy ?_
          unfold edB
          rw [if_pos (by omega)]
          exact beq_eq_false_iff_ne.mpr ne
        · rfl), if_pos (by omega)]
      by_cases c : X (2 * u) = true ∧ X (2 * u + 1) = false
      · rw [if_pos c]
        rw [Xe, Xo] at c
        rw [c.2, Bool.false_or] at c
        rw [if_pos c.1]
        exact (hE _ _ (by omega) (by omega)).1
      · rw [if_neg c]; omega
    · have zero : ∀ v, v < 10 → ¬ (u = a ∧ v = b) → X (2 * u + 1) = true → X (2 * v) = false → F (2 * u + 1) (2 * v) = 0 := by
        intro v hv ne q1 q2
        refine fz (2 * u + 1) (2 * v) (by omega) (by omega) (bool_ne (fun q3 => ?_))
        unfold edB at q3
        rw [if_neg (by omega), show (2 * u + 1) / 2 = u by omega, show 2 * v / 2 = v by omega, Bool.and_eq_true] at q3
        rw [Xo] at q1
        rw [Xe, Bool.or_eq_false_iff] at q2
        have : (wod M a b u).testBit v = true := by
          unfold wod
          by_cases c : u = a
          · rw [if_pos c, wo_bit (by omega), pw_bit, ← c, q3.2, decide_eq_false (fun q => ne ⟨c, q.symm⟩)]
            rfl
          · rw [if_neg c]; exact q3.2
        have := y2 u v hu ((hz u).mp q1) this q2.2
        rw [(hz v).mpr this] at q2
        exact absurd q2.1 (by decide)
      rw [nsm_pt (y0 := 2 * b) (fun y hy ne => by
        split
        · rename_i c
          by_cases ev : y % 2 = 0
          · rw [show y = 2 * (y / 2) by omega] at c ⊢
            exact zero (y / 2) (by omega) (fun q => ne (by omega)) c.1 c.2
          · refine fz (2 * u + 1) y (by omega) hy ?_
            unfold edB
            rw [if_neg (by omega), Bool.and_eq_false_iff]
            exact Or.inl (beq_eq_false_iff_ne.mpr ev)
        · rfl), if_pos (by omega)]
      by_cases c : X (2 * u + 1) = true ∧ X (2 * b) = false
      · rw [if_pos c]
        by_cases ua : u = a
        · rw [if_pos ua]
          by_cases d : (M a).testBit b = true
          · rw [if_pos d]; exact (hE _ _ (by omega) (by omega)).1
          · rw [if_neg d, fz (2 * u + 1) (2 * b) (by omega) (by omega)]
            · exact Nat.le_refl _
            · unfold edB
              rw [if_neg (by omega), show (2 * u + 1) / 2 = u by omega, show 2 * b / 2 = b by omega, ua, bool_ne d, Bool.and_false]
        · rw [if_neg ua, zero b hb (fun q => ua q.1) c.1 c.2]
          exact Nat.le_refl _
      · rw [if_neg c]; omega
  omega
end
