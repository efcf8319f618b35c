section
variable {G n : Nat} {c : Nat → Nat}
theorem numU_k {p a b : Int32} {μ : Mem} (h : SK μ) : f_X5_numberUnlike G p a b μ = some (0, μ) := by
  unfold f_X5_numberUnlike f_X5_numberUnlike_j26 f_X5_numberUnlike_j56
  rw [if_neg h.1, if_neg h.1, if_neg h.1]
theorem numB_k {p : Int32} {μ : Mem} (h : SK μ) : f_X5_numberBelow G p μ = some (0, μ) := by
  unfold f_X5_numberBelow
  rw [numU_k h, bndE_s]
/-- a number, by the class; what the reference makes of it is R -/
theorem numU {k B : Nat} {a b : Int32} {μ ρ : Mem} {R : Option (Int32 × Mem)} (hG : 500 ≤ G) (hn : n ≤ 400) (hc : ∀ j, j < n → c j < 256) (hB : B ≤ 10000) (h : LR c n k 0 μ ρ)
    (r1 : ¬ ρ 0 18 = 3 → R = f_X12_errs G 1 ρ) (r2 : ∀ x, x < 10000 → ρ 0 18 = 3 → ρ 0 19 = nI x → (B ≤ x ∨ nI x = a ∨ nI x = b) → R = f_X12_errs G 2 ρ) (r3 : ∀ x, x < B → ρ 0 18 = 3 → ρ 0 19 = nI x → nI x ≠ a → nI x ≠ b → R = bndV (f_X12_reads G ρ) (fun m4 => some (nI x, m4))) :
    (∃ v μ' ρ', v < B ∧ nI v ≠ a ∧ nI v ≠ b ∧ f_X5_numberUnlike G (nI B) a b μ = some (nI v, μ') ∧ R = some (nI v, ρ') ∧ LR c n (k + 1) 0 μ' ρ' ∧ k < tK c n ∧ ∀ z0, eF z0 μ ρ μ' ρ') ∨
      ∃ μ' ρ', f_X5_numberUnlike G (nI B) a b μ = some (0, μ') ∧ R = some (-1, ρ') ∧ SK μ' ∧ FtR μ' ρ' ∧ ∀ z0, eF z0 μ ρ μ' ρ' := by
  have T := h.2.2.2.1.2.2.1
  have tc := tok_c h
  have fc := flt_c h
  rcases tk_n T with ⟨k3, x, hx, t1, t2, t3⟩ | ⟨k3, t3⟩
  · have bad : (B ≤ x ∨ nI x = a ∨ nI x = b) → ∃ μ' ρ', f_X5_numberUnlike G (nI B) a b μ = some (0, μ') ∧ R = some (-1, ρ') ∧ SK μ' ∧ FtR μ' ρ' ∧ ∀ z0, eF z0 μ ρ μ' ρ' := by
      intro hb
      obtain ⟨μ1, ρ1, b1, b2, b3, b4, b5⟩ := L_fail (G := G) (v := 2) hn h (by omega) (by decide)
      refine ⟨μ1, ρ1, ?_, by rw [r2 x hx k3 t2 hb, b2], b3, b4, b5⟩
      have j51 : f_X5_numberUnlike_j51 G (nI x) μ = some (0, μ1) := by
        rw [f_X5_numberUnlike_j51, b1, bndV_s, f_X5_numberUnlike_j56, if_neg b3.1]
      unfold f_X5_numberUnlike
      rw [if_pos fc, tc, t3, if_neg (by decide), t1, f_X5_numberUnlike_j26, if_pos fc]
      by_cases q : B ≤ x
      · rw [if_pos (nI_le q (by omega)), j51]
      · rw [if_neg (nI_ge (by omega) (by omega))]
        by_cases qa : nI x = a
        · rw [if_pos qa, j51]
        · rw [if_neg qa, if_pos (by rcases hb with e | e | e; exact absurd e q; exact absurd e qa; exact e), j51]
    by_cases q : B ≤ x
    · exact Or.inr (bad (Or.inl q))
    · by_cases qa : nI x = a
      · exact Or.inr (bad (Or.inr (Or.inl qa)))
      · by_cases qb : nI x = b
        · exact Or.inr (bad (Or.inr (Or.inr qb)))
        · have hk := LR_end hc h (by rw [t1]; exact fun z => absurd ((nI_eq (b := 30000) (by omega) (by omega)).mp z) (by omega))
          obtain ⟨μ', ρ', b1, b2, b3, b4⟩ := L_adv hG hn hc h hk
          refine Or.inl ⟨x, μ', ρ', by omega, qa, qb, ?_, by rw [r3 x (by omega) k3 t2 qa qb, b2, bndV_s], b3, hk, b4⟩
          unfold f_X5_numberUnlike
          rw [if_pos fc, tc, t3, if_neg (by decide), t1, f_X5_numberUnlike_j26, if_pos fc, if_neg (nI_ge (by omega) (by omega)), if_neg qa, if_neg qb, f_X5_numberUnlike_j56, if_pos fc, b1, bndV_s]
  · obtain ⟨μ1, ρ1, b1, b2, b3, b4, b5⟩ := L_fail (G := G) (v := 1) hn h (by omega) (by decide)
    refine Or.inr ⟨μ1, ρ1, ?_, by rw [r1 k3, b2], b3, b4, b5⟩
    unfold f_X5_numberUnlike
    rw [if_pos fc, tc, t3, if_pos rfl, b1, bndV_s, f_X5_numberUnlike_j26, if_neg b3.1, f_X5_numberUnlike_j56, if_neg b3.1]
theorem pr12 (o : Option (Int32 × Mem)) : bndE o (fun w m => some (w, m)) = o := by
  cases o with
  | none => rfl
  | some v => rfl
theorem numN {k B : Nat} {hi : Int32} {μ ρ : Mem} (hG : 500 ≤ G) (hn : n ≤ 400) (hc : ∀ j, j < n → c j < 256) (hB : B ≤ 10000) (h : LR c n k 0 μ ρ) (hh : ∀ x, x < 10000 → f_X12_isIn (nI x) 0 hi = if x < B then 1 else 0) :
    (∃ v μ' ρ', v < B ∧ f_X5_numberBelow G (nI B) μ = some (nI v, μ') ∧ f_X12_readNumber G 0 hi ρ = some (nI v, ρ') ∧ LR c n (k + 1) 0 μ' ρ' ∧ k < tK c n ∧ ∀ z0, eF z0 μ ρ μ' ρ') ∨
      ∃ μ' ρ', f_X5_numberBelow G (nI B) μ = some (0, μ') ∧ f_X12_readNumber G 0 hi ρ = some (-1, ρ') ∧ SK μ' ∧ FtR μ' ρ' ∧ ∀ z0, eF z0 μ ρ μ' ρ' := by
  have e : f_X5_numberBelow G (nI B) μ = f_X5_numberUnlike G (nI B) (-1) (-1) μ := pr12 _
  rw [e]
  rcases numU (R := f_X12_readNumber G 0 hi ρ) (a := -1) (b := -1) hG hn hc hB h (fun q => by
      unfold f_X12_readNumber
      rw [if_neg q, pr12]) (fun x hx q1 q2 q3 => by
      have : B ≤ x := by
        rcases q3 with q | q | q
        · exact q
        · exact absurd q (nI_m1 (by omega))
        · exact absurd q (nI_m1 (by omega))
      unfold f_X12_readNumber
      rw [if_pos q1, q2, hh x hx, if_neg (show ¬ x < B by omega), if_pos rfl, pr12]) (fun x hx q1 q2 _ _ => by
      unfold f_X12_readNumber
      rw [if_pos q1, q2, hh x (by omega), if_pos hx, if_neg (by decide)]) with ⟨v, μ', ρ', a1, _, _, a4⟩ | a
  · exact Or.inl ⟨v, μ', ρ', a1, a4⟩
  · exact Or.inr a
theorem isIn_b {B : Nat} (hB : B ≤ 10000) (x : Nat) (hx : x < 10000) : f_X12_isIn (nI x) 0 (nI B - 1) = if x < B then 1 else 0 := by
  rw [isI]
  by_cases b0 : B = 0
  · subst b0
    rw [if_neg (show ¬ (0 ≤ nI x ∧ nI x ≤ nI 0 - 1) from fun q => by
      have q2 : nI x ≤ nI 0 - 1 := q.2
      have := nI_pos (n := x) (by omega)
      have z : nI 0 = (0 : Int32) := rfl
      rw [z] at q2
      grind), if_neg (show ¬ x < 0 by omega)]
  · rw [show nI B - (1 : Int32) = nI (B - 1) from pk_sub (b := 1) (by omega)]
    by_cases q : x < B
    · rw [if_pos q, if_pos ⟨nI_pos' (by omega), nI_le (by omega) (by omega)⟩]
    · rw [if_neg q, if_neg (fun z => q (by have := (nI_leI (by omega) (by omega)).mp z.2; omega))]
theorem numW {k W : Nat} {a b : Int32} {μ ρ : Mem} (hG : 500 ≤ G) (hn : n ≤ 400) (hc : ∀ j, j < n → c j < 256) (hW : W ≤ 12) (h : LR c n k 0 μ ρ) (h6 : ρ 0 6 = nI W) :
    (∃ v μ' ρ', v < W ∧ nI v ≠ a ∧ nI v ≠ b ∧ f_X5_numberUnlike G (nI W) a b μ = some (nI v, μ') ∧ f_X12_readWoman G a b ρ = some (nI v, ρ') ∧ LR c n (k + 1) 0 μ' ρ' ∧ k < tK c n ∧ ∀ z0, eF z0 μ ρ μ' ρ') ∨
      ∃ μ' ρ', f_X5_numberUnlike G (nI W) a b μ = some (0, μ') ∧ f_X12_readWoman G a b ρ = some (-1, ρ') ∧ SK μ' ∧ FtR μ' ρ' ∧ ∀ z0, eF z0 μ ρ μ' ρ' := by
  refine numU hG hn hc (by omega) h (fun q => ?_) (fun x hx q1 q2 q3 => ?_) (fun x hx q1 q2 q3 q4 => ?_)
  · unfold f_X12_readWoman f_X12_readWoman_j41 f_X12_readNumber
    rw [if_neg q, if_neg q, pr12, pr12]
  · unfold f_X12_readWoman f_X12_readWoman_j41 f_X12_readNumber
    rw [if_pos q1, q2, h6]
    by_cases w : W ≤ x
    · rw [if_pos (nI_le w (by omega)), if_pos q1, isIn_b (by omega) x hx, if_neg (show ¬ x < W by omega), if_pos rfl, pr12, pr12]
    · rw [if_neg (nI_ge (by omega) (by omega))]
      by_cases qa : nI x = a
      · rw [if_pos qa, pr12]
      · rw [if_neg qa, if_pos (by rcases q3 with e | e | e; exact absurd e w; exact absurd e qa; exact e), pr12]
  · unfold f_X12_readWoman f_X12_readWoman_j41 f_X12_readNumber
    rw [if_pos q1, q2, h6, if_neg (nI_ge (by omega) (by omega)), if_neg q3, if_neg q4, if_pos q1, isIn_b (by omega) x (by omega), if_pos hx, if_neg (by decide), pr12]
/-- a line's first word -/
theorem begin_ok {k l w : Nat} {μ ρ : Mem} (hG : 500 ≤ G) (hn : n ≤ 400) (hc : ∀ j, j < n → c j < 256) (h : LR c n k 0 μ ρ) (hl : l ≤ 16) (hw : w < 25) (hk : k < tK c n) :
    (tV c n k = nI (10000 + w) ∧ f_X12_isWord ρ (nI w) = 1 ∧ l < 16 ∧ ∃ μ' ρ', f_X5_beginLine G (nI (10000 + w)) (nI l) μ = some (1, μ') ∧ f_X12_reads G ρ = some ρ' ∧ LR c n (k + 1) 0 μ' ρ' ∧ ∀ z0, eF z0 μ ρ μ' ρ') ∨
      ∃ v μ' ρ', ((v = 3 ∧ f_X12_isWord ρ (nI w) = 1 ∧ l = 16) ∨ (v = 1 ∧ f_X12_isWord ρ (nI w) = 0)) ∧ f_X5_beginLine G (nI (10000 + w)) (nI l) μ = some (0, μ') ∧ f_X12_errs G v ρ = some (-1, ρ') ∧ SK μ' ∧ FtR μ' ρ' ∧ ∀ z0, eF z0 μ ρ μ' ρ' := by
  have tc := tok_c h
  have fc := flt_c h
  have iw := isW_r (w := w) h hw
  by_cases e : tV c n k = nI (10000 + w)
  · rw [if_pos e] at iw
    by_cases l16 : l = 16
    · obtain ⟨μ1, ρ1, b1, b2, b3, b4, b5⟩ := L_fail (G := G) (v := 3) hn h (by omega) (by decide)
      refine Or.inr ⟨3, μ1, ρ1, Or.inl ⟨rfl, iw, l16⟩, ?_, b2, b3, b4, b5⟩
      rw [f_X5_beginLine, tc, if_pos e, l16, if_neg (by decide), b1, bndV_s, expect_k b3, bndE_s, bkk0]
    · obtain ⟨μ', ρ', b1, b2, b3, b4⟩ := L_adv hG hn hc h hk
      refine Or.inl ⟨e, iw, by omega, μ', ρ', ?_, b2, b3, b4⟩
      rw [f_X5_beginLine, tc, if_pos e, if_pos (show nI l < (16 : Int32) from nI_lt (b := 16) (by omega) (by omega))]
      unfold f_X5_expect f_X5_expect_j20
      rw [if_pos fc, tc, if_pos e, if_pos fc, b1, bndV_s, bndE_s, bkk1]
  · rw [if_neg e] at iw
    obtain ⟨μ1, ρ1, b1, b2, b3, b4, b5⟩ := L_fail (G := G) (v := 1) hn h (by omega) (by decide)
    refine Or.inr ⟨1, μ1, ρ1, Or.inr ⟨rfl, iw⟩, ?_, b2, b3, b4, b5⟩
    rw [f_X5_beginLine, tc, if_neg e]
    unfold f_X5_expect f_X5_expect_j20
    rw [if_pos fc, tc, if_neg e, b1, bndV_s, if_neg b3.1, bndE_s, bkk0]
end
