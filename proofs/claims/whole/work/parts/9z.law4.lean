section
variable {G n : Nat} {c : Nat → Nat}
def vW (wt : Nat) : Int32 := if wt = 0 then 30000 else if wt = 1 then 20043 else 20045
def oW (wt : Nat) : Int32 := if wt = 1 then 2 else 3
def RU (G : Nat) (tm : Bool) (gp : Nat) (ρ : Mem) : Option (Int32 × Mem) := bndE (f_X12_readUnit G ρ) (fun w m => if w = -1 then some (-1, m) else if tm = true then bndV (f_X12_emits G 4 0 m) (fun m' => f_X12_readProduct_L10 G gp m') else f_X12_readProduct_L10 G gp m)
def SS (G wt gs : Nat) (m : Mem) : Option (Int32 × Mem) := if wt = 0 then f_X12_readSum_L10 G gs m else bndV (f_X12_emits G (oW wt) 0 m) (fun m' => f_X12_readSum_L10 G gs m')
def RS (G wt gs : Nat) (X : Option (Int32 × Mem)) : Option (Int32 × Mem) := bndE X (fun w m => if w = -1 then some (-1, m) else SS G wt gs m)
theorem j55_k {g : Nat} {v1 v3 s0 : Int32} {μ : Mem} (hg : 0 < g) (h : SK μ) : ∃ μ', f_X5_expression_j55 G (f_X5_expression_L8 G g) v1 v3 s0 μ = some μ' ∧ SkR μ μ' := by
  have j101 : ∀ a b (μ : Mem), SK μ → ∃ μ', f_X5_expression_j101 G (f_X5_expression_L8 G g) a b v3 μ = some μ' ∧ SkR μ μ' := by
    intro a b μ h
    obtain ⟨μ1, b1, b2⟩ := adv_k (G := G) h
    exact ⟨μ1, by rw [f_X5_expression_j101, b1, bndV_s, exprL_k hg b2.1], b2⟩
  have j75 : ∀ a (μ : Mem), SK μ → ∃ μ', f_X5_expression_j75 G (f_X5_expression_L8 G g) a v3 μ = some μ' ∧ SkR μ μ' := by
    intro a μ h
    rw [f_X5_expression_j75]
    split
    · exact j101 _ _ μ h
    · split
      · exact j101 _ _ μ h
      · exact ⟨μ, rfl, SkR_rfl h⟩
  rw [f_X5_expression_j55]
  split
  · split
    · exact j75 _ μ h
    · obtain ⟨μ1, b1, b2⟩ := put_k (G := G) (v := v1) h
      obtain ⟨μ2, d1, d2⟩ := j75 s0 μ1 b2.1
      exact ⟨μ2, by rw [b1, bndV_s, d1], SkR_tr b2 d2⟩
  · exact j101 _ _ μ h
theorem SkF {z : Nat} {μ ρ μ1 ρ1 μ2 : Mem} (h : FtR μ1 ρ1) (he : eF z μ ρ μ1 ρ1) (hs : SkR μ1 μ2) : SK μ2 ∧ FtR μ2 ρ1 ∧ fC μ μ2 ∧ (∀ x, x ≠ 0 → x ≠ 17 → x ≠ 18 → ρ1 x = ρ x) ∧ (∀ j, ¬ (16 ≤ j ∧ j ≤ 19) → j ≠ 29 → j ≠ 33 → j ≠ 34 → ρ1 0 j = ρ 0 j) ∧ ∀ i, i < 800 → ρ1 17 i = ρ 17 i ∧ ρ1 18 i = ρ 18 i :=
  ⟨hs.1, ⟨by rw [hs.2.1]; exact h.1, by rw [hs.2.2.1]; exact h.2⟩, fC_tr he.1 hs.2.2.2, he.2.2.1, he.2.2.2.1, fun i hi => he.2.2.2.2 i (by omega)⟩
/-- a fault on both sides -/
def Flt (μ ρ μ' ρ' : Mem) : Prop := SK μ' ∧ FtR μ' ρ' ∧ fC μ μ' ∧ (∀ x, x ≠ 0 → x ≠ 17 → x ≠ 18 → ρ' x = ρ x) ∧ (∀ j, ¬ (16 ≤ j ∧ j ≤ 19) → j ≠ 29 → j ≠ 33 → j ≠ 34 → ρ' 0 j = ρ 0 j) ∧ ∀ i, i < 800 → ρ' 17 i = ρ 17 i ∧ ρ' 18 i = ρ 18 i
theorem Flt_e {z : Nat} {μ ρ μ1 ρ1 μ2 ρ2 : Mem} (he : eF z μ ρ μ1 ρ1) (h : Flt μ1 ρ1 μ2 ρ2) : Flt μ ρ μ2 ρ2 :=
  ⟨h.1, h.2.1, fC_tr he.1 h.2.2.1, fun x a b d => by rw [h.2.2.2.1 x a b d, he.2.2.1 x a b d], fun j a b d e => by rw [h.2.2.2.2.1 j a b d e, he.2.2.2.1 j a b d e], fun i hi => ⟨by rw [(h.2.2.2.2.2 i hi).1, (he.2.2.2.2 i (by omega)).1], by rw [(h.2.2.2.2.2 i hi).2, (he.2.2.2.2 i (by omega)).2]⟩⟩
theorem exprE {P : Nat} (hG : 500 ≤ G) (hn : n ≤ 400) (hc : ∀ j, j < n → c j < 256) : ∀ m k z μ ρ wt (tm : Bool) v3 g gp gs p y (S0 : List Nat), tK c n - k ≤ m → tK c n - k < g → tK c n - k < gp → tK c n - k < gs → wt ≤ 2 → LR c n k z μ ρ → z + (if wt = 0 then 0 else 1) + (if tm = true then 1 else 0) + P ≤ k → v3 ≤ k → p ≠ 1 → y ≠ 1 → S0.length ≤ 30 →
    (∃ k' z' μ' ρ' x, f_X5_expression_L8 G g (vW wt) (if tm = true then nI 1 else nI 0) (nI v3) μ = some μ' ∧ RS G wt gs (RU G tm gp ρ) = some (0, ρ') ∧ LR c n k' z' μ' ρ' ∧ eF z μ ρ μ' ρ' ∧ k < k' ∧ z' + P ≤ k' ∧ Ty ρ' z z' ((if tm = true then [p] else []) ++ ((if wt = 0 then [] else [y]) ++ S0)) (x :: S0) ∧ x ≠ 1) ∨
      ∃ μ' ρ', f_X5_expression_L8 G g (vW wt) (if tm = true then nI 1 else nI 0) (nI v3) μ = some μ' ∧ RS G wt gs (RU G tm gp ρ) = some (-1, ρ') ∧ Flt μ ρ μ' ρ' := by
  have hK := tK_le (c := c) (n := n)
  intro m
  induction m with
  | zero =>
    intro k z μ ρ wt tm v3 g gp gs p y S0 h1 h2 h3 h4 hwt h hz hv hp hy hS
    obtain ⟨g, rfl⟩ : ∃ t, g = t + 1 := ⟨g - 1, by omega⟩
    have kK := h.1
    rcases unitE hG hn hc h (by omega) with ⟨μ1, ρ1, x, u1, u2, u3, u4, u5, _⟩ | ⟨μ1, ρ1, u1, u2, u3, u4, u5⟩
    · omega
    · refine Or.inr ⟨μ1, ρ1, ?_, ?_, SkF u4 (u5 0) (SkR_rfl u3)⟩
      · rw [f_X5_expression_L8, if_neg (show ¬ (400 : Int32) < nI v3 from nI_nlt (b := v3) (a := 400) (by omega) (by omega)), u1, bndE_s, if_pos rfl]
      · unfold RS RU
        rw [u2, bndE_s, if_pos rfl, bndE_s, if_pos rfl]
  | succ m ih =>
    intro k z μ ρ wt tm v3 g gp gs p y S0 h1 h2 h3 h4 hwt h hz hv hp hy hS
    obtain ⟨g, rfl⟩ : ∃ t, g = t + 1 := ⟨g - 1, by omega⟩
    have kK := h.1
    have e4 : ¬ (400 : Int32) < nI v3 := nI_nlt (b := v3) (a := 400) (by omega) (by omega)
    rcases unitE hG hn hc h (by omega) with ⟨μ1, ρ1, x, u1, u2, u3, u4, u5, u6, u7⟩ | ⟨μ1, ρ1, u1, u2, u3, u4, u5⟩
    · -- behind the unit
      have cont : ∀ z2 μ2 ρ2 q, LR c n (k + 1) z2 μ2 ρ2 → z2 + (if wt = 0 then 0 else 1) + P ≤ k + 1 → q ≠ 1 → eF z μ ρ μ2 ρ2 → z ≤ z2 → Ty ρ2 z z2 ((if tm = true then [p] else []) ++ ((if wt = 0 then [] else [y]) ++ S0)) (q :: ((if wt = 0 then [] else [y]) ++ S0)) →
          f_X5_expression_L8 G (g + 1) (vW wt) (if tm = true then nI 1 else nI 0) (nI v3) μ = f_X5_expression_j36 G (f_X5_expression_L8 G g) (vW wt) (nI v3) μ2 → RS G wt gs (RU G tm gp ρ) = RS G wt gs (f_X12_readProduct_L10 G gp ρ2) →
          (∃ k' z' μ' ρ' x, f_X5_expression_L8 G (g + 1) (vW wt) (if tm = true then nI 1 else nI 0) (nI v3) μ = some μ' ∧ RS G wt gs (RU G tm gp ρ) = some (0, ρ') ∧ LR c n k' z' μ' ρ' ∧ eF z μ ρ μ' ρ' ∧ k < k' ∧ z' + P ≤ k' ∧ Ty ρ' z z' ((if tm = true then [p] else []) ++ ((if wt = 0 then [] else [y]) ++ S0)) (x :: S0) ∧ x ≠ 1) ∨
            ∃ μ' ρ', f_X5_expression_L8 G (g + 1) (vW wt) (if tm = true then nI 1 else nI 0) (nI v3) μ = some μ' ∧ RS G wt gs (RU G tm gp ρ) = some (-1, ρ') ∧ Flt μ ρ μ' ρ' := by
        intro z2 μ2 ρ2 q H hz2 hq hE hzz hT hcl hrf
        have hS1 : ((if wt = 0 then [] else [y]) ++ S0).length ≤ 37 := by split <;> simp <;> omega
        rw [hcl, hrf]
        rcases partE (P := (if wt = 0 then 0 else 1) + P) hG hn hc (tK c n - (k + 1)) (k + 1) z2 μ2 ρ2 0 G gp q ((if wt = 0 then [] else [y]) ++ S0) (by omega) (by omega) (by omega) H (by omega) (by omega) hq hS1 with ⟨k', z', μ3, ρ3, gp', q', r1, r2, r3, r4, r5, r6, r7, r8, r9, r10⟩ | ⟨μ3, ρ3, r1, r2, r3, r4, r5⟩
        · have kK' := r3.1
          have r1 : f_X5_partings G μ2 = some μ3 := r1
          have E3 : eF z μ ρ μ3 ρ3 := eF_tr hE r4 hzz
          have T3 : Ty ρ3 z z' ((if tm = true then [p] else []) ++ ((if wt = 0 then [] else [y]) ++ S0)) (q' :: ((if wt = 0 then [] else [y]) ++ S0)) := Ty_tr (Ty_c hT r4 (Nat.le_refl _)) r9
          have zz' : z ≤ z' := T3.1
          obtain ⟨gp', rfl⟩ : ∃ t, gp' = t + 1 := ⟨gp' - 1, by omega⟩
          have s42 : f_X12_isSign ρ3 42 = if tV c n k' = nI 20042 then 1 else 0 := isS_r (s := 42) r3 (by omega)
          have s47 : f_X12_isSign ρ3 47 = 0 := by
            rw [show (47 : Int32) = nI 47 from rfl, isS_r r3 (by omega), if_neg r8]
          have cl : f_X5_expression_j36 G (f_X5_expression_L8 G g) (vW wt) (nI v3) μ2 = (if tV c n k' = 20042 then f_X5_expression_j55 G (f_X5_expression_L8 G g) (vW wt) (nI v3) 1 μ3 else f_X5_expression_j55 G (f_X5_expression_L8 G g) (vW wt) (nI v3) 0 μ3) := by
            rw [f_X5_expression_j36, r1, bndV_s, tok_c r3]
          rw [cl, r2]
          by_cases st : tV c n k' = 20042
          · have kk : k' < tK c n := LR_end hc r3 (by rw [st]; decide)
            obtain ⟨μ4, ρ4, b1, b2, b3, b4⟩ := L_adv hG hn hc r3 kk
            have cl2 : f_X5_expression_j55 G (f_X5_expression_L8 G g) (vW wt) (nI v3) 1 μ3 = f_X5_expression_L8 G g (vW wt) (if true = true then nI 1 else nI 0) (nI (v3 + 1)) μ4 := by
              rw [f_X5_expression_j55, if_neg (by decide), f_X5_expression_j101, b1, bndV_s, nI_1]
              rfl
            have rf2 : f_X12_readProduct_L10 G (gp' + 1) ρ3 = RU G true gp' ρ4 := by
              rw [f_X12_readProduct_L10, s42, if_pos (show tV c n k' = nI 20042 from st), if_neg (by decide), f_X12_readProduct_j28, b2, bndV_s, s42, if_pos (show tV c n k' = nI 20042 from st), if_neg (by decide), f_X12_readProduct_j57, if_neg (by decide), f_X12_readProduct_j74]
              unfold RU
              congr 1
            rw [if_pos st, cl2, rf2]
            rcases ih (k' + 1) z' μ4 ρ4 wt true (v3 + 1) g gp' gs q' y S0 (by omega) (by omega) (by omega) (by omega) hwt b3 (by rw [if_pos rfl]; omega) (by omega) r10 hy hS with ⟨k5, z5, μ5, ρ5, x5, f1, f2, f3, f4, f5, f6, f7, f8⟩ | ⟨μ5, ρ5, f1, f2, f3⟩
            · exact Or.inl ⟨k5, z5, μ5, ρ5, x5, f1, f2, f3, eF_tr E3 (eF_tr (b4 z') f4 (Nat.le_refl _)) zz', by omega, f6, Ty_tr (Ty_c T3 (eF_tr (b4 z') f4 (Nat.le_refl _)) (Nat.le_refl _)) f7, f8⟩
            · exact Or.inr ⟨μ5, ρ5, f1, f2, Flt_e (eF_tr E3 (b4 z') zz') f3⟩
          · have rf2 : f_X12_readProduct_L10 G (gp' + 1) ρ3 = some (0, ρ3) := by
              rw [f_X12_readProduct_L10, s42, if_neg (show ¬ tV c n k' = nI 20042 from st), if_pos rfl, s47, if_pos rfl]
            rw [if_neg st, rf2]
            -- the sum
            have sum : ∀ z4 μ4 ρ4 x4, LR c n k' z4 μ4 ρ4 → z4 + P ≤ k' → x4 ≠ 1 → eF z μ ρ μ4 ρ4 → z ≤ z4 → Ty ρ4 z z4 ((if tm = true then [p] else []) ++ ((if wt = 0 then [] else [y]) ++ S0)) (x4 :: S0) →
                (∃ k' z' μ' ρ' x, f_X5_expression_j75 G (f_X5_expression_L8 G g) 0 (nI v3) μ4 = some μ' ∧ f_X12_readSum_L10 G gs ρ4 = some (0, ρ') ∧ LR c n k' z' μ' ρ' ∧ eF z μ ρ μ' ρ' ∧ k < k' ∧ z' + P ≤ k' ∧ Ty ρ' z z' ((if tm = true then [p] else []) ++ ((if wt = 0 then [] else [y]) ++ S0)) (x :: S0) ∧ x ≠ 1) ∨
                  ∃ μ' ρ', f_X5_expression_j75 G (f_X5_expression_L8 G g) 0 (nI v3) μ4 = some μ' ∧ f_X12_readSum_L10 G gs ρ4 = some (-1, ρ') ∧ Flt μ ρ μ' ρ' := by
              intro z4 μ4 ρ4 x4 H4 hz4 hx4 E4 zz4 T4
              obtain ⟨gs, rfl⟩ : ∃ t, gs = t + 1 := ⟨gs - 1, by omega⟩
              have s43 : f_X12_isSign ρ4 43 = if tV c n k' = nI 20043 then 1 else 0 := isS_r (s := 43) H4 (by omega)
              have s45 : f_X12_isSign ρ4 45 = if tV c n k' = nI 20045 then 1 else 0 := isS_r (s := 45) H4 (by omega)
              have tc4 := tok_c H4
              have go : ∀ w, (w = 1 ∨ w = 2) → tV c n k' = vW w → f_X12_readSum_L10 G (gs + 1) ρ4 = f_X12_readSum_j42 G (f_X12_readSum_L10 G gs) (oW w) ρ4 → f_X5_expression_j75 G (f_X5_expression_L8 G g) 0 (nI v3) μ4 = f_X5_expression_j101 G (f_X5_expression_L8 G g) (vW w) 0 (nI v3) μ4 →
                  (∃ k' z' μ' ρ' x, f_X5_expression_j75 G (f_X5_expression_L8 G g) 0 (nI v3) μ4 = some μ' ∧ f_X12_readSum_L10 G (gs + 1) ρ4 = some (0, ρ') ∧ LR c n k' z' μ' ρ' ∧ eF z μ ρ μ' ρ' ∧ k < k' ∧ z' + P ≤ k' ∧ Ty ρ' z z' ((if tm = true then [p] else []) ++ ((if wt = 0 then [] else [y]) ++ S0)) (x :: S0) ∧ x ≠ 1) ∨
                    ∃ μ' ρ', f_X5_expression_j75 G (f_X5_expression_L8 G g) 0 (nI v3) μ4 = some μ' ∧ f_X12_readSum_L10 G (gs + 1) ρ4 = some (-1, ρ') ∧ Flt μ ρ μ' ρ' := by
                intro w hw htw hr hcl2
                have w0 : ¬ w = 0 := by omega
                have kk : k' < tK c n := LR_end hc H4 (by rw [htw]; unfold vW; rw [if_neg w0]; split <;> decide)
                obtain ⟨μ5, ρ5, b1, b2, b3, b4⟩ := L_adv hG hn hc H4 kk
                have cl3 : f_X5_expression_j101 G (f_X5_expression_L8 G g) (vW w) 0 (nI v3) μ4 = f_X5_expression_L8 G g (vW w) (if false = true then nI 1 else nI 0) (nI (v3 + 1)) μ5 := by
                  rw [f_X5_expression_j101, b1, bndV_s, nI_1]
                  rfl
                have rf3 : f_X12_readSum_j42 G (f_X12_readSum_L10 G gs) (oW w) ρ4 = RS G w gs (RU G false G ρ5) := by
                  rw [f_X12_readSum_j42, b2, bndV_s]
                  unfold RS SS
                  have e : f_X12_readProduct G ρ5 = RU G false G ρ5 := by
                    unfold f_X12_readProduct RU
                    congr 1
                  rw [e]
                  congr 1
                  funext w' m'
                  rw [if_neg w0]
                rw [hcl2, cl3, hr, rf3]
                rcases ih (k' + 1) z4 μ5 ρ5 w false (v3 + 1) g G gs 0 x4 S0 (by omega) (by omega) (by omega) (by omega) (by omega) b3 (by rw [if_neg w0, if_neg (by decide)]; omega) (by omega) (by decide) hx4 hS with ⟨k6, z6, μ6, ρ6, x6, f1, f2, f3, f4, f5, f6, f7, f8⟩ | ⟨μ6, ρ6, f1, f2, f3⟩
                · rw [if_neg w0, if_neg (by decide)] at f7
                  exact Or.inl ⟨k6, z6, μ6, ρ6, x6, f1, f2, f3, eF_tr E4 (eF_tr (b4 z4) f4 (Nat.le_refl _)) zz4, by omega, f6, Ty_tr (Ty_c T4 (eF_tr (b4 z4) f4 (Nat.le_refl _)) (Nat.le_refl _)) f7, f8⟩
                · exact Or.inr ⟨μ6, ρ6, f1, f2, Flt_e (eF_tr E4 (b4 z4) zz4) f3⟩
              have val : ∀ s : Nat, s < 256 → tV c n k' = nI (20000 + s) → ρ4 0 19 = nI s := by
                intro s hs ht
                have := isS_r (s := s) H4 hs
                rw [if_pos ht] at this
                unfold f_X12_isSign at this
                split at this
                · split at this
                  · assumption
                  · exact absurd this (by decide)
                · exact absurd this (by decide)
              by_cases t43 : tV c n k' = 20043
              · refine go 1 (Or.inl rfl) t43 ?_ ?_
                · rw [f_X12_readSum_L10, s43, if_pos (show tV c n k' = nI 20043 from t43), if_neg (by decide), f_X12_readSum_j28, if_pos (show ρ4 0 19 = 43 from val 43 (by omega) t43)]
                  rfl
                · rw [f_X5_expression_j75, tc4, if_pos t43, t43]
                  rfl
              · by_cases t45 : tV c n k' = 20045
                · refine go 2 (Or.inr rfl) t45 ?_ ?_
                  · rw [f_X12_readSum_L10, s43, if_neg (show ¬ tV c n k' = nI 20043 from t43), if_pos rfl, s45, if_pos (show tV c n k' = nI 20045 from t45), if_neg (by decide), f_X12_readSum_j28, if_neg (show ¬ ρ4 0 19 = 43 by rw [val 45 (by omega) t45]; decide)]
                    rfl
                  · rw [f_X5_expression_j75, tc4, if_neg t43, if_pos t45, t45]
                    rfl
                · refine Or.inl ⟨k', z4, μ4, ρ4, x4, ?_, ?_, H4, E4, by omega, hz4, T4, hx4⟩
                  · rw [f_X5_expression_j75, tc4, if_neg t43, if_neg t45]
                  · rw [f_X12_readSum_L10, s43, if_neg (show ¬ tV c n k' = nI 20043 from t43), if_pos rfl, s45, if_neg (show ¬ tV c n k' = nI 20045 from t45), if_pos rfl]
            by_cases w0 : wt = 0
            · have cl3 : f_X5_expression_j55 G (f_X5_expression_L8 G g) (vW wt) (nI v3) 0 μ3 = f_X5_expression_j75 G (f_X5_expression_L8 G g) 0 (nI v3) μ3 := by
                rw [f_X5_expression_j55, if_pos rfl, w0, if_pos (show vW 0 = 30000 from rfl)]
              have rf3 : RS G wt gs (some (0, ρ3)) = f_X12_readSum_L10 G gs ρ3 := by
                unfold RS SS
                rw [bndE_s, if_neg (by decide), if_pos w0]
              rw [cl3, rf3]
              rw [if_pos w0, Nat.zero_add] at r6
              exact sum z' μ3 ρ3 q' r3 r6 r10 E3 zz' (by rw [if_pos w0] at T3 ⊢; exact T3)
            · have pz : z' < 400 := by rw [if_neg w0] at r6; omega
              obtain ⟨μ4, ρ4, b1, b2, b3, b4, b5, b6⟩ := L_put (G := G) (v := vW wt) (a := oW wt) (b := 0) r3 pz (by
                rcases (by omega : wt = 1 ∨ wt = 2) with e | e
                · rw [e]; exact Or.inr (Or.inr (Or.inl ⟨rfl, rfl⟩))
                · rw [e]; exact Or.inr (Or.inr (Or.inr (Or.inl ⟨rfl, rfl⟩))))
              have vne : ¬ vW wt = 30000 := by unfold vW; rw [if_neg w0]; split <;> decide
              have cl3 : f_X5_expression_j55 G (f_X5_expression_L8 G g) (vW wt) (nI v3) 0 μ3 = f_X5_expression_j75 G (f_X5_expression_L8 G g) 0 (nI v3) μ4 := by
                rw [f_X5_expression_j55, if_pos rfl, if_neg vne, b1, bndV_s]
              have rf3 : RS G wt gs (some (0, ρ3)) = f_X12_readSum_L10 G gs ρ4 := by
                unfold RS SS
                rw [bndE_s, if_neg (by decide), if_neg w0, b2, bndV_s]
              rw [cl3, rf3]
              rw [if_neg w0] at r6
              refine sum (z' + 1) μ4 ρ4 0 b3 (by omega) (by decide) (eF_tr E3 b4 zz') (by omega) (Ty_tr (Ty_c T3 b4 (Nat.le_refl _)) (Ty_1 b5 b6 ?_))
              rw [if_neg w0]
              show tst (oW wt) 0 (q' :: y :: S0) = some (0 :: S0)
              rcases (by omega : wt = 1 ∨ wt = 2) with e | e
              · rw [e]; simp [tst, oW, r10, hy]
              · rw [e]; simp [tst, oW, r10, hy]
        · have r1 : f_X5_partings G μ2 = some μ3 := r1
          have jk := fun s0 => j55_k (G := G) (v1 := vW wt) (v3 := nI v3) (s0 := s0) (show 0 < g by omega) r3
          refine Or.inr ?_
          rw [f_X5_expression_j36, r1, bndV_s, r2]
          have rf : RS G wt gs (some (-1, ρ3)) = some (-1, ρ3) := by
            unfold RS
            rw [bndE_s, if_pos rfl]
          rw [rf]
          split
          · obtain ⟨μ4, d1, d2⟩ := jk 1
            exact ⟨μ4, ρ3, d1, rfl, SkF r4 (eF_tr hE r5 hzz) d2⟩
          · obtain ⟨μ4, d1, d2⟩ := jk 0
            exact ⟨μ4, ρ3, d1, rfl, SkF r4 (eF_tr hE r5 hzz) d2⟩
      have lenI : ((if tm = true then [p] else []) ++ ((if wt = 0 then [] else [y]) ++ S0)).length < 40 := by
        split <;> split <;> simp <;> omega
      have ty0 := u7 _ lenI
      cases tm with
      | false =>
        have rf : RU G false gp ρ = f_X12_readProduct_L10 G gp ρ1 := by
          unfold RU
          rw [u2, bndE_s, if_neg (by decide), if_neg (by decide)]
        refine cont (z + 1) μ1 ρ1 x u3 (by rw [if_neg (show ¬ (false : Bool) = true by decide)] at hz; omega) u6 u4 (by omega) ty0 ?_ (by rw [rf])
        rw [f_X5_expression_L8, if_neg e4, u1, bndE_s, if_neg (by decide), if_pos (show (if (false : Bool) = true then nI 1 else nI 0) = 0 by decide)]
      | true =>
        rw [if_pos rfl] at hz
        obtain ⟨μ4, ρ4, b1, b2, b3, b4, b5, b6⟩ := L_put (G := G) (v := 20042) (a := 4) (b := 0) u3 (by omega) (Or.inr (Or.inr (Or.inr (Or.inr (Or.inl ⟨rfl, rfl⟩)))))
        have rf : RU G true gp ρ = f_X12_readProduct_L10 G gp ρ4 := by
          unfold RU
          rw [u2, bndE_s, if_neg (by decide), if_pos rfl, b2, bndV_s]
        refine cont (z + 1 + 1) μ4 ρ4 0 b3 (by omega) (by decide) (eF_tr u4 b4 (by omega)) (by omega) (Ty_tr (Ty_c ty0 b4 (Nat.le_refl _)) (Ty_1 b5 b6 ?_)) ?_ (by rw [rf])
        · show tst 4 0 (x :: p :: _) = some (0 :: _)
          simp [tst, u6, hp]
        · rw [f_X5_expression_L8, if_neg e4, u1, bndE_s, if_neg (by decide), if_pos rfl, if_neg (by decide), b1, bndV_s]
    · refine Or.inr ⟨μ1, ρ1, ?_, ?_, SkF u4 (u5 0) (SkR_rfl u3)⟩
      · rw [f_X5_expression_L8, if_neg e4, u1, bndE_s, if_pos rfl]
      · unfold RS RU
        rw [u2, bndE_s, if_pos rfl, bndE_s, if_pos rfl]
/-- an expression -/
theorem expr_ok {P k z : Nat} {μ ρ : Mem} {S0 : List Nat} (hG : 500 ≤ G) (hn : n ≤ 400) (hc : ∀ j, j < n → c j < 256) (h : LR c n k z μ ρ) (hz : z + P ≤ k) (hS : S0.length ≤ 30) :
    (∃ k' z' μ' ρ' x, f_X5_expression G μ = some μ' ∧ f_X12_readSum G ρ = some (0, ρ') ∧ LR c n k' z' μ' ρ' ∧ eF z μ ρ μ' ρ' ∧ k < k' ∧ z' + P ≤ k' ∧ Ty ρ' z z' S0 (x :: S0) ∧ x ≠ 1) ∨
      ∃ μ' ρ', f_X5_expression G μ = some μ' ∧ f_X12_readSum G ρ = some (-1, ρ') ∧ Flt μ ρ μ' ρ' := by
  have hK := tK_le (c := c) (n := n)
  have e : f_X12_readSum G ρ = RS G 0 G (RU G false G ρ) := by
    unfold f_X12_readSum RS SS
    have e : f_X12_readProduct G ρ = RU G false G ρ := by
      unfold f_X12_readProduct RU
      congr 1
    rw [e]
    congr 1
  rw [e]
  exact exprE hG hn hc (tK c n) k z μ ρ 0 false 0 G G G 0 0 S0 (by omega) (by omega) (by omega) (by omega) (by omega) h (by rw [if_pos rfl, if_neg (by decide)]; omega) (by omega) (by decide) (by decide) hS
end
