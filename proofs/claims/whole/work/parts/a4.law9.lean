section
variable {G n : Nat} {c : Nat → Nat} {fq : Int32 → Mem → Option Mem}
theorem settle0 {w : Int32} {Q : List Int32} {ρ : Mem} (hG : 500 ≤ G) (h : PnR Q ρ) (hl : ∀ x, Q[Q.length - 1]? = some x → x ≠ w) (hQ : Q.length ≤ 40) : f_X12_settles G w ρ = some ρ := by
  unfold f_X12_settles
  obtain ⟨G', rfl⟩ : ∃ y, G = y + 1 := ⟨G - 1, by omega⟩
  rw [f_X12_settles_L0, h.1]
  by_cases e : Q.length = 0
  · rw [if_pos (by rw [e]; decide)]
  · have lt : Q.length - 1 < Q.length := by omega
    have hx : Q[Q.length - 1]? = some (Q[Q.length - 1]) := List.getElem?_eq_getElem lt
    have v := h.2 _ _ hx
    rw [if_neg (show ¬ nI Q.length ≤ (0 : Int32) from nI_ge (a := 0) (by omega) (by omega)), show nI Q.length - (1 : Int32) = nI (Q.length - 1) from pk_sub (b := 1) (by omega), chkn (by omega) (by omega), ixn (by omega), v, if_neg (hl _ hx)]
theorem settle1 {k z o : Nat} {w v : Int32} {Q : List Int32} {μ ρ : Mem} (hG : 500 ≤ G) (h : CQ c n k z o (Q ++ [w]) μ ρ) (hv : CdR v w 0) (hw : w ≠ 9) (hl : ∀ x, Q[Q.length - 1]? = some x → x ≠ w) (hQ : Q.length < 40) (hz : z < 400) (ho : o ≤ 8) :
    ∃ μ' ρ', f_X1_put G 45 v μ = some μ' ∧ f_X12_settles G w ρ = some ρ' ∧ CQ c n k (z + 1) o Q μ' ρ' ∧ cF z μ ρ μ' ρ' ∧ ρ' 17 (800 + z) = w ∧ ρ' 18 (800 + z) = 0 := by
  obtain ⟨H, P, h30⟩ := h
  obtain ⟨ρ', s1, s2, s3, s4, s5, s6, s7, s8⟩ := settles_g (w := w) (Q := Q) hG 1 z o G ρ P hl (by simp; omega) H.2.2.2.2.1 (by omega) (by omega) h30 (fun q => absurd q hw)
  have c8 := s8 0 (by omega)
  rw [Nat.add_zero] at c8
  have pg := put_g (G := G) (v := v) H.2.2.1 hz
  refine ⟨_, ρ', pg, s1, ⟨⟨H.1, AtC_o H.2.1 (by rw [wr_off (by omega), wr_off (by omega)]) (by rw [wr_off (by omega), wr_off (by omega)]) (by rw [wr_off (by omega), wr_off (by omega)]), wr_same, AtR_o H.2.2.2.1 (fun j a b => s6 j (by omega) (by omega) (by omega)) (s5 10 (by omega) (by omega) (by omega)) (s5 11 (by omega) (by omega) (by omega)), s3, fun i hi => ?_⟩, s2, by rw [s4, if_neg hw]⟩, ⟨⟨fun x _ a b => by rw [wr_off a, wr_off b], fun j _ _ _ _ => by rw [wr_cell (by omega), wr_cell (by omega)], fun j a => by rw [wr_slot a, wr_cell (by omega)]⟩, fun i hi => by rw [wr_cell (by omega), wr_slot (by omega)], fun x a b d _ => s5 x a b d, fun j _ b => s6 j (by omega) (by omega) (by omega), s7⟩, c8.1, c8.2⟩
  rw [wr_cell (show (46 : Nat) ≠ 45 by omega)]
  by_cases e : i = z
  · rw [e, wr_same, c8.1, c8.2]; exact hv
  · rw [wr_slot e, (s7 (800 + i) (by omega)).1, (s7 (800 + i) (by omega)).2]; exact H.2.2.2.2.2 i (by omega)
theorem wait_ok {k z o : Nat} {w : Int32} {Q : List Int32} {μ ρ : Mem} (hG : 500 ≤ G) (hn : n ≤ 400) (hc : ∀ j, j < n → c j < 256) (h : CQ c n k z o Q μ ρ) (hk : k < tK c n) (hQ : Q.length < 40) :
    ∃ μ' ρ1 ρ', f_X5_advance G μ = some μ' ∧ f_X12_waits G w ρ = some ρ1 ∧ f_X12_reads G ρ1 = some ρ' ∧ CQ c n (k + 1) z o (Q ++ [w]) μ' ρ' ∧ cF z μ ρ μ' ρ' := by
  obtain ⟨H, P, h30⟩ := h
  obtain ⟨ρ1, w1, w2, w3, w4⟩ := waits_g (G := G) (x := w) P hQ
  have f2 : ∀ j, j ≠ 30 → j ≠ 32 → ρ1 0 j = ρ 0 j := fun j _ b => w4 j b
  obtain ⟨μ', ρ', b1, b2, b3, b4⟩ := L_adv hG hn hc (LR_o H w3 f2) hk
  exact ⟨μ', ρ1, ρ', b1, w1, b2, ⟨b3, PnR_o w2 ((b4 0).2.2.2.1 32 (by omega) (by omega) (by omega) (by omega)) ((b4 0).2.2.1 19 (by omega) (by omega) (by omega)), by rw [(b4 0).2.2.2.1 30 (by omega) (by omega) (by omega) (by omega), w4 30 (by omega)]; exact h30⟩, cF_tr (cF_o w3 f2) (cF_e (b4 z)) (Nat.le_refl _)⟩
def wO (orr : Bool) : List Int32 := if orr = true then [11] else []
def wA (an : Bool) : List Int32 := if an = true then [10] else []
def sN (f : Bool) (S : List Nat) : List Nat := if f = true then 1 :: S else S
def bI (f : Bool) : Int32 := if f = true then nI 1 else nI 0
theorem last_ap {Q : List Int32} {w x : Int32} (h : (Q ++ [w])[(Q ++ [w]).length - 1]? = some x) : x = w := by
  rw [List.getElem?_append_right (by simp)] at h
  rw [show (Q ++ [w]).length - 1 - Q.length = 0 by simp] at h
  exact (Option.some.inj h).symm
theorem cond_ok {o : Nat} (hG : 500 ≤ G) (hn : n ≤ 400) (hc : ∀ j, j < n → c j < 256) (ho : o ≤ 8) (HK : ClauP G c n fq o) : CondP G c n (fun p μ => f_X5_condition G fq p μ) o := by
  have hK := tK_le (c := c) (n := n)
  intro k z Q μ ρ b g S h hz hQ hl hS hg hb
  have lQ : ∀ w x, w ≠ 12 → Q[Q.length - 1]? = some x → x ≠ w := fun w x hw hx q => hw (q.symm.trans (hl x hx))
  have main : ∀ mm k z μ ρ g gL (an orr : Bool) v4, tK c n - k ≤ mm → CQ c n k z o (Q ++ wO orr ++ wA an) μ ρ → z + (Q ++ wO orr ++ wA an).length ≤ k → tK c n - k < g → tK c n - k + 1 < gL → v4 ≤ k →
      (∃ k' z' μ' ρ' g', f_X5_condition_L7 G fq gL (nI o) (bI an) (bI orr) (nI v4) μ = some μ' ∧ f_X12_readAny_L9 G g (nI b) 1 ρ = EL G g' (nI b) ρ' ∧ CQ c n k' z' o Q μ' ρ' ∧ cF z μ ρ μ' ρ' ∧ k < k' ∧ z' + Q.length ≤ k' ∧ Ty ρ' z z' (sN an (sN orr S)) (1 :: S) ∧ tK c n - k' ≤ g') ∨
        ∃ μ' ρ', f_X5_condition_L7 G fq gL (nI o) (bI an) (bI orr) (nI v4) μ = some μ' ∧ f_X12_readAny_L9 G g (nI b) 1 ρ = some (-1, ρ') ∧ FlC μ ρ μ' ρ' := by
    intro mm
    induction mm using Nat.strongRecOn with
    | ind mm ih =>
      intro k z μ ρ g gL an orr v4 hm h hz hg hgL hv
      obtain ⟨gL, rfl⟩ : ∃ y, gL = y + 1 := ⟨gL - 1, by omega⟩
      have H := h.1
      have kK := H.1
      have e4 : ¬ (400 : Int32) < nI v4 := nI_nlt (b := v4) (a := 400) (by omega) (by omega)
      have len2 : (Q ++ wO orr ++ wA an).length ≤ Q.length + 2 := by
        rw [List.length_append, List.length_append]
        have a1 : (wO orr).length ≤ 1 := by cases orr <;> decide
        have a2 : (wA an).length ≤ 1 := by cases an <;> decide
        omega
      have sl : (sN an (sN orr S)).length ≤ 2 * o + 2 := by
        cases an <;> cases orr <;> simp [sN] <;> omega
      rcases HK k z (Q ++ wO orr ++ wA an) μ ρ b g (sN an (sN orr S)) h hz (by omega) (fun x hx => by
        cases an with
        | true => rw [last_ap hx]; decide
        | false =>
          cases orr with
          | true =>
            have hx : (Q ++ [11] ++ [])[(Q ++ [11] ++ []).length - 1]? = some x := hx
            rw [List.append_nil] at hx
            rw [last_ap hx]; decide
          | false =>
            have hx : (Q ++ [] ++ [])[(Q ++ [] ++ []).length - 1]? = some x := hx
            rw [List.append_nil, List.append_nil] at hx
            exact lQ 9 x (by decide) hx) sl hg hb with ⟨k1, z1, μ1, ρ1, g1, q1, q2, q3, q4, q5, q6, q7, q8⟩ | ⟨μ1, ρ1, q1, q2, q3⟩
      · have kK1 := q3.1.1
        have zz : z ≤ z1 := q7.1
        obtain ⟨g1, rfl⟩ : ∃ y, g1 = y + 1 := ⟨g1 - 1, by omega⟩
        -- the row of ands
        have stA : ∃ z2 μ2 ρ2, f_X5_condition_L7 G fq (gL + 1) (nI o) (bI an) (bI orr) (nI v4) μ = f_X5_condition_j41 G fq (f_X5_condition_L7 G fq gL) (nI o) (bI orr) (nI v4) μ2 ∧ f_X12_settles G 10 ρ1 = some ρ2 ∧ CQ c n k1 z2 o (Q ++ wO orr) μ2 ρ2 ∧ cF z μ ρ μ2 ρ2 ∧ z ≤ z2 ∧ z2 + (Q ++ wO orr).length ≤ k1 ∧ Ty ρ2 z z2 (sN an (sN orr S)) (1 :: sN orr S) := by
          cases an with
          | false =>
            have q3 : CQ c n k1 z1 o (Q ++ wO orr ++ []) μ1 ρ1 := q3
            have q6 : z1 + (Q ++ wO orr ++ []).length ≤ k1 := q6
            have len2 : (Q ++ wO orr ++ []).length ≤ Q.length + 2 := len2
            rw [List.append_nil] at q3 q6 len2
            refine ⟨z1, μ1, ρ1, ?_, settle0 hG q3.2.1 (fun x hx => ?_) (by omega), q3, q4, zz, q6, q7⟩
            · rw [f_X5_condition_L7, if_neg e4, if_pos (flt_c H), q1, bndV_s, if_pos (show bI false = 0 from rfl)]
            · cases orr with
              | true =>
                have hx : (Q ++ [11])[(Q ++ [11]).length - 1]? = some x := hx
                rw [last_ap hx]; decide
              | false =>
                have hx : (Q ++ [])[(Q ++ []).length - 1]? = some x := hx
                rw [List.append_nil] at hx
                exact lQ 10 x (by decide) hx
          | true =>
            have q3 : CQ c n k1 z1 o (Q ++ wO orr ++ [10]) μ1 ρ1 := q3
            have q6 : z1 + (Q ++ wO orr ++ [10]).length ≤ k1 := q6
            have len2 : (Q ++ wO orr ++ [10]).length ≤ Q.length + 2 := len2
            rw [List.length_append] at q6 len2
            have q6 : z1 + ((Q ++ wO orr).length + 1) ≤ k1 := q6
            have len2 : (Q ++ wO orr).length + 1 ≤ Q.length + 2 := len2
            obtain ⟨μ2, ρ2, p1, p2, p3, p4, p5, p6⟩ := settle1 (v := 10005) hG q3 (Or.inr (Or.inr (Or.inr (Or.inr (Or.inr (Or.inr (Or.inr (Or.inr (Or.inr (Or.inr (Or.inl ⟨rfl, rfl⟩))))))))))) (by decide) (fun x hx => by
              cases orr with
              | true =>
                have hx : (Q ++ [11])[(Q ++ [11]).length - 1]? = some x := hx
                rw [last_ap hx]; decide
              | false =>
                have hx : (Q ++ [])[(Q ++ []).length - 1]? = some x := hx
                rw [List.append_nil] at hx
                exact lQ 10 x (by decide) hx) (by omega) (by omega) ho
            refine ⟨z1 + 1, μ2, ρ2, ?_, p2, p3, cF_tr q4 p4 zz, by omega, by omega, ?_⟩
            · rw [f_X5_condition_L7, if_neg e4, if_pos (flt_c H), q1, bndV_s, if_neg (show ¬ bI true = 0 by decide), p1, bndV_s]
            · exact Ty_tr (Ty_d q7 p4 (Nat.le_refl _)) (Ty_1 p5 p6 (by simp [tst, sN]))
        obtain ⟨z2, μ2, ρ2, A1, A2, A3, A4, A5, A6, A7⟩ := stA
        have H2 := A3.1
        have w5 : f_X12_isWord ρ1 5 = if tV c n k1 = nI 10005 then 1 else 0 := isW_r (w := 5) q3.1 (by omega)
        have w4 : f_X12_isWord ρ1 4 = if tV c n k1 = nI 10004 then 1 else 0 := isW_r (w := 4) q3.1 (by omega)
        have lenO : (Q ++ wO orr).length ≤ Q.length + 1 := by
          rw [List.length_append]
          have a1 : (wO orr).length ≤ 1 := by cases orr <;> decide
          omega
        by_cases t5 : tV c n k1 = nI 10005
        · have kk := LR_end hc H2 (by rw [t5]; decide)
          obtain ⟨μ3, ρa, ρ3, b1, b2, b3, b4, b5⟩ := wait_ok (w := 10) hG hn hc A3 kk (by omega)
          have cl : f_X5_condition_j41 G fq (f_X5_condition_L7 G fq gL) (nI o) (bI orr) (nI v4) μ2 = f_X5_condition_L7 G fq gL (nI o) (bI true) (bI orr) (nI (v4 + 1)) μ3 := by
            rw [f_X5_condition_j41, tok_c H2, if_pos (show tV c n k1 = 10005 from t5), f_X5_condition_j56, if_neg (by decide), f_X5_condition_j96, b1, bndV_s, nI_1]
            rfl
          have rf : f_X12_readAny_L9 G (g1 + 1) (nI b) 0 ρ1 = f_X12_readAny_L9 G g1 (nI b) 1 ρ3 := by
            rw [f_X12_readAny_L9, if_pos rfl, w5, if_pos t5, if_neg (by decide), A2, bndV_s, b2, bndV_s, b3, bndV_s]
          rw [A1, cl, q2, rf]
          rcases ih (tK c n - (k1 + 1)) (by omega) (k1 + 1) z2 μ3 ρ3 g1 gL true orr (v4 + 1) (by omega) b4 (by show z2 + (Q ++ wO orr ++ [10]).length ≤ k1 + 1; rw [List.length_append]; show z2 + ((Q ++ wO orr).length + 1) ≤ k1 + 1; omega) (by omega) (by omega) (by omega) with ⟨k', z', μ', ρ', g', f1, f2, f3, f4, f5, f6, f7, f8⟩ | ⟨μ', ρ', f1, f2, f3⟩
          · exact Or.inl ⟨k', z', μ', ρ', g', f1, f2, f3, cF_tr A4 (cF_tr b5 f4 (Nat.le_refl _)) A5, by omega, f6, Ty_tr (Ty_d A7 (cF_tr b5 f4 (Nat.le_refl _)) (Nat.le_refl _)) f7, f8⟩
          · exact Or.inr ⟨μ', ρ', f1, f2, FlC_c (cF_tr A4 b5 A5) f3⟩
        · -- the ors
          have stB : ∃ z3 μ3 ρ3, f_X5_condition_j41 G fq (f_X5_condition_L7 G fq gL) (nI o) (bI orr) (nI v4) μ2 = f_X5_condition_j75 G fq (f_X5_condition_L7 G fq gL) (nI o) 0 (nI v4) μ3 ∧ f_X12_settles G 11 ρ2 = some ρ3 ∧ CQ c n k1 z3 o Q μ3 ρ3 ∧ cF z μ ρ μ3 ρ3 ∧ z ≤ z3 ∧ z3 + Q.length ≤ k1 ∧ Ty ρ3 z z3 (sN an (sN orr S)) (1 :: S) := by
            have cl : f_X5_condition_j41 G fq (f_X5_condition_L7 G fq gL) (nI o) (bI orr) (nI v4) μ2 = f_X5_condition_j56 G fq (f_X5_condition_L7 G fq gL) (nI o) (bI orr) (nI v4) 0 μ2 := by
              rw [f_X5_condition_j41, tok_c H2, if_neg (show ¬ tV c n k1 = 10005 from t5)]
            rw [cl]
            cases orr with
            | false =>
              have A3 : CQ c n k1 z2 o (Q ++ []) μ2 ρ2 := A3
              have A6 : z2 + (Q ++ []).length ≤ k1 := A6
              rw [List.append_nil] at A3 A6
              refine ⟨z2, μ2, ρ2, ?_, settle0 hG A3.2.1 (fun x hx => lQ 11 x (by decide) hx) (by omega), A3, A4, A5, A6, A7⟩
              rw [f_X5_condition_j56, if_pos rfl, if_pos (show bI false = 0 from rfl)]
            | true =>
              have A3 : CQ c n k1 z2 o (Q ++ [11]) μ2 ρ2 := A3
              have A6 : z2 + (Q ++ [11]).length ≤ k1 := A6
              rw [List.length_append] at A6
              have A6 : z2 + (Q.length + 1) ≤ k1 := A6
              obtain ⟨μ3, ρ3, p1, p2, p3, p4, p5, p6⟩ := settle1 (v := 10004) hG A3 (Or.inr (Or.inr (Or.inr (Or.inr (Or.inr (Or.inr (Or.inr (Or.inr (Or.inr (Or.inr (Or.inr ⟨rfl, rfl⟩))))))))))) (by decide) (fun x hx => lQ 11 x (by decide) hx) (by omega) (by omega) ho
              refine ⟨z2 + 1, μ3, ρ3, ?_, p2, p3, cF_tr A4 p4 A5, by omega, by omega, ?_⟩
              · rw [f_X5_condition_j56, if_pos rfl, if_neg (show ¬ bI true = 0 by decide), p1, bndV_s]
              · exact Ty_tr (Ty_d A7 p4 (Nat.le_refl _)) (Ty_1 p5 p6 (by simp [tst, sN]))
          obtain ⟨z3, μ3, ρ3, B1, B2, B3, B4, B5, B6, B7⟩ := stB
          have H3 := B3.1
          by_cases t4 : tV c n k1 = nI 10004
          · have kk := LR_end hc H3 (by rw [t4]; decide)
            obtain ⟨μ4, ρa, ρ4, b1, b2, b3, b4, b5⟩ := wait_ok (w := 11) hG hn hc B3 kk (by omega)
            have cl : f_X5_condition_j75 G fq (f_X5_condition_L7 G fq gL) (nI o) 0 (nI v4) μ3 = f_X5_condition_L7 G fq gL (nI o) (bI false) (bI true) (nI (v4 + 1)) μ4 := by
              rw [f_X5_condition_j75, tok_c H3, if_pos (show tV c n k1 = 10004 from t4), f_X5_condition_j90, if_neg (by decide), f_X5_condition_j96, b1, bndV_s, nI_1]
              rfl
            have rf : f_X12_readAny_L9 G (g1 + 1) (nI b) 0 ρ1 = f_X12_readAny_L9 G g1 (nI b) 1 ρ4 := by
              rw [f_X12_readAny_L9, if_pos rfl, w5, if_neg t5, if_pos rfl, w4, if_pos t4, if_neg (by decide), A2, bndV_s, B2, bndV_s, b2, bndV_s, b3, bndV_s]
            rw [A1, B1, cl, q2, rf]
            rcases ih (tK c n - (k1 + 1)) (by omega) (k1 + 1) z3 μ4 ρ4 g1 gL false true (v4 + 1) (by omega) (by show CQ c n (k1 + 1) z3 o (Q ++ [11] ++ []) μ4 ρ4; rw [List.append_nil]; exact b4) (by show z3 + (Q ++ [11] ++ []).length ≤ k1 + 1; rw [List.append_nil, List.length_append]; show z3 + (Q.length + 1) ≤ k1 + 1; omega) (by omega) (by omega) (by omega) with ⟨k', z', μ', ρ', g', f1, f2, f3, f4, f5, f6, f7, f8⟩ | ⟨μ', ρ', f1, f2, f3⟩
            · exact Or.inl ⟨k', z', μ', ρ', g', f1, f2, f3, cF_tr B4 (cF_tr b5 f4 (Nat.le_refl _)) B5, by omega, f6, Ty_tr (Ty_d B7 (cF_tr b5 f4 (Nat.le_refl _)) (Nat.le_refl _)) f7, f8⟩
            · exact Or.inr ⟨μ', ρ', f1, f2, FlC_c (cF_tr B4 b5 B5) f3⟩
          · refine Or.inl ⟨k1, z3, μ3, ρ3, g1, ?_, ?_, B3, B4, by omega, B6, B7, by omega⟩
            · rw [A1, B1, f_X5_condition_j75, tok_c H3, if_neg (show ¬ tV c n k1 = 10004 from t4), f_X5_condition_j90, if_pos rfl]
            · rw [q2, f_X12_readAny_L9, if_pos rfl, w5, if_neg t5, if_pos rfl, w4, if_neg t4, if_pos rfl, A2, bndV_s, B2, bndV_s]
              rfl
      · rw [f_X5_condition_L7, if_neg e4, if_pos (flt_c H), q1, bndV_s]
        refine Or.inr ?_
        split
        · obtain ⟨μ5, p1, p2⟩ := j41_k (G := G) (fq := fq) (v1 := nI o) (v3 := bI orr) (v4 := nI v4) (g := gL) (by omega) q3.1
          exact ⟨μ5, ρ1, p1, q2, FlC_s q3 p2⟩
        · obtain ⟨μ4, r1, r2⟩ := put_k (G := G) (v := 10005) q3.1
          obtain ⟨μ5, p1, p2⟩ := j41_k (G := G) (fq := fq) (v1 := nI o) (v3 := bI orr) (v4 := nI v4) (g := gL) (by omega) r2.1
          exact ⟨μ5, ρ1, by rw [r1, bndV_s, p1], q2, FlC_s q3 (SkR_tr r2 p2)⟩
  have := main (tK c n) k z μ ρ g G false false 0 (by omega) (by simpa [wO, wA] using h) (by simpa [wO, wA] using hz) hg (by have := h.1.1; omega) (by omega)
  exact this
theorem fcond_ok (hG : 500 ≤ G) (hn : n ≤ 400) (hc : ∀ j, j < n → c j < 256) : ∀ d o, o ≤ 8 → 8 - o < d → CondP G c n (f_cond G d) o
  | 0, o, _, h => absurd h (by omega)
  | d + 1, o, ho, h => cond_ok (fq := fun q m => f_X5_clause G (f_cond G d) q m) hG hn hc ho (clau_ok hG hn hc ho (fun o' h1 h2 => fcond_ok hG hn hc d o' h2 (by omega)))
end
