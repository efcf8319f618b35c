section
variable {G n : Nat} {c : Nat → Nat}
theorem flp_c {k z : Nat} {μ ρ : Mem} (h : LR c n k z μ ρ) : μ 41 7 = -1 := h.2.1.2.2.2.2.2
theorem lawRd (hG : 500 ≤ G) (hn : n ≤ 400) (hc : ∀ j, j < n → c j < 256) : ∀ m k z l μ ρ v4 g gl, tK c n - k ≤ m → LR c n k z μ ρ → μ 45 6 = nI l → l ≤ 16 → ρ 0 30 = nI 0 → LnsR l z μ ρ → z ≤ k → v4 ≤ k → m + 1 < g → m < gl →
    (∃ l1 z1 μ' ρ', f_X5_read_L68 G (f_X5_read_j151 G) g (nI 0) (nI v4) μ = some (nI l1, μ') ∧ f_X12_readLaw_L2 G (f_X12_readLaw_j128 G) gl (nI l) ρ = some (nI l1, ρ') ∧ l1 ≤ 16 ∧ z1 ≤ 400 ∧ μ' 45 6 = nI l1 ∧ μ' 45 7 = nI z1 ∧ ρ' 0 29 = nI z1 ∧ LnsR l1 z1 μ' ρ' ∧ (∀ i, i < z1 → CdR (μ' 46 i) (ρ' 17 (800 + i)) (ρ' 18 (800 + i))) ∧ μ' 41 6 = 0 ∧ μ' 41 7 = -1 ∧ TC μ μ' ∧ TR ρ ρ') ∨
      ∃ μ' ρ', f_X5_read_L68 G (f_X5_read_j151 G) g (nI 0) (nI v4) μ = some (-1, μ') ∧ f_X12_readLaw_L2 G (f_X12_readLaw_j128 G) gl (nI l) ρ = some (-1, ρ') ∧ FtR μ' ρ' ∧ TC μ μ' ∧ TR ρ ρ' := by
  have hK := tK_le (c := c) (n := n)
  have fin : ∀ k z l μ ρ v4 g gl, k = tK c n → LR c n k z μ ρ → μ 45 6 = nI l → l ≤ 16 → LnsR l z μ ρ → z ≤ k → v4 ≤ k →
      f_X5_read_L68 G (f_X5_read_j151 G) (g + 1) (nI 0) (nI v4) μ = some (nI l, μ) ∧ f_X12_readLaw_L2 G (f_X12_readLaw_j128 G) (gl + 1) (nI l) ρ = some (nI l, ρ) := by
    intro k z l μ ρ v4 g gl hk h h6 hl hL hz hv
    have te : tV c n k = 30000 := (tV_end hc h.1).mpr hk
    have T := h.2.2.2.1.2.2.1
    have k0 : ρ 0 18 = 0 := (tk_e T).mpr te
    refine ⟨?_, ?_⟩
    · rw [f_X5_read_L68, if_neg (show ¬ (400 : Int32) < nI v4 from nI_nlt (b := v4) (a := 400) (by omega) (by omega)), if_pos (flt_c h), tok_c h, if_pos te, f_X5_read_j151, if_pos (flt_c h), if_pos (show nI 0 = 0 from rfl), h6]
    · have lw : f_X12_isLineWord ρ = 0 := by
        unfold f_X12_isLineWord
        rw [k0, if_neg (by decide)]
      rw [f_X12_readLaw_L2, lw, if_pos rfl, f_X12_readLaw_j128, if_pos k0]
  intro m
  induction m with
  | zero =>
    intro k z l μ ρ v4 g gl hm h h6 hl h30 hL hz hv hg hgl
    obtain ⟨g, rfl⟩ : ∃ y, g = y + 1 := ⟨g - 1, by omega⟩
    obtain ⟨gl, rfl⟩ : ∃ y, gl = y + 1 := ⟨gl - 1, by omega⟩
    have kK := h.1
    obtain ⟨f1, f2⟩ := fin k z l μ ρ v4 g gl (by omega) h h6 hl hL hz hv
    exact Or.inl ⟨l, z, μ, ρ, f1, f2, hl, by omega, h6, h.2.2.1, h.2.2.2.2.1, hL, h.2.2.2.2.2, flt_c h, flp_c h, TC_rfl, TR_rfl⟩
  | succ m ih =>
    intro k z l μ ρ v4 g gl hm h h6 hl h30 hL hz hv hg hgl
    obtain ⟨g, rfl⟩ : ∃ y, g = y + 1 := ⟨g - 1, by omega⟩
    obtain ⟨gl, rfl⟩ : ∃ y, gl = y + 1 := ⟨gl - 1, by omega⟩
    have kK := h.1
    by_cases ke : k = tK c n
    · obtain ⟨f1, f2⟩ := fin k z l μ ρ v4 g gl ke h h6 hl hL hz hv
      exact Or.inl ⟨l, z, μ, ρ, f1, f2, hl, by omega, h6, h.2.2.1, h.2.2.2.2.1, hL, h.2.2.2.2.2, flt_c h, flp_c h, TC_rfl, TR_rfl⟩
    · have kl : k < tK c n := by omega
      have tn : ¬ tV c n k = 30000 := fun q => ke ((tV_end hc h.1).mp q)
      have cl : f_X5_read_L68 G (f_X5_read_j151 G) (g + 1) (nI 0) (nI v4) μ = bndV (f_X5_lawLine G μ) (fun m21 => f_X5_read_j145 G (f_X5_read_L68 G (f_X5_read_j151 G) g) (f_X5_read_j151 G) (nI 0) (nI v4) m21) := by
        rw [f_X5_read_L68, if_neg (show ¬ (400 : Int32) < nI v4 from nI_nlt (b := v4) (a := 400) (by omega) (by omega)), if_pos (flt_c h), tok_c h, if_neg tn, if_pos (show nI 0 = 0 from rfl)]
      rw [cl]
      rcases lawLn (gl := gl) hG hn hc h h6 hl h30 hL hz kl with ⟨k', z', μ', ρ', a1, a2, a3, a4, a5, a6, a7, a8, a9, a10, a11⟩ | ⟨μ', ρ', a1, a2, a3, a4, a5, a6⟩
      · have kK' := a3.1
        rw [a1, bndV_s, f_X5_read_j145, nI_1, a2]
        rcases ih k' z' (l + 1) μ' ρ' (v4 + 1) g gl (by omega) a3 a4 a5 a6 a7 a8 (by omega) (by omega) (by omega) with ⟨l1, z1, μ2, ρ2, b1, b2, b3, b4, b5, b6, b7, b8, b9, b10, b11, b12, b13⟩ | ⟨μ2, ρ2, b1, b2, b3, b4, b5⟩
        · exact Or.inl ⟨l1, z1, μ2, ρ2, b1, b2, b3, b4, b5, b6, b7, b8, b9, b10, b11, TC_tr a10 b12, TR_tr a11 b13⟩
        · exact Or.inr ⟨μ2, ρ2, b1, b2, b3, TC_tr a10 b4, TR_tr a11 b5⟩
      · refine Or.inr ⟨μ', ρ', ?_, a2, a4, a5, a6⟩
        obtain ⟨g, rfl⟩ : ∃ y, g = y + 1 := ⟨g - 1, by omega⟩
        rw [a1, bndV_s, f_X5_read_j145, f_X5_read_L68]
        have j : f_X5_read_j151 G (nI 0) μ' = some (-1, μ') := by rw [f_X5_read_j151, if_neg a3.1]
        rw [if_neg a3.1, j]
        split <;> rfl
end
