section
theorem and63 (x : Int32) : ∃ j, j < 64 ∧ x &&& 63 = nI j := by
  refine ⟨(x.toBitVec &&& 63#32).toNat, ?_, ?_⟩
  · rw [BitVec.toNat_and]
    exact Nat.lt_of_le_of_lt Nat.and_le_right (by decide)
  · apply Int32.toBitVec_inj.mp
    show x.toBitVec &&& 63#32 = BitVec.ofNat 32 _
    rw [BitVec.ofNat_toNat, BitVec.setWidth_eq]
theorem goesOn {i L : Nat} (hi : i ≤ 4000) (hL : L ≤ 3072) (h : ¬ nI L - 6 < nI i) : i + 6 ≤ L := by
  rcases Nat.lt_or_ge L 6 with q | q
  · exfalso
    apply h
    have h0 : nI L - 6 < nI 0 := by
      rcases (show L = 0 ∨ L = 1 ∨ L = 2 ∨ L = 3 ∨ L = 4 ∨ L = 5 by omega) with e | e | e | e | e | e <;> subst e <;> decide
    exact Int32.lt_of_lt_of_le h0 (nI_le (Nat.zero_le i) (by omega))
  · rw [show (6 : Int32) = nI 6 from rfl, pk_sub q] at h
    rw [nI_ltI (by omega) (by omega)] at h
    omega
section
variable {p : Program} {l : Launch} {e : Env} {s : State} {m : MethodId} {below : List Frame} {meth : Method} {c : Code} {b L : Nat} {xs : Nat → Int32} {D : va_G} {cI cS : ClassId} {tt : Int64 → Nat}
theorem law_switch {i nc ns j : Nat} {x : Int32} (X : LX p s m meth c b L xs D cI cS tt) (hL : L ≤ 3072) (hi : i + 6 ≤ L) (hcc : nc + 40 ≤ 600000) (hss : ns + 1544 ≤ 7302250) (back : ∀ nc' ns' : Nat, nc' ≤ nc + 40 → ns' ≤ ns + 1544 → AtW p l e s m below meth c b D cI cS i 1669 nc' ns') (hj : j < 64) (hx : x = nI j) {H : Heap} {locs : List Loc} {ls : Array Slot} {bb : Bool} {μ ρ : Mem} {ad1 ad2 : Nat → Nat} (hR : AR bb μ ρ) (hP1 : va_P D vwCl (cz cI cS ad1 (shC bb) μ) H) (hD1 : va_D (LA s) (cz cI cS ad1 (shC bb) μ)) (hP2 : va_P D vwCl (cz cI cS ad2 shR ρ) H) (hD2 : va_D (LA s) (cz cI cS ad2 shR ρ)) (hdj : DJ (cz cI cS ad1 (shC bb) μ) (cz cI cS ad2 shR ρ)) (hS : va_S (LA s) s.heap H locs) (hl : lv_has ls 4 [(0, .ref b), (1, .ref (ad1 0)), (2, .ref (ad2 0)), (3, .int (nI i))]) :
    W p l e room_1 s m #[Value.ref b] below meth c H locs nc ns (lw_Z below #[Value.ref b] s) (F0 m 33 ls [.int x]) := by
  obtain ⟨x1, x2, x3, x4, x5, x6, x7, x8, x9, x10, x11, x12⟩ := id X
  subst hx
  have ti : (nI j).toInt = (j : Int) := nI_toInt (by omega)
  match j, hj, ti with
  | 0, _, ti => exact lv_tableIn (off := 179) (tgt := 212) x1 x2 dL_law_33 (by rw [ti]; decide) (by rw [ti]; decide) (by rw [ti]; rfl) (by decide) (law_c0 X hL hi hcc hss back bb μ ρ ad1 ad2 H locs ls hR hP1 hD1 hP2 hD2 hdj hS hl)
  | 1, _, ti => exact lv_tableIn (off := 202) (tgt := 235) x1 x2 dL_law_33 (by rw [ti]; decide) (by rw [ti]; decide) (by rw [ti]; rfl) (by decide) (law_c1 X hL hi hcc hss back bb μ ρ ad1 ad2 H locs ls hR hP1 hD1 hP2 hD2 hdj hS hl)
  | 2, _, ti => exact lv_tableIn (off := 245) (tgt := 278) x1 x2 dL_law_33 (by rw [ti]; decide) (by rw [ti]; decide) (by rw [ti]; rfl) (by decide) (law_c2 X hL hi hcc hss back bb μ ρ ad1 ad2 H locs ls hR hP1 hD1 hP2 hD2 hdj hS hl)
  | 3, _, ti => exact lv_tableIn (off := 278) (tgt := 311) x1 x2 dL_law_33 (by rw [ti]; decide) (by rw [ti]; decide) (by rw [ti]; rfl) (by decide) (law_c3 X hL hi hcc hss back bb μ ρ ad1 ad2 H locs ls hR hP1 hD1 hP2 hD2 hdj hS hl)
  | 4, _, ti => exact lv_tableIn (off := 321) (tgt := 354) x1 x2 dL_law_33 (by rw [ti]; decide) (by rw [ti]; decide) (by rw [ti]; rfl) (by decide) (law_c4 X hL hi hcc hss back bb μ ρ ad1 ad2 H locs ls hR hP1 hD1 hP2 hD2 hdj hS hl)
  | 5, _, ti => exact lv_tableIn (off := 374) (tgt := 407) x1 x2 dL_law_33 (by rw [ti]; decide) (by rw [ti]; decide) (by rw [ti]; rfl) (by decide) (law_c5 X hL hi hcc hss back bb μ ρ ad1 ad2 H locs ls hR hP1 hD1 hP2 hD2 hdj hS hl)
  | 6, _, ti => exact lv_tableIn (off := 397) (tgt := 430) x1 x2 dL_law_33 (by rw [ti]; decide) (by rw [ti]; decide) (by rw [ti]; rfl) (by decide) (law_c6 X hL hi hcc hss back bb μ ρ ad1 ad2 H locs ls hR hP1 hD1 hP2 hD2 hdj hS hl)
  | 7, _, ti => exact lv_tableIn (off := 446) (tgt := 479) x1 x2 dL_law_33 (by rw [ti]; decide) (by rw [ti]; decide) (by rw [ti]; rfl) (by decide) (law_c7 X hL hi hcc hss back bb μ ρ ad1 ad2 H locs ls hR hP1 hD1 hP2 hD2 hdj hS hl)
  | 8, _, ti => exact lv_tableIn (off := 469) (tgt := 502) x1 x2 dL_law_33 (by rw [ti]; decide) (by rw [ti]; decide) (by rw [ti]; rfl) (by decide) (law_c8 X hL hi hcc hss back bb μ ρ ad1 ad2 H locs ls hR hP1 hD1 hP2 hD2 hdj hS hl)
  | 9, _, ti => exact lv_tableIn (off := 532) (tgt := 565) x1 x2 dL_law_33 (by rw [ti]; decide) (by rw [ti]; decide) (by rw [ti]; rfl) (by decide) (law_c9 X hL hi hcc hss back bb μ ρ ad1 ad2 H locs ls hR hP1 hD1 hP2 hD2 hdj hS hl)
  | 10, _, ti => exact lv_tableIn (off := 555) (tgt := 588) x1 x2 dL_law_33 (by rw [ti]; decide) (by rw [ti]; decide) (by rw [ti]; rfl) (by decide) (law_c10 X hL hi hcc hss back bb μ ρ ad1 ad2 H locs ls hR hP1 hD1 hP2 hD2 hdj hS hl)
  | 11, _, ti => exact lv_tableIn (off := 578) (tgt := 611) x1 x2 dL_law_33 (by rw [ti]; decide) (by rw [ti]; decide) (by rw [ti]; rfl) (by decide) (law_c11 X hL hi hcc hss back bb μ ρ ad1 ad2 H locs ls hR hP1 hD1 hP2 hD2 hdj hS hl)
  | 12, _, ti => exact lv_tableIn (off := 601) (tgt := 634) x1 x2 dL_law_33 (by rw [ti]; decide) (by rw [ti]; decide) (by rw [ti]; rfl) (by decide) (law_c12 X hL hi hcc hss back bb μ ρ ad1 ad2 H locs ls hR hP1 hD1 hP2 hD2 hdj hS hl)
  | 13, _, ti => exact lv_tableIn (off := 634) (tgt := 667) x1 x2 dL_law_33 (by rw [ti]; decide) (by rw [ti]; decide) (by rw [ti]; rfl) (by decide) (law_c13 X hL hi hcc hss back bb μ ρ ad1 ad2 H locs ls hR hP1 hD1 hP2 hD2 hdj hS hl)
  | 14, _, ti => exact lv_tableIn (off := 667) (tgt := 700) x1 x2 dL_law_33 (by rw [ti]; decide) (by rw [ti]; decide) (by rw [ti]; rfl) (by decide) (law_c14 X hL hi hcc hss back bb μ ρ ad1 ad2 H locs ls hR hP1 hD1 hP2 hD2 hdj hS hl)
  | 15, _, ti => exact lv_tableIn (off := 720) (tgt := 753) x1 x2 dL_law_33 (by rw [ti]; decide) (by rw [ti]; decide) (by rw [ti]; rfl) (by decide) (law_c15 X hL hi hcc hss back bb μ ρ ad1 ad2 H locs ls hR hP1 hD1 hP2 hD2 hdj hS hl)
  | 16, _, ti => exact lv_tableIn (off := 799) (tgt := 832) x1 x2 dL_law_33 (by rw [ti]; decide) (by rw [ti]; decide) (by rw [ti]; rfl) (by decide) (law_c16 X hL hi hcc hss back bb μ ρ ad1 ad2 H locs ls hR hP1 hD1 hP2 hD2 hdj hS hl)
  | 17, _, ti => exact lv_tableIn (off := 832) (tgt := 865) x1 x2 dL_law_33 (by rw [ti]; decide) (by rw [ti]; decide) (by rw [ti]; rfl) (by decide) (law_c17 X hL hi hcc hss back bb μ ρ ad1 ad2 H locs ls hR hP1 hD1 hP2 hD2 hdj hS hl)
  | 18, _, ti => exact lv_tableIn (off := 895) (tgt := 928) x1 x2 dL_law_33 (by rw [ti]; decide) (by rw [ti]; decide) (by rw [ti]; rfl) (by decide) (law_c18 X hL hi hcc hss back bb μ ρ ad1 ad2 H locs ls hR hP1 hD1 hP2 hD2 hdj hS hl)
  | 19, _, ti => exact lv_tableIn (off := 928) (tgt := 961) x1 x2 dL_law_33 (by rw [ti]; decide) (by rw [ti]; decide) (by rw [ti]; rfl) (by decide) (law_c19 X hL hi hcc hss back bb μ ρ ad1 ad2 H locs ls hR hP1 hD1 hP2 hD2 hdj hS hl)
  | 20, _, ti => exact lv_tableIn (off := 991) (tgt := 1024) x1 x2 dL_law_33 (by rw [ti]; decide) (by rw [ti]; decide) (by rw [ti]; rfl) (by decide) (law_c20 X hL hi hcc hss back bb μ ρ ad1 ad2 H locs ls hR hP1 hD1 hP2 hD2 hdj hS hl)
  | 21, _, ti => exact lv_tableIn (off := 1024) (tgt := 1057) x1 x2 dL_law_33 (by rw [ti]; decide) (by rw [ti]; decide) (by rw [ti]; rfl) (by decide) (law_c21 X hL hi hcc hss back bb μ ρ ad1 ad2 H locs ls hR hP1 hD1 hP2 hD2 hdj hS hl)
  | 22, _, ti => exact lv_tableIn (off := 1083) (tgt := 1116) x1 x2 dL_law_33 (by rw [ti]; decide) (by rw [ti]; decide) (by rw [ti]; rfl) (by decide) (law_c22 X hL hi hcc hss back bb μ ρ ad1 ad2 H locs ls hR hP1 hD1 hP2 hD2 hdj hS hl)
  | 23, _, ti => exact lv_tableIn (off := 1106) (tgt := 1139) x1 x2 dL_law_33 (by rw [ti]; decide) (by rw [ti]; decide) (by rw [ti]; rfl) (by decide) (law_c23 X hL hi hcc hss back bb μ ρ ad1 ad2 H locs ls hR hP1 hD1 hP2 hD2 hdj hS hl)
  | 24, _, ti => exact lv_tableIn (off := 1149) (tgt := 1182) x1 x2 dL_law_33 (by rw [ti]; decide) (by rw [ti]; decide) (by rw [ti]; rfl) (by decide) (law_c24 X hL hi hcc hss back bb μ ρ ad1 ad2 H locs ls hR hP1 hD1 hP2 hD2 hdj hS hl)
  | 25, _, ti => exact lv_tableIn (off := 1172) (tgt := 1205) x1 x2 dL_law_33 (by rw [ti]; decide) (by rw [ti]; decide) (by rw [ti]; rfl) (by decide) (law_c25 X hL hi hcc hss back bb μ ρ ad1 ad2 H locs ls hR hP1 hD1 hP2 hD2 hdj hS hl)
  | 26, _, ti => exact lv_tableIn (off := 1205) (tgt := 1238) x1 x2 dL_law_33 (by rw [ti]; decide) (by rw [ti]; decide) (by rw [ti]; rfl) (by decide) (law_c26 X hL hi hcc hss back bb μ ρ ad1 ad2 H locs ls hR hP1 hD1 hP2 hD2 hdj hS hl)
  | 27, _, ti => exact lv_tableIn (off := 1238) (tgt := 1271) x1 x2 dL_law_33 (by rw [ti]; decide) (by rw [ti]; decide) (by rw [ti]; rfl) (by decide) (law_c27 X hL hi hcc hss back bb μ ρ ad1 ad2 H locs ls hR hP1 hD1 hP2 hD2 hdj hS hl)
  | 28, _, ti => exact lv_tableIn (off := 1271) (tgt := 1304) x1 x2 dL_law_33 (by rw [ti]; decide) (by rw [ti]; decide) (by rw [ti]; rfl) (by decide) (law_c28 X hL hi hcc hss back bb μ ρ ad1 ad2 H locs ls hR hP1 hD1 hP2 hD2 hdj hS hl)
  | 29, _, ti => exact lv_tableIn (off := 1314) (tgt := 1347) x1 x2 dL_law_33 (by rw [ti]; decide) (by rw [ti]; decide) (by rw [ti]; rfl) (by decide) (law_c29 X hL hi hcc hss back bb μ ρ ad1 ad2 H locs ls hR hP1 hD1 hP2 hD2 hdj hS hl)
  | 30, _, ti => exact lv_tableIn (off := 1347) (tgt := 1380) x1 x2 dL_law_33 (by rw [ti]; decide) (by rw [ti]; decide) (by rw [ti]; rfl) (by decide) (law_c30 X hL hi hcc hss back bb μ ρ ad1 ad2 H locs ls hR hP1 hD1 hP2 hD2 hdj hS hl)
  | 31, _, ti => exact lv_tableIn (off := 1370) (tgt := 1403) x1 x2 dL_law_33 (by rw [ti]; decide) (by rw [ti]; decide) (by rw [ti]; rfl) (by decide) (law_c31 X hL hi hcc hss back bb μ ρ ad1 ad2 H locs ls hR hP1 hD1 hP2 hD2 hdj hS hl)
  | 32, _, ti => exact lv_tableIn (off := 1393) (tgt := 1426) x1 x2 dL_law_33 (by rw [ti]; decide) (by rw [ti]; decide) (by rw [ti]; rfl) (by decide) (law_c32 X hL hi hcc hss back bb μ ρ ad1 ad2 H locs ls hR hP1 hD1 hP2 hD2 hdj hS hl)
  | 33, _, ti => exact lv_tableIn (off := 1426) (tgt := 1459) x1 x2 dL_law_33 (by rw [ti]; decide) (by rw [ti]; decide) (by rw [ti]; rfl) (by decide) (law_c33 X hL hi hcc hss back bb μ ρ ad1 ad2 H locs ls hR hP1 hD1 hP2 hD2 hdj hS hl)
  | 34, _, ti => exact lv_tableIn (off := 1469) (tgt := 1502) x1 x2 dL_law_33 (by rw [ti]; decide) (by rw [ti]; decide) (by rw [ti]; rfl) (by decide) (law_c34 X hL hi hcc hss back bb μ ρ ad1 ad2 H locs ls hR hP1 hD1 hP2 hD2 hdj hS hl)
  | 35, _, ti => exact lv_tableIn (off := 1492) (tgt := 1525) x1 x2 dL_law_33 (by rw [ti]; decide) (by rw [ti]; decide) (by rw [ti]; rfl) (by decide) (law_c35 X hL hi hcc hss back bb μ ρ ad1 ad2 H locs ls hR hP1 hD1 hP2 hD2 hdj hS hl)
  | 36, _, ti => exact lv_tableIn (off := 1515) (tgt := 1548) x1 x2 dL_law_33 (by rw [ti]; decide) (by rw [ti]; decide) (by rw [ti]; rfl) (by decide) (law_c36 X hL hi hcc hss back bb μ ρ ad1 ad2 H locs ls hR hP1 hD1 hP2 hD2 hdj hS hl)
  | 37, _, ti => exact lv_tableIn (off := 1538) (tgt := 1571) x1 x2 dL_law_33 (by rw [ti]; decide) (by rw [ti]; decide) (by rw [ti]; rfl) (by decide) (law_c37 X hL hi hcc hss back bb μ ρ ad1 ad2 H locs ls hR hP1 hD1 hP2 hD2 hdj hS hl)
  | 38, _, ti => exact lv_tableIn (off := 1561) (tgt := 1594) x1 x2 dL_law_33 (by rw [ti]; decide) (by rw [ti]; decide) (by rw [ti]; rfl) (by decide) (law_c38 X hL hi hcc hss back bb μ ρ ad1 ad2 H locs ls hR hP1 hD1 hP2 hD2 hdj hS hl)
  | 39, _, ti => exact lv_tableIn (off := 1574) (tgt := 1607) x1 x2 dL_law_33 (by rw [ti]; decide) (by rw [ti]; decide) (by rw [ti]; rfl) (by decide) (law_c39 X hL hi hcc hss back bb μ ρ ad1 ad2 H locs ls hR hP1 hD1 hP2 hD2 hdj hS hl)
  | 40, _, ti => exact lv_tableIn (off := 1613) (tgt := 1646) x1 x2 dL_law_33 (by rw [ti]; decide) (by rw [ti]; decide) (by rw [ti]; rfl) (by decide) (law_c40 X hL hi hcc hss back bb μ ρ ad1 ad2 H locs ls hR hP1 hD1 hP2 hD2 hdj hS hl)
  | k + 41, hj, ti => exact lv_tableOut (tgt := 1669) x1 x2 dL_law_33 (by rw [ti]; omega) (by decide) (back nc ns (by omega) (by omega) bb μ ρ ad1 ad2 H locs ls hR hP1 hD1 hP2 hD2 hdj hS hl)
theorem ns_a {k ns n M : Nat} (h : ns + k * (n + 1) ≤ M) : ns + k ≤ M := by
  rw [Nat.mul_succ] at h
  have := Nat.le_add_left k (k * n)
  omega
theorem ns_b {k ns ns' n M : Nat} (h : ns + k * (n + 1) ≤ M) (q : ns' ≤ ns + k) : ns' + k * n ≤ M := by
  rw [Nat.mul_succ] at h
  omega
theorem ns_c {k ns n M : Nat} (h : ns + k * n ≤ M) : ns ≤ M := Nat.le_trans (Nat.le_add_right _ _) h
/-- THE LAW'S LOOP -/
theorem law_loop (X : LX p s m meth c b L xs D cI cS tt) (hL : L ≤ 3072) : ∀ (n i nc ns : Nat), i ≤ L + 6 → L + 6 ≤ i + 6 * n → nc + 40 * n ≤ 600000 → ns + 1544 * n ≤ 7302250 → AtW p l e s m below meth c b D cI cS i 18 nc ns := by
  obtain ⟨x1, x2, x3, x4, x5, x6, x7, x8, x9, x10, x11, x12⟩ := id X
  intro n
  induction n with
  | zero =>
    intro i nc ns h1 h2 h3 h4 bb μ ρ ad1 ad2 H locs ls hR hP1 hD1 hP2 hD2 hdj hS hl
    refine lv_iload_n x1 x2 dL_law_18 rfl (lv_at hl 3 rfl) ?_
    refine lv_aload_n x1 x2 dL_law_19 rfl (lv_at hl 0 rfl) ?_
    refine va_slen x1 x2 x7 x8 (Nat.not_le.mpr x8) hS dL_law_20 ?_
    refine lv_bipush (v := 6) x1 x2 dL_law_21 (by decide) ?_
    refine lv_isub x1 x2 dL_law_23 ?_
    refine lv_icmp_gt (tgt := 1675) x1 x2 dL_law_24 (by decide) (fun q => ?_) (fun q => ?_)
    · refine lv_iconst (v := 1) x1 x2 dL_law_1675 (by decide) ?_
      refine va_forget (fun q hq => hS.2.2 q hq) ?_
      refine W.widen (k := 600000) (n := 7302250) (ns_c h3) (ns_c h4) ?_
      exact lw_ret x1 x2 x3 x9 dL_law_1676
    · have := goesOn (L := L) (by omega) hL q
      omega
  | succ n ih =>
    intro i nc ns h1 h2 h3 h4
    have g3 : nc + 40 ≤ 600000 := ns_a h3
    have g4 : ns + 1544 ≤ 7302250 := ns_a h4
    have g5 : ∀ nc' : Nat, nc' ≤ nc + 40 → nc' + 40 * n ≤ 600000 := fun nc' q => ns_b h3 q
    have g6 : ∀ ns' : Nat, ns' ≤ ns + 1544 → ns' + 1544 * n ≤ 7302250 := fun ns' q => ns_b h4 q
    intro bb μ ρ ad1 ad2 H locs ls hR hP1 hD1 hP2 hD2 hdj hS hl
    refine lv_iload_n x1 x2 dL_law_18 rfl (lv_at hl 3 rfl) ?_
    refine lv_aload_n x1 x2 dL_law_19 rfl (lv_at hl 0 rfl) ?_
    refine va_slen x1 x2 x7 x8 (Nat.not_le.mpr x8) hS dL_law_20 ?_
    refine lv_bipush (v := 6) x1 x2 dL_law_21 (by decide) ?_
    refine lv_isub x1 x2 dL_law_23 ?_
    refine lv_icmp_gt (tgt := 1675) x1 x2 dL_law_24 (by decide) (fun q => ?_) (fun q => ?_)
    · refine lv_iconst (v := 1) x1 x2 dL_law_1675 (by decide) ?_
      refine va_forget (fun q hq => hS.2.2 q hq) ?_
      refine W.widen (k := 600000) (n := 7302250) (ns_c h3) (ns_c h4) ?_
      exact lw_ret x1 x2 x3 x9 dL_law_1676
    · have hi : i + 6 ≤ L := goesOn (by omega) hL q
      refine lv_aload_n x1 x2 dL_law_27 rfl (lv_at hl 0 rfl) ?_
      refine lv_iload_n x1 x2 dL_law_28 rfl (lv_at hl 3 rfl) ?_
      refine va_sld x1 x2 x7 x8 (Nat.not_le.mpr x8) hS (vp_in_nI (by omega) (by omega)) dL_law_29 ?_
      refine lv_bipush (v := 63) x1 x2 dL_law_30 (by decide) ?_
      refine lv_iand x1 x2 dL_law_32 ?_
      obtain ⟨j, hj, ex⟩ := and63 (xs (nI i).toNatClampNeg)
      refine law_switch X hL hi g3 g4 ?_ hj ex hR hP1 hD1 hP2 hD2 hdj hS hl
      intro nc' ns' g1 g2 bb μ ρ ad1 ad2 H locs ls hR hP1 hD1 hP2 hD2 hdj hS hl
      refine lv_iinc (v := nI (i + 6)) (lv' := [(3, .int (nI (i + 6))), (0, .ref b), (1, .ref (ad1 0)), (2, .ref (ad2 0))]) x1 x2 dL_law_1669 hl (k := 3) rfl (nI_add i 6) (by decide) rfl (fun ls hl => ?_)
      refine lv_goto (tgt := 18) x1 x2 dL_law_1672 (by decide) ?_
      exact ih (i + 6) nc' ns' (by omega) (by omega) (g5 nc' g1) (g6 ns' g2) bb μ ρ ad1 ad2 H locs ls hR hP1 hD1 hP2 hD2 hdj hS (lv_sub hl [1, 2, 3, 0] rfl)
end
end
