section
/-! THE LAW'S CASES -/
def bz (x : Int32) : Int32 := if x = 0 then 0 else 1
def ArgW (p : Program) (l : Launch) (e : Env) (s : State) (m : MethodId) (below : List Frame) (meth : Method) (c : Code) (b : Nat) (i pc pc' : Nat) (is : List Int32) : Prop :=
  ∀ (H : Heap) (locs : List Loc) (nc ns q1 q2 : Nat) (ls : Array Slot) (st : List Value), va_S (LA s) s.heap H locs → lv_has ls 4 [(0, .ref b), (1, .ref q1), (2, .ref q2), (3, .int (nI i))] → W p l e room_1 s m #[Value.ref b] below meth c H locs nc ns (lw_Z below #[Value.ref b] s) (F0 m pc' ls ((is.map Value.int).reverse ++ st)) → W p l e room_1 s m #[Value.ref b] below meth c H locs nc ns (lw_Z below #[Value.ref b] s) (F0 m pc ls st)
def AtW (p : Program) (l : Launch) (e : Env) (s : State) (m : MethodId) (below : List Frame) (meth : Method) (c : Code) (b : Nat) (D : va_G) (cI cS : ClassId) (i pc nc ns : Nat) : Prop :=
  ∀ (bb : Bool) (μ ρ : Mem) (ad1 ad2 : Nat → Nat) (H : Heap) (locs : List Loc) (ls : Array Slot), AR bb μ ρ → va_P D vwCl (cz cI cS ad1 (shC bb) μ) H → va_D (LA s) (cz cI cS ad1 (shC bb) μ) → va_P D vwCl (cz cI cS ad2 shR ρ) H → va_D (LA s) (cz cI cS ad2 shR ρ) → DJ (cz cI cS ad1 (shC bb) μ) (cz cI cS ad2 shR ρ) → va_S (LA s) s.heap H locs → lv_has ls 4 [(0, .ref b), (1, .ref (ad1 0)), (2, .ref (ad2 0)), (3, .int (nI i))] → W p l e room_1 s m #[Value.ref b] below meth c H locs nc ns (lw_Z below #[Value.ref b] s) (F0 m pc ls [])
section
variable {p : Program} {l : Launch} {e : Env} {s : State} {m : MethodId} {below : List Frame} {meth : Method} {c : Code} {b L : Nat} {xs : Nat → Int32} {D : va_G} {cI cS : ClassId} {tt : Int64 → Nat} {i pc pc' nc ns : Nat} {is : List Int32}
theorem argw_0 : ArgW p l e s m below meth c b i pc pc [] := fun _ _ _ _ _ _ _ _ _ _ h => h
theorem stk_cons {x : Int32} {st : List Value} : ((x :: is).map Value.int).reverse ++ st = (is.map Value.int).reverse ++ (.int x :: st) := by simp
theorem argw_k {k : Nat} {z : Int} (X : LX p s m meth c b L xs D cI cS tt) (hL : L ≤ 3072) (hi : i + 6 ≤ L) (hk : k < 6) (hz : Int32.ofInt z = nI k) (d0 : decode code pc = .ok (.aload_n 0, 1)) (d1 : decode code (pc + 1) = .ok (.iload_n 3, 1)) (d2 : decode code (pc + 2) = .ok (.iconst z, 1)) (d3 : decode code (pc + 3) = .ok (.iadd, 1)) (d4 : decode code (pc + 4) = .ok (.iaload, 1)) (h : ArgW p l e s m below meth c b i (pc + 5) pc' is) : ArgW p l e s m below meth c b i pc pc' (xs (i + k) :: is) := by
  obtain ⟨x1, x2, x3, x4, x5, x6, x7, x8, x9, x10, x11, x12⟩ := X
  intro H locs nc ns q1 q2 ls st hS hl g
  rw [stk_cons] at g
  refine lv_aload_n x1 x2 d0 rfl (lv_at hl 0 rfl) ?_
  refine lv_iload_n x1 x2 d1 rfl (lv_at hl 3 rfl) ?_
  refine lv_iconst (v := nI k) x1 x2 d2 hz ?_
  refine lv_iadd x1 x2 d3 ?_
  rw [nI_add]
  refine va_sld x1 x2 x7 x8 (Nat.not_le.mpr x8) hS (vp_in_nI (by omega) (by omega)) d4 ?_
  rw [nI_clamp (by omega)]
  exact h H locs nc ns q1 q2 ls _ hS hl g
theorem argw_b {k : Nat} {z : Int} (X : LX p s m meth c b L xs D cI cS tt) (hL : L ≤ 3072) (hi : i + 6 ≤ L) (hk : k < 6) (hz : Int32.ofInt z = nI k) (d0 : decode code pc = .ok (.aload_n 0, 1)) (d1 : decode code (pc + 1) = .ok (.iload_n 3, 1)) (d2 : decode code (pc + 2) = .ok (.iconst z, 1)) (d3 : decode code (pc + 3) = .ok (.iadd, 1)) (d4 : decode code (pc + 4) = .ok (.iaload, 1))
    (d5 : decode code (pc + 5) = .ok (.ifCond .eq 7, 3)) (d6 : decode code (pc + 8) = .ok (.iconst 1, 1)) (d7 : decode code (pc + 9) = .ok (.goto 4, 3)) (d8 : decode code (pc + 12) = .ok (.iconst 0, 1)) (h : ArgW p l e s m below meth c b i (pc + 13) pc' is) : ArgW p l e s m below meth c b i pc pc' (bz (xs (i + k)) :: is) := by
  obtain ⟨x1, x2, x3, x4, x5, x6, x7, x8, x9, x10, x11, x12⟩ := X
  intro H locs nc ns q1 q2 ls st hS hl g
  rw [stk_cons] at g
  refine lv_aload_n x1 x2 d0 rfl (lv_at hl 0 rfl) ?_
  refine lv_iload_n x1 x2 d1 rfl (lv_at hl 3 rfl) ?_
  refine lv_iconst (v := nI k) x1 x2 d2 hz ?_
  refine lv_iadd x1 x2 d3 ?_
  rw [nI_add]
  refine va_sld x1 x2 x7 x8 (Nat.not_le.mpr x8) hS (vp_in_nI (by omega) (by omega)) d4 ?_
  rw [nI_clamp (by omega)]
  refine lv_if_eq (tgt := pc + 12) x1 x2 d5 (by omega) (fun q => ?_) (fun q => ?_)
  · refine lv_iconst (v := 0) x1 x2 d8 (by decide) ?_
    have e9 : bz (xs (i + k)) = 0 := by unfold bz; rw [if_pos q]
    rw [e9] at g
    exact h H locs nc ns q1 q2 ls _ hS hl g
  · refine lv_iconst (v := 1) x1 x2 d6 (by decide) ?_
    refine lv_goto (tgt := pc + 13) x1 x2 d7 (by omega) ?_
    have e9 : bz (xs (i + k)) = 1 := by unfold bz; rw [if_neg q]
    rw [e9] at g
    exact h H locs nc ns q1 q2 ls _ hS hl g
theorem vwX11 {y : MethodName} (h : y.cls = RX11) : (vwCl[9]?).map (·.1) = some y.cls := by rw [h]; rfl
theorem vwX12 {y : MethodName} (h : y.cls = RX12) : (vwCl[10]?).map (·.1) = some y.cls := by rw [h]; rfl
theorem shC_pos {bb : Bool} : 0 < (shC bb).length := (List.getElem?_eq_some_iff.mp (shC_0 (bb := bb))).1
theorem shR_pos : 0 < shR.length := (List.getElem?_eq_some_iff.mp shR_0).1
set_option maxHeartbeats 8000000 in
theorem law_case {y1 y2 : MethodName} {cy1 cy2 : ByteArray} {ny1 ny2 n idx1 idx2 pc1 pc2 : Nat} {ry1 ry2 : Option FieldType} {off : Int} (X : LX p s m meth c b L xs D cI cS tt)
    (e0 : decode code pc = .ok (.aload_n 1, 1)) (a1 : ArgW p l e s m below meth c b i (pc + 1) pc1 is) (m1 : MRV RL idx1 y1 cy1 ny1 ry1 n) (e1 : decode code pc1 = .ok (.invokevirtual idx1, 3)) (hn : is.length = n)
    (e2 : decode code (pc1 + 3) = .ok (.aload_n 2, 1)) (a2 : ArgW p l e s m below meth c b i (pc1 + 4) pc2 is) (m2 : MRV RL idx2 y2 cy2 ny2 ry2 n) (e3 : decode code pc2 = .ok (.invokevirtual idx2, 3)) (e4 : decode code (pc2 + 3) = .ok (.if_icmp .eq off, 3)) (ht : ((pc2 + 3 : Nat) : Int) + off = ((1669 : Nat) : Int))
    (h1 : y1.cls = RX11) (h2 : y2.cls = RX12) (hcc : nc + 40 ≤ 600000) (hss : ns + 1544 ≤ 7302250)
    (cc : ∀ (bb : Bool) (μ ρ : Mem), AR bb μ ρ → ∃ (r : Int32) (bb' : Bool) (μ' ρ' : Mem) (mc ms d1 d2 : Nat), mc ≤ 40 ∧ ms ≤ 1544 ∧ d1 ≤ 100 ∧ d2 ≤ 100 ∧ AR bb' μ' ρ' ∧ Cn y1 cy1 ny1 ry1 d1 mc ms (.ref 0 :: is.map Value.int) (shC bb) μ (eqP (some r) (shC bb') μ') ∧ Cn y2 cy2 ny2 ry2 d2 0 0 (.ref 0 :: is.map Value.int) shR ρ (eqP (some r) shR ρ'))
    (back : ∀ nc' ns' : Nat, nc' ≤ nc + 40 → ns' ≤ ns + 1544 → AtW p l e s m below meth c b D cI cS i 1669 nc' ns') : AtW p l e s m below meth c b D cI cS i pc nc ns := by
  intro bb μ ρ ad1 ad2 H locs ls hR hP1 hD1 hP2 hD2 hdj hS hl
  obtain ⟨x1, x2, x3, x4, x5, x6, x7, x8, x9, x10, x11, x12⟩ := id X
  obtain ⟨r, bb', μ', ρ', mc, ms, d1, d2, g1, g2, g3, g4, hR', c1, c2⟩ := cc bb μ ρ hR
  refine lv_aload_n x1 x2 e0 rfl (lv_at hl 1 rfl) ?_
  refine a1 H locs nc ns (ad1 0) (ad2 0) ls _ hS hl ?_
  refine law_callV X hP1 hD1 hP2 hdj hS hl.1 m1 c1 shC_0 (vwX11 h1) e1 hn (Nat.zero_le 8) g3 (by omega) (by omega) (fun v sh' μ2 ad1' H1 locs1 hp had hP1 hD1 hP2 hdj hS => ?_)
  obtain ⟨rfl, rfl, rfl⟩ := hp
  have ha1 := had 0 shC_pos
  rw [← ha1] at hl
  refine lv_aload_n x1 x2 e2 rfl (lv_at hl 2 rfl) ?_
  refine a2 H1 locs1 _ _ (ad1' 0) (ad2 0) ls _ hS hl ?_
  refine law_callV X hP2 hD2 hP1 hdj.symm hS hl.1 m2 c2 shR_0 (vwX12 h2) e3 hn (Nat.le_of_ble_eq_true rfl) g4 (by omega) (by omega) (fun v sh' μ2 ad2' H1 locs1 hp had hP2 hD2 hP1 hdj hS => ?_)
  obtain ⟨rfl, rfl, rfl⟩ := hp
  have ha2 := had 0 shR_pos
  rw [← ha2] at hl
  refine lv_icmp_eq (tgt := 1669) x1 x2 e4 ht (fun _ => ?_) (fun q => absurd rfl q)
  exact back _ _ (by omega) (by omega) bb' _ _ ad1' ad2' H1 locs1 ls hR' hP1 hD1 hP2 hD2 hdj.symm hS hl
end
end
