section
/-! THE LAW'S CALLS: two worlds apart -/
def DJ (W1 W2 : va_W) : Prop := ∀ (i j : Nat) (p q : Nat × va_E), W1[i]? = some p → W2[j]? = some q → p.1 ≠ q.1
theorem DJ.symm {W1 W2 : va_W} (h : DJ W1 W2) : DJ W2 W1 := fun i j p q h1 h2 e => h j i q p h2 h1 e.symm
abbrev LA (s : State) : Nat → Prop := fun q : Nat => s.heap.size ≤ q
theorem law_kept {D : va_G} {ws w1 W2 : va_W} {H H1 : Heap} (hP2 : va_P D vwCl W2 H) (hdj : DJ ws W2) (hk : ∀ q : Nat, q < H.size → ¬ va_A ws H.size q → H1[q]? = H[q]?) (hD1 : va_D (va_A ws H.size) w1) : va_P D vwCl W2 H1 ∧ DJ w1 W2 := by
  have hn : ∀ (j : Nat) (q : Nat × va_E), W2[j]? = some q → q.1 < H.size ∧ ¬ va_A ws H.size q.1 := fun j q hq => by
    have hlt := (hP2 j q hq).lt
    refine ⟨hlt, ?_⟩
    rintro (⟨k, e, hk⟩ | h)
    · exact hdj k j (q.1, e) q hk hq rfl
    · exact absurd h (Nat.not_le.mpr hlt)
  refine ⟨hP2.kept (fun j q hq => hk q.1 (hn j q hq).1 (hn j q hq).2), fun i j p q h1 h2 e => ?_⟩
  have := hD1.2 i p h1
  rw [e] at this
  exact (hn j q h2).2 this
theorem P_app {D : va_G} {X Y : va_W} {H : Heap} (h : va_P D vwCl (X ++ Y) H) : va_P D vwCl X H ∧ va_P D vwCl Y H :=
  ⟨fun k q hq => h k q (by rw [List.getElem?_append_left (List.getElem?_eq_some_iff.mp hq).1]; exact hq), fun k q hq => h (X.length + k) q (by rw [List.getElem?_append_right (by omega)]; rw [show X.length + k - X.length = k by omega]; exact hq)⟩
theorem D_app {A : Nat → Prop} {X Y : va_W} (h : va_D A (X ++ Y)) : va_D A X ∧ va_D A Y ∧ DJ X Y := by
  have hl : ∀ (k : Nat) (q : Nat × va_E), X[k]? = some q → (X ++ Y)[k]? = some q := fun k q hq => by rw [List.getElem?_append_left (List.getElem?_eq_some_iff.mp hq).1]; exact hq
  have hr : ∀ (k : Nat) (q : Nat × va_E), Y[k]? = some q → (X ++ Y)[X.length + k]? = some q := fun k q hq => by rw [List.getElem?_append_right (by omega)]; rw [show X.length + k - X.length = k by omega]; exact hq
  refine ⟨⟨fun i j p q h1 h2 e => h.1 i j p q (hl i p h1) (hl j q h2) e, fun k q hq => h.2 k q (hl k q hq)⟩, ⟨fun i j p q h1 h2 e => ?_, fun k q hq => h.2 _ q (hr k q hq)⟩, fun i j p q h1 h2 e => ?_⟩
  · have := h.1 _ _ p q (hr i p h1) (hr j q h2) e
    omega
  · have := h.1 _ _ p q (hl i p h1) (hr j q h2) e
    have := (List.getElem?_eq_some_iff.mp h1).1
    omega
section
variable {p : Program} {l : Launch} {e : Env} {s : State} {m : MethodId} {below : List Frame} {meth : Method} {c : Code} {b L : Nat} {xs : Nat → Int32} {D : va_G} {cI cS : ClassId} {tt : Int64 → Nat}
variable {y : MethodName} {cy : ByteArray} {ny : Nat} {ry : Option FieldType} {n idx d mc ms : Nat} {is : List Int32} {post : Option Int32 → List Shp → Mem → Prop} {sh : List Shp} {μ : Mem} {ad : Nat → Nat} {H : Heap} {locs : List Loc} {nc ns : Nat} {W2 : va_W} {pc : Nat} {ls : Array Slot} {stk : List Value}
theorem law_free (hD : va_D (LA s) (cz cI cS ad sh μ)) (hS : va_S (LA s) s.heap H locs) : ∀ q, va_A (cz cI cS ad sh μ) H.size q → LA s q := by
  rintro q (⟨k, x, hk⟩ | hq)
  · exact hD.2 k (q, x) hk
  · exact Nat.le_trans hS.1 hq
theorem law_pu (X : LX p s m meth c b L xs D cI cS tt) (hP : va_P D vwCl (cz cI cS ad sh μ) H) (hD : va_D (LA s) (cz cI cS ad sh μ)) (hS : va_S (LA s) s.heap H locs) {as : List Value} : ∀ U : State, U.heap = H → s.WarmedH U.vm → va_Pc (as.map (vmp ad tt)) (PU D cI cS ad tt sh μ H.size) (as.map (vmp ad tt)).toArray U := by
  intro U hU hW
  obtain ⟨x1, x2, x3, x4, x5, x6, x7, x8, x9, x10, x11, x12⟩ := X
  refine ⟨rfl, by rw [hU], by rw [hU]; exact hP, va_K.moved hW.alike x10, hD.weaken (fun _ _ _ _ => trivial), NW.warm hW x11, ?_⟩
  rw [hU]
  exact ST.narrow (ST.kept (ST.moved hW.alike x12) (fun a g1 g2 => hS.2.1 a g1 g2)) (law_free hD hS)
theorem law_after (hP2 : va_P D vwCl W2 H) (hdj : DJ (cz cI cS ad sh μ) W2) (hD : va_D (LA s) (cz cI cS ad sh μ)) (hS : va_S (LA s) s.heap H locs) {a : Array Value} {st0 : List Value}
    (hr : va_Run p l e room_1 s m #[Value.ref b] below meth c H locs nc ns mc ms (F0 m pc ls st0) stk (QC D cI cS (va_A (cz cI cS ad sh μ) H.size) ad sh.length post a) (va_A (cz cI cS ad sh μ) H.size))
    (kk : ∀ (v : Option Int32) (sh' : List Shp) (μ' : Mem) (ad' : Nat → Nat) (H1 : Heap) (locs1 : List Loc), post v sh' μ' → (∀ i, i < sh.length → ad' i = ad i) → va_P D vwCl (cz cI cS ad' sh' μ') H1 → va_D (LA s) (cz cI cS ad' sh' μ') → va_P D vwCl W2 H1 → DJ (cz cI cS ad' sh' μ') W2 → va_S (LA s) s.heap H1 locs1 → W p l e room_1 s m #[Value.ref b] below meth c H1 locs1 (nc + mc) (ns + ms) (lw_Z below #[Value.ref b] s) (F0 m (pc + 3) ls ((v.map Value.int).toList ++ stk))) :
    W p l e room_1 s m #[Value.ref b] below meth c H locs nc ns (lw_Z below #[Value.ref b] s) (F0 m pc ls st0) := by
  have hF := law_free hD hS
  intro T hT X
  obtain ⟨v0, st₀, t, T', L, g0, X', hL, e1, e2, ⟨⟨v, sh', μ', ad', hv0, hp, hn, had, hP', hD'⟩, hz, hk⟩, st⟩ := hr T hT X
  cases hv0
  rw [g0] at hz hk
  have hS' : va_S (LA s) s.heap T'.heap (locs ++ L) := ⟨Nat.le_trans hS.1 (by rw [e1]; exact hz), fun q g1 g2 => by rw [e1, hk q (Nat.lt_of_lt_of_le g1 hS.1) (fun z => g2 (hF q z))]; exact hS.2.1 q g1 g2, fun q hq => by
      rcases List.mem_append.mp hq with h | h
      · exact hS.2.2 q h
      · exact hF _ (hL q h)⟩
  obtain ⟨f1, f2⟩ := law_kept (H1 := T'.heap) hP2 hdj (fun q a1 a2 => by rw [e1]; exact hk q a1 a2) hD'
  obtain ⟨t2, a1, b1⟩ := kk v sh' μ' ad' T'.heap (locs ++ L) hp (fun i hi => had i (Or.inl hi)) (by rw [e1]; exact hP') (hD'.weaken (fun _ q _ h => hF q.1 h)) f1 f2 hS' T' rfl X'
  exact ⟨t2, st t2 a1, b1⟩
theorem law_callV {ci : Nat} {fs : List (Option (Option Nat))} (X : LX p s m meth c b L xs D cI cS tt) (hP : va_P D vwCl (cz cI cS ad sh μ) H) (hD : va_D (LA s) (cz cI cS ad sh μ)) (hP2 : va_P D vwCl W2 H) (hdj : DJ (cz cI cS ad sh μ) W2) (hS : va_S (LA s) s.heap H locs) (hls : ls.size = 4)
    (hm : MRV RL idx y cy ny ry n) (hc : Cn y cy ny ry d mc ms (.ref 0 :: is.map Value.int) sh μ post) (he : sh[0]? = some (.inr (.inr (ci, fs)))) (hcl : (vwCl[ci]?).map (·.1) = some y.cls) (hdq : decode code pc = .ok (.invokevirtual idx, 3)) (hn : is.length = n) (hstk : (stk.map fun v => v.category).sum ≤ 8) (hd : d ≤ 100) (hcc : nc + mc ≤ 600000) (hss : ns + ms ≤ 7302250)
    (kk : ∀ (v : Option Int32) (sh' : List Shp) (μ' : Mem) (ad' : Nat → Nat) (H1 : Heap) (locs1 : List Loc), post v sh' μ' → (∀ i, i < sh.length → ad' i = ad i) → va_P D vwCl (cz cI cS ad' sh' μ') H1 → va_D (LA s) (cz cI cS ad' sh' μ') → va_P D vwCl W2 H1 → DJ (cz cI cS ad' sh' μ') W2 → va_S (LA s) s.heap H1 locs1 → W p l e room_1 s m #[Value.ref b] below meth c H1 locs1 (nc + mc) (ns + ms) (lw_Z below #[Value.ref b] s) (F0 m (pc + 3) ls ((v.map Value.int).toList ++ stk))) :
    W p l e room_1 s m #[Value.ref b] below meth c H locs nc ns (lw_Z below #[Value.ref b] s) (F0 m pc ls ((is.map Value.int).reverse ++ .ref (ad 0) :: stk)) := by
  obtain ⟨x1, x2, x3, x4, x5, x6, x7, x8, x9, x10, x11, x12⟩ := id X
  obtain ⟨⟨k1, k2, k3, k4⟩, k5, k6, k7⟩ := hm
  obtain ⟨r, hr, hr2⟩ : ∃ r : vw_C, vwCl[ci]? = some r ∧ r.1 = y.cls := by
    cases hh : vwCl[ci]? with
    | none => rw [hh] at hcl; cases hcl
    | some r => rw [hh] at hcl; exact ⟨r, rfl, Option.some.inj hcl⟩
  have has : (is.map Value.int).map (vmp ad tt) = is.map Value.int := by rw [List.map_map]; rfl
  rw [← has]
  refine law_after (a := (Value.ref (ad 0) :: (is.map Value.int).map (vmp ad tt)).toArray) hP2 hdj hD hS ?_ kk
  refine va_runV (As := (is.map Value.int).map (vmp ad tt)) (C := y.cls) (b := ad 0) (nL := 4) (n := n) (Ts := TBL) (bytes := cy) (maxL := ny) (ret := ry) (own := RL) (index := idx) ⟨x1, x2, x4, x5, x6⟩ (hc l D cI cS ad tt H.size) ⟨callB_of n x6 (good_tbl k1) rfl rfl rfl (x6 _ k2) (x6 _ k5) k3 ⟨by show d + 1 ≤ 2048; omega, by show 8 + (ny + 11) + 64 * d ≤ 84000; omega⟩, x6 _ k6, x6 _ k7⟩ ⟨PU_blind, ?_, ?_⟩ rfl (by simpa using hn) hls rfl (lv_room hstk) hdq ⟨hcc, hss⟩
  · rw [← hr2]
    exact va_recv x10 hP hr (cz_get he)
  · exact law_pu X hP hD hS (as := .ref 0 :: is.map Value.int)
theorem law_callI (X : LX p s m meth c b L xs D cI cS tt) (hP : va_P D vwCl (cz cI cS ad sh μ) H) (hD : va_D (LA s) (cz cI cS ad sh μ)) (hP2 : va_P D vwCl W2 H) (hdj : DJ (cz cI cS ad sh μ) W2) (hS : va_S (LA s) s.heap H locs) (hls : ls.size = 4)
    (hm : MRI RL idx y cy ny 0) (hc : Cn y cy ny none d mc ms [.ref 0] sh μ post) (hdq : decode code pc = .ok (.invokespecial idx, 3)) (hstk : (stk.map fun v => v.category).sum ≤ 8) (hd : d ≤ 100) (hcc : nc + mc ≤ 600000) (hss : ns + ms ≤ 7302250)
    (kk : ∀ (v : Option Int32) (sh' : List Shp) (μ' : Mem) (ad' : Nat → Nat) (H1 : Heap) (locs1 : List Loc), post v sh' μ' → (∀ i, i < sh.length → ad' i = ad i) → va_P D vwCl (cz cI cS ad' sh' μ') H1 → va_D (LA s) (cz cI cS ad' sh' μ') → va_P D vwCl W2 H1 → DJ (cz cI cS ad' sh' μ') W2 → va_S (LA s) s.heap H1 locs1 → W p l e room_1 s m #[Value.ref b] below meth c H1 locs1 (nc + mc) (ns + ms) (lw_Z below #[Value.ref b] s) (F0 m (pc + 3) ls ((v.map Value.int).toList ++ stk))) :
    W p l e room_1 s m #[Value.ref b] below meth c H locs nc ns (lw_Z below #[Value.ref b] s) (F0 m pc ls (.ref (ad 0) :: stk)) := by
  obtain ⟨x1, x2, x3, x4, x5, x6, x7, x8, x9, x10, x11, x12⟩ := id X
  obtain ⟨⟨k1, k2, k3, k4⟩, k5, k6, k7⟩ := hm
  refine law_after (a := (Value.ref (ad 0) :: ([] : List Value).map (vmp ad tt)).toArray) hP2 hdj hD hS ?_ kk
  refine va_runI (As := []) (b := ad 0) (nL := 4) (n := 0) (Ts := TBL) (bytes := cy) (maxL := ny) (own := RL) (index := idx) ⟨x1, x2, x4, x5, x6⟩ (hc l D cI cS ad tt H.size) ⟨callB_of 0 x6 (good_tbl k1) rfl rfl rfl (x6 _ k2) (x6 _ k5) k3 ⟨by show d + 1 ≤ 2048; omega, by show 8 + (ny + 11) + 64 * d ≤ 84000; omega⟩, k7, x6 _ k6⟩ ⟨PU_blind, ?_⟩ rfl rfl hls rfl (lv_room hstk) hdq ⟨hcc, hss⟩
  exact law_pu X hP hD hS (as := [.ref 0])
/-- an object of the law's own -/
theorem law_new {ci N : Nat} {fs : List (Option (Option Nat))} (X : LX p s m meth c b L xs D cI cS tt) (hr : CR RL idx ci N fs) (hP2 : va_P D vwCl W2 H) (hD2 : va_D (LA s) W2) (hS : va_S (LA s) s.heap H locs) (hcc : nc + 1 ≤ 600000) (hss : ns + N ≤ 7302250) (hdq : decode code pc = .ok (.new idx, 3))
    (kk : ∀ (q : Nat) (H1 : Heap), va_P D vwCl (cz cI cS (fun _ => q) [.inr (.inr (ci, fs))] (zr (fun _ _ => 0) 0)) H1 → va_D (LA s) (cz cI cS (fun _ => q) [.inr (.inr (ci, fs))] (zr (fun _ _ => 0) 0)) → va_P D vwCl W2 H1 → DJ (cz cI cS (fun _ => q) [.inr (.inr (ci, fs))] (zr (fun _ _ => 0) 0)) W2 → va_S (LA s) s.heap H1 locs → W p l e room_1 s m #[Value.ref b] below meth c H1 locs (nc + 1) (ns + N) (lw_Z below #[Value.ref b] s) (F0 m (pc + 3) ls (.ref q :: stk))) :
    W p l e room_1 s m #[Value.ref b] below meth c H locs nc ns (lw_Z below #[Value.ref b] s) (F0 m pc ls stk) := by
  obtain ⟨x1, x2, x3, x4, x5, x6, x7, x8, x9, x10, x11, x12⟩ := X
  obtain ⟨F, T, tyf, g1, g2, g3, g4, g5, g6, g7, g8, g9⟩ := hr
  refine va_new (ci := ci) (fs := fs.mapIdx (fun k r => fz (fun _ => 0) (fun _ => 0) k r)) (C := F) (T := T) (N := N) x1 x2 x6 g2 tyf g3 x5 (x6 _ g4) (x6 _ g5) (x6 _ g6) x10 hP2 hD2 hS (fun _ h => h) g1 (fun j hj => ?_) hcc hss hdq (fun q H1 hP1 hD1 hS1 => ?_)
  · rw [g7 j hj]
    simp only [vp_V, List.getD_eq_getElem?_getD, List.getElem?_mapIdx]
    have hj2 : j < fs.length := by omega
    have hx : fs[j]? = some fs[j] := by simp [hj2]
    rw [hx]
    rcases g9 fs[j] (List.getElem_mem hj2) with h | h <;> rw [h] <;> rfl
  · have ee : ([(q, .inr (ci, fs.mapIdx (fun k r => fz (fun _ => 0) (fun _ => 0) k r)))] : va_W) = cz cI cS (fun _ => q) [.inr (.inr (ci, fs))] (zr (fun _ _ => 0) 0) := by
      have hz : ∀ (k : Nat) (r : Option (Option Nat)), r ∈ fs → fz (fun _ => 0) (fun _ => 0) k r = fz (fun _ => q) (zr (fun _ _ => 0) 0 0) k r := by
        intro k r hr
        rcases g9 r hr with h | h <;> rw [h]
        · show Value.int 0 = Value.int (zr (fun _ _ => 0) 0 0 k)
          simp [zr]
        · rfl
      have he : fs.mapIdx (fun k r => fz (fun _ => 0) (fun _ => 0) k r) = fs.mapIdx (fun k r => fz (fun _ => q) (zr (fun _ _ => 0) 0 0) k r) := by
        apply List.ext_getElem?
        intro i
        rw [List.getElem?_mapIdx, List.getElem?_mapIdx]
        cases hi : fs[i]? with
        | none => rfl
        | some r => simp only [Option.map_some]; rw [hz i r (List.mem_of_getElem? hi)]
      rw [he]
      rfl
    rw [ee] at hP1 hD1
    obtain ⟨a1, a2⟩ := P_app hP1
    obtain ⟨b1, b2, b3⟩ := D_app hD1
    exact kk q H1 a2 b2 a1 b3.symm hS1
end
end
