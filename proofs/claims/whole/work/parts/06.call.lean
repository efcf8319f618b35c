section
/-! contracts and calls -/
def PU (D : va_G) (cI cS : ClassId) (ad : Nat → Nat) (tt : Int64 → Nat) (sh : List Shp) (μ : Mem) (sz : Nat) (U : State) : Prop :=
  U.heap.size = sz ∧ va_P D vwCl (cz cI cS ad sh μ) U.heap ∧ va_K D vwCl (tysK cI cS) U ∧ va_D (fun _ => True) (cz cI cS ad sh μ) ∧ NW tt U ∧ ST tt (va_A (cz cI cS ad sh μ) sz) U U.heap
def Cn (y : MethodName) (cy : ByteArray) (ny : Nat) (ry : Option FieldType) (d mc ms : Nat) (as : List Value) (sh : List Shp) (μ : Mem) (post : Option Int32 → List Shp → Mem → Prop) : Prop :=
  ∀ (l : Launch) (D : va_G) (cI cS : ClassId) (ad : Nat → Nat) (tt : Int64 → Nat) (sz : Nat),
    Met l y (Cond.code y cy ny ry :: TBL) (rmK d mc ms) (va_Pc (as.map (vmp ad tt)) (PU D cI cS ad tt sh μ sz)) (QC D cI cS (va_A (cz cI cS ad sh μ) sz) ad sh.length post) mc ms (va_A (cz cI cS ad sh μ) sz)
theorem PU_blind {D : va_G} {cI cS : ClassId} {ad : Nat → Nat} {tt : Int64 → Nat} {sh : List Shp} {μ : Mem} {sz : Nat} {as : List Value} : FrameBlind (va_Pc as (PU D cI cS ad tt sh μ sz)) := by
  intro a U g mk q
  obtain ⟨q0, q1, qP, qK, qD, qN, qS⟩ := q
  exact ⟨q0, q1, qP, va_K.moved (u := U) (U := U.calling g mk a) (Vm.Alike.refl U.vm) qK, qD, NW.same (u := U) (U := U.calling g mk a) rfl qN, ST.moved (u := U) (U := U.calling g mk a) (Vm.Alike.refl U.vm) qS⟩
theorem lva_mem {vs : List Value} (hc : ∀ v ∈ vs, v.category = 1) : ∀ {i j : Nat} {v : Value}, vs[j]? = some v → (i + j, v) ∈ lv_args i vs := by
  induction vs with
  | nil => intro i j v h; simp at h
  | cons x t ih =>
    intro i j v h
    have hx := hc x List.mem_cons_self
    simp only [lv_args, hx]
    cases j with
    | zero =>
      have : x = v := by simpa using h
      rw [this]
      exact List.mem_cons_self
    | succ j =>
      refine List.mem_cons_of_mem _ ?_
      have := ih (fun v hv => hc v (List.mem_cons_of_mem _ hv)) (i := i + 1) (j := j) (v := v) (by simpa using h)
      rw [show i + (j + 1) = i + 1 + j by omega]
      simpa using this
theorem lsl_len {vs : List Value} (hc : ∀ v ∈ vs, v.category = 1) : (lg_sl vs).length = vs.length := by
  induction vs with
  | nil => rfl
  | cons x t ih =>
    have hx := hc x List.mem_cons_self
    have := ih (fun v hv => hc v (List.mem_cons_of_mem _ hv))
    simp only [lg_sl, List.flatMap_cons, hx] at this ⊢
    simp [this]
def locOf (as : List Value) (n : Nat) : List (Option Value) := as.map some ++ List.replicate (n - as.length) none
theorem all_cat {ad : Nat → Nat} {tt : Int64 → Nat} {as : List Value} (h : as.all okV = true) : ∀ v ∈ as.map (vmp ad tt), v.category = 1 := by
  intro v hv
  obtain ⟨w, h1, h2⟩ := List.mem_map.mp hv
  rw [← h2]
  exact okV_cat (List.all_eq_true.mp h w h1)
theorem cn_of {y : MethodName} {cy : ByteArray} {ny : Nat} {ry : Option FieldType} {ini : Bool} {d mc ms : Nat} {as : List Value} {sh : List Shp} {μ : Mem} {post : Option Int32 → List Shp → Mem → Prop} {own : String} {loc : List (Option Value)}
    (ho : y.cls = own) (hy : plainName y.cls = true) (hi : ini = true → y.name = "<init>") (hlen : as.length ≤ ny) (hok : as.all okV = true) (hloc : locOf as ny = loc)
    (h : Ev own cy ny ry ini d mc ms post 0 loc [] sh μ 0 0) : Cn y cy ny ry d mc ms as sh μ post := by
  intro l D cI cS ad tt sz
  refine Met.ofW (cc := cy) (maxL := ny) (ret := ry) hy rfl ?_
  intro p e s m args below meth c s₁ B hml hv
  obtain ⟨rfl, hsz, hP, hK, hD0, hN, hST⟩ := hv
  have hts := atoms_spec (ws := Cond.code y cy ny ry :: TBL) B.pre
  have hown : s.vm.findClass own = some m.cls := by rw [← ho]; exact findClass_of_methodNamed B.named
  subst hsz
  have hcat := all_cat (ad := ad) (tt := tt) hok
  have hl := lv_entry (as.map (vmp ad tt)) (n := ny) (by rw [lsl_len hcat]; simpa using hlen)
  rw [lg_entry_eq]
  refine h p l e _ s m _ below meth c D cI cS _ ad sh.length tt ⟨B.exec, B.bytes, B.returns, hml, hown, fun w hw => hts w (List.mem_cons_of_mem _ hw), B.notSynchronized, fun q => ?_, rfl, fun q hq => Or.inr hq, hK, hN, hST⟩ ad s.heap [] _ (Nat.le_refl _) (fun _ _ => rfl) hP (hD0.self) va_S.rf ⟨hl.1, hl.2.1, fun q hq => ?_⟩
  · rw [(name_of_methodNamed B.named B.method).1]
    exact hi q
  · obtain ⟨j, v, h1, h2⟩ := mem_lps.mp hq
    refine hl.2.2 q ?_
    rw [h2]
    rw [← hloc, locOf] at h1
    have hj : j < as.length := by
      rcases Nat.lt_or_ge j as.length with g | g
      · exact g
      · rw [List.getElem?_append_right (by simpa using g)] at h1
        have := List.mem_of_getElem? h1
        have := (List.mem_replicate.mp this).2
        cases this
    rw [List.getElem?_append_left (by simpa using hj), List.getElem?_map] at h1
    have h3 : as[j]? = some v := by
      cases hh : as[j]? with
      | none => rw [hh] at h1; cases h1
      | some x => rw [hh] at h1; simpa using h1
    exact lva_mem hcat (by rw [List.getElem?_map, h3]; rfl)
def MR (y : MethodName) (cy : ByteArray) (ny : Nat) (ry : Option FieldType) (n : Nat) : Prop := Cond.code y cy ny ry ∈ TBL ∧ Cond.initialized y.cls ∈ TBL ∧ (y.cls ≠ "java/lang/invoke/MethodHandle" ∧ y.cls ≠ "java/lang/invoke/VarHandle" ∧ (parseMethodDescriptor y.desc).map (fun d => d.parameters.length) = some n) ∧ ny ≤ 45
def MRV (own : String) (idx : Nat) (y : MethodName) (cy : ByteArray) (ny : Nat) (ry : Option FieldType) (n : Nat) : Prop := MR y cy ny ry n ∧ Cond.methodLink own idx y ∈ TBL ∧ Cond.instanceMethod y ∈ TBL ∧ Cond.selects y.cls y y ∈ TBL
def MRS (own : String) (idx : Nat) (y : MethodName) (cy : ByteArray) (ny : Nat) (ry : Option FieldType) (n : Nat) : Prop := MR y cy ny ry n ∧ Cond.methodLink own idx y ∈ TBL ∧ Cond.static y ∈ TBL
def MRI (own : String) (idx : Nat) (y : MethodName) (cy : ByteArray) (ny : Nat) (n : Nat) : Prop := MR y cy ny none n ∧ Cond.methodLink own idx y ∈ TBL ∧ Cond.instanceMethod y ∈ TBL ∧ y.name = "<init>"
def MRSN (own : String) (idx : Nat) (y : MethodName) (cy : ByteArray) (ny : Nat) (ry : Option FieldType) (n : Nat) : Prop := MR y cy ny ry n ∧ (own, idx, y, RX11) ∈ NST ∧ Cond.static y ∈ TBL
def MRIN (own : String) (idx : Nat) (y : MethodName) (cy : ByteArray) (ny : Nat) (n : Nat) : Prop := MR y cy ny none n ∧ (own, idx, y, RX11) ∈ NST ∧ Cond.instanceMethod y ∈ TBL ∧ y.name = "<init>"
theorem good_tbl {y : MethodName} {cy : ByteArray} {ny : Nat} {ry : Option FieldType} (h : Cond.code y cy ny ry ∈ TBL) : GoodIn TBL (Cond.code y cy ny ry :: TBL) := by
  intro w hw
  have hw2 : w ∈ TBL := by
    rcases List.mem_cons.mp hw with e | e
    · rw [e]; exact h
    · exact e
  exact ⟨hw2, good_of_word (List.mem_filter.mp hw2).2⟩
theorem sum_cat {ad : Nat → Nat} {tt : Int64 → Nat} {stk : List Value} (hk : stk.length ≤ 8) (hok : stk.all okV = true) : ((stk.map (vmp ad tt)).map fun v => v.category).sum ≤ 8 := by
  have : ((stk.map (vmp ad tt)).map fun v => v.category) = List.replicate stk.length 1 := by
    apply List.ext_getElem?
    intro i
    simp only [List.getElem?_map, List.getElem?_replicate]
    cases hi : stk[i]? with
    | none => rw [if_neg (by simpa using hi)]; rfl
    | some v => rw [if_pos (List.getElem?_eq_some_iff.mp hi).1]; simp [okV_cat (List.all_eq_true.mp hok v (List.mem_of_getElem? hi))]
  rw [this]
  simpa using hk
def okR (n : Nat) (loc : List (Option Value)) (stk : List Value) : Prop := (∀ b, some (.ref b) ∈ loc → b < n) ∧ ∀ b, .ref b ∈ stk → b < n
theorem okR_stk {n : Nat} {loc : List (Option Value)} {stk : List Value} (h : okR n loc stk) {ad ad' : Nat → Nat} {tt : Int64 → Nat} (ha : ∀ i, i < n → ad' i = ad i) : stk.map (vmp ad' tt) = stk.map (vmp ad tt) := by
  apply List.map_congr_left
  intro v hv
  cases v with
  | ref b => simp only [vmp]; rw [ha b (h.2 b hv)]
  | _ => rfl
theorem okR_loc {n : Nat} {loc : List (Option Value)} {stk : List Value} (h : okR n loc stk) {ad ad' : Nat → Nat} {tt : Int64 → Nat} (ha : ∀ i, i < n → ad' i = ad i) {ls : Array Slot} {nL : Nat} (hl : lv_has ls nL (lps ad tt 0 loc)) : lv_has ls nL (lps ad' tt 0 loc) := by
  refine ⟨hl.1, hl.2.1, fun q hq => hl.2.2 q ?_⟩
  obtain ⟨j, v, h1, h2⟩ := mem_lps.mp hq
  refine mem_lps.mpr ⟨j, v, h1, ?_⟩
  rw [h2]
  cases v with
  | ref b => simp only [vmp]; rw [ha b (h.1 b (List.mem_of_getElem? h1))]
  | _ => rfl
section
variable {own : String} {cc : ByteArray} {nL : Nat} {ret : Option FieldType} {ini : Bool} {d mc ms : Nat} {post : Option Int32 → List Shp → Mem → Prop} {pc : Nat} {loc : List (Option Value)} {stk : List Value} {sh : List Shp} {μ : Mem} {nc ns : Nat}
/-- behind a call that makes no cell -/
theorem ev_after {p : Program} {l : Launch} {e : Env} {R : Room} {s : State} {m : MethodId} {args : Array Value} {below : List Frame} {meth : Method} {c : Code} {D : va_G} {cI cS : ClassId} {A : Nat → Prop} {ad0 : Nat → Nat} {n0 : Nat} {tt : Int64 → Nat} (C : Cx own cc nL ret ini d mc ms p R s m args meth c D cI cS A tt)
    {ad : Nat → Nat} {H : Heap} {locs : List Loc} {ls : Array Slot} (h1 : n0 ≤ sh.length) (h2 : ∀ i, (i < n0 ∨ sh.length ≤ i) → ad i = ad0 i) (hD : va_D A (cz cI cS ad sh μ)) (hS : va_S A s.heap H locs) (hl : lv_has ls nL (lps ad tt 0 loc))
    {post' : Option Int32 → List Shp → Mem → Prop} {mc' ms' : Nat} {a : Array Value} {st0 : List Value}
    (hv : ∀ v sh' μ', post' v sh' μ' → sh'.length = sh.length ∨ okR sh.length loc stk)
    (hr : va_Run p l e R s m args below meth c H locs nc ns mc' ms' (F0 m pc ls st0) (stk.map (vmp ad tt)) (QC D cI cS (va_A (cz cI cS ad sh μ) H.size) ad sh.length post' a) (va_A (cz cI cS ad sh μ) H.size))
    (kk : ∀ v sh' μ', post' v sh' μ' → Ev own cc nL ret ini d mc ms post (pc + 3) loc ((v.map Value.int).toList ++ stk) sh' μ' (nc + mc') (ns + ms')) :
    W p l e R s m args below meth c H locs nc ns (MQ below (QC D cI cS A ad0 n0 post) args s mc ms A) (F0 m pc ls st0) := by
  have hA := C.2.2.2.2.2.2.2.2.2.1
  have hF : ∀ q, va_A (cz cI cS ad sh μ) H.size q → A q := by
    rintro q (⟨k, x, hk⟩ | hq)
    · exact hD.2 k (q, x) hk
    · exact hA q (Nat.le_trans hS.1 hq)
  intro T hT X
  obtain ⟨v0, st₀, t, T', L, g0, X', hL, e1, e2, ⟨⟨v, sh', μ', ad', hv0, hp, hn, had, hP', hD'⟩, hz, hk⟩, st⟩ := hr T hT X
  cases hv0
  rw [g0] at hz hk
  have had2 : ∀ i, i < sh.length → ad' i = ad i := fun i hi => had i (Or.inl hi)
  have hstk : stk.map (vmp ad' tt) = stk.map (vmp ad tt) := by
    rcases hv v sh' μ' hp with g | g
    · have : ad' = ad := funext fun i => had i (by omega)
      rw [this]
    · exact okR_stk g had2
  have hl' : lv_has ls nL (lps ad' tt 0 loc) := by
    rcases hv v sh' μ' hp with g | g
    · have : ad' = ad := funext fun i => had i (by omega)
      rw [this]
      exact hl
    · exact okR_loc g had2 hl
  have hS' : va_S A s.heap T'.heap (locs ++ L) := ⟨Nat.le_trans hS.1 (by rw [e1]; exact hz), fun q g1 g2 => by rw [e1, hk q (Nat.lt_of_lt_of_le g1 hS.1) (fun z => g2 (hF q z))]; exact hS.2.1 q g1 g2, fun q hq => by
      rcases List.mem_append.mp hq with h | h
      · exact hS.2.2 q h
      · exact hF _ (hL q h)⟩
  obtain ⟨t2, a1, b1⟩ := kk v sh' μ' hp p l e R s m args below meth c D cI cS A ad0 n0 tt C ad' T'.heap (locs ++ L) ls (Nat.le_trans h1 hn) (fun i hi => (had i (by omega)).trans (h2 i (by omega))) (by rw [e1]; exact hP') (hD'.weaken (fun _ q _ h => hF q.1 h)) hS' hl' T' rfl X'
  refine ⟨t2, st t2 ?_, b1⟩
  have hst : ((v.map Value.int).toList ++ stk).map (vmp ad' tt) = (v.map Value.int).toList ++ stk.map (vmp ad tt) := by
    rw [List.map_append, hstk]
    cases v <;> rfl
  rw [hst] at a1
  exact a1
theorem pu_of {p : Program} {R : Room} {s : State} {m : MethodId} {args : Array Value} {meth : Method} {c : Code} {D : va_G} {cI cS : ClassId} {A : Nat → Prop} {tt : Int64 → Nat} (C : Cx own cc nL ret ini d mc ms p R s m args meth c D cI cS A tt)
    {ad : Nat → Nat} {H : Heap} {locs : List Loc} (hP : va_P D vwCl (cz cI cS ad sh μ) H) (hD : va_D A (cz cI cS ad sh μ)) (hS : va_S A s.heap H locs) {as : List Value} : ∀ U : State, U.heap = H → s.WarmedH U.vm → va_Pc (as.map (vmp ad tt)) (PU D cI cS ad tt sh μ H.size) (as.map (vmp ad tt)).toArray U := by
  intro U hU hW
  have hA := C.2.2.2.2.2.2.2.2.2.1
  have hF : ∀ q, va_A (cz cI cS ad sh μ) H.size q → A q := by
    rintro q (⟨k, x, hk⟩ | hq)
    · exact hD.2 k (q, x) hk
    · exact hA q (Nat.le_trans hS.1 hq)
  refine ⟨rfl, by rw [hU], by rw [hU]; exact hP, va_K.moved hW.alike C.2.2.2.2.2.2.2.2.2.2.1, hD.weaken (fun _ _ _ _ => trivial), NW.warm hW C.2.2.2.2.2.2.2.2.2.2.2.1, ?_⟩
  rw [hU]
  exact ST.narrow (ST.kept (ST.moved hW.alike C.2.2.2.2.2.2.2.2.2.2.2.2) (fun a g1 g2 => hS.2.1 a g1 g2)) hF
variable {y : MethodName} {cy : ByteArray} {ny : Nat} {ry : Option FieldType} {n idx d' mc' ms' : Nat} {as : List Value} {post' : Option Int32 → List Shp → Mem → Prop}
theorem ev_callV {b ci : Nat} {fs : List (Option (Option Nat))} (hm : MRV own idx y cy ny ry n) (hc : Cn y cy ny ry d' mc' ms' (.ref b :: as) sh μ post') (he : sh[b]? = some (.inr (.inr (ci, fs)))) (hcl : (vwCl[ci]?).map (·.1) = some y.cls) (hdq : decode cc pc = .ok (.invokevirtual idx, 3)) (hn : as.length = n) (hk : stk.length ≤ 8) (hok : stk.all okV = true) (hdd : d' + 1 ≤ d) (hcc : nc + mc' ≤ mc) (hss : ns + ms' ≤ ms) {st0 : List Value} (hst : as.reverse ++ .ref b :: stk = st0)
    (hv : ∀ v sh' μ', post' v sh' μ' → sh'.length = sh.length ∨ okR sh.length loc stk)
    (kk : ∀ v sh' μ', post' v sh' μ' → Ev own cc nL ret ini d mc ms post (pc + 3) loc ((v.map Value.int).toList ++ stk) sh' μ' (nc + mc') (ns + ms')) : Ev own cc nL ret ini d mc ms post pc loc st0 sh μ nc ns := by
  intro p l e R s m args below meth c D cI cS A ad0 n0 tt C ad H locs ls h1 h2 hP hD hS hl
  subst hst
  have hR : R = rmK d mc ms := C.2.2.2.2.2.2.2.2.1
  obtain ⟨⟨k1, k2, k3, k4⟩, k5, k6, k7⟩ := hm
  have hts := C.2.2.2.2.2.1
  obtain ⟨r, hr, hr2⟩ : ∃ r : vw_C, vwCl[ci]? = some r ∧ r.1 = y.cls := by
    cases hh : vwCl[ci]? with
    | none => rw [hh] at hcl; cases hcl
    | some r => rw [hh] at hcl; exact ⟨r, rfl, Option.some.inj hcl⟩
  refine ev_after (a := (Value.ref (ad b) :: as.map (vmp ad tt)).toArray) C h1 h2 hD hS hl hv ?_ kk
  refine va_runV (As := as.map (vmp ad tt)) (C := y.cls) (b := ad b) (nL := nL) (n := n) (Ts := TBL) (bytes := cy) (maxL := ny) (ret := ry) (own := own) (index := idx) ⟨C.1, C.2.1, C.2.2.2.1, C.2.2.2.2.1, hts⟩ (hc l D cI cS ad tt H.size) ⟨callB_of n hts (good_tbl k1) rfl rfl rfl (hts _ k2) (hts _ k5) k3 ⟨by rw [hR]; exact hdd, by rw [hR]; show 8 + (ny + 11) + 64 * d' ≤ 64 * d; omega⟩, hts _ k6, hts _ k7⟩ ⟨PU_blind, ?_, ?_⟩ rfl (by simpa using hn) hl.1 ?_ (lv_room (sum_cat hk hok)) hdq (by rw [hR]; exact ⟨hcc, hss⟩)
  · rw [← hr2]
    exact va_recv C.2.2.2.2.2.2.2.2.2.2.1 hP hr (cz_get he)
  · exact pu_of C hP hD hS (as := .ref b :: as)
  · simp [vmp]
theorem ev_callS (hm : MRS own idx y cy ny ry n) (hc : Cn y cy ny ry d' mc' ms' as sh μ post') (hdq : decode cc pc = .ok (.invokestatic idx, 3)) (hn : as.length = n) (hk : stk.length ≤ 8) (hok : stk.all okV = true) (hdd : d' + 1 ≤ d) (hcc : nc + mc' ≤ mc) (hss : ns + ms' ≤ ms) {st0 : List Value} (hst : as.reverse ++ stk = st0)
    (hv : ∀ v sh' μ', post' v sh' μ' → sh'.length = sh.length ∨ okR sh.length loc stk)
    (kk : ∀ v sh' μ', post' v sh' μ' → Ev own cc nL ret ini d mc ms post (pc + 3) loc ((v.map Value.int).toList ++ stk) sh' μ' (nc + mc') (ns + ms')) : Ev own cc nL ret ini d mc ms post pc loc st0 sh μ nc ns := by
  intro p l e R s m args below meth c D cI cS A ad0 n0 tt C ad H locs ls h1 h2 hP hD hS hl
  subst hst
  have hR : R = rmK d mc ms := C.2.2.2.2.2.2.2.2.1
  obtain ⟨⟨k1, k2, k3, k4⟩, k5, k6⟩ := hm
  have hts := C.2.2.2.2.2.1
  refine ev_after (a := (as.map (vmp ad tt)).toArray) C h1 h2 hD hS hl hv ?_ kk
  refine va_runS (As := as.map (vmp ad tt)) (nL := nL) (n := n) (Ts := TBL) (bytes := cy) (maxL := ny) (ret := ry) (own := own) (index := idx) ⟨C.1, C.2.1, C.2.2.2.1, C.2.2.2.2.1, hts⟩ (hc l D cI cS ad tt H.size) ⟨callB_of n hts (good_tbl k1) rfl rfl rfl (hts _ k2) (hts _ k5) k3 ⟨by rw [hR]; exact hdd, by rw [hR]; show 8 + (ny + 11) + 64 * d' ≤ 64 * d; omega⟩, hts _ k6⟩ ⟨PU_blind, ?_⟩ rfl (by simpa using hn) hl.1 ?_ (lv_room (sum_cat hk hok)) hdq (by rw [hR]; exact ⟨hcc, hss⟩)
  · exact pu_of C hP hD hS
  · simp
theorem ev_callI {b : Nat} (hm : MRI own idx y cy ny n) (hc : Cn y cy ny none d' mc' ms' (.ref b :: as) sh μ post') (hdq : decode cc pc = .ok (.invokespecial idx, 3)) (hn : as.length = n) (hk : stk.length ≤ 8) (hok : stk.all okV = true) (hdd : d' + 1 ≤ d) (hcc : nc + mc' ≤ mc) (hss : ns + ms' ≤ ms) {st0 : List Value} (hst : as.reverse ++ .ref b :: stk = st0)
    (hv : ∀ v sh' μ', post' v sh' μ' → sh'.length = sh.length ∨ okR sh.length loc stk)
    (kk : ∀ v sh' μ', post' v sh' μ' → Ev own cc nL ret ini d mc ms post (pc + 3) loc ((v.map Value.int).toList ++ stk) sh' μ' (nc + mc') (ns + ms')) : Ev own cc nL ret ini d mc ms post pc loc st0 sh μ nc ns := by
  intro p l e R s m args below meth c D cI cS A ad0 n0 tt C ad H locs ls h1 h2 hP hD hS hl
  subst hst
  have hR : R = rmK d mc ms := C.2.2.2.2.2.2.2.2.1
  obtain ⟨⟨k1, k2, k3, k4⟩, k5, k6, k7⟩ := hm
  have hts := C.2.2.2.2.2.1
  refine ev_after (a := (Value.ref (ad b) :: as.map (vmp ad tt)).toArray) C h1 h2 hD hS hl hv ?_ kk
  refine va_runI (As := as.map (vmp ad tt)) (b := ad b) (nL := nL) (n := n) (Ts := TBL) (bytes := cy) (maxL := ny) (own := own) (index := idx) ⟨C.1, C.2.1, C.2.2.2.1, C.2.2.2.2.1, hts⟩ (hc l D cI cS ad tt H.size) ⟨callB_of n hts (good_tbl k1) rfl rfl rfl (hts _ k2) (hts _ k5) k3 ⟨by rw [hR]; exact hdd, by rw [hR]; show 8 + (ny + 11) + 64 * d' ≤ 64 * d; omega⟩, k7, hts _ k6⟩ ⟨PU_blind, ?_⟩ rfl (by simpa using hn) hl.1 ?_ (lv_room (sum_cat hk hok)) hdq (by rw [hR]; exact ⟨hcc, hss⟩)
  · exact pu_of C hP hD hS (as := .ref b :: as)
  · simp [vmp]
theorem ev_callSN (hm : MRSN own idx y cy ny ry n) (hc : Cn y cy ny ry d' mc' ms' as sh μ post') (hdq : decode cc pc = .ok (.invokestatic idx, 3)) (hn : as.length = n) (hk : stk.length ≤ 8) (hok : stk.all okV = true) (hdd : d' + 1 ≤ d) (hcc : nc + mc' ≤ mc) (hss : ns + ms' ≤ ms) {st0 : List Value} (hst : as.reverse ++ stk = st0)
    (hv : ∀ v sh' μ', post' v sh' μ' → sh'.length = sh.length ∨ okR sh.length loc stk)
    (kk : ∀ v sh' μ', post' v sh' μ' → Ev own cc nL ret ini d mc ms post (pc + 3) loc ((v.map Value.int).toList ++ stk) sh' μ' (nc + mc') (ns + ms')) : Ev own cc nL ret ini d mc ms post pc loc st0 sh μ nc ns := by
  intro p l e R s m args below meth c D cI cS A ad0 n0 tt C ad H locs ls h1 h2 hP hD hS hl
  subst hst
  have hR : R = rmK d mc ms := C.2.2.2.2.2.2.2.2.1
  obtain ⟨⟨k1, k2, k3, k4⟩, k5, k6⟩ := hm
  have hts := C.2.2.2.2.2.1
  have hnw := C.2.2.2.2.2.2.2.2.2.2.2.1
  refine ev_after (a := (as.map (vmp ad tt)).toArray) C h1 h2 hD hS hl hv ?_ kk
  refine va_runSN (As := as.map (vmp ad tt)) (nL := nL) (n := n) (Ts := TBL) (bytes := cy) (maxL := ny) (ret := ry) (own := own) (index := idx) (host := RX11) ⟨C.1, C.2.1, C.2.2.2.1, C.2.2.2.2.1, hts⟩ (hc l D cI cS ad tt H.size) ⟨va_cnB n hts (good_tbl k1) rfl rfl rfl (hnw.1 _ k5) (hts _ k2) k3 ⟨by rw [hR]; exact hdd, by rw [hR]; show 8 + (ny + 11) + 64 * d' ≤ 64 * d; omega⟩, hts _ k6, trivial⟩ ⟨PU_blind, ?_⟩ rfl (by simpa using hn) hl.1 ?_ (lv_room (sum_cat hk hok)) hdq (by rw [hR]; exact ⟨hcc, hss⟩)
  · exact pu_of C hP hD hS
  · simp
theorem ev_callIN {b : Nat} (hm : MRIN own idx y cy ny n) (hc : Cn y cy ny none d' mc' ms' (.ref b :: as) sh μ post') (hdq : decode cc pc = .ok (.invokespecial idx, 3)) (hn : as.length = n) (hk : stk.length ≤ 8) (hok : stk.all okV = true) (hdd : d' + 1 ≤ d) (hcc : nc + mc' ≤ mc) (hss : ns + ms' ≤ ms) {st0 : List Value} (hst : as.reverse ++ .ref b :: stk = st0)
    (hv : ∀ v sh' μ', post' v sh' μ' → sh'.length = sh.length ∨ okR sh.length loc stk)
    (kk : ∀ v sh' μ', post' v sh' μ' → Ev own cc nL ret ini d mc ms post (pc + 3) loc ((v.map Value.int).toList ++ stk) sh' μ' (nc + mc') (ns + ms')) : Ev own cc nL ret ini d mc ms post pc loc st0 sh μ nc ns := by
  intro p l e R s m args below meth c D cI cS A ad0 n0 tt C ad H locs ls h1 h2 hP hD hS hl
  subst hst
  have hR : R = rmK d mc ms := C.2.2.2.2.2.2.2.2.1
  obtain ⟨⟨k1, k2, k3, k4⟩, k5, k6, k7⟩ := hm
  have hts := C.2.2.2.2.2.1
  have hnw := C.2.2.2.2.2.2.2.2.2.2.2.1
  refine ev_after (a := (Value.ref (ad b) :: as.map (vmp ad tt)).toArray) C h1 h2 hD hS hl hv ?_ kk
  refine va_runIN (As := as.map (vmp ad tt)) (b := ad b) (nL := nL) (n := n) (Ts := TBL) (bytes := cy) (maxL := ny) (own := own) (index := idx) (host := RX11) ⟨C.1, C.2.1, C.2.2.2.1, C.2.2.2.2.1, hts⟩ (hc l D cI cS ad tt H.size) ⟨va_cnB n hts (good_tbl k1) rfl rfl rfl (hnw.1 _ k5) (hts _ k2) k3 ⟨by rw [hR]; exact hdd, by rw [hR]; show 8 + (ny + 11) + 64 * d' ≤ 64 * d; omega⟩, k7, hts _ k6⟩ ⟨PU_blind, ?_⟩ rfl (by simpa using hn) hl.1 ?_ (lv_room (sum_cat hk hok)) hdq (by rw [hR]; exact ⟨hcc, hss⟩)
  · exact pu_of C hP hD hS (as := .ref b :: as)
  · simp [vmp]
end
end
