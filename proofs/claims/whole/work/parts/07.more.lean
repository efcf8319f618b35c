section
/-! what makes cells; statics; the JDK's Math, arraycopy -/
variable {own : String} {cc : ByteArray} {nL : Nat} {ret : Option FieldType} {ini : Bool} {d mc ms : Nat} {post : Option Int32 → List Shp → Mem → Prop} {pc : Nat} {loc : List (Option Value)} {stk : List Value} {sh : List Shp} {μ : Mem} {nc ns : Nat}
def zr (μ : Mem) (a : Nat) : Mem := fun a' k => if a' = a then 0 else μ a' k
def wfC (n : Nat) : Shp → Prop
  | .inl _ => True
  | .inr (.inl q) => ∀ k b, q.2 k = some b → b < n
  | .inr (.inr q) => ∀ b, some (some b) ∈ q.2 → b < n
def wfS (sh : List Shp) : Prop := ∀ c ∈ sh, wfC sh.length c
theorem cE_ad {cI cS : ClassId} {ad ad' : Nat → Nat} {row : Nat → Int32} {c : Shp} {n : Nat} (hw : wfC n c) (ha : ∀ i, i < n → ad' i = ad i) : cE cI cS ad' row c = cE cI cS ad row c := by
  match c, hw with
  | .inl k, _ => rfl
  | .inr (.inl q), hw =>
    simp only [cE]
    congr 7
    funext k
    cases hq : q.2 k with
    | none => rfl
    | some b => simp [ha b (hw k b hq)]
  | .inr (.inr q), hw =>
    simp only [cE]
    congr 2
    apply List.ext_getElem?
    intro i
    simp only [List.getElem?_mapIdx]
    cases hq : q.2[i]? with
    | none => rfl
    | some r => cases r with
      | none => rfl
      | some r => cases r with
        | none => rfl
        | some b => simp [fz, ha b (hw b (List.mem_of_getElem? hq))]
theorem cz_push {cI cS : ClassId} {ad : Nat → Nat} {q : Nat} {c : Shp} (hw : wfS sh) (hc : wfC sh.length c) : cz cI cS ad sh μ ++ [(q, cE cI cS ad (fun _ => 0) c)] = cz cI cS (fun i => if i = sh.length then q else ad i) (sh ++ [c]) (zr μ sh.length) := by
  have ha : ∀ i, i < sh.length → (fun i => if i = sh.length then q else ad i) i = ad i := fun i hi => by simp [Nat.ne_of_lt hi]
  apply List.ext_getElem?
  intro i
  rw [cz_at]
  rcases Nat.lt_or_ge i sh.length with g | g
  · rw [List.getElem?_append_left (by rw [cz_len]; exact g), List.getElem?_append_left g, cz_at]
    cases hi : sh[i]? with
    | none => rfl
    | some x =>
      have e1 : zr μ sh.length i = μ i := by funext k; simp [zr, Nat.ne_of_lt g]
      have e2 := cE_ad (cI := cI) (cS := cS) (row := μ i) (hw x (List.mem_of_getElem? hi)) ha
      simp only [Option.map_some, e1, e2]
      simp [Nat.ne_of_lt g]
  · rw [List.getElem?_append_right (by rw [cz_len]; exact g), List.getElem?_append_right g, cz_len]
    rcases Nat.eq_or_lt_of_le g with e | e
    · subst e
      have e1 : zr μ sh.length sh.length = fun _ => 0 := by funext k; simp [zr]
      have e2 := cE_ad (cI := cI) (cS := cS) (row := fun _ => 0) hc ha
      simp [e1, e2]
    · have : ∃ k, i - sh.length = k + 1 := ⟨i - sh.length - 1, by omega⟩
      obtain ⟨k, hk⟩ := this
      rw [hk]
      rfl
theorem ad_fresh {ad ad0 : Nat → Nat} {n0 q : Nat} {c : Shp} (h1 : n0 ≤ sh.length) (h2 : ∀ i, (i < n0 ∨ sh.length ≤ i) → ad i = ad0 i) : ∀ i, (i < n0 ∨ (sh ++ [c]).length ≤ i) → (fun i => if i = sh.length then q else ad i) i = ad0 i := by
  intro i hi
  simp only [List.length_append, List.length_cons, List.length_nil] at hi
  have : ¬ i = sh.length := by omega
  simp only [this, if_false]
  exact h2 i (by omega)
theorem ev_newa {n : Int32} {N : Nat} (hac : Cond.arrayClass .int ∈ TBL) (hw : wfS sh) (hv : okR sh.length loc stk) (hn : ¬ n < 0) (hN : ix n = N) (hb : N ≤ 100000) (hc : nc + 1 ≤ mc) (hs : ns + N ≤ ms) (hdq : decode cc pc = .ok (.newarray .int, 2))
    (kk : Ev own cc nL ret ini d mc ms post (pc + 2) loc (.ref sh.length :: stk) (sh ++ [.inl N]) (zr μ sh.length) (nc + 1) (ns + N)) : Ev own cc nL ret ini d mc ms post pc loc (.int n :: stk) sh μ nc ns := by
  intro p l e R s m args below meth c D cI cS A ad0 n0 tt C ad H locs ls h1 h2 hP hD hS hl
  have hR : R = rmK d mc ms := C.2.2.2.2.2.2.2.2.1
  have hK := C.2.2.2.2.2.2.2.2.2.2.1
  refine va_newa (atype := .int) (ty := .int) (a0 := (N, .inl (fun _ => 0))) (N' := N) C.1 C.2.1 (C.2.2.2.2.2.1 _ hac) rfl hK hP hD hS C.2.2.2.2.2.2.2.2.2.1 (fun cA => rfl) hn hN (by show N * 4 ≤ 536870912; omega) (by rw [hR]; exact hc) (by rw [hR]; exact hs) hdq (fun q cA H1 hK1 hP1 hD1 hS1 => ?_)
  have hcA : cA = cI := by
    have g1 : s.vm.findClass _ = some cA := (hK1.2 2 (cA, .int) rfl).2
    have g2 : s.vm.findClass _ = some cI := (hK1.2 0 (cI, .int) rfl).2
    exact Option.some.inj (g1.symm.trans g2)
  subst hcA
  have ee := cz_push (cI := cA) (cS := cS) (ad := ad) (μ := μ) (q := q) (c := .inl N) hw trivial
  have ha : ∀ i, i < sh.length → (fun i => if i = sh.length then q else ad i) i = ad i := fun i hi => by simp [Nat.ne_of_lt hi]
  have h3 := kk p l e R s m args below meth c D cA cS A ad0 n0 tt C (fun i => if i = sh.length then q else ad i) H1 locs ls (by simp; omega) (ad_fresh h1 h2) (Eq.mp (congrArg (fun ws => va_P D vwCl ws H1) ee) hP1) (Eq.mp (congrArg (fun ws => va_D A ws) ee) hD1) hS1 (okR_loc hv ha hl)
  simp only [List.map_cons, vmp, if_true, okR_stk hv ha] at h3
  exact h3
theorem ev_newq {n : Int32} {N idx : Nat} (hcl : Cond.classLink own idx RX8 ∈ TBL) (hw : wfS sh) (hv : okR sh.length loc stk) (hn : ¬ n < 0) (hN : ix n = N) (hb : N ≤ 100000) (hc : nc + 1 ≤ mc) (hs : ns + N ≤ ms) (hdq : decode cc pc = .ok (.anewarray idx, 3))
    (kk : Ev own cc nL ret ini d mc ms post (pc + 3) loc (.ref sh.length :: stk) (sh ++ [.inr (.inl (N, fun _ => none))]) (zr μ sh.length) (nc + 1) (ns + N)) : Ev own cc nL ret ini d mc ms post pc loc (.int n :: stk) sh μ nc ns := by
  intro p l e R s m args below meth c D cI cS A ad0 n0 tt C ad H locs ls h1 h2 hP hD hS hl
  have hR : R = rmK d mc ms := C.2.2.2.2.2.2.2.2.1
  have hK := C.2.2.2.2.2.2.2.2.2.2.1
  refine va_newq (N' := N) C.1 C.2.1 C.2.2.2.2.1 (C.2.2.2.2.2.1 _ hcl) C.2.2.2.2.2.2.2.2.2.2.2.1.2.1 hK hP hD hS C.2.2.2.2.2.2.2.2.2.1 hn hN (by omega) (by rw [hR]; exact hc) (by rw [hR]; exact hs) hdq (fun q cA H1 hK1 hP1 hD1 hS1 => ?_)
  have hcA : cA = cS := by
    obtain ⟨_, _, _, _, _, g1⟩ := (hK1.2 2 (cA, .object RX8) rfl).2
    obtain ⟨_, _, _, _, _, g2⟩ := (hK1.2 1 (cS, .object RX8) rfl).2
    exact Option.some.inj (g1.symm.trans g2)
  subst hcA
  have ee := cz_push (cI := cI) (cS := cA) (ad := ad) (μ := μ) (q := q) (c := .inr (.inl (N, fun _ => none))) hw (fun k b h => by cases h)
  have ha : ∀ i, i < sh.length → (fun i => if i = sh.length then q else ad i) i = ad i := fun i hi => by simp [Nat.ne_of_lt hi]
  have h3 := kk p l e R s m args below meth c D cI cA A ad0 n0 tt C (fun i => if i = sh.length then q else ad i) H1 locs ls (by simp; omega) (ad_fresh h1 h2) (Eq.mp (congrArg (fun ws => va_P D vwCl ws H1) ee) hP1) (Eq.mp (congrArg (fun ws => va_D A ws) ee) hD1) hS1 (okR_loc hv ha hl)
  simp only [List.map_cons, vmp, if_true, okR_stk hv ha] at h3
  exact h3
def dfl (ad : Nat → Nat) (fs : List (Option (Option Nat))) : List Value := fs.mapIdx (fun k r => fz ad (fun _ => 0) k r)
def CR (own : String) (idx ci : Nat) (N : Nat) (fs : List (Option (Option Nat))) : Prop := ∃ (C : String) (T : u_T) (tyf : Nat → FieldType), vwCl[ci]? = some (C, T, N) ∧ (∀ w ∈ u_ws C T N, w ∈ TBL) ∧ (∀ j, j < N → parseFieldDescriptor (T j).2.2.1 = some (tyf j)) ∧ Cond.classLink own idx C ∈ TBL ∧ Cond.instantiable C N ∈ TBL ∧ Cond.initialized C ∈ TBL ∧ (∀ j, j < N → defaultValue (tyf j) = (match fs[j]? with | some none => .int 0 | _ => .null)) ∧ fs.length = N ∧ ∀ x ∈ fs, x = none ∨ x = some none
theorem ev_new {idx ci N : Nat} {fs : List (Option (Option Nat))} (hr : CR own idx ci N fs) (hw : wfS sh) (hv : okR sh.length loc stk) (hc : nc + 1 ≤ mc) (hs : ns + N ≤ ms) (hdq : decode cc pc = .ok (.new idx, 3))
    (kk : Ev own cc nL ret ini d mc ms post (pc + 3) loc (.ref sh.length :: stk) (sh ++ [.inr (.inr (ci, fs))]) (zr μ sh.length) (nc + 1) (ns + N)) : Ev own cc nL ret ini d mc ms post pc loc stk sh μ nc ns := by
  intro p l e R s m args below meth c D cI cS A ad0 n0 tt C ad H locs ls h1 h2 hP hD hS hl
  have hR : R = rmK d mc ms := C.2.2.2.2.2.2.2.2.1
  have hK := C.2.2.2.2.2.2.2.2.2.2.1
  obtain ⟨F, T, tyf, g1, g2, g3, g4, g5, g6, g7, g8, g9⟩ := hr
  have hnr : ∀ b, some (some b) ∈ fs → b < sh.length := fun b hb => by
    rcases g9 _ hb with h | h
    · cases h
    · cases h
  refine va_new (ci := ci) (fs := fs.mapIdx (fun k r => fz ad (fun _ => 0) k r)) (C := F) (T := T) (N := N) C.1 C.2.1 C.2.2.2.2.2.1 g2 tyf g3 C.2.2.2.2.1 (C.2.2.2.2.2.1 _ g4) (C.2.2.2.2.2.1 _ g5) (C.2.2.2.2.2.1 _ g6) hK hP hD hS C.2.2.2.2.2.2.2.2.2.1 g1 (fun j hj => ?_) (by rw [hR]; exact hc) (by rw [hR]; exact hs) hdq (fun q H1 hP1 hD1 hS1 => ?_)
  · rw [g7 j hj]
    simp only [vp_V, List.getD_eq_getElem?_getD, List.getElem?_mapIdx]
    have hj2 : j < fs.length := by omega
    have hx : fs[j]? = some fs[j] := by simp [hj2]
    rw [hx]
    rcases g9 fs[j] (List.getElem_mem hj2) with h | h <;> rw [h] <;> rfl
  · have ee := cz_push (cI := cI) (cS := cS) (ad := ad) (μ := μ) (q := q) (c := .inr (.inr (ci, fs))) hw hnr
    have ha : ∀ i, i < sh.length → (fun i => if i = sh.length then q else ad i) i = ad i := fun i hi => by simp [Nat.ne_of_lt hi]
    have h3 := kk p l e R s m args below meth c D cI cS A ad0 n0 tt C (fun i => if i = sh.length then q else ad i) H1 locs ls (by simp; omega) (ad_fresh h1 h2) (Eq.mp (congrArg (fun ws => va_P D vwCl ws H1) ee) hP1) (Eq.mp (congrArg (fun ws => va_D A ws) ee) hD1) hS1 (okR_loc hv ha hl)
    simp only [List.map_cons, vmp, if_true, okR_stk hv ha] at h3
    exact h3
/-! statics -/
theorem ev_getsF {idx : Nat} (ho : own = RX6) (hf : Cond.fieldLink own idx RX6 "FACTORIALS" "[I" ∈ TBL) (hdq : decode cc pc = .ok (.getstatic idx, 3)) (kk : Ev own cc nL ret ini d mc ms post (pc + 3) loc (.long 0 :: stk) sh μ nc ns) : Ev own cc nL ret ini d mc ms post pc loc stk sh μ nc ns := by
  intro p l e R s m args below meth c D cI cS A ad0 n0 tt C ad H locs ls h1 h2 hP hD hS hl
  exact va_gets C.1 C.2.1 C.2.2.2.2.2.2.2.2.2.2.2.2.1.1 hS C.2.2.2.2.1 (C.2.2.2.2.2.1 _ hf) (fun _ h => h) hdq (kk p l e R s m args below meth c D cI cS A ad0 n0 tt C ad H locs ls h1 h2 hP hD hS hl)
theorem ev_getsO {idx : Nat} (ho : own = RX6) (hf : Cond.fieldLink own idx RX6 "ORDERS" "[I" ∈ TBL) (hdq : decode cc pc = .ok (.getstatic idx, 3)) (kk : Ev own cc nL ret ini d mc ms post (pc + 3) loc (.long 1 :: stk) sh μ nc ns) : Ev own cc nL ret ini d mc ms post pc loc stk sh μ nc ns := by
  intro p l e R s m args below meth c D cI cS A ad0 n0 tt C ad H locs ls h1 h2 hP hD hS hl
  exact va_gets C.1 C.2.1 C.2.2.2.2.2.2.2.2.2.2.2.2.2.1.1 hS C.2.2.2.2.1 (C.2.2.2.2.2.1 _ hf) (fun _ h => h) hdq (kk p l e R s m args below meth c D cI cS A ad0 n0 tt C ad H locs ls h1 h2 hP hD hS hl)
theorem ev_ialdF {i : Int32} (hin : vp_in i 8) (hdq : decode cc pc = .ok (.iaload, 1)) (kk : Ev own cc nL ret ini d mc ms post (pc + 1) loc (.int (facT (ix i)) :: stk) sh μ nc ns) : Ev own cc nL ret ini d mc ms post pc loc (.int i :: .long 0 :: stk) sh μ nc ns := by
  intro p l e R s m args below meth c D cI cS A ad0 n0 tt C ad H locs ls h1 h2 hP hD hS hl
  exact va_ti C.1 C.2.1 C.2.2.2.2.2.2.2.2.2.2.2.2.1.2 hS hin rfl hdq (kk p l e R s m args below meth c D cI cS A ad0 n0 tt C ad H locs ls h1 h2 hP hD hS hl)
theorem ev_ialdO {i : Int32} (hin : vp_in i 6) (hdq : decode cc pc = .ok (.iaload, 1)) (kk : Ev own cc nL ret ini d mc ms post (pc + 1) loc (.int (ordT (ix i)) :: stk) sh μ nc ns) : Ev own cc nL ret ini d mc ms post pc loc (.int i :: .long 1 :: stk) sh μ nc ns := by
  intro p l e R s m args below meth c D cI cS A ad0 n0 tt C ad H locs ls h1 h2 hP hD hS hl
  exact va_ti C.1 C.2.1 C.2.2.2.2.2.2.2.2.2.2.2.2.2.1.2 hS hin rfl hdq (kk p l e R s m args below meth c D cI cS A ad0 n0 tt C ad H locs ls h1 h2 hP hD hS hl)
theorem ev_alenO (hdq : decode cc pc = .ok (.arraylength, 1)) (kk : Ev own cc nL ret ini d mc ms post (pc + 1) loc (.int 6 :: stk) sh μ nc ns) : Ev own cc nL ret ini d mc ms post pc loc (.long 1 :: stk) sh μ nc ns := by
  intro p l e R s m args below meth c D cI cS A ad0 n0 tt C ad H locs ls h1 h2 hP hD hS hl
  exact va_tlen C.1 C.2.1 C.2.2.2.2.2.2.2.2.2.2.2.2.2.1.2 hS rfl hdq (kk p l e R s m args below meth c D cI cS A ad0 n0 tt C ad H locs ls h1 h2 hP hD hS hl)
/-! Math, arraycopy -/
def imax (x y : Int32) : Int32 := if x < y then y else x
def imin (x y : Int32) : Int32 := if y < x then y else x
def iabs (x : Int32) : Int32 := if 0 ≤ x then x else 0 - x
def MMax (own : String) (idx : Nat) : Prop := Cond.methodLink own idx Lib.Math.max.name ∈ TBL ∧ Cond.static Lib.Math.max.name ∈ TBL ∧ Cond.initialized "java/lang/Math" ∈ TBL ∧ Cond.code Lib.Math.max.name Lib.Math.max.code 2 (some .int) ∈ TBL
def MMin (own : String) (idx : Nat) : Prop := Cond.methodLink own idx Lib.Math.min.name ∈ TBL ∧ Cond.static Lib.Math.min.name ∈ TBL ∧ Cond.initialized "java/lang/Math" ∈ TBL ∧ Cond.code Lib.Math.min.name Lib.Math.min.code 2 (some .int) ∈ TBL
def MAbs (own : String) (idx : Nat) : Prop := Cond.methodLink own idx Lib.Math.abs.name ∈ TBL ∧ Cond.static Lib.Math.abs.name ∈ TBL ∧ Cond.initialized "java/lang/Math" ∈ TBL ∧ Cond.code Lib.Math.abs.name Lib.Math.abs.code 1 (some .int) ∈ TBL
theorem ev_max {x y : Int32} {idx : Nat} (hm : MMax own idx) (hdq : decode cc pc = .ok (.invokestatic idx, 3)) (hk : stk.length ≤ 8) (hok : stk.all okV = true) (hdd : 1 ≤ d) (hc : nc ≤ mc) (hs : ns ≤ ms) (kk : Ev own cc nL ret ini d mc ms post (pc + 3) loc (.int (imax x y) :: stk) sh μ nc ns) : Ev own cc nL ret ini d mc ms post pc loc (.int y :: .int x :: stk) sh μ nc ns := by
  intro p l e R s m args below meth c D cI cS A ad0 n0 tt C ad H locs ls h1 h2 hP hD hS hl
  have hR : R = rmK d mc ms := C.2.2.2.2.2.2.2.2.1
  have hts := C.2.2.2.2.2.1
  have := sum_cat (ad := ad) (tt := tt) hk hok
  exact va_mmax C.1 C.2.1 (C.2.2.2.1.trans hl.1.symm) C.2.2.2.2.1 (hts _ hm.1) (hts _ hm.2.1) (hts _ hm.2.2.1) (hts _ hm.2.2.2) (by rw [hR]; exact hdd) (by rw [hR]; show _ ≤ 64 * d; omega) (by rw [hR]; exact hc) (by rw [hR]; exact hs) hdq (kk p l e R s m args below meth c D cI cS A ad0 n0 tt C ad H locs ls h1 h2 hP hD hS hl)
theorem ev_min {x y : Int32} {idx : Nat} (hm : MMin own idx) (hdq : decode cc pc = .ok (.invokestatic idx, 3)) (hk : stk.length ≤ 8) (hok : stk.all okV = true) (hdd : 1 ≤ d) (hc : nc ≤ mc) (hs : ns ≤ ms) (kk : Ev own cc nL ret ini d mc ms post (pc + 3) loc (.int (imin x y) :: stk) sh μ nc ns) : Ev own cc nL ret ini d mc ms post pc loc (.int y :: .int x :: stk) sh μ nc ns := by
  intro p l e R s m args below meth c D cI cS A ad0 n0 tt C ad H locs ls h1 h2 hP hD hS hl
  have hR : R = rmK d mc ms := C.2.2.2.2.2.2.2.2.1
  have hts := C.2.2.2.2.2.1
  have := sum_cat (ad := ad) (tt := tt) hk hok
  exact va_mmin C.1 C.2.1 (C.2.2.2.1.trans hl.1.symm) C.2.2.2.2.1 (hts _ hm.1) (hts _ hm.2.1) (hts _ hm.2.2.1) (hts _ hm.2.2.2) (by rw [hR]; exact hdd) (by rw [hR]; show _ ≤ 64 * d; omega) (by rw [hR]; exact hc) (by rw [hR]; exact hs) hdq (kk p l e R s m args below meth c D cI cS A ad0 n0 tt C ad H locs ls h1 h2 hP hD hS hl)
theorem ev_abs {x : Int32} {idx : Nat} (hm : MAbs own idx) (hdq : decode cc pc = .ok (.invokestatic idx, 3)) (hk : stk.length ≤ 8) (hok : stk.all okV = true) (hdd : 1 ≤ d) (hc : nc ≤ mc) (hs : ns ≤ ms) (kk : Ev own cc nL ret ini d mc ms post (pc + 3) loc (.int (iabs x) :: stk) sh μ nc ns) : Ev own cc nL ret ini d mc ms post pc loc (.int x :: stk) sh μ nc ns := by
  intro p l e R s m args below meth c D cI cS A ad0 n0 tt C ad H locs ls h1 h2 hP hD hS hl
  have hR : R = rmK d mc ms := C.2.2.2.2.2.2.2.2.1
  have hts := C.2.2.2.2.2.1
  have := sum_cat (ad := ad) (tt := tt) hk hok
  exact va_mabs C.1 C.2.1 (C.2.2.2.1.trans hl.1.symm) C.2.2.2.2.1 (hts _ hm.1) (hts _ hm.2.1) (hts _ hm.2.2.1) (hts _ hm.2.2.2) (by rw [hR]; exact hdd) (by rw [hR]; show _ ≤ 64 * d; omega) (by rw [hR]; exact hc) (by rw [hR]; exact hs) hdq (kk p l e R s m args below meth c D cI cS A ad0 n0 tt C ad H locs ls h1 h2 hP hD hS hl)
def cpy (μ : Mem) (a b sp dp n : Nat) : Mem := fun c k => if c = b then va_cpy (μ a) (μ b) sp dp n k else μ c k
def MCpy (own : String) (idx : Nat) : Prop := Cond.methodLink own idx arraycopyName ∈ TBL ∧ Cond.native arraycopyName ∈ TBL ∧ Cond.static arraycopyName ∈ TBL ∧ Cond.initialized "java/lang/System" ∈ TBL
theorem ev_cpy {a b na nb idx : Nat} {sp dp n : Int32} (hm : MCpy own idx) (ha : sh[a]? = some (.inl na)) (hb : sh[b]? = some (.inl nb)) (g1 : ¬ sp < 0) (g2 : ¬ dp < 0) (g3 : ¬ n < 0) (g4 : ix sp + ix n ≤ na) (g5 : ix dp + ix n ≤ nb) (hdq : decode cc pc = .ok (.invokestatic idx, 3)) (hk : stk.length ≤ 8) (hok : stk.all okV = true) (hdd : 1 ≤ d)
    (kk : Ev own cc nL ret ini d mc ms post (pc + 3) loc stk sh (cpy μ a b (ix sp) (ix dp) (ix n)) nc ns) : Ev own cc nL ret ini d mc ms post pc loc (.int n :: .int dp :: .ref b :: .int sp :: .ref a :: stk) sh μ nc ns := by
  intro p l e R s m args below meth c D cI cS A ad0 n0 tt C ad H locs ls h1 h2 hP hD hS hl
  have hR : R = rmK d mc ms := C.2.2.2.2.2.2.2.2.1
  have hts := C.2.2.2.2.2.1
  have hK := C.2.2.2.2.2.2.2.2.2.2.1
  have hsum := sum_cat (ad := ad) (tt := tt) hk hok
  refine va_copyi (ty := .int) C.1 C.2.1 (C.2.2.2.1.trans hl.1.symm) C.2.2.2.2.1 (hts _ hm.1) (hts _ hm.2.1) (hts _ hm.2.2.1) (hts _ hm.2.2.2) hK hP hD hS a b 0 0 (cz_get ha) (cz_get hb) rfl rfl rfl g1 g2 g3 g4 g5 (fun _ _ => rfl) (by rw [hR]; exact hdd) ?_ hdq (fun H1 locs1 hP1 hD1 hS1 => ?_)
  · rw [hR]
    have : nativeFrameWords "java/lang/System" "arraycopy" 5 + 11 ≤ 56 := by decide +kernel
    show _ ≤ 64 * d
    omega
  · have ee := cz_set (cI := cI) (cS := cS) (ad := ad) (sh := sh) (μ := μ) (μ' := cpy μ a b (ix sp) (ix dp) (ix n)) (c := .inl nb) (List.getElem?_eq_some_iff.mp hb).1 (fun c hc => by funext k; simp [cpy, hc])
    rw [set_same hb] at ee
    have e2 : cpy μ a b (ix sp) (ix dp) (ix n) b = va_cpy (μ a) (μ b) (ix sp) (ix dp) (ix n) := by funext k; simp [cpy]
    simp only [cE, e2] at ee
    exact kk p l e R s m args below meth c D cI cS A ad0 n0 tt C ad H1 locs1 ls h1 h2 (Eq.mp (congrArg (fun ws => va_P D vwCl ws H1) ee) hP1) (Eq.mp (congrArg (fun ws => va_D A ws) ee) hD1) hS1 hl
end
