section
variable {own : String} {cc : ByteArray} {nL : Nat} {ret : Option FieldType} {ini : Bool} {d mc ms : Nat} {post : Option Int32 → List Shp → Mem → Prop} {pc : Nat} {loc : List (Option Value)} {stk : List Value} {sh : List Shp} {μ : Mem} {nc ns : Nat}
def FR (own : String) (idx ci k : Nat) (ty : FieldType) (fin : Bool) : Prop := ∃ (C : String) (T : u_T) (N : Nat) (tyf : Nat → FieldType), vwCl[ci]? = some (C, T, N) ∧ (∀ w ∈ u_ws C T N, w ∈ TBL) ∧ (∀ j, j < N → parseFieldDescriptor (T j).2.2.1 = some (tyf j)) ∧ (∀ a, a < N → ∀ b, b < N → a ≠ b → (T a).2.1 ≠ (T b).2.1) ∧ k < N ∧ Cond.fieldLink own idx C (T k).2.1 (T k).2.2.1 ∈ TBL ∧ (T k).1 = C ∧ parseFieldDescriptor (T k).2.2.1 = some ty ∧ (T k).2.2.2 = fin
theorem ev_getI {idx ci k a : Nat} {ty : FieldType} {fin : Bool} {fs : List (Option (Option Nat))} (hf : FR own idx ci k ty fin) (he : sh[a]? = some (.inr (.inr (ci, fs)))) (hv : fs[k]? = some none) (hdq : decode cc pc = .ok (.getfield idx, 3)) (kk : Ev own cc nL ret ini d mc ms post (pc + 3) loc (.int (μ a k) :: stk) sh μ nc ns) : Ev own cc nL ret ini d mc ms post pc loc (.ref a :: stk) sh μ nc ns := by
  intro p l e R s m args below meth c D cI cS A ad0 n0 tt C ad H locs ls h1 h2 hP hD hS hl
  obtain ⟨F, T, N, tyf, g1, g2, g3, g4, g5, g6, g7, g8, g9⟩ := hf
  exact va_get (C := F) (T := T) (N := N) (ref := F) (index := idx) C.1 C.2.1 C.2.2.2.2.2.1 g2 C.2.2.2.2.1 C.2.2.2.2.2.2.2.2.2.2.1 hP a (cz_get he) g1 k g5 (C.2.2.2.2.2.1 _ g6) (by rw [g7]; exact fun _ h => h) (v := .int (μ a k)) (by simp [List.getElem?_mapIdx, hv, fz]) hdq (kk p l e R s m args below meth c D cI cS A ad0 n0 tt C ad H locs ls h1 h2 hP hD hS hl)
theorem ev_getR {idx ci k a b : Nat} {ty : FieldType} {fin : Bool} {fs : List (Option (Option Nat))} (hf : FR own idx ci k ty fin) (he : sh[a]? = some (.inr (.inr (ci, fs)))) (hv : fs[k]? = some (some (some b))) (hdq : decode cc pc = .ok (.getfield idx, 3)) (kk : Ev own cc nL ret ini d mc ms post (pc + 3) loc (.ref b :: stk) sh μ nc ns) : Ev own cc nL ret ini d mc ms post pc loc (.ref a :: stk) sh μ nc ns := by
  intro p l e R s m args below meth c D cI cS A ad0 n0 tt C ad H locs ls h1 h2 hP hD hS hl
  obtain ⟨F, T, N, tyf, g1, g2, g3, g4, g5, g6, g7, g8, g9⟩ := hf
  exact va_get (C := F) (T := T) (N := N) (ref := F) (index := idx) C.1 C.2.1 C.2.2.2.2.2.1 g2 C.2.2.2.2.1 C.2.2.2.2.2.2.2.2.2.2.1 hP a (cz_get he) g1 k g5 (C.2.2.2.2.2.1 _ g6) (by rw [g7]; exact fun _ h => h) (v := .ref (ad b)) (by simp [List.getElem?_mapIdx, hv, fz]) hdq (kk p l e R s m args below meth c D cI cS A ad0 n0 tt C ad H locs ls h1 h2 hP hD hS hl)
theorem ev_getN {idx ci k a : Nat} {ty : FieldType} {fin : Bool} {fs : List (Option (Option Nat))} (hf : FR own idx ci k ty fin) (he : sh[a]? = some (.inr (.inr (ci, fs)))) (hv : fs[k]? = some (some none)) (hdq : decode cc pc = .ok (.getfield idx, 3)) (kk : Ev own cc nL ret ini d mc ms post (pc + 3) loc (.null :: stk) sh μ nc ns) : Ev own cc nL ret ini d mc ms post pc loc (.ref a :: stk) sh μ nc ns := by
  intro p l e R s m args below meth c D cI cS A ad0 n0 tt C ad H locs ls h1 h2 hP hD hS hl
  obtain ⟨F, T, N, tyf, g1, g2, g3, g4, g5, g6, g7, g8, g9⟩ := hf
  exact va_get (C := F) (T := T) (N := N) (ref := F) (index := idx) C.1 C.2.1 C.2.2.2.2.2.1 g2 C.2.2.2.2.1 C.2.2.2.2.2.2.2.2.2.2.1 hP a (cz_get he) g1 k g5 (C.2.2.2.2.2.1 _ g6) (by rw [g7]; exact fun _ h => h) (v := .null) (by simp [List.getElem?_mapIdx, hv, fz]) hdq (kk p l e R s m args below meth c D cI cS A ad0 n0 tt C ad H locs ls h1 h2 hP hD hS hl)

theorem ev_putI {idx ci k a : Nat} {ty : FieldType} {x : Int32} {fs : List (Option (Option Nat))} (hf : FR own idx ci k ty false) (he : sh[a]? = some (.inr (.inr (ci, fs)))) (hv : fs[k]? = some none) (hn : narrow ty (.int x) = .int x) (hx : fits ty (.int x) = true) (hdq : decode cc pc = .ok (.putfield idx, 3)) (kk : Ev own cc nL ret ini d mc ms post (pc + 3) loc stk sh (wr μ a k x) nc ns) : Ev own cc nL ret ini d mc ms post pc loc (.int x :: .ref a :: stk) sh μ nc ns := by
  intro p l e R s m args below meth c D cI cS A ad0 n0 tt C ad H locs ls h1 h2 hP hD hS hl
  obtain ⟨F, T, N, tyf, g1, g2, g3, g4, g5, g6, g7, g8, g9⟩ := hf
  refine va_put (C := F) (T := T) (N := N) (ref := F) (index := idx) C.1 C.2.1 C.2.2.2.2.2.1 g2 tyf g3 g4 C.2.2.2.2.1 C.2.2.2.2.2.2.2.2.2.2.1 hP hD hS a (cz_get he) g1 k g5 (C.2.2.2.2.2.1 _ g6) (by rw [g7]; exact fun _ h => h) g9 g8 hn hx (by simpa using (List.getElem?_eq_some_iff.mp hv).1) hdq (fun H1 locs1 hP1 hD1 hS1 => ?_)
  have ee := cz_fld (cI := cI) (cS := cS) (ad := ad) (μ := μ) (v := x) he hv
  exact kk p l e R s m args below meth c D cI cS A ad0 n0 tt C ad H1 locs1 ls h1 h2 (Eq.mp (congrArg (fun ws => va_P D vwCl ws H1) ee) hP1) (Eq.mp (congrArg (fun ws => va_D A ws) ee) hD1) hS1 hl
theorem ev_putIF {idx ci k a : Nat} {ty : FieldType} {x : Int32} {fs : List (Option (Option Nat))} (hf : FR own idx ci k ty true) (hi : ini = true) (ho : own = (vwCl[ci]?.map (·.1)).getD "") (he : sh[a]? = some (.inr (.inr (ci, fs)))) (hv : fs[k]? = some none) (hn : narrow ty (.int x) = .int x) (hx : fits ty (.int x) = true) (hdq : decode cc pc = .ok (.putfield idx, 3)) (kk : Ev own cc nL ret ini d mc ms post (pc + 3) loc stk sh (wr μ a k x) nc ns) : Ev own cc nL ret ini d mc ms post pc loc (.int x :: .ref a :: stk) sh μ nc ns := by
  intro p l e R s m args below meth c D cI cS A ad0 n0 tt C ad H locs ls h1 h2 hP hD hS hl
  obtain ⟨F, T, N, tyf, g1, g2, g3, g4, g5, g6, g7, g8, g9⟩ := hf
  refine va_putF (C := F) (T := T) (N := N) (ref := F) (index := idx) C.1 C.2.1 C.2.2.2.2.2.1 g2 tyf g3 g4 C.2.2.2.2.1 C.2.2.2.2.2.2.2.2.2.2.1 hP hD hS a (cz_get he) g1 k g5 (C.2.2.2.2.2.1 _ g6) (by rw [g7]; exact fun _ h => h) g9 (C.2.2.2.2.2.2.2.1 hi) (by rw [g7, ho, g1]; rfl) g8 hn hx (by simpa using (List.getElem?_eq_some_iff.mp hv).1) hdq (fun H1 locs1 hP1 hD1 hS1 => ?_)
  have ee := cz_fld (cI := cI) (cS := cS) (ad := ad) (μ := μ) (v := x) he hv
  exact kk p l e R s m args below meth c D cI cS A ad0 n0 tt C ad H1 locs1 ls h1 h2 (Eq.mp (congrArg (fun ws => va_P D vwCl ws H1) ee) hP1) (Eq.mp (congrArg (fun ws => va_D A ws) ee) hD1) hS1 hl
theorem ev_putR {idx ci k a b : Nat} {ty : FieldType} {r0 : Option Nat} {fs : List (Option (Option Nat))} (hf : FR own idx ci k ty false) (he : sh[a]? = some (.inr (.inr (ci, fs)))) (hv : fs[k]? = some (some r0)) (hn : ∀ x, narrow ty (.ref x) = .ref x) (hx : ∀ x, fits ty (.ref x) = true) (hdq : decode cc pc = .ok (.putfield idx, 3)) {sh' : List Shp} (hs : sh.set a (.inr (.inr (ci, fs.set k (some (some b))))) = sh') (kk : Ev own cc nL ret ini d mc ms post (pc + 3) loc stk sh' μ nc ns) : Ev own cc nL ret ini d mc ms post pc loc (.ref b :: .ref a :: stk) sh μ nc ns := by
  intro p l e R s m args below meth c D cI cS A ad0 n0 tt C ad H locs ls h1 h2 hP hD hS hl
  obtain ⟨F, T, N, tyf, g1, g2, g3, g4, g5, g6, g7, g8, g9⟩ := hf
  subst hs
  refine va_put (C := F) (T := T) (N := N) (ref := F) (index := idx) (v := .ref (ad b)) C.1 C.2.1 C.2.2.2.2.2.1 g2 tyf g3 g4 C.2.2.2.2.1 C.2.2.2.2.2.2.2.2.2.2.1 hP hD hS a (cz_get he) g1 k g5 (C.2.2.2.2.2.1 _ g6) (by rw [g7]; exact fun _ h => h) g9 g8 (hn _) (hx _) (by simpa using (List.getElem?_eq_some_iff.mp hv).1) hdq (fun H1 locs1 hP1 hD1 hS1 => ?_)
  have ee := cz_ref (cI := cI) (cS := cS) (ad := ad) (μ := μ) (r := some b) he hv
  simp only [fz] at ee hP1 hD1
  rw [ee] at hP1 hD1
  exact kk p l e R s m args below meth c D cI cS A ad0 n0 tt C ad H1 locs1 ls (by simpa using h1) (by simpa using h2) hP1 hD1 hS1 hl
theorem ev_putRF {idx ci k a b : Nat} {ty : FieldType} {r0 : Option Nat} {fs : List (Option (Option Nat))} (hf : FR own idx ci k ty true) (hi : ini = true) (ho : own = (vwCl[ci]?.map (·.1)).getD "") (he : sh[a]? = some (.inr (.inr (ci, fs)))) (hv : fs[k]? = some (some r0)) (hn : ∀ x, narrow ty (.ref x) = .ref x) (hx : ∀ x, fits ty (.ref x) = true) (hdq : decode cc pc = .ok (.putfield idx, 3)) {sh' : List Shp} (hs : sh.set a (.inr (.inr (ci, fs.set k (some (some b))))) = sh') (kk : Ev own cc nL ret ini d mc ms post (pc + 3) loc stk sh' μ nc ns) : Ev own cc nL ret ini d mc ms post pc loc (.ref b :: .ref a :: stk) sh μ nc ns := by
  intro p l e R s m args below meth c D cI cS A ad0 n0 tt C ad H locs ls h1 h2 hP hD hS hl
  obtain ⟨F, T, N, tyf, g1, g2, g3, g4, g5, g6, g7, g8, g9⟩ := hf
  subst hs
  refine va_putF (C := F) (T := T) (N := N) (ref := F) (index := idx) (v := .ref (ad b)) C.1 C.2.1 C.2.2.2.2.2.1 g2 tyf g3 g4 C.2.2.2.2.1 C.2.2.2.2.2.2.2.2.2.2.1 hP hD hS a (cz_get he) g1 k g5 (C.2.2.2.2.2.1 _ g6) (by rw [g7]; exact fun _ h => h) g9 (C.2.2.2.2.2.2.2.1 hi) (by rw [g7, ho, g1]; rfl) g8 (hn _) (hx _) (by simpa using (List.getElem?_eq_some_iff.mp hv).1) hdq (fun H1 locs1 hP1 hD1 hS1 => ?_)
  have ee := cz_ref (cI := cI) (cS := cS) (ad := ad) (μ := μ) (r := some b) he hv
  simp only [fz] at ee hP1 hD1
  rw [ee] at hP1 hD1
  exact kk p l e R s m args below meth c D cI cS A ad0 n0 tt C ad H1 locs1 ls (by simpa using h1) (by simpa using h2) hP1 hD1 hS1 hl
theorem ev_putNl {idx ci k a : Nat} {ty : FieldType} {r0 : Option Nat} {fs : List (Option (Option Nat))} (hf : FR own idx ci k ty false) (he : sh[a]? = some (.inr (.inr (ci, fs)))) (hv : fs[k]? = some (some r0)) (hn : narrow ty .null = .null) (hx : fits ty .null = true) (hdq : decode cc pc = .ok (.putfield idx, 3)) {sh' : List Shp} (hs : sh.set a (.inr (.inr (ci, fs.set k (some none)))) = sh') (kk : Ev own cc nL ret ini d mc ms post (pc + 3) loc stk sh' μ nc ns) : Ev own cc nL ret ini d mc ms post pc loc (.null :: .ref a :: stk) sh μ nc ns := by
  intro p l e R s m args below meth c D cI cS A ad0 n0 tt C ad H locs ls h1 h2 hP hD hS hl
  obtain ⟨F, T, N, tyf, g1, g2, g3, g4, g5, g6, g7, g8, g9⟩ := hf
  subst hs
  refine va_put (C := F) (T := T) (N := N) (ref := F) (index := idx) (v := .null) C.1 C.2.1 C.2.2.2.2.2.1 g2 tyf g3 g4 C.2.2.2.2.1 C.2.2.2.2.2.2.2.2.2.2.1 hP hD hS a (cz_get he) g1 k g5 (C.2.2.2.2.2.1 _ g6) (by rw [g7]; exact fun _ h => h) g9 g8 hn hx (by simpa using (List.getElem?_eq_some_iff.mp hv).1) hdq (fun H1 locs1 hP1 hD1 hS1 => ?_)
  have ee := cz_ref (cI := cI) (cS := cS) (ad := ad) (μ := μ) (r := none) he hv
  simp only [fz] at ee hP1 hD1
  rw [ee] at hP1 hD1
  exact kk p l e R s m args below meth c D cI cS A ad0 n0 tt C ad H1 locs1 ls (by simpa using h1) (by simpa using h2) hP1 hD1 hS1 hl
theorem ev_iald {a n : Nat} {i : Int32} (he : sh[a]? = some (.inl n)) (hin : vp_in i n) (hdq : decode cc pc = .ok (.iaload, 1)) (kk : Ev own cc nL ret ini d mc ms post (pc + 1) loc (.int (μ a (ix i)) :: stk) sh μ nc ns) : Ev own cc nL ret ini d mc ms post pc loc (.int i :: .ref a :: stk) sh μ nc ns := by
  intro p l e R s m args below meth c D cI cS A ad0 n0 tt C ad H locs ls h1 h2 hP hD hS hl
  exact va_iald C.1 C.2.1 C.2.2.2.2.2.2.2.2.2.2.1 hP a 0 (cz_get he) rfl hin hdq (kk p l e R s m args below meth c D cI cS A ad0 n0 tt C ad H locs ls h1 h2 hP hD hS hl)
theorem ev_iast {a n : Nat} {i x : Int32} (he : sh[a]? = some (.inl n)) (hin : vp_in i n) (hdq : decode cc pc = .ok (.iastore, 1)) (kk : Ev own cc nL ret ini d mc ms post (pc + 1) loc stk sh (wr μ a (ix i) x) nc ns) : Ev own cc nL ret ini d mc ms post pc loc (.int x :: .int i :: .ref a :: stk) sh μ nc ns := by
  intro p l e R s m args below meth c D cI cS A ad0 n0 tt C ad H locs ls h1 h2 hP hD hS hl
  refine va_iast C.1 C.2.1 C.2.2.2.2.2.2.2.2.2.2.1 hP hD hS a 0 (cz_get he) rfl hin hdq (fun H1 locs1 hP1 hD1 hS1 => ?_)
  rw [cz_arr he] at hP1 hD1
  exact kk p l e R s m args below meth c D cI cS A ad0 n0 tt C ad H1 locs1 ls h1 h2 hP1 hD1 hS1 hl
theorem ev_alen {a n : Nat} {v : Int32} (he : sh[a]? = some (.inl n)) (hv : Int32.ofNat n = v) (hdq : decode cc pc = .ok (.arraylength, 1)) (kk : Ev own cc nL ret ini d mc ms post (pc + 1) loc (.int v :: stk) sh μ nc ns) : Ev own cc nL ret ini d mc ms post pc loc (.ref a :: stk) sh μ nc ns := by
  intro p l e R s m args below meth c D cI cS A ad0 n0 tt C ad H locs ls h1 h2 hP hD hS hl
  exact va_alen C.1 C.2.1 C.2.2.2.2.2.2.2.2.2.2.1 hP a 0 (cz_get he) rfl hv hdq (kk p l e R s m args below meth c D cI cS A ad0 n0 tt C ad H locs ls h1 h2 hP hD hS hl)
theorem ev_aald {a n b : Nat} {i : Int32} {f : Nat → Option Nat} (he : sh[a]? = some (.inr (.inl (n, f)))) (hin : vp_in i n) (hb : f (ix i) = some b) (hdq : decode cc pc = .ok (.aaload, 1)) (kk : Ev own cc nL ret ini d mc ms post (pc + 1) loc (.ref b :: stk) sh μ nc ns) : Ev own cc nL ret ini d mc ms post pc loc (.int i :: .ref a :: stk) sh μ nc ns := by
  intro p l e R s m args below meth c D cI cS A ad0 n0 tt C ad H locs ls h1 h2 hP hD hS hl
  refine va_aldq C.1 C.2.1 C.2.2.2.2.2.2.2.2.2.2.1 hP a 1 (cz_get he) rfl hin hdq ?_
  have ee : va_rf (((f (ix i))).map ad) = vmp ad tt (.ref b) := by rw [hb]; rfl
  rw [ee]
  exact kk p l e R s m args below meth c D cI cS A ad0 n0 tt C ad H locs ls h1 h2 hP hD hS hl
theorem ev_aast {a n b ci : Nat} {i : Int32} {f : Nat → Option Nat} {fs : List (Option (Option Nat))} (he : sh[a]? = some (.inr (.inl (n, f)))) (hin : vp_in i n) (hb : sh[b]? = some (.inr (.inr (ci, fs)))) (hci : ci = 7) (hdq : decode cc pc = .ok (.aastore, 1)) {sh' : List Shp} (hs : sh.set a (.inr (.inl (n, va_up f (ix i) (some b)))) = sh') (kk : Ev own cc nL ret ini d mc ms post (pc + 1) loc stk sh' μ nc ns) : Ev own cc nL ret ini d mc ms post pc loc (.ref b :: .int i :: .ref a :: stk) sh μ nc ns := by
  intro p l e R s m args below meth c D cI cS A ad0 n0 tt C ad H locs ls h1 h2 hP hD hS hl
  subst hs
  subst hci
  refine va_astq C.1 C.2.1 C.2.2.2.2.2.2.2.2.2.2.1 hP hD hS a 1 b 7 (r := (RX8, TX8, 9)) (cz_get he) rfl (cz_get hb) rfl hin hdq (fun H1 locs1 hP1 hD1 hS1 => ?_)
  have ee := cz_set (cI := cI) (cS := cS) (ad := ad) (sh := sh) (μ := μ) (μ' := μ) (c := .inr (.inl (n, va_up f (ix i) (some b)))) (List.getElem?_eq_some_iff.mp he).1 (fun _ _ => rfl)
  have e2 : (fun k => (va_up f (ix i) (some b) k).map ad) = va_up (fun k => (f k).map ad) (ix i) (some (ad b)) := by
    funext k
    simp only [va_up]
    split <;> rfl
  simp only [cE, e2] at ee
  rw [ee] at hP1 hD1
  exact kk p l e R s m args below meth c D cI cS A ad0 n0 tt C ad H1 locs1 ls (by simpa using h1) (by simpa using h2) hP1 hD1 hS1 hl
theorem ev_iret {ty : FieldType} {v : Int32} (hr : ret = some ty) (hn : narrow ty (.int v) = .int v) (hc : nc ≤ mc) (hs : ns ≤ ms) (hdq : decode cc pc = .ok (.ireturn, 1)) (hp : post (some v) sh μ) : Ev own cc nL ret ini d mc ms post pc loc [.int v] sh μ nc ns := by
  intro p l e R s m args below meth c D cI cS A ad0 n0 tt C ad H locs ls h1 h2 hP hD hS hl
  refine W.widen hc hs ?_
  exact W.zret C.1 C.2.1 (C.2.2.1.trans hr) hn (fun t ht hW => ⟨⟨some v, sh, μ, ad, rfl, hp, h1, h2, by rw [ht]; exact hP, hD⟩, hS.F ht⟩) hS.2.2 hdq C.2.2.2.2.2.2.1
theorem ev_vret (hr : ret = none) (hc : nc ≤ mc) (hs : ns ≤ ms) (hdq : decode cc pc = .ok (.return_, 1)) (hp : post none sh μ) : Ev own cc nL ret ini d mc ms post pc loc [] sh μ nc ns := by
  intro p l e R s m args below meth c D cI cS A ad0 n0 tt C ad H locs ls h1 h2 hP hD hS hl
  refine W.widen hc hs ?_
  exact W.vret C.1 C.2.1 (C.2.2.1.trans hr) (fun t ht hW => ⟨⟨none, sh, μ, ad, rfl, hp, h1, h2, by rw [ht]; exact hP, hD⟩, hS.F ht⟩) hS.2.2 hdq C.2.2.2.2.2.2.1
/-- locals: fewer may be known -/
def leL (a b : List (Option Value)) : Prop := ∀ (i : Nat) (v : Value), a[i]? = some (some v) → b[i]? = some (some v)
theorem ev_less {loc' : List (Option Value)} (h : leL loc' loc) (kk : Ev own cc nL ret ini d mc ms post pc loc' stk sh μ nc ns) : Ev own cc nL ret ini d mc ms post pc loc stk sh μ nc ns := by
  intro p l e R s m args below meth c D cI cS A ad0 n0 tt C ad H locs ls h1 h2 hP hD hS hl
  refine kk p l e R s m args below meth c D cI cS A ad0 n0 tt C ad H locs ls h1 h2 hP hD hS ⟨hl.1, hl.2.1, fun q hq => ?_⟩
  obtain ⟨j, v, g1, g2⟩ := mem_lps.mp hq
  exact hl.2.2 q (mem_lps.mpr ⟨j, v, h j v g1, g2⟩)
theorem ev_objInit {idx a : Nat} (hm : Cond.methodLink own idx objectInit ∈ TBL) (hi : Cond.instanceMethod objectInit ∈ TBL) (hco : Cond.code objectInit ⟨#[0xb1]⟩ 1 none ∈ TBL) (hdq : decode cc pc = .ok (.invokespecial idx, 3)) (hk : stk.length ≤ 8) (hok : stk.all okV = true) (hdd : 1 ≤ d) (kk : Ev own cc nL ret ini d mc ms post (pc + 3) loc stk sh μ nc ns) : Ev own cc nL ret ini d mc ms post pc loc (.ref a :: stk) sh μ nc ns := by
  intro p l e R s m args below meth c D cI cS A ad0 n0 tt C ad H locs ls h1 h2 hP hD hS hl
  have hsum : ((stk.map (vmp ad tt)).map fun v => v.category).sum ≤ 8 := by
    have : ((stk.map (vmp ad tt)).map fun v => v.category) = List.replicate stk.length 1 := by
      apply List.ext_getElem?
      intro i
      simp only [List.getElem?_map, List.getElem?_replicate]
      cases hi : stk[i]? with
      | none => rw [if_neg (by simpa using hi)]; rfl
      | some v => rw [if_pos (List.getElem?_eq_some_iff.mp hi).1]; simp [okV_cat (List.all_eq_true.mp hok v (List.mem_of_getElem? hi))]
    rw [this]
    simpa using hk
  have hR : R = rmK d mc ms := C.2.2.2.2.2.2.2.2.1
  refine W.objInit C.1 C.2.1 C.2.2.2.2.1 (C.2.2.2.2.2.1 _ hm) (C.2.2.2.2.2.1 _ hi) (C.2.2.2.2.2.1 _ hco) rfl (by rw [C.2.2.2.1]; exact hl.1) rfl hdq (by rw [hR]; exact hdd) (by rw [hR]; show 2 * 0 + _ + 12 ≤ 64 * d; omega) ?_
  exact kk p l e R s m args below meth c D cI cS A ad0 n0 tt C ad H locs ls h1 h2 hP hD hS hl
end
