section
/-! constructors: the shape is what stood before (pre) and what is made behind it (L) -/
variable {own : String} {cc : ByteArray} {nL : Nat} {ret : Option FieldType} {ini : Bool} {d mc ms : Nat} {post : Option Int32 → List Shp → Mem → Prop} {pc : Nat} {loc : List (Option Value)} {stk : List Value} {μ μr : Mem} {nc ns : Nat} {pre L L' : List Shp}
def okRl (n : Nat) : List (Option Value) → Prop
  | [] => True
  | some (.ref b) :: t => Nat.lt b n ∧ okRl n t
  | _ :: t => okRl n t
def okRs (n : Nat) : List Value → Prop
  | [] => True
  | .ref b :: t => Nat.lt b n ∧ okRs n t
  | _ :: t => okRs n t
theorem okR_of {n : Nat} {loc : List (Option Value)} {stk : List Value} (h1 : okRl n loc) (h2 : okRs n stk) : okR n loc stk := by
  constructor
  · induction loc with
    | nil => intro b hb; cases hb
    | cons x t ih =>
      intro b hb
      rcases List.mem_cons.mp hb with e | e
      · subst e
        exact h1.1
      · refine ih ?_ b e
        match x, h1 with
        | none, h1 => exact h1
        | some v, h1 =>
          cases v with
          | ref c => exact h1.2
          | _ => exact h1
  · induction stk with
    | nil => intro b hb; cases hb
    | cons x t ih =>
      intro b hb
      rcases List.mem_cons.mp hb with e | e
      · subst e
        exact h2.1
      · refine ih ?_ b e
        cases x with
        | ref c => exact h2.2
        | _ => exact h2
theorem tlg {a k : Nat} {c : Shp} (ha : pre.length = a) (h : L[k]? = some c) : (pre ++ L)[a + k]? = some c := by
  subst ha
  rw [List.getElem?_append_right (Nat.le_add_right _ _), Nat.add_sub_cancel_left]
  exact h
theorem tls {a k : Nat} {c : Shp} (ha : pre.length = a) : (pre ++ L).set (a + k) c = pre ++ L.set k c := by
  subst ha
  rw [List.set_append_right _ _ (Nat.le_add_right _ _), Nat.add_sub_cancel_left]
theorem wfC_mono {n k : Nat} (h : n ≤ k) {c : Shp} (hc : wfC n c) : wfC k c := by
  match c, hc with
  | .inl _, _ => trivial
  | .inr (.inl q), hc => exact fun i b hb => Nat.lt_of_lt_of_le (hc i b hb) h
  | .inr (.inr q), hc => exact fun b hb => Nat.lt_of_lt_of_le (hc b hb) h
theorem wfS_push {sh : List Shp} {c : Shp} (hw : wfS sh) (hc : wfC (sh.length + 1) c) : wfS (sh ++ [c]) := by
  intro x hx
  rcases List.mem_append.mp hx with h | h
  · exact wfC_mono (by simp) (hw x h)
  · rw [List.mem_singleton.mp h]
    simpa using hc
theorem wfS_set {sh : List Shp} {c : Shp} {a : Nat} (hw : wfS sh) (hc : wfC sh.length c) : wfS (sh.set a c) := by
  intro x hx
  rw [List.length_set]
  rcases List.mem_or_eq_of_mem_set hx with h | h
  · exact hw x h
  · rw [h]
    exact hc
theorem ev_newT {idx cj N q : Nat} {fs : List (Option (Option Nat))} (hr : CR own idx cj N fs) (hdq : decode cc pc = .ok (.new idx, 3)) (hq : pre.length + L.length = q) (hL : L ++ [.inr (.inr (cj, fs))] = L') (hw : wfS (pre ++ L)) (hv : okR q loc stk) (hc : nc + 1 ≤ mc) (hs : ns + N ≤ ms)
    (kk : wfS (pre ++ L') → Ev own cc nL ret ini d mc ms post (pc + 3) loc (.ref q :: stk) (pre ++ L') (zr μ q) (nc + 1) (ns + N)) : Ev own cc nL ret ini d mc ms post pc loc stk (pre ++ L) μ nc ns := by
  subst hL
  have e : (pre ++ L).length = q := by rw [List.length_append]; exact hq
  have hnr : ∀ b, some (some b) ∈ fs → False := fun b hb => by
    obtain ⟨_, _, _, _, _, _, _, _, _, _, _, g9⟩ := hr
    rcases g9 _ hb with h | h <;> cases h
  have hw2 : wfS (pre ++ (L ++ [.inr (.inr (cj, fs))])) := by
    rw [← List.append_assoc]
    exact wfS_push hw (fun b hb => (hnr b hb).elim)
  have k2 := kk hw2
  rw [← List.append_assoc, ← e] at k2
  exact ev_new hr hw (by rw [e]; exact hv) hc hs hdq k2
theorem ev_newaT {n : Int32} {N q : Nat} (hdq : decode cc pc = .ok (.newarray .int, 2)) (hn : ¬ n < 0) (hN : ix n = N) (hb : N ≤ 100000) (hq : pre.length + L.length = q) (hL : L ++ [.inl N] = L') (hw : wfS (pre ++ L)) (hv : okR q loc stk) (hc : nc + 1 ≤ mc) (hs : ns + N ≤ ms)
    (kk : wfS (pre ++ L') → Ev own cc nL ret ini d mc ms post (pc + 2) loc (.ref q :: stk) (pre ++ L') (zr μ q) (nc + 1) (ns + N)) : Ev own cc nL ret ini d mc ms post pc loc (.int n :: stk) (pre ++ L) μ nc ns := by
  subst hL
  have e : (pre ++ L).length = q := by rw [List.length_append]; exact hq
  have k2 := kk (by rw [← List.append_assoc]; exact wfS_push hw trivial)
  rw [← List.append_assoc, ← e] at k2
  exact ev_newa w_arrI hw (by rw [e]; exact hv) hn hN hb hc hs hdq k2
theorem ev_newqT {n : Int32} {N q idx : Nat} (hdq : decode cc pc = .ok (.anewarray idx, 3)) (hcl : Cond.classLink own idx RX8 ∈ TBL) (hn : ¬ n < 0) (hN : ix n = N) (hb : N ≤ 100000) (hq : pre.length + L.length = q) (hL : L ++ [.inr (.inl (N, fun _ => none))] = L') (hw : wfS (pre ++ L)) (hv : okR q loc stk) (hc : nc + 1 ≤ mc) (hs : ns + N ≤ ms)
    (kk : wfS (pre ++ L') → Ev own cc nL ret ini d mc ms post (pc + 3) loc (.ref q :: stk) (pre ++ L') (zr μ q) (nc + 1) (ns + N)) : Ev own cc nL ret ini d mc ms post pc loc (.int n :: stk) (pre ++ L) μ nc ns := by
  subst hL
  have e : (pre ++ L).length = q := by rw [List.length_append]; exact hq
  have k2 := kk (by rw [← List.append_assoc]; exact wfS_push hw (fun k b h => by cases h))
  rw [← List.append_assoc, ← e] at k2
  exact ev_newq hcl hw (by rw [e]; exact hv) hn hN hb hc hs hdq k2
theorem wfC_fset {n k b : Nat} {cj : Nat} {fs : List (Option (Option Nat))} (h : wfC n (.inr (.inr (cj, fs)))) (hb : b < n) : wfC n (.inr (.inr (cj, fs.set k (some (some b))))) := by
  intro x hx
  rcases List.mem_or_eq_of_mem_set hx with g | g
  · exact h x g
  · cases g
    exact hb
theorem ev_putRT {idx cj k j a b : Nat} {ty : FieldType} {r0 : Option Nat} {fs : List (Option (Option Nat))} (hf : FR own idx cj j ty true) (hi : ini = true) (ho : own = (vwCl[cj]?.map (·.1)).getD "") (hdq : decode cc pc = .ok (.putfield idx, 3)) (ha : pre.length = a) (he : L[k]? = some (.inr (.inr (cj, fs)))) (hv : fs[j]? = some (some r0)) (hn : ∀ x, narrow ty (.ref x) = .ref x) (hx : ∀ x, fits ty (.ref x) = true) (hb : b < pre.length + L.length) (hL : L.set k (.inr (.inr (cj, fs.set j (some (some b))))) = L') (hw : wfS (pre ++ L))
    (kk : wfS (pre ++ L') → Ev own cc nL ret ini d mc ms post (pc + 3) loc stk (pre ++ L') μ nc ns) : Ev own cc nL ret ini d mc ms post pc loc (.ref b :: .ref (a + k) :: stk) (pre ++ L) μ nc ns := by
  subst hL
  have h1 := tlg (L := L) ha he
  have hwc := hw _ (List.mem_of_getElem? h1)
  have hw2 : wfS (pre ++ L.set k (.inr (.inr (cj, fs.set j (some (some b)))))) := by
    rw [← tls ha]
    exact wfS_set hw (wfC_fset hwc (by rw [List.length_append]; exact hb))
  exact ev_putRF hf hi ho h1 hv hn hx hdq (tls ha) (kk hw2)
theorem ev_putNT {idx cj k j a : Nat} {ty : FieldType} {r0 : Option Nat} {fs : List (Option (Option Nat))} (hf : FR own idx cj j ty false) (hdq : decode cc pc = .ok (.putfield idx, 3)) (ha : pre.length = a) (he : L[k]? = some (.inr (.inr (cj, fs)))) (hv : fs[j]? = some (some r0)) (hn : narrow ty .null = .null) (hx : fits ty .null = true) (hL : L.set k (.inr (.inr (cj, fs.set j (some none)))) = L') (hw : wfS (pre ++ L))
    (kk : wfS (pre ++ L') → Ev own cc nL ret ini d mc ms post (pc + 3) loc stk (pre ++ L') μ nc ns) : Ev own cc nL ret ini d mc ms post pc loc (.null :: .ref (a + k) :: stk) (pre ++ L) μ nc ns := by
  subst hL
  have h1 := tlg (L := L) ha he
  have hwc := hw _ (List.mem_of_getElem? h1)
  have hw2 : wfS (pre ++ L.set k (.inr (.inr (cj, fs.set j (some none))))) := by
    rw [← tls ha]
    refine wfS_set hw (fun x hx => ?_)
    rcases List.mem_or_eq_of_mem_set hx with g | g
    · exact hwc x g
    · cases g
  exact ev_putNl hf h1 hv hn hx hdq (tls ha) (kk hw2)
theorem ev_aastT {a k N b kb : Nat} {i : Int32} {f : Nat → Option Nat} {fs : List (Option (Option Nat))} (hdq : decode cc pc = .ok (.aastore, 1)) (ha : pre.length = a) (he : L[k]? = some (.inr (.inl (N, f)))) (hin : vp_in i N) (heb : L[kb]? = some (.inr (.inr (7, fs)))) (hb : a + kb = b) (hL : L.set k (.inr (.inl (N, va_up f (ix i) (some b)))) = L') (hw : wfS (pre ++ L))
    (kk : wfS (pre ++ L') → Ev own cc nL ret ini d mc ms post (pc + 1) loc stk (pre ++ L') μ nc ns) : Ev own cc nL ret ini d mc ms post pc loc (.ref b :: .int i :: .ref (a + k) :: stk) (pre ++ L) μ nc ns := by
  subst hL
  subst hb
  have h1 := tlg (L := L) ha he
  have h2 := tlg (L := L) ha heb
  have hwc := hw _ (List.mem_of_getElem? h1)
  have hlt := (List.getElem?_eq_some_iff.mp h2).1
  have hw2 : wfS (pre ++ L.set k (.inr (.inl (N, va_up f (ix i) (some (a + kb)))))) := by
    rw [← tls ha]
    refine wfS_set hw (fun j x hx => ?_)
    simp only [va_up] at hx
    split at hx
    · cases hx
      exact hlt
    · exact hwc j x hx
  exact ev_aast h1 hin h2 rfl hdq (tls ha) (kk hw2)
/-- what a constructor leaves -/
def ctP (sh : List Shp) (μ : Mem) : Option Int32 → List Shp → Mem → Prop := fun v sh' μ' => v = none ∧ sh' = sh ∧ μ' = μ ∧ wfS sh
theorem ctP_i {sh : List Shp} {μ μr : Mem} (hw : wfS sh) (h : some μ = some μr) : ctP sh μr none sh μ := by
  cases h
  exact ⟨rfl, rfl, rfl, hw⟩
variable {y : MethodName} {cy : ByteArray} {ny : Nat} {n idx dq mc' ms' q : Nat} {as : List Value} {st0 : List Value} {dc : Shp} {full Ld : List Shp}
theorem ev_cI (hm : MRI own idx y cy ny n) (hdq : decode cc pc = .ok (.invokespecial idx, 3)) (hc : Cn y cy ny none dq mc' ms' (.ref q :: as) ((pre ++ L) ++ [dc]) μ (ctP ((pre ++ L) ++ full) μr)) (hst : as.reverse ++ .ref q :: stk = st0) (hLd : L ++ [dc] = Ld) (hL : L ++ full = L') (hn : as.length = n) (hk : stk.length ≤ 8) (hok : stk.all okV = true) (hdd : dq + 1 ≤ d) (hcc : nc + mc' ≤ mc) (hss : ns + ms' ≤ ms) (hv : okR (pre.length + Ld.length) loc stk)
    (kk : wfS (pre ++ L') → Ev own cc nL ret ini d mc ms post (pc + 3) loc stk (pre ++ L') μr (nc + mc') (ns + ms')) : Ev own cc nL ret ini d mc ms post pc loc st0 (pre ++ Ld) μ nc ns := by
  subst hLd
  subst hL
  have e : pre ++ (L ++ [dc]) = (pre ++ L) ++ [dc] := by rw [List.append_assoc]
  have hv2 : okR ((pre ++ L) ++ [dc]).length loc stk := by rw [← e, List.length_append]; exact hv
  rw [e]
  refine ev_callI hm hc hdq hn hk hok hdd hcc hss hst (fun _ _ _ _ => Or.inr hv2) (fun v sh' μ' g => ?_)
  obtain ⟨rfl, rfl, rfl, g4⟩ := g
  rw [List.append_assoc] at g4 ⊢
  exact kk g4
theorem ev_cIN (hm : MRIN own idx y cy ny n) (hdq : decode cc pc = .ok (.invokespecial idx, 3)) (hc : Cn y cy ny none dq mc' ms' (.ref q :: as) ((pre ++ L) ++ [dc]) μ (ctP ((pre ++ L) ++ full) μr)) (hst : as.reverse ++ .ref q :: stk = st0) (hLd : L ++ [dc] = Ld) (hL : L ++ full = L') (hn : as.length = n) (hk : stk.length ≤ 8) (hok : stk.all okV = true) (hdd : dq + 1 ≤ d) (hcc : nc + mc' ≤ mc) (hss : ns + ms' ≤ ms) (hv : okR (pre.length + Ld.length) loc stk)
    (kk : wfS (pre ++ L') → Ev own cc nL ret ini d mc ms post (pc + 3) loc stk (pre ++ L') μr (nc + mc') (ns + ms')) : Ev own cc nL ret ini d mc ms post pc loc st0 (pre ++ Ld) μ nc ns := by
  subst hLd
  subst hL
  have e : pre ++ (L ++ [dc]) = (pre ++ L) ++ [dc] := by rw [List.append_assoc]
  have hv2 : okR ((pre ++ L) ++ [dc]).length loc stk := by rw [← e, List.length_append]; exact hv
  rw [e]
  refine ev_callIN hm hc hdq hn hk hok hdd hcc hss hst (fun _ _ _ _ => Or.inr hv2) (fun v sh' μ' g => ?_)
  obtain ⟨rfl, rfl, rfl, g4⟩ := g
  rw [List.append_assoc] at g4 ⊢
  exact kk g4
end
