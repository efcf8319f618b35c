section
/-! THE LAYER: worlds as a shape (a list of cells, an address is its place) and a memory (ints by cell and slot). -/
abbrev Mem : Type := Nat → Nat → Int32
abbrev Shp : Type := Nat ⊕ ((Nat × (Nat → Option Nat)) ⊕ (Nat × List (Option (Option Nat))))
def TBL : List Cond := lw_tbl.filter goodWord
def NST : List (String × Nat × MethodName × String) := [
  (RX11, 11, yX0_init, RX11), (RX0, 36, yX1_init, RX11), (RX5, 23, yX1_init, RX11), (RX11, 55, yX9_init, RX11),
  (RX0, 103, yX11_isBelow, RX11), (RX0, 111, yX11_isDigit, RX11), (RX3, 29, yX11_isBelow, RX11), (RX2, 31, yX11_isBelow, RX11),
  (RX7, 83, yX11_held, RX11), (RX8, 52, yX11_has, RX11), (RX5, 129, yX11_isBelow, RX11), (RX0, 130, yX11_has, RX11),
  (RX7, 217, yX11_has, RX11), (RX6, 31, yX11_has, RX11), (RX6, 27, yX11_isBelow, RX11), (RX4, 53, yX11_isBelow, RX11),
  (RX9, 31, yX11_isBelow, RX11), (RX9, 35, yX11_has, RX11), (RX2, 43, yX11_held, RX11)]
def wr (μ : Mem) (a k : Nat) (v : Int32) : Mem := fun a' k' => if a' = a ∧ k' = k then v else μ a' k'
abbrev ix (i : Int32) : Nat := i.toNatClampNeg
def vmp (ad : Nat → Nat) (tt : Int64 → Nat) : Value → Value
  | .ref i => .ref (ad i)
  | .long j => .ref (tt j)
  | v => v
def fz (ad : Nat → Nat) (row : Nat → Int32) (k : Nat) : Option (Option Nat) → Value
  | none => .int (row k)
  | some none => .null
  | some (some b) => .ref (ad b)
def cE (cI cS : ClassId) (ad : Nat → Nat) (row : Nat → Int32) : Shp → va_E
  | .inl n => .inl (cI, n, .inl row)
  | .inr (.inl q) => .inl (cS, q.1, .inr (.inr (.inr (.inr (fun k => (q.2 k).map ad)))))
  | .inr (.inr q) => .inr (q.1, q.2.mapIdx (fun k r => fz ad row k r))
def cz (cI cS : ClassId) (ad : Nat → Nat) (sh : List Shp) (μ : Mem) : va_W := sh.mapIdx (fun a c => (ad a, cE cI cS ad (μ a) c))
theorem cz_get {cI cS : ClassId} {ad : Nat → Nat} {sh : List Shp} {μ : Mem} {a : Nat} {c : Shp} (h : sh[a]? = some c) : (cz cI cS ad sh μ)[a]? = some (ad a, cE cI cS ad (μ a) c) := by
  simp [cz, List.getElem?_mapIdx, h]
theorem cz_at {cI cS : ClassId} {ad : Nat → Nat} {sh : List Shp} {μ : Mem} (a : Nat) : (cz cI cS ad sh μ)[a]? = (sh[a]?).map (fun c => (ad a, cE cI cS ad (μ a) c)) := by
  simp [cz, List.getElem?_mapIdx]
theorem cz_len {cI cS : ClassId} {ad : Nat → Nat} {sh : List Shp} {μ : Mem} : (cz cI cS ad sh μ).length = sh.length := by simp [cz]
theorem wr_row {μ : Mem} {a k : Nat} {v : Int32} : (wr μ a k v) a = upd (μ a) k v := by
  funext j
  simp [wr, upd]
theorem wr_off {μ : Mem} {a b k : Nat} {v : Int32} (h : b ≠ a) : (wr μ a k v) b = μ b := by
  funext j
  simp [wr, h]
theorem cz_set {cI cS : ClassId} {ad : Nat → Nat} {sh : List Shp} {μ μ' : Mem} {a : Nat} {c : Shp} (hc : a < sh.length) (hm : ∀ b, b ≠ a → μ' b = μ b) :
    (cz cI cS ad sh μ).set a (ad a, cE cI cS ad (μ' a) c) = cz cI cS ad (sh.set a c) μ' := by
  apply List.ext_getElem?
  intro i
  rw [List.getElem?_set, cz_at, cz_at, List.getElem?_set]
  by_cases h : a = i
  · subst h
    simp [hc, cz_len]
  · rw [if_neg h, if_neg h]
    cases hi : sh[i]? with
    | none => rfl
    | some x => simp [hm i (fun e => h e.symm)]
theorem set_same {α : Type} {l : List α} {a : Nat} {c : α} (h : l[a]? = some c) : l.set a c = l := by
  apply List.ext_getElem?
  intro i
  rw [List.getElem?_set]
  by_cases e : a = i
  · subst e
    obtain ⟨h1, h2⟩ := List.getElem?_eq_some_iff.mp h
    simp [h1, h2]
  · rw [if_neg e]
theorem cz_arr {cI cS : ClassId} {ad : Nat → Nat} {sh : List Shp} {μ : Mem} {a n k : Nat} {v : Int32} (h : sh[a]? = some (.inl n)) :
    (cz cI cS ad sh μ).set a (ad a, .inl (cI, n, .inl (upd (μ a) k v))) = cz cI cS ad sh (wr μ a k v) := by
  have hl := (List.getElem?_eq_some_iff.mp h).1
  have h1 := cz_set (cI := cI) (cS := cS) (ad := ad) (μ := μ) (μ' := wr μ a k v) (c := .inl n) hl (fun b hb => wr_off hb)
  rw [set_same h] at h1
  rw [← h1]
  simp only [cE, wr_row]
theorem cz_fld {cI cS : ClassId} {ad : Nat → Nat} {sh : List Shp} {μ : Mem} {a ci k : Nat} {v : Int32} {fs : List (Option (Option Nat))} (h : sh[a]? = some (.inr (.inr (ci, fs)))) (hk : fs[k]? = some none) :
    (cz cI cS ad sh μ).set a (ad a, .inr (ci, (fs.mapIdx (fun k r => fz ad (μ a) k r)).set k (.int v))) = cz cI cS ad sh (wr μ a k v) := by
  have hl := (List.getElem?_eq_some_iff.mp h).1
  have h1 := cz_set (cI := cI) (cS := cS) (ad := ad) (μ := μ) (μ' := wr μ a k v) (c := .inr (.inr (ci, fs))) hl (fun b hb => wr_off hb)
  rw [set_same h] at h1
  rw [← h1]
  simp only [cE, wr_row]
  congr 4
  apply List.ext_getElem?
  intro i
  rw [List.getElem?_set]
  simp only [List.getElem?_mapIdx, List.length_mapIdx]
  by_cases e : k = i
  · subst e
    have hl := (List.getElem?_eq_some_iff.mp hk).1
    rw [hk, if_pos rfl, if_pos hl]
    simp [fz, upd]
  · rw [if_neg e]
    cases hi : fs[i]? with
    | none => rfl
    | some x => cases x with
      | none =>
        have e2 : ¬ i = k := fun q => e q.symm
        simp [fz, upd, e2]
      | some y => cases y <;> simp [fz]
theorem cz_ref {cI cS : ClassId} {ad : Nat → Nat} {sh : List Shp} {μ : Mem} {a ci k : Nat} {r r0 : Option Nat} {fs : List (Option (Option Nat))} (h : sh[a]? = some (.inr (.inr (ci, fs)))) (hk : fs[k]? = some (some r0)) :
    (cz cI cS ad sh μ).set a (ad a, .inr (ci, (fs.mapIdx (fun k r => fz ad (μ a) k r)).set k (fz ad (μ a) k (some r)))) = cz cI cS ad (sh.set a (.inr (.inr (ci, fs.set k (some r))))) μ := by
  have hl := (List.getElem?_eq_some_iff.mp h).1
  rw [← cz_set (cI := cI) (cS := cS) (ad := ad) (μ := μ) (μ' := μ) (c := .inr (.inr (ci, fs.set k (some r)))) hl (fun b hb => rfl)]
  simp only [cE]
  congr 4
  apply List.ext_getElem?
  intro i
  rw [List.getElem?_set]
  simp only [List.getElem?_mapIdx, List.length_mapIdx, List.getElem?_set]
  have hl := (List.getElem?_eq_some_iff.mp hk).1
  by_cases e : k = i
  · subst e
    simp [hl]
  · rw [if_neg e, if_neg e]
/-! locals -/
def lps (ad : Nat → Nat) (tt : Int64 → Nat) : Nat → List (Option Value) → List (Nat × Value)
  | _, [] => []
  | i, none :: t => lps ad tt (i + 1) t
  | i, some v :: t => (i, vmp ad tt v) :: lps ad tt (i + 1) t
theorem mem_lps {ad : Nat → Nat} {tt : Int64 → Nat} {loc : List (Option Value)} : ∀ {i : Nat} {q : Nat × Value}, q ∈ lps ad tt i loc ↔ ∃ (j : Nat) (v : Value), loc[j]? = some (some v) ∧ q = (i + j, vmp ad tt v) := by
  induction loc with
  | nil => intro i q; simp [lps]
  | cons x t ih =>
    intro i q
    have key : (∃ (j : Nat) (v : Value), (x :: t)[j]? = some (some v) ∧ q = (i + j, vmp ad tt v)) ↔ (∃ v, x = some v ∧ q = (i, vmp ad tt v)) ∨ ∃ (j : Nat) (v : Value), t[j]? = some (some v) ∧ q = (i + 1 + j, vmp ad tt v) := by
      constructor
      · rintro ⟨j, v, h1, h2⟩
        cases j with
        | zero => exact Or.inl ⟨v, by simpa using h1, by simpa using h2⟩
        | succ j => exact Or.inr ⟨j, v, by simpa using h1, by rw [h2]; congr 1; omega⟩
      · rintro (⟨v, h1, h2⟩ | ⟨j, v, h1, h2⟩)
        · exact ⟨0, v, by simp [h1], by simpa using h2⟩
        · exact ⟨j + 1, v, by simpa using h1, by rw [h2]; congr 1; omega⟩
    rw [key]
    cases x with
    | none => simp [lps, ih]
    | some w => simp [lps, ih]
theorem lps_at {ad : Nat → Nat} {tt : Int64 → Nat} {loc : List (Option Value)} {ls : Array Slot} {n i : Nat} {v : Value} (h : lv_has ls n (lps ad tt 0 loc)) (hi : loc[i]? = some (some v)) : ls[i]? = some (.val (vmp ad tt v)) :=
  h.2.2 (i, vmp ad tt v) (mem_lps.mpr ⟨i, v, hi, by simp⟩)
theorem lps_set {ad : Nat → Nat} {tt : Int64 → Nat} {loc : List (Option Value)} {ls : Array Slot} {n i : Nat} {v : Value} (h : lv_has ls n ((i, vmp ad tt v) :: (lps ad tt 0 loc).filter (fun q => !(q.1 == i) && !(q.1 + 1 == i && q.2.category == 2)))) (hc : ∀ w, some w ∈ loc → (vmp ad tt w).category = 1) : lv_has ls n (lps ad tt 0 (loc.set i (some v))) := by
  refine ⟨h.1, h.2.1, fun q hq => ?_⟩
  obtain ⟨j, w, h1, h2⟩ := mem_lps.mp hq
  rw [List.getElem?_set] at h1
  by_cases e : i = j
  · subst e
    simp only [if_true] at h1
    split at h1
    · cases h1
      rw [h2]
      simpa using h.2.2 (i, vmp ad tt v) List.mem_cons_self
    · cases h1
  · rw [if_neg e] at h1
    refine h.2.2 q (List.mem_cons_of_mem _ (List.mem_filter.mpr ⟨mem_lps.mpr ⟨j, w, h1, h2⟩, ?_⟩))
    have hcat := hc w (List.mem_of_getElem? h1)
    have e2 : ¬ j = i := fun q => e q.symm
    simp [h2, hcat, e2]
theorem vmp_cat (ad : Nat → Nat) (tt : Int64 → Nat) {v : Value} (h : v ≠ .double 0) : True := trivial
def okV : Value → Bool
  | .int _ => true
  | .ref _ => true
  | .null => true
  | .long _ => true
  | _ => false
theorem okV_cat {ad : Nat → Nat} {tt : Int64 → Nat} {v : Value} (h : okV v = true) : (vmp ad tt v).category = 1 := by
  cases v <;> simp_all [okV, vmp, Value.category]
def okL (loc : List (Option Value)) : Bool := loc.all (fun x => match x with | none => true | some v => okV v)
theorem okL_cat {ad : Nat → Nat} {tt : Int64 → Nat} {loc : List (Option Value)} (h : okL loc = true) : ∀ w, some w ∈ loc → (vmp ad tt w).category = 1 := by
  intro w hw
  have := List.all_eq_true.mp h _ hw
  exact okV_cat this
end
