section
/-! the words of the pure functions -/
def chk {α : Type} (i : Int32) (n : Nat) (k : Option α) : Option α := if i < 0 ∨ n ≤ ix i then none else k
def dvk {α : Type} (y : Int32) (k : Option α) : Option α := if y = 0 then none else k
def bkk {α : Type} (y : Int32) (k : Option α) : Option α := if y = 0 ∨ y = 1 then k else none
def bndE {α : Type} (o : Option (Int32 × Mem)) (k : Int32 → Mem → Option α) : Option α := match o with
  | none => none
  | some q => k q.1 q.2
def bndV {α : Type} (o : Option Mem) (k : Mem → Option α) : Option α := match o with
  | none => none
  | some q => k q
def bndO {α : Type} (o : Option Int32) (k : Int32 → Option α) : Option α := match o with
  | none => none
  | some q => k q
theorem chk_t {α : Type} {i : Int32} {n : Nat} {k : Option α} {r : α} (h : chk i n k = some r) : vp_in i n ∧ k = some r := by
  unfold chk at h
  split at h
  · cases h
  · rename_i g
    exact ⟨g, h⟩
theorem dvk_t {α : Type} {y : Int32} {k : Option α} {r : α} (h : dvk y k = some r) : ¬ y = 0 ∧ k = some r := by
  unfold dvk at h
  split at h
  · cases h
  · rename_i g
    exact ⟨g, h⟩
theorem bkk_t {α : Type} {y : Int32} {k : Option α} {r : α} (h : bkk y k = some r) : (y = 0 ∨ y = 1) ∧ k = some r := by
  unfold bkk at h
  split at h
  · rename_i g
    exact ⟨g, h⟩
  · cases h
theorem nzb {y : Int32} (g : y = 0 ∨ y = 1) : narrow .boolean (.int y) = .int y := by
  rcases g with g | g <;> rw [g] <;> rfl
theorem fzb {y : Int32} (g : y = 0 ∨ y = 1) : fits .boolean (.int y) = true := by
  rcases g with g | g <;> rw [g] <;> rfl
theorem bndE_t {α : Type} {o : Option (Int32 × Mem)} {k : Int32 → Mem → Option α} {r : α} (h : bndE o k = some r) : ∃ (v : Int32) (m : Mem), o = some (v, m) ∧ k v m = some r := by
  cases o with
  | none => cases h
  | some q => exact ⟨q.1, q.2, rfl, h⟩
theorem bndV_t {α : Type} {o : Option Mem} {k : Mem → Option α} {r : α} (h : bndV o k = some r) : ∃ m : Mem, o = some m ∧ k m = some r := by
  cases o with
  | none => cases h
  | some q => exact ⟨q, rfl, h⟩
theorem bndO_t {α : Type} {o : Option Int32} {k : Int32 → Option α} {r : α} (h : bndO o k = some r) : ∃ v : Int32, o = some v ∧ k v = some r := by
  cases o with
  | none => cases h
  | some q => exact ⟨q, rfl, h⟩
theorem ite_t {α : Type} {c : Prop} [Decidable c] {a b r : α} (hc : c) (h : (if c then a else b) = r) : a = r := by rw [if_pos hc] at h; exact h
theorem ite_f {α : Type} {c : Prop} [Decidable c] {a b r : α} (hc : ¬ c) (h : (if c then a else b) = r) : b = r := by rw [if_neg hc] at h; exact h
/-- a jump's condition written the other way -/
theorem ite_nt {α : Type} {c : Prop} [Decidable c] {a b r : α} (hc : ¬ c) (h : (if ¬ c then a else b) = r) : a = r := by rw [if_pos hc] at h; exact h
theorem ite_nf {α : Type} {c : Prop} [Decidable c] {a b r : α} (hc : c) (h : (if ¬ c then a else b) = r) : b = r := by rw [if_neg (fun g => g hc)] at h; exact h
theorem vpl (i : Int32) (n : Nat) (h : (decide (i < 0) || decide (n ≤ ix i)) = false) : vp_in i n := by
  intro g
  rcases g with g | g <;> simp [g] at h
def eqP (r : Option Int32) (sh : List Shp) (μ : Mem) : Option Int32 → List Shp → Mem → Prop := fun v sh' μ' => v = r ∧ sh' = sh ∧ μ' = μ
theorem eqP_P {sh : List Shp} {μ : Mem} {v r : Int32} (h : v = r) : eqP (some r) sh μ (some v) sh μ := ⟨by rw [h], rfl, rfl⟩
theorem eqP_O {sh : List Shp} {μ : Mem} {v r : Int32} (h : some v = some r) : eqP (some r) sh μ (some v) sh μ := ⟨h, rfl, rfl⟩
theorem eqP_E {sh : List Shp} {μ μr : Mem} {v r : Int32} (h : some (v, μ) = some (r, μr)) : eqP (some r) sh μr (some v) sh μ := by
  cases h
  exact ⟨rfl, rfl, rfl⟩
theorem eqP_V {sh : List Shp} {μ μr : Mem} (h : some μ = some μr) : eqP none sh μr none sh μ := by
  cases h
  exact ⟨rfl, rfl, rfl⟩
variable {own : String} {cc : ByteArray} {nL : Nat} {ret : Option FieldType} {ini : Bool} {d mc ms : Nat} {post : Option Int32 → List Shp → Mem → Prop} {pc : Nat} {loc : List (Option Value)} {stk : List Value} {sh : List Shp} {μ μr : Mem} {nc ns : Nat}
variable {y : MethodName} {cy : ByteArray} {ny : Nat} {ry : Option FieldType} {n idx dq : Nat} {as : List Value} {st0 : List Value} {rr : Int32}
theorem ev_cVi {b cj : Nat} {fs : List (Option (Option Nat))} (hm : MRV own idx y cy ny ry n) (hdq : decode cc pc = .ok (.invokevirtual idx, 3)) (hc : Cn y cy ny ry dq 0 0 (.ref b :: as) sh μ (eqP (some rr) sh μr)) (hst : as.reverse ++ .ref b :: stk = st0) (he : sh[b]? = some (.inr (.inr (cj, fs)))) (hcl : (vwCl[cj]?).map (·.1) = some y.cls) (hn : as.length = n) (hk : stk.length ≤ 8) (hok : stk.all okV = true) (hdd : dq + 1 ≤ d) (hcc : nc ≤ mc) (hss : ns ≤ ms)
    (kk : Ev own cc nL ret ini d mc ms post (pc + 3) loc (.int rr :: stk) sh μr nc ns) : Ev own cc nL ret ini d mc ms post pc loc st0 sh μ nc ns :=
  ev_callV hm hc he hcl hdq hn hk hok hdd hcc hss hst (fun _ _ _ g => Or.inl (by rw [g.2.1])) (fun v sh' μ' g => by obtain ⟨rfl, rfl, rfl⟩ := g; exact kk)
theorem ev_cVv {b cj : Nat} {fs : List (Option (Option Nat))} (hm : MRV own idx y cy ny ry n) (hdq : decode cc pc = .ok (.invokevirtual idx, 3)) (hc : Cn y cy ny ry dq 0 0 (.ref b :: as) sh μ (eqP none sh μr)) (hst : as.reverse ++ .ref b :: stk = st0) (he : sh[b]? = some (.inr (.inr (cj, fs)))) (hcl : (vwCl[cj]?).map (·.1) = some y.cls) (hn : as.length = n) (hk : stk.length ≤ 8) (hok : stk.all okV = true) (hdd : dq + 1 ≤ d) (hcc : nc ≤ mc) (hss : ns ≤ ms)
    (kk : Ev own cc nL ret ini d mc ms post (pc + 3) loc stk sh μr nc ns) : Ev own cc nL ret ini d mc ms post pc loc st0 sh μ nc ns :=
  ev_callV hm hc he hcl hdq hn hk hok hdd hcc hss hst (fun _ _ _ g => Or.inl (by rw [g.2.1])) (fun v sh' μ' g => by obtain ⟨rfl, rfl, rfl⟩ := g; exact kk)
theorem ev_cSi (hm : MRS own idx y cy ny ry n) (hdq : decode cc pc = .ok (.invokestatic idx, 3)) (hc : Cn y cy ny ry dq 0 0 as sh μ (eqP (some rr) sh μr)) (hst : as.reverse ++ stk = st0) (hn : as.length = n) (hk : stk.length ≤ 8) (hok : stk.all okV = true) (hdd : dq + 1 ≤ d) (hcc : nc ≤ mc) (hss : ns ≤ ms)
    (kk : Ev own cc nL ret ini d mc ms post (pc + 3) loc (.int rr :: stk) sh μr nc ns) : Ev own cc nL ret ini d mc ms post pc loc st0 sh μ nc ns :=
  ev_callS hm hc hdq hn hk hok hdd hcc hss hst (fun _ _ _ g => Or.inl (by rw [g.2.1])) (fun v sh' μ' g => by obtain ⟨rfl, rfl, rfl⟩ := g; exact kk)
theorem ev_cSv (hm : MRS own idx y cy ny ry n) (hdq : decode cc pc = .ok (.invokestatic idx, 3)) (hc : Cn y cy ny ry dq 0 0 as sh μ (eqP none sh μr)) (hst : as.reverse ++ stk = st0) (hn : as.length = n) (hk : stk.length ≤ 8) (hok : stk.all okV = true) (hdd : dq + 1 ≤ d) (hcc : nc ≤ mc) (hss : ns ≤ ms)
    (kk : Ev own cc nL ret ini d mc ms post (pc + 3) loc stk sh μr nc ns) : Ev own cc nL ret ini d mc ms post pc loc st0 sh μ nc ns :=
  ev_callS hm hc hdq hn hk hok hdd hcc hss hst (fun _ _ _ g => Or.inl (by rw [g.2.1])) (fun v sh' μ' g => by obtain ⟨rfl, rfl, rfl⟩ := g; exact kk)
theorem ev_cNi (hm : MRSN own idx y cy ny ry n) (hdq : decode cc pc = .ok (.invokestatic idx, 3)) (hc : Cn y cy ny ry dq 0 0 as sh μ (eqP (some rr) sh μr)) (hst : as.reverse ++ stk = st0) (hn : as.length = n) (hk : stk.length ≤ 8) (hok : stk.all okV = true) (hdd : dq + 1 ≤ d) (hcc : nc ≤ mc) (hss : ns ≤ ms)
    (kk : Ev own cc nL ret ini d mc ms post (pc + 3) loc (.int rr :: stk) sh μr nc ns) : Ev own cc nL ret ini d mc ms post pc loc st0 sh μ nc ns :=
  ev_callSN hm hc hdq hn hk hok hdd hcc hss hst (fun _ _ _ g => Or.inl (by rw [g.2.1])) (fun v sh' μ' g => by obtain ⟨rfl, rfl, rfl⟩ := g; exact kk)
theorem ev_ialdL {a j : Nat} {i : Int32} {nn : Nat} (he : sh[a]? = some (.inl nn)) (hj : ix i = j) (hin : vp_in i nn) (hdq : decode cc pc = .ok (.iaload, 1)) (kk : Ev own cc nL ret ini d mc ms post (pc + 1) loc (.int (μ a j) :: stk) sh μ nc ns) : Ev own cc nL ret ini d mc ms post pc loc (.int i :: .ref a :: stk) sh μ nc ns := by
  subst hj
  exact ev_iald he hin hdq kk
theorem ev_iastL {a j : Nat} {i x : Int32} {nn : Nat} (he : sh[a]? = some (.inl nn)) (hj : ix i = j) (hin : vp_in i nn) (hdq : decode cc pc = .ok (.iastore, 1)) (kk : Ev own cc nL ret ini d mc ms post (pc + 1) loc stk sh (wr μ a j x) nc ns) : Ev own cc nL ret ini d mc ms post pc loc (.int x :: .int i :: .ref a :: stk) sh μ nc ns := by
  subst hj
  exact ev_iast he hin hdq kk
def leP : List (Option Value) → List (Option Value) → Prop
  | [], _ => True
  | none :: t, _ :: t' => leP t t'
  | some v :: t, some w :: t' => v = w ∧ leP t t'
  | _, _ => False
theorem leP_le : ∀ {a b : List (Option Value)}, leP a b → leL a b := by
  intro a
  induction a with
  | nil => intro b _ i v h; simp at h
  | cons x t ih =>
    intro b h i v hi
    cases b with
    | nil => cases x <;> exact absurd h (by simp [leP])
    | cons z t' =>
      cases x with
      | none =>
        cases i with
        | zero => simp at hi
        | succ i => simpa using ih h i v (by simpa using hi)
      | some w =>
        cases z with
        | none => exact absurd h (by simp [leP])
        | some w' =>
          obtain ⟨e1, e2⟩ := h
          cases i with
          | zero => rw [← e1]; simpa using hi
          | succ i => simpa using ih e2 i v (by simpa using hi)
theorem ev_lt {loc' : List (Option Value)} (kk : Ev own cc nL ret ini d mc ms post pc loc' stk sh μ nc ns) (h : leP loc' loc) : Ev own cc nL ret ini d mc ms post pc loc stk sh μ nc ns := ev_less (leP_le h) kk
end
