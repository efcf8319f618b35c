section
abbrev tysK (cI cS : ClassId) : List (ClassId × FieldType) := [(cI, .int), (cS, .object RX8)]
def rmK (d mc ms : Nat) : Room := { frames := d, cells := mc, slots := ms, locals := 64 * d }
def sl (x y : Int32) : Int32 := x <<< (y &&& 31)
def sr (x y : Int32) : Int32 := x >>> (y &&& 31)
def su (x y : Int32) : Int32 := (x.toUInt32 >>> (y.toUInt32 &&& Int32.toUInt32 31)).toInt32
def irm (x y : Int32) : Int32 := x - x / y * y
def keyB : List Int32 := [121, 101, 115, 32, 99, 111, 117, 110, 116, 115, 32, 106, 111, 121, 32, 119, 104, 101, 110, 32, 111, 114, 32, 97, 110, 100, 32, 110, 111, 116, 32, 115, 116, 101, 112, 32, 104, 101, 97, 114, 116, 32, 114, 111, 116, 101, 32, 115, 104, 101, 32, 115, 97, 105, 100, 32, 113, 117, 101, 115, 116, 105, 111, 110, 32, 112, 108, 97, 99, 101, 32, 110, 101, 114, 118, 101, 32, 121, 101, 97, 114, 32, 99, 104, 105, 108, 100, 114, 101, 110, 32, 103, 108, 97, 100, 32, 97, 115, 107, 32, 105, 110, 32, 119, 101, 100, 32, 99, 111, 117, 103, 104, 32, 112, 97, 114, 116, 32, 119, 111, 109, 97, 110, 32, 115, 105, 115, 116, 101, 114, 32]
def keyT : String := "yes counts joy when or and not step heart rote she said question place nerve year children glad ask in wed cough part woman sister "
def facT : Nat → Int32 := fun j => ([1, 1, 2, 6, 24, 120, 720, 5040] : List Int32).getD j 0
def ordT : Nat → Int32 := fun j => ([12, 21, 102, 120, 201, 210] : List Int32).getD j 0
/-- the statics that nobody writes: tt 0 FACTORIALS, tt 1 ORDERS, tt 2 the text of KEYWORDS, tt 3 its bytes -/
def ST (tt : Int64 → Nat) (A : Nat → Prop) (U : State) (H : Heap) : Prop :=
  (va_Z RX6 "FACTORIALS" "[I" (.ref (tt 0)) A U H ∧ va_T .int (tt 0) 8 (fun j => .int (facT j)) A U H) ∧
  (va_Z RX6 "ORDERS" "[I" (.ref (tt 1)) A U H ∧ va_T .int (tt 1) 6 (fun j => .int (ordT j)) A U H) ∧
  vk_S 1 [131] [keyB] (fun _ => tt 2) (fun _ => tt 3) A U H ∧
  va_Z RJ0 "COMPACT_STRINGS" "Z" (.int 1) A U H ∧ (va_Z RJ3 "SIOOBE_FORMATTER" "Ljava/util/function/BiFunction;" .null A U H ∨ va_Z RJ3 "SIOOBE_FORMATTER" "Ljava/util/function/BiFunction;" (.ref (tt 4)) A U H)
/-- what stands in the tables beside the words of TBL -/
def NW (tt : Int64 → Nat) (U : State) : Prop :=
  (∀ q ∈ NST, va_Nw (.methodLinkNest q.1 q.2.1 q.2.2.1 q.2.2.2) U) ∧ va_AO RX8 U ∧ vk_R RX5 115 keyT (tt 2) U
theorem ST.moved {tt : Int64 → Nat} {A : Nat → Prop} {u U : State} {H : Heap} (hvm : u.vm.Alike U.vm) (h : ST tt A u H) : ST tt A U H :=
  ⟨⟨h.1.1.moved hvm, h.1.2.moved hvm⟩, ⟨h.2.1.1.moved hvm, h.2.1.2.moved hvm⟩, h.2.2.1.moved hvm, h.2.2.2.1.moved hvm, h.2.2.2.2.imp (fun g => g.moved hvm) (fun g => g.moved hvm)⟩
theorem ST.kept {tt : Int64 → Nat} {A : Nat → Prop} {U : State} {H H1 : Heap} (h : ST tt A U H) (hq : ∀ a : Nat, a < H.size → ¬ A a → H1[a]? = H[a]?) : ST tt A U H1 :=
  ⟨⟨h.1.1.kept hq, h.1.2.kept hq⟩, ⟨h.2.1.1.kept hq, h.2.1.2.kept hq⟩, h.2.2.1.kept hq, h.2.2.2.1.kept hq, h.2.2.2.2.imp (fun g => g.kept hq) (fun g => g.kept hq)⟩
theorem ST.narrow {tt : Int64 → Nat} {A B : Nat → Prop} {U : State} {H : Heap} (h : ST tt A U H) (hAB : ∀ q, B q → A q) : ST tt B U H :=
  ⟨⟨h.1.1.narrow hAB, h.1.2.narrow hAB⟩, ⟨h.2.1.1.narrow hAB, h.2.1.2.narrow hAB⟩, h.2.2.1.narrow hAB, h.2.2.2.1.narrow hAB, h.2.2.2.2.imp (fun g => g.narrow hAB) (fun g => g.narrow hAB)⟩
theorem NW.warm {tt : Int64 → Nat} {s U : State} (hW : s.WarmedH U.vm) (h : NW tt s) : NW tt U :=
  ⟨fun q hq => va_Nw.warmM hW (h.1 q hq), va_AO.moved hW.alike h.2.1, h.2.2.warm hW⟩
theorem NW.same {tt : Int64 → Nat} {u U : State} (hv : U.vm = u.vm) (h : NW tt u) : NW tt U :=
  ⟨fun q hq => (h.1 q hq).same rfl hv.symm, va_AO.moved (by rw [hv]; exact Vm.Alike.refl _) h.2.1, h.2.2.same hv⟩

def Cx (own : String) (cc : ByteArray) (nL : Nat) (ret : Option FieldType) (ini : Bool) (d mc ms : Nat) (p : Program) (R : Room) (s : State) (m : MethodId) (args : Array Value) (meth : Method) (c : Code) (D : va_G) (cI cS : ClassId) (A : Nat → Prop) (tt : Int64 → Nat) : Prop :=
  p.tables.exec = Jvm.exec ∧ c.code = cc ∧ meth.sig.returnType = ret ∧ c.maxLocals = nL ∧ s.vm.findClass own = some m.cls ∧ (∀ w ∈ TBL, w.before args s = true) ∧ meth.locks = false ∧ (ini = true → meth.name = "<init>") ∧ R = rmK d mc ms ∧ (∀ q, s.heap.size ≤ q → A q) ∧ va_K D vwCl (tysK cI cS) s ∧ NW tt s ∧ ST tt A s s.heap
def QC (D : va_G) (cI cS : ClassId) (A : Nat → Prop) (ad0 : Nat → Nat) (n0 : Nat) (post : Option Int32 → List Shp → Mem → Prop) : Array Value → State → Outcome → State → Prop := fun _ st oc t =>
  (∃ (v : Option Int32) (sh' : List Shp) (μ' : Mem) (ad' : Nat → Nat), oc = .returned (v.map Value.int) ∧ post v sh' μ' ∧ n0 ≤ sh'.length ∧ (∀ i, (i < n0 ∨ sh'.length ≤ i) → ad' i = ad0 i) ∧ va_P D vwCl (cz cI cS ad' sh' μ') t.heap ∧ va_D A (cz cI cS ad' sh' μ')) ∧ va_F A st t
def Ev (own : String) (cc : ByteArray) (nL : Nat) (ret : Option FieldType) (ini : Bool) (d mc ms : Nat) (post : Option Int32 → List Shp → Mem → Prop) (pc : Nat) (loc : List (Option Value)) (stk : List Value) (sh : List Shp) (μ : Mem) (nc ns : Nat) : Prop :=
  ∀ (p : Program) (l : Launch) (e : Env) (R : Room) (s : State) (m : MethodId) (args : Array Value) (below : List Frame) (meth : Method) (c : Code) (D : va_G) (cI cS : ClassId) (A : Nat → Prop) (ad0 : Nat → Nat) (n0 : Nat) (tt : Int64 → Nat),
    Cx own cc nL ret ini d mc ms p R s m args meth c D cI cS A tt →
    ∀ (ad : Nat → Nat) (H : Heap) (locs : List Loc) (ls : Array Slot), n0 ≤ sh.length → (∀ i, (i < n0 ∨ sh.length ≤ i) → ad i = ad0 i) →
      va_P D vwCl (cz cI cS ad sh μ) H → va_D A (cz cI cS ad sh μ) → va_S A s.heap H locs → lv_has ls nL (lps ad tt 0 loc) →
      W p l e R s m args below meth c H locs nc ns (MQ below (QC D cI cS A ad0 n0 post) args s mc ms A) (F0 m pc ls (stk.map (vmp ad tt)))
variable {own : String} {cc : ByteArray} {nL : Nat} {ret : Option FieldType} {ini : Bool} {d mc ms : Nat} {post : Option Int32 → List Shp → Mem → Prop} {pc : Nat} {loc : List (Option Value)} {stk : List Value} {sh : List Shp} {μ : Mem} {nc ns : Nat}

theorem ev_iadd {x y : Int32} (hdq : decode cc pc = .ok (.iadd, 1))  (k : Ev own cc nL ret ini d mc ms post (pc + 1) loc (.int (x + y) :: stk) sh μ nc ns) : Ev own cc nL ret ini d mc ms post pc loc (.int y :: .int x :: stk) sh μ nc ns := by
  intro p l e R s m args below meth c D cI cS A ad0 n0 tt C ad H locs ls h1 h2 hP hD hS hl
  exact lv_iadd C.1 C.2.1 hdq (k p l e R s m args below meth c D cI cS A ad0 n0 tt C ad H locs ls h1 h2 hP hD hS hl)
theorem ev_isub {x y : Int32} (hdq : decode cc pc = .ok (.isub, 1))  (k : Ev own cc nL ret ini d mc ms post (pc + 1) loc (.int (x - y) :: stk) sh μ nc ns) : Ev own cc nL ret ini d mc ms post pc loc (.int y :: .int x :: stk) sh μ nc ns := by
  intro p l e R s m args below meth c D cI cS A ad0 n0 tt C ad H locs ls h1 h2 hP hD hS hl
  exact lv_isub C.1 C.2.1 hdq (k p l e R s m args below meth c D cI cS A ad0 n0 tt C ad H locs ls h1 h2 hP hD hS hl)
theorem ev_imul {x y : Int32} (hdq : decode cc pc = .ok (.imul, 1))  (k : Ev own cc nL ret ini d mc ms post (pc + 1) loc (.int (x * y) :: stk) sh μ nc ns) : Ev own cc nL ret ini d mc ms post pc loc (.int y :: .int x :: stk) sh μ nc ns := by
  intro p l e R s m args below meth c D cI cS A ad0 n0 tt C ad H locs ls h1 h2 hP hD hS hl
  exact lv_imul C.1 C.2.1 hdq (k p l e R s m args below meth c D cI cS A ad0 n0 tt C ad H locs ls h1 h2 hP hD hS hl)
theorem ev_iand {x y : Int32} (hdq : decode cc pc = .ok (.iand, 1))  (k : Ev own cc nL ret ini d mc ms post (pc + 1) loc (.int (x &&& y) :: stk) sh μ nc ns) : Ev own cc nL ret ini d mc ms post pc loc (.int y :: .int x :: stk) sh μ nc ns := by
  intro p l e R s m args below meth c D cI cS A ad0 n0 tt C ad H locs ls h1 h2 hP hD hS hl
  exact lv_iand C.1 C.2.1 hdq (k p l e R s m args below meth c D cI cS A ad0 n0 tt C ad H locs ls h1 h2 hP hD hS hl)
theorem ev_ior {x y : Int32} (hdq : decode cc pc = .ok (.ior, 1))  (k : Ev own cc nL ret ini d mc ms post (pc + 1) loc (.int (x ||| y) :: stk) sh μ nc ns) : Ev own cc nL ret ini d mc ms post pc loc (.int y :: .int x :: stk) sh μ nc ns := by
  intro p l e R s m args below meth c D cI cS A ad0 n0 tt C ad H locs ls h1 h2 hP hD hS hl
  exact lv_ior C.1 C.2.1 hdq (k p l e R s m args below meth c D cI cS A ad0 n0 tt C ad H locs ls h1 h2 hP hD hS hl)
theorem ev_ixor {x y : Int32} (hdq : decode cc pc = .ok (.ixor, 1))  (k : Ev own cc nL ret ini d mc ms post (pc + 1) loc (.int (x ^^^ y) :: stk) sh μ nc ns) : Ev own cc nL ret ini d mc ms post pc loc (.int y :: .int x :: stk) sh μ nc ns := by
  intro p l e R s m args below meth c D cI cS A ad0 n0 tt C ad H locs ls h1 h2 hP hD hS hl
  exact lv_ixor C.1 C.2.1 hdq (k p l e R s m args below meth c D cI cS A ad0 n0 tt C ad H locs ls h1 h2 hP hD hS hl)
theorem ev_ishl {x y : Int32} (hdq : decode cc pc = .ok (.ishl, 1))  (k : Ev own cc nL ret ini d mc ms post (pc + 1) loc (.int (sl x y) :: stk) sh μ nc ns) : Ev own cc nL ret ini d mc ms post pc loc (.int y :: .int x :: stk) sh μ nc ns := by
  intro p l e R s m args below meth c D cI cS A ad0 n0 tt C ad H locs ls h1 h2 hP hD hS hl
  exact lv_ishl C.1 C.2.1 hdq (k p l e R s m args below meth c D cI cS A ad0 n0 tt C ad H locs ls h1 h2 hP hD hS hl)
theorem ev_ishr {x y : Int32} (hdq : decode cc pc = .ok (.ishr, 1))  (k : Ev own cc nL ret ini d mc ms post (pc + 1) loc (.int (sr x y) :: stk) sh μ nc ns) : Ev own cc nL ret ini d mc ms post pc loc (.int y :: .int x :: stk) sh μ nc ns := by
  intro p l e R s m args below meth c D cI cS A ad0 n0 tt C ad H locs ls h1 h2 hP hD hS hl
  exact lv_ishr C.1 C.2.1 hdq (k p l e R s m args below meth c D cI cS A ad0 n0 tt C ad H locs ls h1 h2 hP hD hS hl)
theorem ev_idiv {x y : Int32}  (hdq : decode cc pc = .ok (.idiv, 1)) (hne : ¬ y = 0) (k : Ev own cc nL ret ini d mc ms post (pc + 1) loc (.int (x / y) :: stk) sh μ nc ns) : Ev own cc nL ret ini d mc ms post pc loc (.int y :: .int x :: stk) sh μ nc ns := by
  intro p l e R s m args below meth c D cI cS A ad0 n0 tt C ad H locs ls h1 h2 hP hD hS hl
  exact lv_idiv C.1 C.2.1 hdq hne (k p l e R s m args below meth c D cI cS A ad0 n0 tt C ad H locs ls h1 h2 hP hD hS hl)
theorem ev_irem {x y : Int32}  (hdq : decode cc pc = .ok (.irem, 1)) (hne : ¬ y = 0) (k : Ev own cc nL ret ini d mc ms post (pc + 1) loc (.int (irm x y) :: stk) sh μ nc ns) : Ev own cc nL ret ini d mc ms post pc loc (.int y :: .int x :: stk) sh μ nc ns := by
  intro p l e R s m args below meth c D cI cS A ad0 n0 tt C ad H locs ls h1 h2 hP hD hS hl
  exact lv_irem C.1 C.2.1 hdq hne (k p l e R s m args below meth c D cI cS A ad0 n0 tt C ad H locs ls h1 h2 hP hD hS hl)
theorem ev_iushr {x y : Int32} (hdq : decode cc pc = .ok (.iushr, 1))  (k : Ev own cc nL ret ini d mc ms post (pc + 1) loc (.int (su x y) :: stk) sh μ nc ns) : Ev own cc nL ret ini d mc ms post pc loc (.int y :: .int x :: stk) sh μ nc ns := by
  intro p l e R s m args below meth c D cI cS A ad0 n0 tt C ad H locs ls h1 h2 hP hD hS hl
  exact lv_iushr C.1 C.2.1 hdq rfl (k p l e R s m args below meth c D cI cS A ad0 n0 tt C ad H locs ls h1 h2 hP hD hS hl)
theorem ev_ineg {x : Int32} (hdq : decode cc pc = .ok (.ineg, 1))  (k : Ev own cc nL ret ini d mc ms post (pc + 1) loc (.int (-x) :: stk) sh μ nc ns) : Ev own cc nL ret ini d mc ms post pc loc (.int x :: stk) sh μ nc ns := by
  intro p l e R s m args below meth c D cI cS A ad0 n0 tt C ad H locs ls h1 h2 hP hD hS hl
  exact lv_ineg C.1 C.2.1 hdq (k p l e R s m args below meth c D cI cS A ad0 n0 tt C ad H locs ls h1 h2 hP hD hS hl)
theorem ev_iconst {n : Int} {v : Int32}  (hdq : decode cc pc = .ok (.iconst n, 1)) (hv : Int32.ofInt n = v) (k : Ev own cc nL ret ini d mc ms post (pc + 1) loc (.int v :: stk) sh μ nc ns) : Ev own cc nL ret ini d mc ms post pc loc (stk) sh μ nc ns := by
  intro p l e R s m args below meth c D cI cS A ad0 n0 tt C ad H locs ls h1 h2 hP hD hS hl
  exact lv_iconst C.1 C.2.1 hdq hv (k p l e R s m args below meth c D cI cS A ad0 n0 tt C ad H locs ls h1 h2 hP hD hS hl)
theorem ev_bipush {n : Int} {v : Int32}  (hdq : decode cc pc = .ok (.bipush n, 2)) (hv : (Int8.ofInt n).toInt32 = v) (k : Ev own cc nL ret ini d mc ms post (pc + 2) loc (.int v :: stk) sh μ nc ns) : Ev own cc nL ret ini d mc ms post pc loc (stk) sh μ nc ns := by
  intro p l e R s m args below meth c D cI cS A ad0 n0 tt C ad H locs ls h1 h2 hP hD hS hl
  exact lv_bipush C.1 C.2.1 hdq hv (k p l e R s m args below meth c D cI cS A ad0 n0 tt C ad H locs ls h1 h2 hP hD hS hl)
theorem ev_sipush {n : Int} {v : Int32}  (hdq : decode cc pc = .ok (.sipush n, 3)) (hv : (Int16.ofInt n).toInt32 = v) (k : Ev own cc nL ret ini d mc ms post (pc + 3) loc (.int v :: stk) sh μ nc ns) : Ev own cc nL ret ini d mc ms post pc loc (stk) sh μ nc ns := by
  intro p l e R s m args below meth c D cI cS A ad0 n0 tt C ad H locs ls h1 h2 hP hD hS hl
  exact lv_sipush C.1 C.2.1 hdq hv (k p l e R s m args below meth c D cI cS A ad0 n0 tt C ad H locs ls h1 h2 hP hD hS hl)
theorem ev_null  (hdq : decode cc pc = .ok (.aconst_null, 1))  (k : Ev own cc nL ret ini d mc ms post (pc + 1) loc (.null :: stk) sh μ nc ns) : Ev own cc nL ret ini d mc ms post pc loc (stk) sh μ nc ns := by
  intro p l e R s m args below meth c D cI cS A ad0 n0 tt C ad H locs ls h1 h2 hP hD hS hl
  exact lv_null C.1 C.2.1 hdq (k p l e R s m args below meth c D cI cS A ad0 n0 tt C ad H locs ls h1 h2 hP hD hS hl)
theorem ev_ldc {i : Nat} {v : Int32}  (hdq : decode cc pc = .ok (.ldc i, 2)) (hw : Cond.constant own i v ∈ TBL) (k : Ev own cc nL ret ini d mc ms post (pc + 2) loc (.int v :: stk) sh μ nc ns) : Ev own cc nL ret ini d mc ms post pc loc (stk) sh μ nc ns := by
  intro p l e R s m args below meth c D cI cS A ad0 n0 tt C ad H locs ls h1 h2 hP hD hS hl
  exact lv_ldc C.1 C.2.1 C.2.2.2.2.1 (C.2.2.2.2.2.1 _ hw) hdq (k p l e R s m args below meth c D cI cS A ad0 n0 tt C ad H locs ls h1 h2 hP hD hS hl)
theorem ev_ldcw {i : Nat} {v : Int32}  (hdq : decode cc pc = .ok (.ldc_w i, 3)) (hw : Cond.constant own i v ∈ TBL) (k : Ev own cc nL ret ini d mc ms post (pc + 3) loc (.int v :: stk) sh μ nc ns) : Ev own cc nL ret ini d mc ms post pc loc (stk) sh μ nc ns := by
  intro p l e R s m args below meth c D cI cS A ad0 n0 tt C ad H locs ls h1 h2 hP hD hS hl
  exact lv_ldcw C.1 C.2.1 C.2.2.2.2.1 (C.2.2.2.2.2.1 _ hw) hdq (k p l e R s m args below meth c D cI cS A ad0 n0 tt C ad H locs ls h1 h2 hP hD hS hl)
theorem ev_dup {v : Value}  (hdq : decode cc pc = .ok (.dup, 1)) (hv : okV v = true) (k : Ev own cc nL ret ini d mc ms post (pc + 1) loc (v :: v :: stk) sh μ nc ns) : Ev own cc nL ret ini d mc ms post pc loc (v :: stk) sh μ nc ns := by
  intro p l e R s m args below meth c D cI cS A ad0 n0 tt C ad H locs ls h1 h2 hP hD hS hl
  exact lv_dup C.1 C.2.1 hdq (okV_cat hv) (k p l e R s m args below meth c D cI cS A ad0 n0 tt C ad H locs ls h1 h2 hP hD hS hl)
theorem ev_pop {v : Value}  (hdq : decode cc pc = .ok (.pop, 1)) (hv : okV v = true) (k : Ev own cc nL ret ini d mc ms post (pc + 1) loc (stk) sh μ nc ns) : Ev own cc nL ret ini d mc ms post pc loc (v :: stk) sh μ nc ns := by
  intro p l e R s m args below meth c D cI cS A ad0 n0 tt C ad H locs ls h1 h2 hP hD hS hl
  exact lv_pop C.1 C.2.1 hdq (okV_cat hv) (k p l e R s m args below meth c D cI cS A ad0 n0 tt C ad H locs ls h1 h2 hP hD hS hl)
theorem ev_dup2 {v w : Value}  (hdq : decode cc pc = .ok (.dup2, 1)) (hv : okV v = true) (hw : okV w = true) (k : Ev own cc nL ret ini d mc ms post (pc + 1) loc (v :: w :: v :: w :: stk) sh μ nc ns) : Ev own cc nL ret ini d mc ms post pc loc (v :: w :: stk) sh μ nc ns := by
  intro p l e R s m args below meth c D cI cS A ad0 n0 tt C ad H locs ls h1 h2 hP hD hS hl
  exact lv_dup2_11 C.1 C.2.1 hdq (okV_cat hv) (okV_cat hw) (k p l e R s m args below meth c D cI cS A ad0 n0 tt C ad H locs ls h1 h2 hP hD hS hl)
theorem ev_iload {i : Nat} {x : Int32}  (hdq : decode cc pc = .ok (.iload i, 2)) (hi : loc[i]? = some (some (.int x))) (k : Ev own cc nL ret ini d mc ms post (pc + 2) loc (.int x :: stk) sh μ nc ns) : Ev own cc nL ret ini d mc ms post pc loc (stk) sh μ nc ns := by
  intro p l e R s m args below meth c D cI cS A ad0 n0 tt C ad H locs ls h1 h2 hP hD hS hl
  exact lv_iload C.1 C.2.1 hdq (lps_at hl hi) (k p l e R s m args below meth c D cI cS A ad0 n0 tt C ad H locs ls h1 h2 hP hD hS hl)
theorem ev_iload_n {i : Fin 4} {x : Int32}  (hdq : decode cc pc = .ok (.iload_n i, 1)) (hi : loc[(i : Nat)]? = some (some (.int x))) (k : Ev own cc nL ret ini d mc ms post (pc + 1) loc (.int x :: stk) sh μ nc ns) : Ev own cc nL ret ini d mc ms post pc loc (stk) sh μ nc ns := by
  intro p l e R s m args below meth c D cI cS A ad0 n0 tt C ad H locs ls h1 h2 hP hD hS hl
  exact lv_iload_n C.1 C.2.1 hdq rfl (lps_at hl hi) (k p l e R s m args below meth c D cI cS A ad0 n0 tt C ad H locs ls h1 h2 hP hD hS hl)
theorem ev_aload {i : Nat} {x : Nat}  (hdq : decode cc pc = .ok (.aload i, 2)) (hi : loc[i]? = some (some (.ref x))) (k : Ev own cc nL ret ini d mc ms post (pc + 2) loc (.ref x :: stk) sh μ nc ns) : Ev own cc nL ret ini d mc ms post pc loc (stk) sh μ nc ns := by
  intro p l e R s m args below meth c D cI cS A ad0 n0 tt C ad H locs ls h1 h2 hP hD hS hl
  exact lv_aload C.1 C.2.1 hdq (lps_at hl hi) (k p l e R s m args below meth c D cI cS A ad0 n0 tt C ad H locs ls h1 h2 hP hD hS hl)
theorem ev_aload_n {i : Fin 4} {x : Nat}  (hdq : decode cc pc = .ok (.aload_n i, 1)) (hi : loc[(i : Nat)]? = some (some (.ref x))) (k : Ev own cc nL ret ini d mc ms post (pc + 1) loc (.ref x :: stk) sh μ nc ns) : Ev own cc nL ret ini d mc ms post pc loc (stk) sh μ nc ns := by
  intro p l e R s m args below meth c D cI cS A ad0 n0 tt C ad H locs ls h1 h2 hP hD hS hl
  exact lv_aload_n C.1 C.2.1 hdq rfl (lps_at hl hi) (k p l e R s m args below meth c D cI cS A ad0 n0 tt C ad H locs ls h1 h2 hP hD hS hl)
theorem ev_aload_nN {i : Fin 4}  (hdq : decode cc pc = .ok (.aload_n i, 1)) (hi : loc[(i : Nat)]? = some (some .null)) (k : Ev own cc nL ret ini d mc ms post (pc + 1) loc (.null :: stk) sh μ nc ns) : Ev own cc nL ret ini d mc ms post pc loc (stk) sh μ nc ns := by
  intro p l e R s m args below meth c D cI cS A ad0 n0 tt C ad H locs ls h1 h2 hP hD hS hl
  exact lv_aload_nN C.1 C.2.1 hdq rfl (lps_at hl hi) (k p l e R s m args below meth c D cI cS A ad0 n0 tt C ad H locs ls h1 h2 hP hD hS hl)
theorem ev_i2c {x v : Int32}  (hdq : decode cc pc = .ok (.i2c, 1)) (hv : (x.toUInt32 % 65536).toInt32 = v) (k : Ev own cc nL ret ini d mc ms post (pc + 1) loc (.int v :: stk) sh μ nc ns) : Ev own cc nL ret ini d mc ms post pc loc (.int x :: stk) sh μ nc ns := by
  intro p l e R s m args below meth c D cI cS A ad0 n0 tt C ad H locs ls h1 h2 hP hD hS hl
  exact lv_i2c C.1 C.2.1 hdq hv (k p l e R s m args below meth c D cI cS A ad0 n0 tt C ad H locs ls h1 h2 hP hD hS hl)
theorem ev_aloadS {i : Nat} {x : Int64}  (hdq : decode cc pc = .ok (.aload i, 2)) (hi : loc[i]? = some (some (.long x))) (k : Ev own cc nL ret ini d mc ms post (pc + 2) loc (.long x :: stk) sh μ nc ns) : Ev own cc nL ret ini d mc ms post pc loc (stk) sh μ nc ns := by
  intro p l e R s m args below meth c D cI cS A ad0 n0 tt C ad H locs ls h1 h2 hP hD hS hl
  exact lv_aload C.1 C.2.1 hdq (lps_at hl hi) (k p l e R s m args below meth c D cI cS A ad0 n0 tt C ad H locs ls h1 h2 hP hD hS hl)
theorem ev_aloadS_n {i : Fin 4} {x : Int64}  (hdq : decode cc pc = .ok (.aload_n i, 1)) (hi : loc[(i : Nat)]? = some (some (.long x))) (k : Ev own cc nL ret ini d mc ms post (pc + 1) loc (.long x :: stk) sh μ nc ns) : Ev own cc nL ret ini d mc ms post pc loc (stk) sh μ nc ns := by
  intro p l e R s m args below meth c D cI cS A ad0 n0 tt C ad H locs ls h1 h2 hP hD hS hl
  exact lv_aload_n C.1 C.2.1 hdq rfl (lps_at hl hi) (k p l e R s m args below meth c D cI cS A ad0 n0 tt C ad H locs ls h1 h2 hP hD hS hl)
theorem ev_istore {i : Nat} {x : Int32} (hdq : decode cc pc = .ok (.istore i, 2)) {loc' : List (Option Value)} (hs : loc.set i (some (.int x)) = loc') (hn : i < nL) (ho : okL loc = true) (k : Ev own cc nL ret ini d mc ms post (pc + 2) loc' stk sh μ nc ns) : Ev own cc nL ret ini d mc ms post pc loc (.int x :: stk) sh μ nc ns := by
  intro p l e R s m args below meth c D cI cS A ad0 n0 tt C ad H locs ls h1 h2 hP hD hS hl
  subst hs
  exact lv_istore C.1 C.2.1 hdq hl hn rfl (fun ls' hl' => k p l e R s m args below meth c D cI cS A ad0 n0 tt C ad H locs ls' h1 h2 hP hD hS (lps_set (v := .int x) hl' (okL_cat ho)))
theorem ev_istore_n {i : Fin 4} {x : Int32} (hdq : decode cc pc = .ok (.istore_n i, 1)) {loc' : List (Option Value)} (hs : loc.set (i : Nat) (some (.int x)) = loc') (hn : (i : Nat) < nL) (ho : okL loc = true) (k : Ev own cc nL ret ini d mc ms post (pc + 1) loc' stk sh μ nc ns) : Ev own cc nL ret ini d mc ms post pc loc (.int x :: stk) sh μ nc ns := by
  intro p l e R s m args below meth c D cI cS A ad0 n0 tt C ad H locs ls h1 h2 hP hD hS hl
  subst hs
  exact lv_istore_n C.1 C.2.1 hdq rfl hl hn rfl (fun ls' hl' => k p l e R s m args below meth c D cI cS A ad0 n0 tt C ad H locs ls' h1 h2 hP hD hS (lps_set (v := .int x) hl' (okL_cat ho)))
theorem ev_astore {i : Nat} {x : Nat} (hdq : decode cc pc = .ok (.astore i, 2)) {loc' : List (Option Value)} (hs : loc.set i (some (.ref x)) = loc') (hn : i < nL) (ho : okL loc = true) (k : Ev own cc nL ret ini d mc ms post (pc + 2) loc' stk sh μ nc ns) : Ev own cc nL ret ini d mc ms post pc loc (.ref x :: stk) sh μ nc ns := by
  intro p l e R s m args below meth c D cI cS A ad0 n0 tt C ad H locs ls h1 h2 hP hD hS hl
  subst hs
  exact lv_astore C.1 C.2.1 hdq hl hn rfl (fun ls' hl' => k p l e R s m args below meth c D cI cS A ad0 n0 tt C ad H locs ls' h1 h2 hP hD hS (lps_set (v := .ref x) hl' (okL_cat ho)))
theorem ev_astore_n {i : Fin 4} {x : Nat} (hdq : decode cc pc = .ok (.astore_n i, 1)) {loc' : List (Option Value)} (hs : loc.set (i : Nat) (some (.ref x)) = loc') (hn : (i : Nat) < nL) (ho : okL loc = true) (k : Ev own cc nL ret ini d mc ms post (pc + 1) loc' stk sh μ nc ns) : Ev own cc nL ret ini d mc ms post pc loc (.ref x :: stk) sh μ nc ns := by
  intro p l e R s m args below meth c D cI cS A ad0 n0 tt C ad H locs ls h1 h2 hP hD hS hl
  subst hs
  exact lv_astore_n C.1 C.2.1 hdq rfl hl hn rfl (fun ls' hl' => k p l e R s m args below meth c D cI cS A ad0 n0 tt C ad H locs ls' h1 h2 hP hD hS (lps_set (v := .ref x) hl' (okL_cat ho)))
theorem ev_astore_nN {i : Fin 4} (hdq : decode cc pc = .ok (.astore_n i, 1)) {loc' : List (Option Value)} (hs : loc.set (i : Nat) (some (.null)) = loc') (hn : (i : Nat) < nL) (ho : okL loc = true) (k : Ev own cc nL ret ini d mc ms post (pc + 1) loc' stk sh μ nc ns) : Ev own cc nL ret ini d mc ms post pc loc (.null :: stk) sh μ nc ns := by
  intro p l e R s m args below meth c D cI cS A ad0 n0 tt C ad H locs ls h1 h2 hP hD hS hl
  subst hs
  exact lv_astore_nN C.1 C.2.1 hdq rfl hl hn rfl (fun ls' hl' => k p l e R s m args below meth c D cI cS A ad0 n0 tt C ad H locs ls' h1 h2 hP hD hS (lps_set (v := .null) hl' (okL_cat ho)))
theorem ev_astoreS {i : Nat} {x : Int64} (hdq : decode cc pc = .ok (.astore i, 2)) {loc' : List (Option Value)} (hs : loc.set i (some (.long x)) = loc') (hn : i < nL) (ho : okL loc = true) (k : Ev own cc nL ret ini d mc ms post (pc + 2) loc' stk sh μ nc ns) : Ev own cc nL ret ini d mc ms post pc loc (.long x :: stk) sh μ nc ns := by
  intro p l e R s m args below meth c D cI cS A ad0 n0 tt C ad H locs ls h1 h2 hP hD hS hl
  subst hs
  exact lv_astore C.1 C.2.1 hdq hl hn rfl (fun ls' hl' => k p l e R s m args below meth c D cI cS A ad0 n0 tt C ad H locs ls' h1 h2 hP hD hS (lps_set (v := .long x) hl' (okL_cat ho)))
theorem ev_astoreS_n {i : Fin 4} {x : Int64} (hdq : decode cc pc = .ok (.astore_n i, 1)) {loc' : List (Option Value)} (hs : loc.set (i : Nat) (some (.long x)) = loc') (hn : (i : Nat) < nL) (ho : okL loc = true) (k : Ev own cc nL ret ini d mc ms post (pc + 1) loc' stk sh μ nc ns) : Ev own cc nL ret ini d mc ms post pc loc (.long x :: stk) sh μ nc ns := by
  intro p l e R s m args below meth c D cI cS A ad0 n0 tt C ad H locs ls h1 h2 hP hD hS hl
  subst hs
  exact lv_astore_n C.1 C.2.1 hdq rfl hl hn rfl (fun ls' hl' => k p l e R s m args below meth c D cI cS A ad0 n0 tt C ad H locs ls' h1 h2 hP hD hS (lps_set (v := .long x) hl' (okL_cat ho)))
theorem ev_iinc {i : Nat} {n : Int} {x cq : Int32} (hdq : decode cc pc = .ok (.iinc i n, 3)) (hi : loc[i]? = some (some (.int x))) (hv : Int32.ofInt n = cq) {loc' : List (Option Value)} (hs : loc.set i (some (.int (x + cq))) = loc') (hn : i < nL) (ho : okL loc = true) (k : Ev own cc nL ret ini d mc ms post (pc + 3) loc' stk sh μ nc ns) : Ev own cc nL ret ini d mc ms post pc loc stk sh μ nc ns := by
  intro p l e R s m args below meth c D cI cS A ad0 n0 tt C ad H locs ls h1 h2 hP hD hS hl
  subst hs
  obtain ⟨kk, hk⟩ := List.getElem?_of_mem (mem_lps.mpr ⟨i, .int x, hi, rfl⟩ : (0 + i, vmp ad tt (.int x)) ∈ lps ad tt 0 loc)
  exact lv_iinc (k := kk) (v := x + cq) C.1 C.2.1 hdq hl (by simpa [vmp] using hk) (by rw [hv]) hn rfl (fun ls' hl' => k p l e R s m args below meth c D cI cS A ad0 n0 tt C ad H locs ls' h1 h2 hP hD hS (lps_set (v := .int (x + cq)) hl' (okL_cat ho)))
theorem ev_icmp_eq {x y : Int32} {off : Int} {tgt : Nat} (hdq : decode cc pc = .ok (.if_icmp .eq off, 3)) (ht : (pc : Int) + off = (tgt : Int)) (kt : x = y → Ev own cc nL ret ini d mc ms post tgt loc stk sh μ nc ns) (kf : ¬ x = y → Ev own cc nL ret ini d mc ms post (pc + 3) loc stk sh μ nc ns) : Ev own cc nL ret ini d mc ms post pc loc (.int y :: .int x :: stk) sh μ nc ns := by
  intro p l e R s m args below meth c D cI cS A ad0 n0 tt C ad H locs ls h1 h2 hP hD hS hl
  exact lv_icmp_eq C.1 C.2.1 hdq ht (fun q => kt q p l e R s m args below meth c D cI cS A ad0 n0 tt C ad H locs ls h1 h2 hP hD hS hl) (fun q => kf q p l e R s m args below meth c D cI cS A ad0 n0 tt C ad H locs ls h1 h2 hP hD hS hl)
theorem ev_if_eq {x : Int32} {off : Int} {tgt : Nat} (hdq : decode cc pc = .ok (.ifCond .eq off, 3)) (ht : (pc : Int) + off = (tgt : Int)) (kt : x = 0 → Ev own cc nL ret ini d mc ms post tgt loc stk sh μ nc ns) (kf : ¬ x = 0 → Ev own cc nL ret ini d mc ms post (pc + 3) loc stk sh μ nc ns) : Ev own cc nL ret ini d mc ms post pc loc (.int x :: stk) sh μ nc ns := by
  intro p l e R s m args below meth c D cI cS A ad0 n0 tt C ad H locs ls h1 h2 hP hD hS hl
  exact lv_if_eq C.1 C.2.1 hdq ht (fun q => kt q p l e R s m args below meth c D cI cS A ad0 n0 tt C ad H locs ls h1 h2 hP hD hS hl) (fun q => kf q p l e R s m args below meth c D cI cS A ad0 n0 tt C ad H locs ls h1 h2 hP hD hS hl)
theorem ev_icmp_ne {x y : Int32} {off : Int} {tgt : Nat} (hdq : decode cc pc = .ok (.if_icmp .ne off, 3)) (ht : (pc : Int) + off = (tgt : Int)) (kt : ¬ x = y → Ev own cc nL ret ini d mc ms post tgt loc stk sh μ nc ns) (kf : x = y → Ev own cc nL ret ini d mc ms post (pc + 3) loc stk sh μ nc ns) : Ev own cc nL ret ini d mc ms post pc loc (.int y :: .int x :: stk) sh μ nc ns := by
  intro p l e R s m args below meth c D cI cS A ad0 n0 tt C ad H locs ls h1 h2 hP hD hS hl
  exact lv_icmp_ne C.1 C.2.1 hdq ht (fun q => kt q p l e R s m args below meth c D cI cS A ad0 n0 tt C ad H locs ls h1 h2 hP hD hS hl) (fun q => kf q p l e R s m args below meth c D cI cS A ad0 n0 tt C ad H locs ls h1 h2 hP hD hS hl)
theorem ev_if_ne {x : Int32} {off : Int} {tgt : Nat} (hdq : decode cc pc = .ok (.ifCond .ne off, 3)) (ht : (pc : Int) + off = (tgt : Int)) (kt : ¬ x = 0 → Ev own cc nL ret ini d mc ms post tgt loc stk sh μ nc ns) (kf : x = 0 → Ev own cc nL ret ini d mc ms post (pc + 3) loc stk sh μ nc ns) : Ev own cc nL ret ini d mc ms post pc loc (.int x :: stk) sh μ nc ns := by
  intro p l e R s m args below meth c D cI cS A ad0 n0 tt C ad H locs ls h1 h2 hP hD hS hl
  exact lv_if_ne C.1 C.2.1 hdq ht (fun q => kt q p l e R s m args below meth c D cI cS A ad0 n0 tt C ad H locs ls h1 h2 hP hD hS hl) (fun q => kf q p l e R s m args below meth c D cI cS A ad0 n0 tt C ad H locs ls h1 h2 hP hD hS hl)
theorem ev_icmp_lt {x y : Int32} {off : Int} {tgt : Nat} (hdq : decode cc pc = .ok (.if_icmp .lt off, 3)) (ht : (pc : Int) + off = (tgt : Int)) (kt : x < y → Ev own cc nL ret ini d mc ms post tgt loc stk sh μ nc ns) (kf : ¬ x < y → Ev own cc nL ret ini d mc ms post (pc + 3) loc stk sh μ nc ns) : Ev own cc nL ret ini d mc ms post pc loc (.int y :: .int x :: stk) sh μ nc ns := by
  intro p l e R s m args below meth c D cI cS A ad0 n0 tt C ad H locs ls h1 h2 hP hD hS hl
  exact lv_icmp_lt C.1 C.2.1 hdq ht (fun q => kt q p l e R s m args below meth c D cI cS A ad0 n0 tt C ad H locs ls h1 h2 hP hD hS hl) (fun q => kf q p l e R s m args below meth c D cI cS A ad0 n0 tt C ad H locs ls h1 h2 hP hD hS hl)
theorem ev_if_lt {x : Int32} {off : Int} {tgt : Nat} (hdq : decode cc pc = .ok (.ifCond .lt off, 3)) (ht : (pc : Int) + off = (tgt : Int)) (kt : x < 0 → Ev own cc nL ret ini d mc ms post tgt loc stk sh μ nc ns) (kf : ¬ x < 0 → Ev own cc nL ret ini d mc ms post (pc + 3) loc stk sh μ nc ns) : Ev own cc nL ret ini d mc ms post pc loc (.int x :: stk) sh μ nc ns := by
  intro p l e R s m args below meth c D cI cS A ad0 n0 tt C ad H locs ls h1 h2 hP hD hS hl
  exact lv_if_lt C.1 C.2.1 hdq ht (fun q => kt q p l e R s m args below meth c D cI cS A ad0 n0 tt C ad H locs ls h1 h2 hP hD hS hl) (fun q => kf q p l e R s m args below meth c D cI cS A ad0 n0 tt C ad H locs ls h1 h2 hP hD hS hl)
theorem ev_icmp_ge {x y : Int32} {off : Int} {tgt : Nat} (hdq : decode cc pc = .ok (.if_icmp .ge off, 3)) (ht : (pc : Int) + off = (tgt : Int)) (kt : y ≤ x → Ev own cc nL ret ini d mc ms post tgt loc stk sh μ nc ns) (kf : ¬ y ≤ x → Ev own cc nL ret ini d mc ms post (pc + 3) loc stk sh μ nc ns) : Ev own cc nL ret ini d mc ms post pc loc (.int y :: .int x :: stk) sh μ nc ns := by
  intro p l e R s m args below meth c D cI cS A ad0 n0 tt C ad H locs ls h1 h2 hP hD hS hl
  exact lv_icmp_ge C.1 C.2.1 hdq ht (fun q => kt q p l e R s m args below meth c D cI cS A ad0 n0 tt C ad H locs ls h1 h2 hP hD hS hl) (fun q => kf q p l e R s m args below meth c D cI cS A ad0 n0 tt C ad H locs ls h1 h2 hP hD hS hl)
theorem ev_if_ge {x : Int32} {off : Int} {tgt : Nat} (hdq : decode cc pc = .ok (.ifCond .ge off, 3)) (ht : (pc : Int) + off = (tgt : Int)) (kt : 0 ≤ x → Ev own cc nL ret ini d mc ms post tgt loc stk sh μ nc ns) (kf : ¬ 0 ≤ x → Ev own cc nL ret ini d mc ms post (pc + 3) loc stk sh μ nc ns) : Ev own cc nL ret ini d mc ms post pc loc (.int x :: stk) sh μ nc ns := by
  intro p l e R s m args below meth c D cI cS A ad0 n0 tt C ad H locs ls h1 h2 hP hD hS hl
  exact lv_if_ge C.1 C.2.1 hdq ht (fun q => kt q p l e R s m args below meth c D cI cS A ad0 n0 tt C ad H locs ls h1 h2 hP hD hS hl) (fun q => kf q p l e R s m args below meth c D cI cS A ad0 n0 tt C ad H locs ls h1 h2 hP hD hS hl)
theorem ev_icmp_gt {x y : Int32} {off : Int} {tgt : Nat} (hdq : decode cc pc = .ok (.if_icmp .gt off, 3)) (ht : (pc : Int) + off = (tgt : Int)) (kt : y < x → Ev own cc nL ret ini d mc ms post tgt loc stk sh μ nc ns) (kf : ¬ y < x → Ev own cc nL ret ini d mc ms post (pc + 3) loc stk sh μ nc ns) : Ev own cc nL ret ini d mc ms post pc loc (.int y :: .int x :: stk) sh μ nc ns := by
  intro p l e R s m args below meth c D cI cS A ad0 n0 tt C ad H locs ls h1 h2 hP hD hS hl
  exact lv_icmp_gt C.1 C.2.1 hdq ht (fun q => kt q p l e R s m args below meth c D cI cS A ad0 n0 tt C ad H locs ls h1 h2 hP hD hS hl) (fun q => kf q p l e R s m args below meth c D cI cS A ad0 n0 tt C ad H locs ls h1 h2 hP hD hS hl)
theorem ev_if_gt {x : Int32} {off : Int} {tgt : Nat} (hdq : decode cc pc = .ok (.ifCond .gt off, 3)) (ht : (pc : Int) + off = (tgt : Int)) (kt : 0 < x → Ev own cc nL ret ini d mc ms post tgt loc stk sh μ nc ns) (kf : ¬ 0 < x → Ev own cc nL ret ini d mc ms post (pc + 3) loc stk sh μ nc ns) : Ev own cc nL ret ini d mc ms post pc loc (.int x :: stk) sh μ nc ns := by
  intro p l e R s m args below meth c D cI cS A ad0 n0 tt C ad H locs ls h1 h2 hP hD hS hl
  exact lv_if_gt C.1 C.2.1 hdq ht (fun q => kt q p l e R s m args below meth c D cI cS A ad0 n0 tt C ad H locs ls h1 h2 hP hD hS hl) (fun q => kf q p l e R s m args below meth c D cI cS A ad0 n0 tt C ad H locs ls h1 h2 hP hD hS hl)
theorem ev_icmp_le {x y : Int32} {off : Int} {tgt : Nat} (hdq : decode cc pc = .ok (.if_icmp .le off, 3)) (ht : (pc : Int) + off = (tgt : Int)) (kt : x ≤ y → Ev own cc nL ret ini d mc ms post tgt loc stk sh μ nc ns) (kf : ¬ x ≤ y → Ev own cc nL ret ini d mc ms post (pc + 3) loc stk sh μ nc ns) : Ev own cc nL ret ini d mc ms post pc loc (.int y :: .int x :: stk) sh μ nc ns := by
  intro p l e R s m args below meth c D cI cS A ad0 n0 tt C ad H locs ls h1 h2 hP hD hS hl
  exact lv_icmp_le C.1 C.2.1 hdq ht (fun q => kt q p l e R s m args below meth c D cI cS A ad0 n0 tt C ad H locs ls h1 h2 hP hD hS hl) (fun q => kf q p l e R s m args below meth c D cI cS A ad0 n0 tt C ad H locs ls h1 h2 hP hD hS hl)
theorem ev_if_le {x : Int32} {off : Int} {tgt : Nat} (hdq : decode cc pc = .ok (.ifCond .le off, 3)) (ht : (pc : Int) + off = (tgt : Int)) (kt : x ≤ 0 → Ev own cc nL ret ini d mc ms post tgt loc stk sh μ nc ns) (kf : ¬ x ≤ 0 → Ev own cc nL ret ini d mc ms post (pc + 3) loc stk sh μ nc ns) : Ev own cc nL ret ini d mc ms post pc loc (.int x :: stk) sh μ nc ns := by
  intro p l e R s m args below meth c D cI cS A ad0 n0 tt C ad H locs ls h1 h2 hP hD hS hl
  exact lv_if_le C.1 C.2.1 hdq ht (fun q => kt q p l e R s m args below meth c D cI cS A ad0 n0 tt C ad H locs ls h1 h2 hP hD hS hl) (fun q => kf q p l e R s m args below meth c D cI cS A ad0 n0 tt C ad H locs ls h1 h2 hP hD hS hl)
theorem ev_goto {off : Int} {tgt : Nat}  (hdq : decode cc pc = .ok (.goto off, 3)) (ht : (pc : Int) + off = (tgt : Int)) (k : Ev own cc nL ret ini d mc ms post (tgt) loc (stk) sh μ nc ns) : Ev own cc nL ret ini d mc ms post pc loc (stk) sh μ nc ns := by
  intro p l e R s m args below meth c D cI cS A ad0 n0 tt C ad H locs ls h1 h2 hP hD hS hl
  exact lv_goto C.1 C.2.1 hdq ht (k p l e R s m args below meth c D cI cS A ad0 n0 tt C ad H locs ls h1 h2 hP hD hS hl)
theorem ev_nonnull {a : Nat} {off : Int} {tgt : Nat}  (hdq : decode cc pc = .ok (.ifnonnull off, 3)) (ht : (pc : Int) + off = (tgt : Int)) (k : Ev own cc nL ret ini d mc ms post (tgt) loc (stk) sh μ nc ns) : Ev own cc nL ret ini d mc ms post pc loc (.ref a :: stk) sh μ nc ns := by
  intro p l e R s m args below meth c D cI cS A ad0 n0 tt C ad H locs ls h1 h2 hP hD hS hl
  exact lv_ifnonnull C.1 C.2.1 hdq ht (k p l e R s m args below meth c D cI cS A ad0 n0 tt C ad H locs ls h1 h2 hP hD hS hl)
theorem ev_nonnullN {off : Int} (hdq : decode cc pc = .ok (.ifnonnull off, 3))  (k : Ev own cc nL ret ini d mc ms post (pc + 3) loc (stk) sh μ nc ns) : Ev own cc nL ret ini d mc ms post pc loc (.null :: stk) sh μ nc ns := by
  intro p l e R s m args below meth c D cI cS A ad0 n0 tt C ad H locs ls h1 h2 hP hD hS hl
  exact lv_ifnonnullN C.1 C.2.1 hdq (k p l e R s m args below meth c D cI cS A ad0 n0 tt C ad H locs ls h1 h2 hP hD hS hl)
theorem ev_ifnull {a : Nat} {off : Int} (hdq : decode cc pc = .ok (.ifnull off, 3))  (k : Ev own cc nL ret ini d mc ms post (pc + 3) loc (stk) sh μ nc ns) : Ev own cc nL ret ini d mc ms post pc loc (.ref a :: stk) sh μ nc ns := by
  intro p l e R s m args below meth c D cI cS A ad0 n0 tt C ad H locs ls h1 h2 hP hD hS hl
  exact lv_ifnull C.1 C.2.1 hdq (k p l e R s m args below meth c D cI cS A ad0 n0 tt C ad H locs ls h1 h2 hP hD hS hl)
theorem ev_ifnullN {off : Int} {tgt : Nat}  (hdq : decode cc pc = .ok (.ifnull off, 3)) (ht : (pc : Int) + off = (tgt : Int)) (k : Ev own cc nL ret ini d mc ms post (tgt) loc (stk) sh μ nc ns) : Ev own cc nL ret ini d mc ms post pc loc (.null :: stk) sh μ nc ns := by
  intro p l e R s m args below meth c D cI cS A ad0 n0 tt C ad H locs ls h1 h2 hP hD hS hl
  exact lv_ifnullN C.1 C.2.1 hdq ht (k p l e R s m args below meth c D cI cS A ad0 n0 tt C ad H locs ls h1 h2 hP hD hS hl)
def tsOff (dflt lo hi : Int) (offs : Array Int) (x : Int) : Int := if x < lo ∨ hi < x then dflt else (offs[(x - lo).toNat]?).getD dflt
def tsD (x : Int32) (lo dflt : Int) : List Int → Nat → Prop
  | [], _ => True
  | o :: t, j => (o = dflt ∨ ¬ x = Int32.ofInt (lo + j)) ∧ tsD x lo dflt t (j + 1)
theorem tsD_at {x : Int32} {lo dflt : Int} : ∀ {l : List Int} {j : Nat}, tsD x lo dflt l j → ∀ {i : Nat} {o : Int}, l[i]? = some o → o = dflt ∨ ¬ x = Int32.ofInt (lo + (j + i : Nat)) := by
  intro l
  induction l with
  | nil => intro j h i o hi; simp at hi
  | cons q t ih =>
    intro j h i o hi
    cases i with
    | zero =>
      have : q = o := by simpa using hi
      subst this
      exact h.1
    | succ i =>
      have := ih h.2 (i := i) (o := o) (by simpa using hi)
      rw [show j + (i + 1) = j + 1 + i by omega]
      exact this
theorem tsOff_d {x : Int32} {dflt lo hi : Int} {offs : Array Int} (h : tsD x lo dflt offs.toList 0) : tsOff dflt lo hi offs x.toInt = dflt := by
  unfold tsOff
  split
  · rfl
  · cases ho : offs[(x.toInt - lo).toNat]? with
    | none => rfl
    | some o =>
      rcases tsD_at h (i := (x.toInt - lo).toNat) (o := o) (by rw [Array.getElem?_toList]; exact ho) with e | e
      · exact e
      · refine absurd ?_ e
        rename_i hh
        rw [show lo + ((0 + (x.toInt - lo).toNat : Nat) : Int) = x.toInt by omega]
        exact (Int32.ofInt_toInt x).symm
def lsD (x : Int32) : List (Int × Int) → Prop
  | [] => True
  | q :: t => ¬ x = Int32.ofInt q.1 ∧ lsD x t
theorem lsD_at {x : Int32} : ∀ {l : List (Int × Int)}, lsD x l → ∀ q ∈ l, ¬ q.1 = x.toInt := by
  intro l
  induction l with
  | nil => intro _ q hq; cases hq
  | cons p t ih =>
    intro h q hq e
    rcases List.mem_cons.mp hq with e2 | e2
    · subst e2
      exact h.1 (by rw [e]; exact (Int32.ofInt_toInt x).symm)
    · exact ih h.2 q e2 e
theorem lsOff_d {x : Int32} {dflt : Int} : ∀ {l : List (Int × Int)}, lsD x l → Op.lookupswitch.offset l dflt x.toInt = dflt := by
  intro l h
  have h2 := lsD_at h
  clear h
  induction l with
  | nil => rfl
  | cons q t ih =>
    have h1 := h2 q List.mem_cons_self
    have := ih (fun q hq => h2 q (List.mem_cons_of_mem _ hq))
    simp_all [Op.lookupswitch.offset]

theorem ev_ts {dflt lo hi : Int} {offs : Array Int} {len : Nat} {x : Int32} {off : Int} {tgt : Nat} (hdq : decode cc pc = .ok (.tableswitch dflt lo hi offs, len)) (hz : offs.size = (hi - lo + 1).toNat) (ho : tsOff dflt lo hi offs x.toInt = off) (ht : (pc : Int) + off = (tgt : Int)) (k : Ev own cc nL ret ini d mc ms post tgt loc stk sh μ nc ns) : Ev own cc nL ret ini d mc ms post pc loc (.int x :: stk) sh μ nc ns := by
  intro p l e R s m args below meth c D cI cS A ad0 n0 tt C ad H locs ls h1 h2 hP hD hS hl
  unfold tsOff at ho
  split at ho
  · rename_i hh
    subst ho
    exact lv_tableOut C.1 C.2.1 hdq hh ht (k p l e R s m args below meth c D cI cS A ad0 n0 tt C ad H locs ls h1 h2 hP hD hS hl)
  · rename_i hh
    have hlt : (x.toInt - lo).toNat < offs.size := by omega
    have h5 : offs[(x.toInt - lo).toNat]? = some offs[(x.toInt - lo).toNat] := by simp [hlt]
    rw [h5] at ho
    exact lv_tableIn C.1 C.2.1 hdq (fun q => hh (Or.inl q)) (fun q => hh (Or.inr q)) (by rw [h5]; exact congrArg some ho) ht (k p l e R s m args below meth c D cI cS A ad0 n0 tt C ad H locs ls h1 h2 hP hD hS hl)
theorem ev_tsC {dflt lo hi : Int} {offs : Array Int} {len : Nat} {x v : Int32} {off : Int} {tgt : Nat} (hdq : decode cc pc = .ok (.tableswitch dflt lo hi offs, len)) (hz : offs.size = (hi - lo + 1).toNat) (hx : x = v) (ho : tsOff dflt lo hi offs v.toInt = off) (ht : (pc : Int) + off = (tgt : Int)) (k : Ev own cc nL ret ini d mc ms post tgt loc stk sh μ nc ns) : Ev own cc nL ret ini d mc ms post pc loc (.int x :: stk) sh μ nc ns :=
  ev_ts hdq hz (by rw [hx]; exact ho) ht k
theorem ev_tsE {dflt lo hi : Int} {offs : Array Int} {len : Nat} {x : Int32} {tgt : Nat} (hdq : decode cc pc = .ok (.tableswitch dflt lo hi offs, len)) (hz : offs.size = (hi - lo + 1).toNat) (hx : tsD x lo dflt offs.toList 0) (ht : (pc : Int) + dflt = (tgt : Int)) (k : Ev own cc nL ret ini d mc ms post tgt loc stk sh μ nc ns) : Ev own cc nL ret ini d mc ms post pc loc (.int x :: stk) sh μ nc ns :=
  ev_ts hdq hz (tsOff_d hx) ht k
theorem ev_lsw {dflt : Int} {ps : Array (Int × Int)} {len : Nat} {x : Int32} {off : Int} {tgt : Nat}  (hdq : decode cc pc = .ok (.lookupswitch dflt ps, len)) (hp : (ps.toList.zip (ps.toList.drop 1)).all (fun (a, next) => a.1 < next.1) = true) (ho : Op.lookupswitch.offset ps.toList dflt x.toInt = off) (ht : (pc : Int) + off = (tgt : Int)) (k : Ev own cc nL ret ini d mc ms post (tgt) loc (stk) sh μ nc ns) : Ev own cc nL ret ini d mc ms post pc loc (.int x :: stk) sh μ nc ns := by
  intro p l e R s m args below meth c D cI cS A ad0 n0 tt C ad H locs ls h1 h2 hP hD hS hl
  exact lv_lookup C.1 C.2.1 hdq hp ho ht (k p l e R s m args below meth c D cI cS A ad0 n0 tt C ad H locs ls h1 h2 hP hD hS hl)
theorem ev_lsC {dflt : Int} {ps : Array (Int × Int)} {len : Nat} {x v : Int32} {off : Int} {tgt : Nat} (hdq : decode cc pc = .ok (.lookupswitch dflt ps, len)) (hp : (ps.toList.zip (ps.toList.drop 1)).all (fun (a, next) => a.1 < next.1) = true) (hx : x = v) (ho : Op.lookupswitch.offset ps.toList dflt v.toInt = off) (ht : (pc : Int) + off = (tgt : Int)) (k : Ev own cc nL ret ini d mc ms post tgt loc stk sh μ nc ns) : Ev own cc nL ret ini d mc ms post pc loc (.int x :: stk) sh μ nc ns :=
  ev_lsw hdq hp (by rw [hx]; exact ho) ht k
theorem ev_lsE {dflt : Int} {ps : Array (Int × Int)} {len : Nat} {x : Int32} {tgt : Nat} (hdq : decode cc pc = .ok (.lookupswitch dflt ps, len)) (hp : (ps.toList.zip (ps.toList.drop 1)).all (fun (a, next) => a.1 < next.1) = true) (hx : lsD x ps.toList) (ht : (pc : Int) + dflt = (tgt : Int)) (k : Ev own cc nL ret ini d mc ms post tgt loc stk sh μ nc ns) : Ev own cc nL ret ini d mc ms post pc loc (.int x :: stk) sh μ nc ns :=
  ev_lsw hdq hp (lsOff_d hx) ht k
end
