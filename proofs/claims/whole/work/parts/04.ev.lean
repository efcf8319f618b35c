section
abbrev tysK (cI cS : ClassId) : List (ClassId × FieldType) := [(cI, .int), (cS, .object RX8)]
def rmK (d mc ms : Nat) : Room := { frames := d, cells := mc, slots := ms, locals := 64 * d }
def keyB : List Int32 := [121, 101, 115, 32, 99, 111, 117, 110, 116, 115, 32, 106, 111, 121, 32, 119, 104, 101, 110, 32, 111, 114, 32, 97, 110, 100, 32, 110, 111, 116, 32, 115, 116, 101, 112, 32, 104, 101, 97, 114, 116, 32, 114, 111, 116, 101, 32, 115, 104, 101, 32, 115, 97, 105, 100, 32, 113, 117, 101, 115, 116, 105, 111, 110, 32, 112, 108, 97, 99, 101, 32, 110, 101, 114, 118, 101, 32, 121, 101, 97, 114, 32, 99, 104, 105, 108, 100, 114, 101, 110, 32, 103, 108, 97, 100, 32, 97, 115, 107, 32, 105, 110, 32, 119, 101, 100, 32, 99, 111, 117, 103, 104, 32, 112, 97, 114, 116, 32, 119, 111, 109, 97, 110, 32, 115, 105, 115, 116, 101, 114, 32]
def keyT : String := "yes counts joy when or and not step heart rote she said question place nerve year children glad ask in wed cough part woman sister "
def facT : Nat → Int32 := fun j => ([1, 1, 2, 6, 24, 120, 720, 5040] : List Int32).getD j 0
def ordT : Nat → Int32 := fun j => ([12, 21, 102, 120, 201, 210] : List Int32).getD j 0
/-- the statics that nobody writes: tt 0 FACTORIALS, tt 1 ORDERS, tt 2 the text of KEYWORDS, tt 3 its bytes -/
def ST (tt : Int64 → Nat) (A : Nat → Prop) (U : State) (H : Heap) : Prop :=
  (va_Z RX6 "FACTORIALS" "[I" (.ref (tt 0)) A U H ∧ va_T .int (tt 0) 8 (fun j => .int (facT j)) A U H) ∧
  (va_Z RX6 "ORDERS" "[I" (.ref (tt 1)) A U H ∧ va_T .int (tt 1) 6 (fun j => .int (ordT j)) A U H) ∧
  vk_S 1 [131] [keyB] (fun _ => tt 2) (fun _ => tt 3) A U H ∧
  va_Z RJ0 "COMPACT_STRINGS" "Z" (.int 1) A U H ∧ va_Zq RJ3 "SIOOBE_FORMATTER" "Ljava/util/function/BiFunction;" A U H
/-- what stands in the tables beside the words of TBL -/
def NW (tt : Int64 → Nat) (U : State) : Prop :=
  (∀ q ∈ NST, va_Nw (.methodLinkNest q.1 q.2.1 q.2.2.1 q.2.2.2) U) ∧ va_AO RX8 U ∧ vk_R RX5 115 keyT (tt 2) U
theorem ST.moved {tt : Int64 → Nat} {A : Nat → Prop} {u U : State} {H : Heap} (hvm : u.vm.Alike U.vm) (h : ST tt A u H) : ST tt A U H :=
  ⟨⟨h.1.1.moved hvm, h.1.2.moved hvm⟩, ⟨h.2.1.1.moved hvm, h.2.1.2.moved hvm⟩, h.2.2.1.moved hvm, h.2.2.2.1.moved hvm, h.2.2.2.2.moved hvm⟩
theorem ST.kept {tt : Int64 → Nat} {A : Nat → Prop} {U : State} {H H1 : Heap} (h : ST tt A U H) (hq : ∀ a : Nat, a < H.size → ¬ A a → H1[a]? = H[a]?) : ST tt A U H1 :=
  ⟨⟨h.1.1.kept hq, h.1.2.kept hq⟩, ⟨h.2.1.1.kept hq, h.2.1.2.kept hq⟩, h.2.2.1.kept hq, h.2.2.2.1.kept hq, h.2.2.2.2.kept hq⟩
theorem ST.narrow {tt : Int64 → Nat} {A B : Nat → Prop} {U : State} {H : Heap} (h : ST tt A U H) (hAB : ∀ q, B q → A q) : ST tt B U H :=
  ⟨⟨h.1.1.narrow hAB, h.1.2.narrow hAB⟩, ⟨h.2.1.1.narrow hAB, h.2.1.2.narrow hAB⟩, h.2.2.1.narrow hAB, h.2.2.2.1.narrow hAB, h.2.2.2.2.narrow hAB⟩
theorem NW.warm {tt : Int64 → Nat} {s U : State} (hW : s.WarmedH U.vm) (h : NW tt s) : NW tt U :=
  ⟨fun q hq => va_Nw.warmM hW (h.1 q hq), va_AO.moved hW.alike h.2.1, h.2.2.warm hW⟩
theorem NW.same {tt : Int64 → Nat} {u U : State} (hv : U.vm = u.vm) (h : NW tt u) : NW tt U :=
  ⟨fun q hq => (h.1 q hq).same rfl hv.symm, va_AO.moved (by rw [hv]; exact Vm.Alike.refl _) h.2.1, h.2.2.same hv⟩

def Cx (own : String) (cc : ByteArray) (nL : Nat) (ret : Option FieldType) (ini : Bool) (d mc ms : Nat) (p : Program) (R : Room) (s : State) (m : MethodId) (args : Array Value) (meth : Method) (c : Code) (D : va_G) (cI cS : ClassId) (A : Nat → Prop) (tt : Int64 → Nat) : Prop :=
  p.tables.exec = Jvm.exec ∧ c.code = cc ∧ meth.sig.returnType = ret ∧ c.maxLocals = nL ∧ s.vm.findClass own = some m.cls ∧ (∀ w ∈ TBL, w.before args s = true) ∧ meth.locks = false ∧ (ini = true → meth.name = "<init>") ∧ R = rmK d mc ms ∧ (∀ q, s.heap.size ≤ q → A q) ∧ va_K D vwCl (tysK cI cS) s ∧ NW tt s ∧ ST tt A s s.heap
def QC (D : va_G) (cI cS : ClassId) (A : Nat → Prop) (ad0 : Nat → Nat) (n0 : Nat) (post : Option Int32 → List Shp → Mem → Prop) : Array Value → State → Outcome → State → Prop := fun _ st oc t =>
  (∃ (v : Option Int32) (sh' : List Shp) (μ' : Mem) (ad' : Nat → Nat), oc = .returned (v.map Value.int) ∧ post v sh' μ' ∧ n0 ≤ sh'.length ∧ (∀ i, (i < n0 ∨ sh'.length ≤ i) → ad' i = ad0 i) ∧ va_P D vwCl (cz cI cS ad' sh' μ') t.heap ∧ va_D A (cz cI cS ad' sh' μ')) ∧ va_F A st t
def Ev (own : String) (cc : ByteArray) (nL : Nat) (ret : Option FieldType) (ini : Bool) (d mc ms : Nat) (post : Option Int32 → List Shp → Mem → Prop) (pc : Nat) (loc : List (Option Value)) (stk : List Value) (sh : List Shp) (μ : Mem) (nc ns : Nat) : Prop :=
  ∀ (p : Program) (l : Launch) (e : Env) (R : Room) (s : State) (m : MethodId) (args : Array Value) (below : List Frame) (meth : Method) (c : Code) (D : va_G) (cI cS : ClassId) (A : Nat → Prop) (ad0 : Nat → Nat) (n0 : Nat) (tt : Int64 → Nat),
    Cx own cc nL ret ini d mc ms p R s m args meth c D cI cS A tt →
    ∀ (ad : Nat → Nat) (H : Heap) (locs : List Loc) (ls : Array Slot), n0 ≤ sh.length → (∀ i, (i < n0 ∨ sh.length ≤ i) → ad i = ad0 i) →
      va_P D vwCl (cz cI cS ad sh μ) H → va_D A (cz cI cS ad sh μ) → va_S A s.heap H locs → lv_has ls nL (lps ad tt 0 loc) →
      W p l e R s m args below meth c H locs nc ns (MQ below (QC D cI cS A ad0 n0 post) args s mc ms A) (F0 m pc ls (stk.map (vmp ad tt)))
variable {own : String} {cc : ByteArray} {nL : Nat} {ret : Option FieldType} {ini : Bool} {d mc ms : Nat} {post : Option Int32 → List Shp → Mem → Prop} {pc : Nat} {loc : List (Option Value)} {stk : List Value} {sh : List Shp} {μ : Mem} {nc ns : Nat}

theorem ev_iadd {x y : Int32} (hd : decode cc pc = .ok (.iadd, 1)) (k : Ev own cc nL ret ini d mc ms post (pc + 1) loc (.int (x + y) :: stk) sh μ nc ns) : Ev own cc nL ret ini d mc ms post pc loc (.int y :: .int x :: stk) sh μ nc ns := by
  intro p l e R s m args below meth c D cI cS A ad0 n0 tt C ad H locs ls h1 h2 hP hD hS hl
  exact lv_iadd C.1 C.2.1 hd (k p l e R s m args below meth c D cI cS A ad0 n0 tt C ad H locs ls h1 h2 hP hD hS hl)
theorem ev_isub {x y : Int32} (hd : decode cc pc = .ok (.isub, 1)) (k : Ev own cc nL ret ini d mc ms post (pc + 1) loc (.int (x - y) :: stk) sh μ nc ns) : Ev own cc nL ret ini d mc ms post pc loc (.int y :: .int x :: stk) sh μ nc ns := by
  intro p l e R s m args below meth c D cI cS A ad0 n0 tt C ad H locs ls h1 h2 hP hD hS hl
  exact lv_isub C.1 C.2.1 hd (k p l e R s m args below meth c D cI cS A ad0 n0 tt C ad H locs ls h1 h2 hP hD hS hl)
theorem ev_imul {x y : Int32} (hd : decode cc pc = .ok (.imul, 1)) (k : Ev own cc nL ret ini d mc ms post (pc + 1) loc (.int (x * y) :: stk) sh μ nc ns) : Ev own cc nL ret ini d mc ms post pc loc (.int y :: .int x :: stk) sh μ nc ns := by
  intro p l e R s m args below meth c D cI cS A ad0 n0 tt C ad H locs ls h1 h2 hP hD hS hl
  exact lv_imul C.1 C.2.1 hd (k p l e R s m args below meth c D cI cS A ad0 n0 tt C ad H locs ls h1 h2 hP hD hS hl)
theorem ev_iand {x y : Int32} (hd : decode cc pc = .ok (.iand, 1)) (k : Ev own cc nL ret ini d mc ms post (pc + 1) loc (.int (x &&& y) :: stk) sh μ nc ns) : Ev own cc nL ret ini d mc ms post pc loc (.int y :: .int x :: stk) sh μ nc ns := by
  intro p l e R s m args below meth c D cI cS A ad0 n0 tt C ad H locs ls h1 h2 hP hD hS hl
  exact lv_iand C.1 C.2.1 hd (k p l e R s m args below meth c D cI cS A ad0 n0 tt C ad H locs ls h1 h2 hP hD hS hl)
theorem ev_ior {x y : Int32} (hd : decode cc pc = .ok (.ior, 1)) (k : Ev own cc nL ret ini d mc ms post (pc + 1) loc (.int (x ||| y) :: stk) sh μ nc ns) : Ev own cc nL ret ini d mc ms post pc loc (.int y :: .int x :: stk) sh μ nc ns := by
  intro p l e R s m args below meth c D cI cS A ad0 n0 tt C ad H locs ls h1 h2 hP hD hS hl
  exact lv_ior C.1 C.2.1 hd (k p l e R s m args below meth c D cI cS A ad0 n0 tt C ad H locs ls h1 h2 hP hD hS hl)
theorem ev_ixor {x y : Int32} (hd : decode cc pc = .ok (.ixor, 1)) (k : Ev own cc nL ret ini d mc ms post (pc + 1) loc (.int (x ^^^ y) :: stk) sh μ nc ns) : Ev own cc nL ret ini d mc ms post pc loc (.int y :: .int x :: stk) sh μ nc ns := by
  intro p l e R s m args below meth c D cI cS A ad0 n0 tt C ad H locs ls h1 h2 hP hD hS hl
  exact lv_ixor C.1 C.2.1 hd (k p l e R s m args below meth c D cI cS A ad0 n0 tt C ad H locs ls h1 h2 hP hD hS hl)
theorem ev_ishl {x y : Int32} (hd : decode cc pc = .ok (.ishl, 1)) (k : Ev own cc nL ret ini d mc ms post (pc + 1) loc (.int (x <<< (y &&& 31)) :: stk) sh μ nc ns) : Ev own cc nL ret ini d mc ms post pc loc (.int y :: .int x :: stk) sh μ nc ns := by
  intro p l e R s m args below meth c D cI cS A ad0 n0 tt C ad H locs ls h1 h2 hP hD hS hl
  exact lv_ishl C.1 C.2.1 hd (k p l e R s m args below meth c D cI cS A ad0 n0 tt C ad H locs ls h1 h2 hP hD hS hl)
theorem ev_ishr {x y : Int32} (hd : decode cc pc = .ok (.ishr, 1)) (k : Ev own cc nL ret ini d mc ms post (pc + 1) loc (.int (x >>> (y &&& 31)) :: stk) sh μ nc ns) : Ev own cc nL ret ini d mc ms post pc loc (.int y :: .int x :: stk) sh μ nc ns := by
  intro p l e R s m args below meth c D cI cS A ad0 n0 tt C ad H locs ls h1 h2 hP hD hS hl
  exact lv_ishr C.1 C.2.1 hd (k p l e R s m args below meth c D cI cS A ad0 n0 tt C ad H locs ls h1 h2 hP hD hS hl)
theorem ev_idiv {x y : Int32} (hne : ¬ y = 0) (hd : decode cc pc = .ok (.idiv, 1)) (k : Ev own cc nL ret ini d mc ms post (pc + 1) loc (.int (x / y) :: stk) sh μ nc ns) : Ev own cc nL ret ini d mc ms post pc loc (.int y :: .int x :: stk) sh μ nc ns := by
  intro p l e R s m args below meth c D cI cS A ad0 n0 tt C ad H locs ls h1 h2 hP hD hS hl
  exact lv_idiv C.1 C.2.1 hd hne (k p l e R s m args below meth c D cI cS A ad0 n0 tt C ad H locs ls h1 h2 hP hD hS hl)
theorem ev_irem {x y : Int32} (hne : ¬ y = 0) (hd : decode cc pc = .ok (.irem, 1)) (k : Ev own cc nL ret ini d mc ms post (pc + 1) loc (.int (x - x / y * y) :: stk) sh μ nc ns) : Ev own cc nL ret ini d mc ms post pc loc (.int y :: .int x :: stk) sh μ nc ns := by
  intro p l e R s m args below meth c D cI cS A ad0 n0 tt C ad H locs ls h1 h2 hP hD hS hl
  exact lv_irem C.1 C.2.1 hd hne (k p l e R s m args below meth c D cI cS A ad0 n0 tt C ad H locs ls h1 h2 hP hD hS hl)
theorem ev_iushr {x y v : Int32} (hv : (x.toUInt32 >>> (y.toUInt32 &&& Int32.toUInt32 31)).toInt32 = v) (hd : decode cc pc = .ok (.iushr, 1)) (k : Ev own cc nL ret ini d mc ms post (pc + 1) loc (.int v :: stk) sh μ nc ns) : Ev own cc nL ret ini d mc ms post pc loc (.int y :: .int x :: stk) sh μ nc ns := by
  intro p l e R s m args below meth c D cI cS A ad0 n0 tt C ad H locs ls h1 h2 hP hD hS hl
  exact lv_iushr C.1 C.2.1 hd hv (k p l e R s m args below meth c D cI cS A ad0 n0 tt C ad H locs ls h1 h2 hP hD hS hl)
theorem ev_ineg {x : Int32} (hd : decode cc pc = .ok (.ineg, 1)) (k : Ev own cc nL ret ini d mc ms post (pc + 1) loc (.int (-x) :: stk) sh μ nc ns) : Ev own cc nL ret ini d mc ms post pc loc (.int x :: stk) sh μ nc ns := by
  intro p l e R s m args below meth c D cI cS A ad0 n0 tt C ad H locs ls h1 h2 hP hD hS hl
  exact lv_ineg C.1 C.2.1 hd (k p l e R s m args below meth c D cI cS A ad0 n0 tt C ad H locs ls h1 h2 hP hD hS hl)
theorem ev_iconst {n : Int} {v : Int32} (hv : Int32.ofInt n = v) (hd : decode cc pc = .ok (.iconst n, 1)) (k : Ev own cc nL ret ini d mc ms post (pc + 1) loc (.int v :: stk) sh μ nc ns) : Ev own cc nL ret ini d mc ms post pc loc (stk) sh μ nc ns := by
  intro p l e R s m args below meth c D cI cS A ad0 n0 tt C ad H locs ls h1 h2 hP hD hS hl
  exact lv_iconst C.1 C.2.1 hd hv (k p l e R s m args below meth c D cI cS A ad0 n0 tt C ad H locs ls h1 h2 hP hD hS hl)
theorem ev_bipush {n : Int} {v : Int32} (hv : (Int8.ofInt n).toInt32 = v) (hd : decode cc pc = .ok (.bipush n, 2)) (k : Ev own cc nL ret ini d mc ms post (pc + 2) loc (.int v :: stk) sh μ nc ns) : Ev own cc nL ret ini d mc ms post pc loc (stk) sh μ nc ns := by
  intro p l e R s m args below meth c D cI cS A ad0 n0 tt C ad H locs ls h1 h2 hP hD hS hl
  exact lv_bipush C.1 C.2.1 hd hv (k p l e R s m args below meth c D cI cS A ad0 n0 tt C ad H locs ls h1 h2 hP hD hS hl)
theorem ev_sipush {n : Int} {v : Int32} (hv : (Int16.ofInt n).toInt32 = v) (hd : decode cc pc = .ok (.sipush n, 3)) (k : Ev own cc nL ret ini d mc ms post (pc + 3) loc (.int v :: stk) sh μ nc ns) : Ev own cc nL ret ini d mc ms post pc loc (stk) sh μ nc ns := by
  intro p l e R s m args below meth c D cI cS A ad0 n0 tt C ad H locs ls h1 h2 hP hD hS hl
  exact lv_sipush C.1 C.2.1 hd hv (k p l e R s m args below meth c D cI cS A ad0 n0 tt C ad H locs ls h1 h2 hP hD hS hl)
theorem ev_null  (hd : decode cc pc = .ok (.aconst_null, 1)) (k : Ev own cc nL ret ini d mc ms post (pc + 1) loc (.null :: stk) sh μ nc ns) : Ev own cc nL ret ini d mc ms post pc loc (stk) sh μ nc ns := by
  intro p l e R s m args below meth c D cI cS A ad0 n0 tt C ad H locs ls h1 h2 hP hD hS hl
  exact lv_null C.1 C.2.1 hd (k p l e R s m args below meth c D cI cS A ad0 n0 tt C ad H locs ls h1 h2 hP hD hS hl)
theorem ev_ldc {i : Nat} {v : Int32} (hw : Cond.constant own i v ∈ TBL) (hd : decode cc pc = .ok (.ldc i, 2)) (k : Ev own cc nL ret ini d mc ms post (pc + 2) loc (.int v :: stk) sh μ nc ns) : Ev own cc nL ret ini d mc ms post pc loc (stk) sh μ nc ns := by
  intro p l e R s m args below meth c D cI cS A ad0 n0 tt C ad H locs ls h1 h2 hP hD hS hl
  exact lv_ldc C.1 C.2.1 C.2.2.2.2.1 (C.2.2.2.2.2.1 _ hw) hd (k p l e R s m args below meth c D cI cS A ad0 n0 tt C ad H locs ls h1 h2 hP hD hS hl)
theorem ev_ldcw {i : Nat} {v : Int32} (hw : Cond.constant own i v ∈ TBL) (hd : decode cc pc = .ok (.ldc_w i, 3)) (k : Ev own cc nL ret ini d mc ms post (pc + 3) loc (.int v :: stk) sh μ nc ns) : Ev own cc nL ret ini d mc ms post pc loc (stk) sh μ nc ns := by
  intro p l e R s m args below meth c D cI cS A ad0 n0 tt C ad H locs ls h1 h2 hP hD hS hl
  exact lv_ldcw C.1 C.2.1 C.2.2.2.2.1 (C.2.2.2.2.2.1 _ hw) hd (k p l e R s m args below meth c D cI cS A ad0 n0 tt C ad H locs ls h1 h2 hP hD hS hl)
theorem ev_dup {v : Value} (hv : okV v = true) (hd : decode cc pc = .ok (.dup, 1)) (k : Ev own cc nL ret ini d mc ms post (pc + 1) loc (v :: v :: stk) sh μ nc ns) : Ev own cc nL ret ini d mc ms post pc loc (v :: stk) sh μ nc ns := by
  intro p l e R s m args below meth c D cI cS A ad0 n0 tt C ad H locs ls h1 h2 hP hD hS hl
  exact lv_dup C.1 C.2.1 hd (okV_cat hv) (k p l e R s m args below meth c D cI cS A ad0 n0 tt C ad H locs ls h1 h2 hP hD hS hl)
theorem ev_pop {v : Value} (hv : okV v = true) (hd : decode cc pc = .ok (.pop, 1)) (k : Ev own cc nL ret ini d mc ms post (pc + 1) loc (stk) sh μ nc ns) : Ev own cc nL ret ini d mc ms post pc loc (v :: stk) sh μ nc ns := by
  intro p l e R s m args below meth c D cI cS A ad0 n0 tt C ad H locs ls h1 h2 hP hD hS hl
  exact lv_pop C.1 C.2.1 hd (okV_cat hv) (k p l e R s m args below meth c D cI cS A ad0 n0 tt C ad H locs ls h1 h2 hP hD hS hl)
theorem ev_dup2 {v w : Value} (hv : okV v = true) (hw : okV w = true) (hd : decode cc pc = .ok (.dup2, 1)) (k : Ev own cc nL ret ini d mc ms post (pc + 1) loc (v :: w :: v :: w :: stk) sh μ nc ns) : Ev own cc nL ret ini d mc ms post pc loc (v :: w :: stk) sh μ nc ns := by
  intro p l e R s m args below meth c D cI cS A ad0 n0 tt C ad H locs ls h1 h2 hP hD hS hl
  exact lv_dup2_11 C.1 C.2.1 hd (okV_cat hv) (okV_cat hw) (k p l e R s m args below meth c D cI cS A ad0 n0 tt C ad H locs ls h1 h2 hP hD hS hl)
theorem ev_iload {i : Nat} {x : Int32} (hi : loc[i]? = some (some (.int x))) (hd : decode cc pc = .ok (.iload i, 2)) (k : Ev own cc nL ret ini d mc ms post (pc + 2) loc (.int x :: stk) sh μ nc ns) : Ev own cc nL ret ini d mc ms post pc loc (stk) sh μ nc ns := by
  intro p l e R s m args below meth c D cI cS A ad0 n0 tt C ad H locs ls h1 h2 hP hD hS hl
  exact lv_iload C.1 C.2.1 hd (lps_at hl hi) (k p l e R s m args below meth c D cI cS A ad0 n0 tt C ad H locs ls h1 h2 hP hD hS hl)
theorem ev_iload_n {i : Fin 4} {x : Int32} (hi : loc[(i : Nat)]? = some (some (.int x))) (hd : decode cc pc = .ok (.iload_n i, 1)) (k : Ev own cc nL ret ini d mc ms post (pc + 1) loc (.int x :: stk) sh μ nc ns) : Ev own cc nL ret ini d mc ms post pc loc (stk) sh μ nc ns := by
  intro p l e R s m args below meth c D cI cS A ad0 n0 tt C ad H locs ls h1 h2 hP hD hS hl
  exact lv_iload_n C.1 C.2.1 hd rfl (lps_at hl hi) (k p l e R s m args below meth c D cI cS A ad0 n0 tt C ad H locs ls h1 h2 hP hD hS hl)
theorem ev_aload {i : Nat} {x : Nat} (hi : loc[i]? = some (some (.ref x))) (hd : decode cc pc = .ok (.aload i, 2)) (k : Ev own cc nL ret ini d mc ms post (pc + 2) loc (.ref x :: stk) sh μ nc ns) : Ev own cc nL ret ini d mc ms post pc loc (stk) sh μ nc ns := by
  intro p l e R s m args below meth c D cI cS A ad0 n0 tt C ad H locs ls h1 h2 hP hD hS hl
  exact lv_aload C.1 C.2.1 hd (lps_at hl hi) (k p l e R s m args below meth c D cI cS A ad0 n0 tt C ad H locs ls h1 h2 hP hD hS hl)
theorem ev_aload_n {i : Fin 4} {x : Nat} (hi : loc[(i : Nat)]? = some (some (.ref x))) (hd : decode cc pc = .ok (.aload_n i, 1)) (k : Ev own cc nL ret ini d mc ms post (pc + 1) loc (.ref x :: stk) sh μ nc ns) : Ev own cc nL ret ini d mc ms post pc loc (stk) sh μ nc ns := by
  intro p l e R s m args below meth c D cI cS A ad0 n0 tt C ad H locs ls h1 h2 hP hD hS hl
  exact lv_aload_n C.1 C.2.1 hd rfl (lps_at hl hi) (k p l e R s m args below meth c D cI cS A ad0 n0 tt C ad H locs ls h1 h2 hP hD hS hl)
theorem ev_aloadS {i : Nat} {x : Int64} (hi : loc[i]? = some (some (.long x))) (hd : decode cc pc = .ok (.aload i, 2)) (k : Ev own cc nL ret ini d mc ms post (pc + 2) loc (.long x :: stk) sh μ nc ns) : Ev own cc nL ret ini d mc ms post pc loc (stk) sh μ nc ns := by
  intro p l e R s m args below meth c D cI cS A ad0 n0 tt C ad H locs ls h1 h2 hP hD hS hl
  exact lv_aload C.1 C.2.1 hd (lps_at hl hi) (k p l e R s m args below meth c D cI cS A ad0 n0 tt C ad H locs ls h1 h2 hP hD hS hl)
theorem ev_aloadS_n {i : Fin 4} {x : Int64} (hi : loc[(i : Nat)]? = some (some (.long x))) (hd : decode cc pc = .ok (.aload_n i, 1)) (k : Ev own cc nL ret ini d mc ms post (pc + 1) loc (.long x :: stk) sh μ nc ns) : Ev own cc nL ret ini d mc ms post pc loc (stk) sh μ nc ns := by
  intro p l e R s m args below meth c D cI cS A ad0 n0 tt C ad H locs ls h1 h2 hP hD hS hl
  exact lv_aload_n C.1 C.2.1 hd rfl (lps_at hl hi) (k p l e R s m args below meth c D cI cS A ad0 n0 tt C ad H locs ls h1 h2 hP hD hS hl)
theorem ev_istore {i : Nat} {x : Int32} (hd : decode cc pc = .ok (.istore i, 2)) {loc' : List (Option Value)} (hs : loc.set i (some (.int x)) = loc') (hn : i < nL) (ho : okL loc = true) (k : Ev own cc nL ret ini d mc ms post (pc + 2) loc' stk sh μ nc ns) : Ev own cc nL ret ini d mc ms post pc loc (.int x :: stk) sh μ nc ns := by
  intro p l e R s m args below meth c D cI cS A ad0 n0 tt C ad H locs ls h1 h2 hP hD hS hl
  subst hs
  exact lv_istore C.1 C.2.1 hd hl hn rfl (fun ls' hl' => k p l e R s m args below meth c D cI cS A ad0 n0 tt C ad H locs ls' h1 h2 hP hD hS (lps_set (v := .int x) hl' (okL_cat ho)))
theorem ev_istore_n {i : Fin 4} {x : Int32} (hd : decode cc pc = .ok (.istore_n i, 1)) {loc' : List (Option Value)} (hs : loc.set (i : Nat) (some (.int x)) = loc') (hn : (i : Nat) < nL) (ho : okL loc = true) (k : Ev own cc nL ret ini d mc ms post (pc + 1) loc' stk sh μ nc ns) : Ev own cc nL ret ini d mc ms post pc loc (.int x :: stk) sh μ nc ns := by
  intro p l e R s m args below meth c D cI cS A ad0 n0 tt C ad H locs ls h1 h2 hP hD hS hl
  subst hs
  exact lv_istore_n C.1 C.2.1 hd rfl hl hn rfl (fun ls' hl' => k p l e R s m args below meth c D cI cS A ad0 n0 tt C ad H locs ls' h1 h2 hP hD hS (lps_set (v := .int x) hl' (okL_cat ho)))
theorem ev_astore {i : Nat} {x : Nat} (hd : decode cc pc = .ok (.astore i, 2)) {loc' : List (Option Value)} (hs : loc.set i (some (.ref x)) = loc') (hn : i < nL) (ho : okL loc = true) (k : Ev own cc nL ret ini d mc ms post (pc + 2) loc' stk sh μ nc ns) : Ev own cc nL ret ini d mc ms post pc loc (.ref x :: stk) sh μ nc ns := by
  intro p l e R s m args below meth c D cI cS A ad0 n0 tt C ad H locs ls h1 h2 hP hD hS hl
  subst hs
  exact lv_astore C.1 C.2.1 hd hl hn rfl (fun ls' hl' => k p l e R s m args below meth c D cI cS A ad0 n0 tt C ad H locs ls' h1 h2 hP hD hS (lps_set (v := .ref x) hl' (okL_cat ho)))
theorem ev_astore_n {i : Fin 4} {x : Nat} (hd : decode cc pc = .ok (.astore_n i, 1)) {loc' : List (Option Value)} (hs : loc.set (i : Nat) (some (.ref x)) = loc') (hn : (i : Nat) < nL) (ho : okL loc = true) (k : Ev own cc nL ret ini d mc ms post (pc + 1) loc' stk sh μ nc ns) : Ev own cc nL ret ini d mc ms post pc loc (.ref x :: stk) sh μ nc ns := by
  intro p l e R s m args below meth c D cI cS A ad0 n0 tt C ad H locs ls h1 h2 hP hD hS hl
  subst hs
  exact lv_astore_n C.1 C.2.1 hd rfl hl hn rfl (fun ls' hl' => k p l e R s m args below meth c D cI cS A ad0 n0 tt C ad H locs ls' h1 h2 hP hD hS (lps_set (v := .ref x) hl' (okL_cat ho)))
theorem ev_astoreS {i : Nat} {x : Int64} (hd : decode cc pc = .ok (.astore i, 2)) {loc' : List (Option Value)} (hs : loc.set i (some (.long x)) = loc') (hn : i < nL) (ho : okL loc = true) (k : Ev own cc nL ret ini d mc ms post (pc + 2) loc' stk sh μ nc ns) : Ev own cc nL ret ini d mc ms post pc loc (.long x :: stk) sh μ nc ns := by
  intro p l e R s m args below meth c D cI cS A ad0 n0 tt C ad H locs ls h1 h2 hP hD hS hl
  subst hs
  exact lv_astore C.1 C.2.1 hd hl hn rfl (fun ls' hl' => k p l e R s m args below meth c D cI cS A ad0 n0 tt C ad H locs ls' h1 h2 hP hD hS (lps_set (v := .long x) hl' (okL_cat ho)))
theorem ev_astoreS_n {i : Fin 4} {x : Int64} (hd : decode cc pc = .ok (.astore_n i, 1)) {loc' : List (Option Value)} (hs : loc.set (i : Nat) (some (.long x)) = loc') (hn : (i : Nat) < nL) (ho : okL loc = true) (k : Ev own cc nL ret ini d mc ms post (pc + 1) loc' stk sh μ nc ns) : Ev own cc nL ret ini d mc ms post pc loc (.long x :: stk) sh μ nc ns := by
  intro p l e R s m args below meth c D cI cS A ad0 n0 tt C ad H locs ls h1 h2 hP hD hS hl
  subst hs
  exact lv_astore_n C.1 C.2.1 hd rfl hl hn rfl (fun ls' hl' => k p l e R s m args below meth c D cI cS A ad0 n0 tt C ad H locs ls' h1 h2 hP hD hS (lps_set (v := .long x) hl' (okL_cat ho)))
theorem ev_iinc {i : Nat} {n : Int} {x v : Int32} (hi : loc[i]? = some (some (.int x))) (hv : x + Int32.ofInt n = v) (hd : decode cc pc = .ok (.iinc i n, 3)) {loc' : List (Option Value)} (hs : loc.set i (some (.int v)) = loc') (hn : i < nL) (ho : okL loc = true) (k : Ev own cc nL ret ini d mc ms post (pc + 3) loc' stk sh μ nc ns) : Ev own cc nL ret ini d mc ms post pc loc stk sh μ nc ns := by
  intro p l e R s m args below meth c D cI cS A ad0 n0 tt C ad H locs ls h1 h2 hP hD hS hl
  subst hs
  obtain ⟨kk, hk⟩ := List.getElem?_of_mem (mem_lps.mpr ⟨i, .int x, hi, rfl⟩ : (0 + i, vmp ad tt (.int x)) ∈ lps ad tt 0 loc)
  exact lv_iinc (k := kk) C.1 C.2.1 hd hl (by simpa [vmp] using hk) hv hn rfl (fun ls' hl' => k p l e R s m args below meth c D cI cS A ad0 n0 tt C ad H locs ls' h1 h2 hP hD hS (lps_set (v := .int v) hl' (okL_cat ho)))
theorem ev_icmp_eq {x y : Int32} {off : Int} {tgt : Nat} (hd : decode cc pc = .ok (.if_icmp .eq off, 3)) (ht : (pc : Int) + off = (tgt : Int)) (kt : x = y → Ev own cc nL ret ini d mc ms post tgt loc stk sh μ nc ns) (kf : ¬ x = y → Ev own cc nL ret ini d mc ms post (pc + 3) loc stk sh μ nc ns) : Ev own cc nL ret ini d mc ms post pc loc (.int y :: .int x :: stk) sh μ nc ns := by
  intro p l e R s m args below meth c D cI cS A ad0 n0 tt C ad H locs ls h1 h2 hP hD hS hl
  exact lv_icmp_eq C.1 C.2.1 hd ht (fun q => kt q p l e R s m args below meth c D cI cS A ad0 n0 tt C ad H locs ls h1 h2 hP hD hS hl) (fun q => kf q p l e R s m args below meth c D cI cS A ad0 n0 tt C ad H locs ls h1 h2 hP hD hS hl)
theorem ev_if_eq {x : Int32} {off : Int} {tgt : Nat} (hd : decode cc pc = .ok (.ifCond .eq off, 3)) (ht : (pc : Int) + off = (tgt : Int)) (kt : x = 0 → Ev own cc nL ret ini d mc ms post tgt loc stk sh μ nc ns) (kf : ¬ x = 0 → Ev own cc nL ret ini d mc ms post (pc + 3) loc stk sh μ nc ns) : Ev own cc nL ret ini d mc ms post pc loc (.int x :: stk) sh μ nc ns := by
  intro p l e R s m args below meth c D cI cS A ad0 n0 tt C ad H locs ls h1 h2 hP hD hS hl
  exact lv_if_eq C.1 C.2.1 hd ht (fun q => kt q p l e R s m args below meth c D cI cS A ad0 n0 tt C ad H locs ls h1 h2 hP hD hS hl) (fun q => kf q p l e R s m args below meth c D cI cS A ad0 n0 tt C ad H locs ls h1 h2 hP hD hS hl)
theorem ev_icmp_ne {x y : Int32} {off : Int} {tgt : Nat} (hd : decode cc pc = .ok (.if_icmp .ne off, 3)) (ht : (pc : Int) + off = (tgt : Int)) (kt : ¬ x = y → Ev own cc nL ret ini d mc ms post tgt loc stk sh μ nc ns) (kf : x = y → Ev own cc nL ret ini d mc ms post (pc + 3) loc stk sh μ nc ns) : Ev own cc nL ret ini d mc ms post pc loc (.int y :: .int x :: stk) sh μ nc ns := by
  intro p l e R s m args below meth c D cI cS A ad0 n0 tt C ad H locs ls h1 h2 hP hD hS hl
  exact lv_icmp_ne C.1 C.2.1 hd ht (fun q => kt q p l e R s m args below meth c D cI cS A ad0 n0 tt C ad H locs ls h1 h2 hP hD hS hl) (fun q => kf q p l e R s m args below meth c D cI cS A ad0 n0 tt C ad H locs ls h1 h2 hP hD hS hl)
theorem ev_if_ne {x : Int32} {off : Int} {tgt : Nat} (hd : decode cc pc = .ok (.ifCond .ne off, 3)) (ht : (pc : Int) + off = (tgt : Int)) (kt : ¬ x = 0 → Ev own cc nL ret ini d mc ms post tgt loc stk sh μ nc ns) (kf : x = 0 → Ev own cc nL ret ini d mc ms post (pc + 3) loc stk sh μ nc ns) : Ev own cc nL ret ini d mc ms post pc loc (.int x :: stk) sh μ nc ns := by
  intro p l e R s m args below meth c D cI cS A ad0 n0 tt C ad H locs ls h1 h2 hP hD hS hl
  exact lv_if_ne C.1 C.2.1 hd ht (fun q => kt q p l e R s m args below meth c D cI cS A ad0 n0 tt C ad H locs ls h1 h2 hP hD hS hl) (fun q => kf q p l e R s m args below meth c D cI cS A ad0 n0 tt C ad H locs ls h1 h2 hP hD hS hl)
theorem ev_icmp_lt {x y : Int32} {off : Int} {tgt : Nat} (hd : decode cc pc = .ok (.if_icmp .lt off, 3)) (ht : (pc : Int) + off = (tgt : Int)) (kt : x < y → Ev own cc nL ret ini d mc ms post tgt loc stk sh μ nc ns) (kf : ¬ x < y → Ev own cc nL ret ini d mc ms post (pc + 3) loc stk sh μ nc ns) : Ev own cc nL ret ini d mc ms post pc loc (.int y :: .int x :: stk) sh μ nc ns := by
  intro p l e R s m args below meth c D cI cS A ad0 n0 tt C ad H locs ls h1 h2 hP hD hS hl
  exact lv_icmp_lt C.1 C.2.1 hd ht (fun q => kt q p l e R s m args below meth c D cI cS A ad0 n0 tt C ad H locs ls h1 h2 hP hD hS hl) (fun q => kf q p l e R s m args below meth c D cI cS A ad0 n0 tt C ad H locs ls h1 h2 hP hD hS hl)
theorem ev_if_lt {x : Int32} {off : Int} {tgt : Nat} (hd : decode cc pc = .ok (.ifCond .lt off, 3)) (ht : (pc : Int) + off = (tgt : Int)) (kt : x < 0 → Ev own cc nL ret ini d mc ms post tgt loc stk sh μ nc ns) (kf : ¬ x < 0 → Ev own cc nL ret ini d mc ms post (pc + 3) loc stk sh μ nc ns) : Ev own cc nL ret ini d mc ms post pc loc (.int x :: stk) sh μ nc ns := by
  intro p l e R s m args below meth c D cI cS A ad0 n0 tt C ad H locs ls h1 h2 hP hD hS hl
  exact lv_if_lt C.1 C.2.1 hd ht (fun q => kt q p l e R s m args below meth c D cI cS A ad0 n0 tt C ad H locs ls h1 h2 hP hD hS hl) (fun q => kf q p l e R s m args below meth c D cI cS A ad0 n0 tt C ad H locs ls h1 h2 hP hD hS hl)
theorem ev_icmp_ge {x y : Int32} {off : Int} {tgt : Nat} (hd : decode cc pc = .ok (.if_icmp .ge off, 3)) (ht : (pc : Int) + off = (tgt : Int)) (kt : y ≤ x → Ev own cc nL ret ini d mc ms post tgt loc stk sh μ nc ns) (kf : ¬ y ≤ x → Ev own cc nL ret ini d mc ms post (pc + 3) loc stk sh μ nc ns) : Ev own cc nL ret ini d mc ms post pc loc (.int y :: .int x :: stk) sh μ nc ns := by
  intro p l e R s m args below meth c D cI cS A ad0 n0 tt C ad H locs ls h1 h2 hP hD hS hl
  exact lv_icmp_ge C.1 C.2.1 hd ht (fun q => kt q p l e R s m args below meth c D cI cS A ad0 n0 tt C ad H locs ls h1 h2 hP hD hS hl) (fun q => kf q p l e R s m args below meth c D cI cS A ad0 n0 tt C ad H locs ls h1 h2 hP hD hS hl)
theorem ev_if_ge {x : Int32} {off : Int} {tgt : Nat} (hd : decode cc pc = .ok (.ifCond .ge off, 3)) (ht : (pc : Int) + off = (tgt : Int)) (kt : 0 ≤ x → Ev own cc nL ret ini d mc ms post tgt loc stk sh μ nc ns) (kf : ¬ 0 ≤ x → Ev own cc nL ret ini d mc ms post (pc + 3) loc stk sh μ nc ns) : Ev own cc nL ret ini d mc ms post pc loc (.int x :: stk) sh μ nc ns := by
  intro p l e R s m args below meth c D cI cS A ad0 n0 tt C ad H locs ls h1 h2 hP hD hS hl
  exact lv_if_ge C.1 C.2.1 hd ht (fun q => kt q p l e R s m args below meth c D cI cS A ad0 n0 tt C ad H locs ls h1 h2 hP hD hS hl) (fun q => kf q p l e R s m args below meth c D cI cS A ad0 n0 tt C ad H locs ls h1 h2 hP hD hS hl)
theorem ev_icmp_gt {x y : Int32} {off : Int} {tgt : Nat} (hd : decode cc pc = .ok (.if_icmp .gt off, 3)) (ht : (pc : Int) + off = (tgt : Int)) (kt : y < x → Ev own cc nL ret ini d mc ms post tgt loc stk sh μ nc ns) (kf : ¬ y < x → Ev own cc nL ret ini d mc ms post (pc + 3) loc stk sh μ nc ns) : Ev own cc nL ret ini d mc ms post pc loc (.int y :: .int x :: stk) sh μ nc ns := by
  intro p l e R s m args below meth c D cI cS A ad0 n0 tt C ad H locs ls h1 h2 hP hD hS hl
  exact lv_icmp_gt C.1 C.2.1 hd ht (fun q => kt q p l e R s m args below meth c D cI cS A ad0 n0 tt C ad H locs ls h1 h2 hP hD hS hl) (fun q => kf q p l e R s m args below meth c D cI cS A ad0 n0 tt C ad H locs ls h1 h2 hP hD hS hl)
theorem ev_if_gt {x : Int32} {off : Int} {tgt : Nat} (hd : decode cc pc = .ok (.ifCond .gt off, 3)) (ht : (pc : Int) + off = (tgt : Int)) (kt : 0 < x → Ev own cc nL ret ini d mc ms post tgt loc stk sh μ nc ns) (kf : ¬ 0 < x → Ev own cc nL ret ini d mc ms post (pc + 3) loc stk sh μ nc ns) : Ev own cc nL ret ini d mc ms post pc loc (.int x :: stk) sh μ nc ns := by
  intro p l e R s m args below meth c D cI cS A ad0 n0 tt C ad H locs ls h1 h2 hP hD hS hl
  exact lv_if_gt C.1 C.2.1 hd ht (fun q => kt q p l e R s m args below meth c D cI cS A ad0 n0 tt C ad H locs ls h1 h2 hP hD hS hl) (fun q => kf q p l e R s m args below meth c D cI cS A ad0 n0 tt C ad H locs ls h1 h2 hP hD hS hl)
theorem ev_icmp_le {x y : Int32} {off : Int} {tgt : Nat} (hd : decode cc pc = .ok (.if_icmp .le off, 3)) (ht : (pc : Int) + off = (tgt : Int)) (kt : x ≤ y → Ev own cc nL ret ini d mc ms post tgt loc stk sh μ nc ns) (kf : ¬ x ≤ y → Ev own cc nL ret ini d mc ms post (pc + 3) loc stk sh μ nc ns) : Ev own cc nL ret ini d mc ms post pc loc (.int y :: .int x :: stk) sh μ nc ns := by
  intro p l e R s m args below meth c D cI cS A ad0 n0 tt C ad H locs ls h1 h2 hP hD hS hl
  exact lv_icmp_le C.1 C.2.1 hd ht (fun q => kt q p l e R s m args below meth c D cI cS A ad0 n0 tt C ad H locs ls h1 h2 hP hD hS hl) (fun q => kf q p l e R s m args below meth c D cI cS A ad0 n0 tt C ad H locs ls h1 h2 hP hD hS hl)
theorem ev_if_le {x : Int32} {off : Int} {tgt : Nat} (hd : decode cc pc = .ok (.ifCond .le off, 3)) (ht : (pc : Int) + off = (tgt : Int)) (kt : x ≤ 0 → Ev own cc nL ret ini d mc ms post tgt loc stk sh μ nc ns) (kf : ¬ x ≤ 0 → Ev own cc nL ret ini d mc ms post (pc + 3) loc stk sh μ nc ns) : Ev own cc nL ret ini d mc ms post pc loc (.int x :: stk) sh μ nc ns := by
  intro p l e R s m args below meth c D cI cS A ad0 n0 tt C ad H locs ls h1 h2 hP hD hS hl
  exact lv_if_le C.1 C.2.1 hd ht (fun q => kt q p l e R s m args below meth c D cI cS A ad0 n0 tt C ad H locs ls h1 h2 hP hD hS hl) (fun q => kf q p l e R s m args below meth c D cI cS A ad0 n0 tt C ad H locs ls h1 h2 hP hD hS hl)
theorem ev_goto {off : Int} {tgt : Nat} (ht : (pc : Int) + off = (tgt : Int)) (hd : decode cc pc = .ok (.goto off, 3)) (k : Ev own cc nL ret ini d mc ms post (tgt) loc (stk) sh μ nc ns) : Ev own cc nL ret ini d mc ms post pc loc (stk) sh μ nc ns := by
  intro p l e R s m args below meth c D cI cS A ad0 n0 tt C ad H locs ls h1 h2 hP hD hS hl
  exact lv_goto C.1 C.2.1 hd ht (k p l e R s m args below meth c D cI cS A ad0 n0 tt C ad H locs ls h1 h2 hP hD hS hl)
theorem ev_nonnull {a : Nat} {off : Int} {tgt : Nat} (ht : (pc : Int) + off = (tgt : Int)) (hd : decode cc pc = .ok (.ifnonnull off, 3)) (k : Ev own cc nL ret ini d mc ms post (tgt) loc (stk) sh μ nc ns) : Ev own cc nL ret ini d mc ms post pc loc (.ref a :: stk) sh μ nc ns := by
  intro p l e R s m args below meth c D cI cS A ad0 n0 tt C ad H locs ls h1 h2 hP hD hS hl
  exact lv_ifnonnull C.1 C.2.1 hd ht (k p l e R s m args below meth c D cI cS A ad0 n0 tt C ad H locs ls h1 h2 hP hD hS hl)
theorem ev_nonnullN {off : Int} (hd : decode cc pc = .ok (.ifnonnull off, 3)) (k : Ev own cc nL ret ini d mc ms post (pc + 3) loc (stk) sh μ nc ns) : Ev own cc nL ret ini d mc ms post pc loc (.null :: stk) sh μ nc ns := by
  intro p l e R s m args below meth c D cI cS A ad0 n0 tt C ad H locs ls h1 h2 hP hD hS hl
  exact lv_ifnonnullN C.1 C.2.1 hd (k p l e R s m args below meth c D cI cS A ad0 n0 tt C ad H locs ls h1 h2 hP hD hS hl)
theorem ev_ifnull {a : Nat} {off : Int} (hd : decode cc pc = .ok (.ifnull off, 3)) (k : Ev own cc nL ret ini d mc ms post (pc + 3) loc (stk) sh μ nc ns) : Ev own cc nL ret ini d mc ms post pc loc (.ref a :: stk) sh μ nc ns := by
  intro p l e R s m args below meth c D cI cS A ad0 n0 tt C ad H locs ls h1 h2 hP hD hS hl
  exact lv_ifnull C.1 C.2.1 hd (k p l e R s m args below meth c D cI cS A ad0 n0 tt C ad H locs ls h1 h2 hP hD hS hl)
theorem ev_ifnullN {off : Int} {tgt : Nat} (ht : (pc : Int) + off = (tgt : Int)) (hd : decode cc pc = .ok (.ifnull off, 3)) (k : Ev own cc nL ret ini d mc ms post (tgt) loc (stk) sh μ nc ns) : Ev own cc nL ret ini d mc ms post pc loc (.null :: stk) sh μ nc ns := by
  intro p l e R s m args below meth c D cI cS A ad0 n0 tt C ad H locs ls h1 h2 hP hD hS hl
  exact lv_ifnullN C.1 C.2.1 hd ht (k p l e R s m args below meth c D cI cS A ad0 n0 tt C ad H locs ls h1 h2 hP hD hS hl)
theorem ev_tsin {dflt lo hi : Int} {offs : Array Int} {len : Nat} {x v : Int32} {off : Int} {tgt : Nat} (hx : x = v) (g1 : ¬ v.toInt < lo) (g2 : ¬ hi < v.toInt) (ho : offs[(v.toInt - lo).toNat]? = some off) (ht : (pc : Int) + off = (tgt : Int)) (hd : decode cc pc = .ok (.tableswitch dflt lo hi offs, len)) (k : Ev own cc nL ret ini d mc ms post (tgt) loc (stk) sh μ nc ns) : Ev own cc nL ret ini d mc ms post pc loc (.int x :: stk) sh μ nc ns := by
  intro p l e R s m args below meth c D cI cS A ad0 n0 tt C ad H locs ls h1 h2 hP hD hS hl
  exact lv_tableIn C.1 C.2.1 hd (by rw [hx]; exact g1) (by rw [hx]; exact g2) (by rw [hx]; exact ho) ht (k p l e R s m args below meth c D cI cS A ad0 n0 tt C ad H locs ls h1 h2 hP hD hS hl)
theorem ev_tsout {dflt lo hi : Int} {offs : Array Int} {len : Nat} {x : Int32} {tgt : Nat} (hx : x.toInt < lo ∨ hi < x.toInt) (ht : (pc : Int) + dflt = (tgt : Int)) (hd : decode cc pc = .ok (.tableswitch dflt lo hi offs, len)) (k : Ev own cc nL ret ini d mc ms post (tgt) loc (stk) sh μ nc ns) : Ev own cc nL ret ini d mc ms post pc loc (.int x :: stk) sh μ nc ns := by
  intro p l e R s m args below meth c D cI cS A ad0 n0 tt C ad H locs ls h1 h2 hP hD hS hl
  exact lv_tableOut C.1 C.2.1 hd hx ht (k p l e R s m args below meth c D cI cS A ad0 n0 tt C ad H locs ls h1 h2 hP hD hS hl)
theorem ev_lsw {dflt : Int} {ps : Array (Int × Int)} {len : Nat} {x : Int32} {off : Int} {tgt : Nat} (hp : (ps.toList.zip (ps.toList.drop 1)).all (fun (a, next) => a.1 < next.1) = true) (ho : Op.lookupswitch.offset ps.toList dflt x.toInt = off) (ht : (pc : Int) + off = (tgt : Int)) (hd : decode cc pc = .ok (.lookupswitch dflt ps, len)) (k : Ev own cc nL ret ini d mc ms post (tgt) loc (stk) sh μ nc ns) : Ev own cc nL ret ini d mc ms post pc loc (.int x :: stk) sh μ nc ns := by
  intro p l e R s m args below meth c D cI cS A ad0 n0 tt C ad H locs ls h1 h2 hP hD hS hl
  exact lv_lookup C.1 C.2.1 hd hp ho ht (k p l e R s m args below meth c D cI cS A ad0 n0 tt C ad H locs ls h1 h2 hP hD hS hl)
end
