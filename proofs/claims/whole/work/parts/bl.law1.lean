section
theorem tb1 (w : Cond) (h : w ∈ tables_1_1) : w ∈ lw_tbl := List.mem_append_right _ (show w ∈ tables_1 from (List.mem_append_left _ h))
theorem tb2 (w : Cond) (h : w ∈ tables_1_2) : w ∈ lw_tbl := List.mem_append_right _ (show w ∈ tables_1 from (List.mem_append_right _ (List.mem_append_left _ h)))
theorem tb3 (w : Cond) (h : w ∈ tables_1_3) : w ∈ lw_tbl := List.mem_append_right _ (show w ∈ tables_1 from (List.mem_append_right _ (List.mem_append_right _ (List.mem_append_left _ h))))
theorem tb4 (w : Cond) (h : w ∈ tables_1_4) : w ∈ lw_tbl := List.mem_append_right _ (show w ∈ tables_1 from (List.mem_append_right _ (List.mem_append_right _ (List.mem_append_right _ (List.mem_append_left _ h)))))
theorem tb5 (w : Cond) (h : w ∈ tables_1_5) : w ∈ lw_tbl := List.mem_append_right _ (show w ∈ tables_1 from (List.mem_append_right _ (List.mem_append_right _ (List.mem_append_right _ (List.mem_append_right _ (List.mem_append_left _ h))))))
theorem tb6 (w : Cond) (h : w ∈ tables_1_6) : w ∈ lw_tbl := List.mem_append_right _ (show w ∈ tables_1 from (List.mem_append_right _ (List.mem_append_right _ (List.mem_append_right _ (List.mem_append_right _ (List.mem_append_right _ (List.mem_append_left _ h)))))))
theorem tb7 (w : Cond) (h : w ∈ tables_1_7) : w ∈ lw_tbl := List.mem_append_right _ (show w ∈ tables_1 from (List.mem_append_right _ (List.mem_append_right _ (List.mem_append_right _ (List.mem_append_right _ (List.mem_append_right _ (List.mem_append_right _ (List.mem_append_left _ h))))))))
theorem tb8 (w : Cond) (h : w ∈ tables_1_8) : w ∈ lw_tbl := List.mem_append_right _ (show w ∈ tables_1 from (List.mem_append_right _ (List.mem_append_right _ (List.mem_append_right _ (List.mem_append_right _ (List.mem_append_right _ (List.mem_append_right _ (List.mem_append_right _ (List.mem_append_left _ h)))))))))
theorem tb9 (w : Cond) (h : w ∈ tables_1_9) : w ∈ lw_tbl := List.mem_append_right _ (show w ∈ tables_1 from (List.mem_append_right _ (List.mem_append_right _ (List.mem_append_right _ (List.mem_append_right _ (List.mem_append_right _ (List.mem_append_right _ (List.mem_append_right _ (List.mem_append_right _ h)))))))))
theorem known_of {s : State} {a : Array Value} (hts : ∀ w ∈ TBL, w.before a s = true) {own : String} {idx ci N : Nat} {fs : List (Option (Option Nat))} (h : CR own idx ci N fs) : ∃ q : ClassId × (Nat → Nat), ∀ r : vw_C, vwCl[ci]? = some r → u_Kn s r.1 r.2.1 r.2.2 q.1 q.2 := by
  obtain ⟨C, T, tyf, g1, g2, g3, g4, g5, -⟩ := h
  obtain ⟨cC, iS, k⟩ := u_known (C := C) (T := T) (N := N) (n := N) hts g2 (hts _ g5)
  refine ⟨(cC, iS), fun r hr => ?_⟩
  cases g1.symm.trans hr
  exact k
theorem knowns {s : State} {a : Array Value} (hts : ∀ w ∈ TBL, w.before a s = true) : ∃ (dC : Nat → ClassId) (dI : Nat → Nat → Nat), ∀ (k : Nat) (r : vw_C), vwCl[k]? = some r → u_Kn s r.1 r.2.1 r.2.2 (dC k) (dI k) := by
  have h : ∀ k : Nat, ∃ q : ClassId × (Nat → Nat), ∀ r : vw_C, vwCl[k]? = some r → u_Kn s r.1 r.2.1 r.2.2 q.1 q.2 := by
    intro k
    match k with
    | 0 => exact known_of hts cr_X11_9
    | 1 => exact known_of hts cr_X0_34
    | 2 => exact known_of hts cr_X0_41
    | 3 => exact known_of hts cr_X11_23
    | 4 => exact known_of hts cr_X11_46
    | 5 => exact known_of hts cr_X11_16
    | 6 => exact known_of hts cr_X11_30
    | 7 => exact known_of hts cr_X0_9
    | 8 => exact known_of hts cr_X11_53
    | 9 => exact known_of hts cr_L_7
    | 10 => exact known_of hts cr_L_10
    | k + 11 => exact ⟨(0, fun _ => 0), fun r hr => by simp [vwCl] at hr⟩
  obtain ⟨f, hf⟩ := Classical.axiomOfChoice h
  exact ⟨fun k => (f k).1, fun k => (f k).2, hf⟩
theorem tys_of {s : State} {a : Array Value} (hts : ∀ w ∈ lw_tbl, w.before a s = true) (htT : ∀ w ∈ TBL, w.before a s = true) : ∃ cI cS : ClassId, ∀ (k : Nat) (q : ClassId × FieldType), (tysK cI cS)[k]? = some q → ArrOfT s q.1 q.2 ∧ va_RA s q.1 q.2 := by
  obtain ⟨cI, kI, compI, e1, e2, e3⟩ := Cond.arrayClass_spec (htT _ w_arrI)
  obtain ⟨comp, cS, kS, f1, f2, f3, f4, f5⟩ := Cond.arrayOver_spec (hts (.arrayOver (.object RX8)) (tb2 _ (List.mem_of_getElem? (i := 73) rfl)))
  refine ⟨cI, cS, fun k q hq => ?_⟩
  match k, hq with
  | 0, hq => cases hq; exact ⟨fun N z => ⟨(fun k h => by cases h), kI, e2, compI, e3⟩, e1⟩
  | 1, hq => cases hq; exact ⟨fun N z => ⟨(fun k h => by cases h), kS, f3, comp, f4⟩, kS, comp, f3, f4, f1, f5⟩
  | k + 2, hq => simp [tysK] at hq
theorem nst_of {s : State} {a : Array Value} (hts : ∀ w ∈ lw_tbl, w.before a s = true) : ∀ q ∈ NST, va_Nw (.methodLinkNest q.1 q.2.1 q.2.2.1 q.2.2.2) s := by
  unfold NST
  exact (List.forall_mem_cons.mpr ⟨va_Nw.of rfl (hts _ (tb1 _ (List.mem_of_getElem? (i := 32) rfl))), (List.forall_mem_cons.mpr ⟨va_Nw.of rfl (hts _ (tb1 _ (List.mem_of_getElem? (i := 95) rfl))), (List.forall_mem_cons.mpr ⟨va_Nw.of rfl (hts _ (tb2 _ (List.mem_of_getElem? (i := 18) rfl))), (List.forall_mem_cons.mpr ⟨va_Nw.of rfl (hts _ (tb2 _ (List.mem_of_getElem? (i := 147) rfl))), (List.forall_mem_cons.mpr ⟨va_Nw.of rfl (hts _ (tb2 _ (List.mem_of_getElem? (i := 207) rfl))), (List.forall_mem_cons.mpr ⟨va_Nw.of rfl (hts _ (tb2 _ (List.mem_of_getElem? (i := 223) rfl))), (List.forall_mem_cons.mpr ⟨va_Nw.of rfl (hts _ (tb3 _ (List.mem_of_getElem? (i := 7) rfl))), (List.forall_mem_cons.mpr ⟨va_Nw.of rfl (hts _ (tb3 _ (List.mem_of_getElem? (i := 35) rfl))), (List.forall_mem_cons.mpr ⟨va_Nw.of rfl (hts _ (tb3 _ (List.mem_of_getElem? (i := 67) rfl))), (List.forall_mem_cons.mpr ⟨va_Nw.of rfl (hts _ (tb3 _ (List.mem_of_getElem? (i := 102) rfl))), (List.forall_mem_cons.mpr ⟨va_Nw.of rfl (hts _ (tb3 _ (List.mem_of_getElem? (i := 236) rfl))), (List.forall_mem_cons.mpr ⟨va_Nw.of rfl (hts _ (tb4 _ (List.mem_of_getElem? (i := 120) rfl))), (List.forall_mem_cons.mpr ⟨va_Nw.of rfl (hts _ (tb4 _ (List.mem_of_getElem? (i := 205) rfl))), (List.forall_mem_cons.mpr ⟨va_Nw.of rfl (hts _ (tb4 _ (List.mem_of_getElem? (i := 224) rfl))), (List.forall_mem_cons.mpr ⟨va_Nw.of rfl (hts _ (tb4 _ (List.mem_of_getElem? (i := 227) rfl))), (List.forall_mem_cons.mpr ⟨va_Nw.of rfl (hts _ (tb5 _ (List.mem_of_getElem? (i := 12) rfl))), (List.forall_mem_cons.mpr ⟨va_Nw.of rfl (hts _ (tb5 _ (List.mem_of_getElem? (i := 67) rfl))), (List.forall_mem_cons.mpr ⟨va_Nw.of rfl (hts _ (tb5 _ (List.mem_of_getElem? (i := 72) rfl))), (List.forall_mem_cons.mpr ⟨va_Nw.of rfl (hts _ (tb5 _ (List.mem_of_getElem? (i := 171) rfl))), (fun _ h => absurd h List.not_mem_nil)⟩)⟩)⟩)⟩)⟩)⟩)⟩)⟩)⟩)⟩)⟩)⟩)⟩)⟩)⟩)⟩)⟩)⟩)⟩)
abbrev gvC : Cond := Jvm.Cond.and given_1 narrow_1
theorem gv_f : ∀ j, j < 8 → Cond.eq (.elem (.static RX6 "FACTORIALS" "[I") (.int (Int32.ofNat j))) (.int (facT j)) ∈ flatC gvC := by decide +kernel
theorem gv_o : ∀ j, j < 6 → Cond.eq (.elem (.static RX6 "ORDERS" "[I") (.int (Int32.ofNat j))) (.int (ordT j)) ∈ flatC gvC := by decide +kernel
theorem gv_fa : Cond.arrayOf (.static RX6 "FACTORIALS" "[I") .int ∈ flatC gvC := by decide +kernel
theorem gv_oa : Cond.arrayOf (.static RX6 "ORDERS" "[I") .int ∈ flatC gvC := by decide +kernel
theorem gv_fl : Cond.eq (.length (.static RX6 "FACTORIALS" "[I")) (.int (Int32.ofNat 8)) ∈ flatC gvC := by decide +kernel
theorem gv_ol : Cond.eq (.length (.static RX6 "ORDERS" "[I")) (.int (Int32.ofNat 6)) ∈ flatC gvC := by decide +kernel
theorem gv_cs : Cond.eq (.static RJ0 "COMPACT_STRINGS" "Z") (.int 1) ∈ flatC gvC := by decide +kernel
theorem gv_si : Cond.isRef (.static RJ3 "SIOOBE_FORMATTER" "Ljava/util/function/BiFunction;") ∈ flatC gvC := by decide +kernel
abbrev tmK : Term := .string RX5 115
theorem gv_kx : Cond.exactly tmK "java/lang/String" ∈ flatC gvC := by decide +kernel
theorem gv_kc : Cond.eq (.field tmK "java/lang/String" "coder" "B") (.int 0) ∈ flatC gvC := by decide +kernel
theorem gv_ka : Cond.arrayOf (.field tmK "java/lang/String" "value" "[B") .byte ∈ flatC gvC := by decide +kernel
theorem gv_kl : Cond.eq (.length (.field tmK "java/lang/String" "value" "[B")) (.int (Int32.ofNat 131)) ∈ flatC gvC := by decide +kernel
theorem gv_ke : ∀ j, j < 131 → Cond.eq (.elem (.field tmK "java/lang/String" "value" "[B") (.int (Int32.ofNat j))) (.int (keyB.getD j 0)) ∈ flatC gvC := by decide +kernel
/-- what the machine is at the law: the tables, the statics -/
def LX (p : Program) (s : State) (m : MethodId) (meth : Method) (c : Code) (b L : Nat) (xs : Nat → Int32) (D : va_G) (cI cS : ClassId) (tt : Int64 → Nat) : Prop :=
  p.tables.exec = Jvm.exec ∧ c.code = code ∧ meth.sig.returnType = ret ∧ c.maxLocals = 4 ∧ s.vm.findClass RL = some m.cls ∧ (∀ w ∈ TBL, w.before #[Value.ref b] s = true) ∧ va_X b L xs s s.heap ∧ b < s.heap.size ∧ meth.locks = false ∧ va_K D vwCl (tysK cI cS) s ∧ NW tt s ∧ ST tt (fun q : Nat => s.heap.size ≤ q) s s.heap
theorem lx_of {p : Program} {s : State} {m : MethodId} {meth : Method} {c : Code} {b L : Nat} {xs : Nat → Int32} (C0 : lw_At p s m meth c b L xs) : ∃ (D : va_G) (cI cS : ClassId) (tt : Int64 → Nat), LX p s m meth c b L xs D cI cS tt := by
  obtain ⟨hx, hb, hr, hml, hown, hts, hX, hbl, hlocks, hgv⟩ := C0
  have htT : ∀ w ∈ TBL, w.before #[Value.ref b] s = true := fun w hw => hts w (List.mem_filter.mp hw).1
  have hs := flat_of_before _ hgv
  have hA : ∀ a : Nat, a < s.heap.size → ¬ (fun q : Nat => s.heap.size ≤ q) a := fun a h => Nat.not_le.mpr h
  obtain ⟨dC, dI, hK1⟩ := knowns htT
  obtain ⟨cI, cS, hK2⟩ := tys_of hts htT
  obtain ⟨t0, ht0, hT0⟩ := va_Tof (tm := .static RX6 "FACTORIALS" "[I") (ty := .int) (N := 8) (f := fun j => .int (facT j)) (A := fun q : Nat => s.heap.size ≤ q) (by decide) (hs _ gv_fa) (va_eqt (hs _ gv_fl)) (fun j hj => va_eqt (hs _ (gv_f j hj))) hA
  obtain ⟨t1, ht1, hT1⟩ := va_Tof (tm := .static RX6 "ORDERS" "[I") (ty := .int) (N := 6) (f := fun j => .int (ordT j)) (A := fun q : Nat => s.heap.size ≤ q) (by decide) (hs _ gv_oa) (va_eqt (hs _ gv_ol)) (fun j hj => va_eqt (hs _ (gv_o j hj))) hA
  have hi6 := hts (.initialized RX6) (tb1 _ (List.mem_of_getElem? (i := 21) rfl))
  have hZ0 := va_Zof (hts (.laysStatic RX6 "FACTORIALS" "[I") (tb5 _ (List.mem_of_getElem? (i := 145) rfl))) hi6 ht0 hA
  have hZ1 := va_Zof (hts (.laysStatic RX6 "ORDERS" "[I") (tb5 _ (List.mem_of_getElem? (i := 132) rfl))) hi6 ht1 hA
  obtain ⟨adK, adV, hSt, hEv⟩ := vk_Sof (N := 1) (tm := fun _ => tmK) (len := [131]) (byt := [keyB]) (A := fun q : Nat => s.heap.size ≤ q) (fun i hi => by rw [show i = 0 by omega]; decide) (fun i _ => hs _ gv_kx) (fun i _ => hs _ gv_kc) (fun i _ => hs _ gv_ka) (fun i hi => by rw [show i = 0 by omega]; exact hs _ gv_kl) (fun i hi j hj => by rw [show i = 0 by omega] at hj ⊢; exact hs _ (gv_ke j hj)) (fun i j h1 h2 h3 => absurd (by omega : i = j) h3) hA
  have hZc := va_Zof (hts (.laysStatic RJ0 "COMPACT_STRINGS" "Z") (tb3 _ (List.mem_of_getElem? (i := 193) rfl))) (hts (.initialized RJ0) (tb1 _ (List.mem_of_getElem? (i := 16) rfl))) (va_eqi (hs _ gv_cs)) hA
  have hZq := va_Zqof (hts (.laysStatic RJ3 "SIOOBE_FORMATTER" "Ljava/util/function/BiFunction;") (tb3 _ (List.mem_of_getElem? (i := 209) rfl))) (hts (.initialized RJ3) (tb1 _ (List.mem_of_getElem? (i := 18) rfl))) (hs _ gv_si) hA
  obtain ⟨t4, hZq⟩ : ∃ t4 : Nat, va_Z RJ3 "SIOOBE_FORMATTER" "Ljava/util/function/BiFunction;" .null (fun q : Nat => s.heap.size ≤ q) s s.heap ∨ va_Z RJ3 "SIOOBE_FORMATTER" "Ljava/util/function/BiFunction;" (.ref t4) (fun q : Nat => s.heap.size ≤ q) s s.heap := by
    rcases hZq with h | ⟨t, h⟩
    · exact ⟨0, Or.inl h⟩
    · exact ⟨t, Or.inr h⟩
  let tt : Int64 → Nat := fun k => if k = 0 then t0 else if k = 1 then t1 else if k = 2 then adK 0 else if k = 3 then adV 0 else t4
  have q0 : tt 0 = t0 := rfl
  have q1 : tt 1 = t1 := rfl
  have q2 : tt 2 = adK 0 := rfl
  have q3 : tt 3 = adV 0 := rfl
  have q4 : tt 4 = t4 := rfl
  refine ⟨(dC, dI), cI, cS, tt, hx, hb, hr, hml, hown, htT, hX, hbl, hlocks, ⟨hK1, hK2⟩, ⟨nst_of hts, va_AO.of (hts (.arrayOver (.object RX8)) (tb2 _ (List.mem_of_getElem? (i := 73) rfl))), ?_⟩, ?_⟩
  · rw [q2]
    exact vk_R.of (hts (.stringRef RX5 115 keyT) (tb3 _ (List.mem_of_getElem? (i := 183) rfl))) (hEv 0 (by decide))
  · refine ⟨⟨by rw [q0]; exact hZ0, by rw [q0]; exact hT0⟩, ⟨by rw [q1]; exact hZ1, by rw [q1]; exact hT1⟩, ?_, hZc, by rw [q4]; exact hZq⟩
    rw [q2, q3]
    refine ⟨fun i hi => ?_, fun i j hi hj _ => by omega⟩
    have := hSt.1 i hi
    rw [show i = 0 by omega] at this ⊢
    exact this
end
