section
def pastG (a : Nat) : Nat → Option Nat := (va_up (va_up (va_up (va_up (va_up (va_up (fun _ => none) (ix (0 : Int32)) (some (a + 3))) (ix ((0 : Int32) + (1 : Int32))) (some (a + 9))) (ix (((0 : Int32) + (1 : Int32)) + (1 : Int32))) (some (a + 15))) (ix ((((0 : Int32) + (1 : Int32)) + (1 : Int32)) + (1 : Int32))) (some (a + 21))) (ix (((((0 : Int32) + (1 : Int32)) + (1 : Int32)) + (1 : Int32)) + (1 : Int32))) (some (a + 27))) (ix ((((((0 : Int32) + (1 : Int32)) + (1 : Int32)) + (1 : Int32)) + (1 : Int32)) + (1 : Int32))) (some (a + 33)))
def full_X3 (a : Nat ) : List Shp := [.inr (.inr (3, [some (some (a + 1)), some (some (a + 2)), none, none])), .inr (.inl (6, pastG a)), .inl 6, .inr (.inr (7, [some (some (a + 4)), some (some (a + 5)), some (some (a + 6)), some (some (a + 7)), some (some (a + 8)), none, none, none, none])), .inl 12, .inl 8, .inl 8, .inl 8, .inl 8, .inr (.inr (7, [some (some (a + 10)), some (some (a + 11)), some (some (a + 12)), some (some (a + 13)), some (some (a + 14)), none, none, none, none])), .inl 12, .inl 8, .inl 8, .inl 8, .inl 8, .inr (.inr (7, [some (some (a + 16)), some (some (a + 17)), some (some (a + 18)), some (some (a + 19)), some (some (a + 20)), none, none, none, none])), .inl 12, .inl 8, .inl 8, .inl 8, .inl 8, .inr (.inr (7, [some (some (a + 22)), some (some (a + 23)), some (some (a + 24)), some (some (a + 25)), some (some (a + 26)), none, none, none, none])), .inl 12, .inl 8, .inl 8, .inl 8, .inl 8, .inr (.inr (7, [some (some (a + 28)), some (some (a + 29)), some (some (a + 30)), some (some (a + 31)), some (some (a + 32)), none, none, none, none])), .inl 12, .inl 8, .inl 8, .inl 8, .inl 8, .inr (.inr (7, [some (some (a + 34)), some (some (a + 35)), some (some (a + 36)), some (some (a + 37)), some (some (a + 38)), none, none, none, none])), .inl 12, .inl 8, .inl 8, .inl 8, .inl 8]
def f_X3_init (G : Nat) (a : Nat) (μ : Mem) : Option Mem :=
  (let m1 := zr μ (a + 1)
  (let m2 := zr m1 (a + 2)
  (let m3 := zr m2 (a + 3)
  bndV (f_X8_init G (a + 3) m3) (fun m4 =>
  (let m6 := zr m4 (a + 9)
  bndV (f_X8_init G (a + 9) m6) (fun m7 =>
  (let m9 := zr m7 (a + 15)
  bndV (f_X8_init G (a + 15) m9) (fun m10 =>
  (let m12 := zr m10 (a + 21)
  bndV (f_X8_init G (a + 21) m12) (fun m13 =>
  (let m15 := zr m13 (a + 27)
  bndV (f_X8_init G (a + 27) m15) (fun m16 =>
  (let m18 := zr m16 (a + 33)
  bndV (f_X8_init G (a + 33) m18) (fun m19 =>
  some m19))))))))))))))
set_option maxHeartbeats 8000000 in
set_option maxRecDepth 100000 in
theorem c_X3_init {pre : List Shp} {G : Nat} {a : Nat} {μ : Mem} {μr : Mem} (ha : pre.length = a) (hw : wfS (pre ++ [.inr (.inr (3, [some none, some none, none, none]))])) (h : f_X3_init G a μ = some μr) : Cn yX3_init cX3_init 2 none 3 38 330 [.ref a] (pre ++ [.inr (.inr (3, [some none, some none, none, none]))]) μ (ctP (pre ++ full_X3 a) μr) := by
  refine cn_of (own := RX3) (ini := true) (loc := [some (.ref a), none]) rfl (by decide) (fun _ => rfl) (Nat.le_of_ble_eq_true rfl) (by rfl) rfl ?_
  unfold f_X3_init at h
  refine ev_aload_n dX3_init_0 rfl ?_
  refine ev_objInit ml_X3_3 w_oi1 w_oi2 dX3_init_1 (Nat.le_of_ble_eq_true rfl) (by rfl) (Nat.le_of_ble_eq_true rfl) ?_
  refine ev_aload_n dX3_init_4 rfl ?_
  refine ev_bipush (v := (6 : Int32)) dX3_init_5 (by decide) ?_
  refine ev_newqT (N := 6) (q := a + 1) (L' := [_, _]) dX3_init_7 cl_X3_9 (by decide) (by decide) (by decide) (by rw [ha]; rfl) rfl hw (okR_of (by simp only [okRl, List.length_cons, List.length_nil, and_true, Nat.lt_eq]; first | done | omega) (by simp only [okRs, List.length_cons, List.length_nil, and_true, Nat.lt_eq]; first | done | omega)) (Nat.le_of_ble_eq_true rfl) (Nat.le_of_ble_eq_true rfl) (fun hw => ?_)
  refine ev_putRT (L' := [_, _]) (k := 0) fr_X3_11 rfl rfl dX3_init_10 ha rfl rfl (fun _ => rfl) (fun _ => rfl) (by simp only [List.length_cons, List.length_nil]; omega) rfl hw (fun hw => ?_)
  refine ev_aload_n dX3_init_13 rfl ?_
  refine ev_bipush (v := (6 : Int32)) dX3_init_14 (by decide) ?_
  refine ev_newaT (N := 6) (q := a + 2) (L' := [_, _, _]) dX3_init_16 (by decide) (by decide) (by decide) (by rw [ha]; rfl) rfl hw (okR_of (by simp only [okRl, List.length_cons, List.length_nil, and_true, Nat.lt_eq]; first | done | omega) (by simp only [okRs, List.length_cons, List.length_nil, and_true, Nat.lt_eq]; first | done | omega)) (Nat.le_of_ble_eq_true rfl) (Nat.le_of_ble_eq_true rfl) (fun hw => ?_)
  refine ev_putRT (L' := [_, _, _]) (k := 0) fr_X3_17 rfl rfl dX3_init_18 ha rfl rfl (fun _ => rfl) (fun _ => rfl) (by simp only [List.length_cons, List.length_nil]; omega) rfl hw (fun hw => ?_)
  refine ev_iconst (v := (0 : Int32)) dX3_init_21 (by decide) ?_
  refine ev_istore_n (loc' := [_, _]) dX3_init_22 rfl (by decide) (by rfl) ?_
  refine ev_iload_n dX3_init_23 rfl ?_
  refine ev_bipush (v := (6 : Int32)) dX3_init_24 (by decide) ?_
  refine ev_icmp_ge (tgt := 48) dX3_init_26 (by decide) (fun q => absurd q (by decide)) (fun _ => ?_)
  refine ev_aload_n dX3_init_29 rfl ?_
  refine ev_getR fr_X3_11 (tlg (k := 0) ha rfl) rfl dX3_init_30 ?_
  refine ev_iload_n dX3_init_33 rfl ?_
  refine ev_newT (q := a + 3) (L' := [_, _, _, _]) cr_X3_9 dX3_init_34 (by rw [ha]; rfl) rfl hw (okR_of (by simp only [okRl, List.length_cons, List.length_nil, and_true, Nat.lt_eq]; first | done | omega) (by simp only [okRs, List.length_cons, List.length_nil, and_true, Nat.lt_eq]; first | done | omega)) (Nat.le_of_ble_eq_true rfl) (Nat.le_of_ble_eq_true rfl) (fun hw => ?_)
  refine ev_dup dX3_init_37 (by rfl) ?_
  obtain ⟨m4, hq5, h⟩ := bndV_t h
  refine ev_cI (L := [_, _, _]) (L' := [_, _, _, _, _, _, _, _, _]) mv_X3_21 dX3_init_38 (c_X8_init (by rw [List.length_append, ha]; rfl) (by rw [List.append_assoc]; exact hw) hq5) rfl rfl rfl rfl (Nat.le_of_ble_eq_true rfl) (by rfl) (Nat.le_of_ble_eq_true rfl) (Nat.le_of_ble_eq_true rfl) (Nat.le_of_ble_eq_true rfl) (okR_of (by simp only [okRl, List.length_cons, List.length_nil, and_true, Nat.lt_eq]; first | done | omega) (by simp only [okRs, List.length_cons, List.length_nil, and_true, Nat.lt_eq]; first | done | omega)) (fun hw => ?_)
  refine ev_aastT (L' := [_, _, _, _, _, _, _, _, _]) (k := 1) (kb := 3) dX3_init_41 ha rfl (vpl _ _ (by decide)) rfl rfl rfl hw (fun hw => ?_)
  refine ev_iinc (cq := (1 : Int32)) (loc' := [_, _]) dX3_init_42 rfl (by decide) rfl (by decide) (by rfl) ?_
  refine ev_goto (tgt := 23) dX3_init_45 (by decide) ?_
  refine ev_iload_n dX3_init_23 rfl ?_
  refine ev_bipush (v := (6 : Int32)) dX3_init_24 (by decide) ?_
  refine ev_icmp_ge (tgt := 48) dX3_init_26 (by decide) (fun q => absurd q (by decide)) (fun _ => ?_)
  refine ev_aload_n dX3_init_29 rfl ?_
  refine ev_getR fr_X3_11 (tlg (k := 0) ha rfl) rfl dX3_init_30 ?_
  refine ev_iload_n dX3_init_33 rfl ?_
  refine ev_newT (q := a + 9) (L' := [_, _, _, _, _, _, _, _, _, _]) cr_X3_9 dX3_init_34 (by rw [ha]; rfl) rfl hw (okR_of (by simp only [okRl, List.length_cons, List.length_nil, and_true, Nat.lt_eq]; first | done | omega) (by simp only [okRs, List.length_cons, List.length_nil, and_true, Nat.lt_eq]; first | done | omega)) (Nat.le_of_ble_eq_true rfl) (Nat.le_of_ble_eq_true rfl) (fun hw => ?_)
  refine ev_dup dX3_init_37 (by rfl) ?_
  obtain ⟨m7, hq8, h⟩ := bndV_t h
  refine ev_cI (L := [_, _, _, _, _, _, _, _, _]) (L' := [_, _, _, _, _, _, _, _, _, _, _, _, _, _, _]) mv_X3_21 dX3_init_38 (c_X8_init (by rw [List.length_append, ha]; rfl) (by rw [List.append_assoc]; exact hw) hq8) rfl rfl rfl rfl (Nat.le_of_ble_eq_true rfl) (by rfl) (Nat.le_of_ble_eq_true rfl) (Nat.le_of_ble_eq_true rfl) (Nat.le_of_ble_eq_true rfl) (okR_of (by simp only [okRl, List.length_cons, List.length_nil, and_true, Nat.lt_eq]; first | done | omega) (by simp only [okRs, List.length_cons, List.length_nil, and_true, Nat.lt_eq]; first | done | omega)) (fun hw => ?_)
  refine ev_aastT (L' := [_, _, _, _, _, _, _, _, _, _, _, _, _, _, _]) (k := 1) (kb := 9) dX3_init_41 ha rfl (vpl _ _ (by decide)) rfl rfl rfl hw (fun hw => ?_)
  refine ev_iinc (cq := (1 : Int32)) (loc' := [_, _]) dX3_init_42 rfl (by decide) rfl (by decide) (by rfl) ?_
  refine ev_goto (tgt := 23) dX3_init_45 (by decide) ?_
  refine ev_iload_n dX3_init_23 rfl ?_
  refine ev_bipush (v := (6 : Int32)) dX3_init_24 (by decide) ?_
  refine ev_icmp_ge (tgt := 48) dX3_init_26 (by decide) (fun q => absurd q (by decide)) (fun _ => ?_)
  refine ev_aload_n dX3_init_29 rfl ?_
  refine ev_getR fr_X3_11 (tlg (k := 0) ha rfl) rfl dX3_init_30 ?_
  refine ev_iload_n dX3_init_33 rfl ?_
  refine ev_newT (q := a + 15) (L' := [_, _, _, _, _, _, _, _, _, _, _, _, _, _, _, _]) cr_X3_9 dX3_init_34 (by rw [ha]; rfl) rfl hw (okR_of (by simp only [okRl, List.length_cons, List.length_nil, and_true, Nat.lt_eq]; first | done | omega) (by simp only [okRs, List.length_cons, List.length_nil, and_true, Nat.lt_eq]; first | done | omega)) (Nat.le_of_ble_eq_true rfl) (Nat.le_of_ble_eq_true rfl) (fun hw => ?_)
  refine ev_dup dX3_init_37 (by rfl) ?_
  obtain ⟨m10, hq11, h⟩ := bndV_t h
  refine ev_cI (L := [_, _, _, _, _, _, _, _, _, _, _, _, _, _, _]) (L' := [_, _, _, _, _, _, _, _, _, _, _, _, _, _, _, _, _, _, _, _, _]) mv_X3_21 dX3_init_38 (c_X8_init (by rw [List.length_append, ha]; rfl) (by rw [List.append_assoc]; exact hw) hq11) rfl rfl rfl rfl (Nat.le_of_ble_eq_true rfl) (by rfl) (Nat.le_of_ble_eq_true rfl) (Nat.le_of_ble_eq_true rfl) (Nat.le_of_ble_eq_true rfl) (okR_of (by simp only [okRl, List.length_cons, List.length_nil, and_true, Nat.lt_eq]; first | done | omega) (by simp only [okRs, List.length_cons, List.length_nil, and_true, Nat.lt_eq]; first | done | omega)) (fun hw => ?_)
  refine ev_aastT (L' := [_, _, _, _, _, _, _, _, _, _, _, _, _, _, _, _, _, _, _, _, _]) (k := 1) (kb := 15) dX3_init_41 ha rfl (vpl _ _ (by decide)) rfl rfl rfl hw (fun hw => ?_)
  refine ev_iinc (cq := (1 : Int32)) (loc' := [_, _]) dX3_init_42 rfl (by decide) rfl (by decide) (by rfl) ?_
  refine ev_goto (tgt := 23) dX3_init_45 (by decide) ?_
  refine ev_iload_n dX3_init_23 rfl ?_
  refine ev_bipush (v := (6 : Int32)) dX3_init_24 (by decide) ?_
  refine ev_icmp_ge (tgt := 48) dX3_init_26 (by decide) (fun q => absurd q (by decide)) (fun _ => ?_)
  refine ev_aload_n dX3_init_29 rfl ?_
  refine ev_getR fr_X3_11 (tlg (k := 0) ha rfl) rfl dX3_init_30 ?_
  refine ev_iload_n dX3_init_33 rfl ?_
  refine ev_newT (q := a + 21) (L' := [_, _, _, _, _, _, _, _, _, _, _, _, _, _, _, _, _, _, _, _, _, _]) cr_X3_9 dX3_init_34 (by rw [ha]; rfl) rfl hw (okR_of (by simp only [okRl, List.length_cons, List.length_nil, and_true, Nat.lt_eq]; first | done | omega) (by simp only [okRs, List.length_cons, List.length_nil, and_true, Nat.lt_eq]; first | done | omega)) (Nat.le_of_ble_eq_true rfl) (Nat.le_of_ble_eq_true rfl) (fun hw => ?_)
  refine ev_dup dX3_init_37 (by rfl) ?_
  obtain ⟨m13, hq14, h⟩ := bndV_t h
  refine ev_cI (L := [_, _, _, _, _, _, _, _, _, _, _, _, _, _, _, _, _, _, _, _, _]) (L' := [_, _, _, _, _, _, _, _, _, _, _, _, _, _, _, _, _, _, _, _, _, _, _, _, _, _, _]) mv_X3_21 dX3_init_38 (c_X8_init (by rw [List.length_append, ha]; rfl) (by rw [List.append_assoc]; exact hw) hq14) rfl rfl rfl rfl (Nat.le_of_ble_eq_true rfl) (by rfl) (Nat.le_of_ble_eq_true rfl) (Nat.le_of_ble_eq_true rfl) (Nat.le_of_ble_eq_true rfl) (okR_of (by simp only [okRl, List.length_cons, List.length_nil, and_true, Nat.lt_eq]; first | done | omega) (by simp only [okRs, List.length_cons, List.length_nil, and_true, Nat.lt_eq]; first | done | omega)) (fun hw => ?_)
  refine ev_aastT (L' := [_, _, _, _, _, _, _, _, _, _, _, _, _, _, _, _, _, _, _, _, _, _, _, _, _, _, _]) (k := 1) (kb := 21) dX3_init_41 ha rfl (vpl _ _ (by decide)) rfl rfl rfl hw (fun hw => ?_)
  refine ev_iinc (cq := (1 : Int32)) (loc' := [_, _]) dX3_init_42 rfl (by decide) rfl (by decide) (by rfl) ?_
  refine ev_goto (tgt := 23) dX3_init_45 (by decide) ?_
  refine ev_iload_n dX3_init_23 rfl ?_
  refine ev_bipush (v := (6 : Int32)) dX3_init_24 (by decide) ?_
  refine ev_icmp_ge (tgt := 48) dX3_init_26 (by decide) (fun q => absurd q (by decide)) (fun _ => ?_)
  refine ev_aload_n dX3_init_29 rfl ?_
  refine ev_getR fr_X3_11 (tlg (k := 0) ha rfl) rfl dX3_init_30 ?_
  refine ev_iload_n dX3_init_33 rfl ?_
  refine ev_newT (q := a + 27) (L' := [_, _, _, _, _, _, _, _, _, _, _, _, _, _, _, _, _, _, _, _, _, _, _, _, _, _, _, _]) cr_X3_9 dX3_init_34 (by rw [ha]; rfl) rfl hw (okR_of (by simp only [okRl, List.length_cons, List.length_nil, and_true, Nat.lt_eq]; first | done | omega) (by simp only [okRs, List.length_cons, List.length_nil, and_true, Nat.lt_eq]; first | done | omega)) (Nat.le_of_ble_eq_true rfl) (Nat.le_of_ble_eq_true rfl) (fun hw => ?_)
  refine ev_dup dX3_init_37 (by rfl) ?_
  obtain ⟨m16, hq17, h⟩ := bndV_t h
  refine ev_cI (L := [_, _, _, _, _, _, _, _, _, _, _, _, _, _, _, _, _, _, _, _, _, _, _, _, _, _, _]) (L' := [_, _, _, _, _, _, _, _, _, _, _, _, _, _, _, _, _, _, _, _, _, _, _, _, _, _, _, _, _, _, _, _, _]) mv_X3_21 dX3_init_38 (c_X8_init (by rw [List.length_append, ha]; rfl) (by rw [List.append_assoc]; exact hw) hq17) rfl rfl rfl rfl (Nat.le_of_ble_eq_true rfl) (by rfl) (Nat.le_of_ble_eq_true rfl) (Nat.le_of_ble_eq_true rfl) (Nat.le_of_ble_eq_true rfl) (okR_of (by simp only [okRl, List.length_cons, List.length_nil, and_true, Nat.lt_eq]; first | done | omega) (by simp only [okRs, List.length_cons, List.length_nil, and_true, Nat.lt_eq]; first | done | omega)) (fun hw => ?_)
  refine ev_aastT (L' := [_, _, _, _, _, _, _, _, _, _, _, _, _, _, _, _, _, _, _, _, _, _, _, _, _, _, _, _, _, _, _, _, _]) (k := 1) (kb := 27) dX3_init_41 ha rfl (vpl _ _ (by decide)) rfl rfl rfl hw (fun hw => ?_)
  refine ev_iinc (cq := (1 : Int32)) (loc' := [_, _]) dX3_init_42 rfl (by decide) rfl (by decide) (by rfl) ?_
  refine ev_goto (tgt := 23) dX3_init_45 (by decide) ?_
  refine ev_iload_n dX3_init_23 rfl ?_
  refine ev_bipush (v := (6 : Int32)) dX3_init_24 (by decide) ?_
  refine ev_icmp_ge (tgt := 48) dX3_init_26 (by decide) (fun q => absurd q (by decide)) (fun _ => ?_)
  refine ev_aload_n dX3_init_29 rfl ?_
  refine ev_getR fr_X3_11 (tlg (k := 0) ha rfl) rfl dX3_init_30 ?_
  refine ev_iload_n dX3_init_33 rfl ?_
  refine ev_newT (q := a + 33) (L' := [_, _, _, _, _, _, _, _, _, _, _, _, _, _, _, _, _, _, _, _, _, _, _, _, _, _, _, _, _, _, _, _, _, _]) cr_X3_9 dX3_init_34 (by rw [ha]; rfl) rfl hw (okR_of (by simp only [okRl, List.length_cons, List.length_nil, and_true, Nat.lt_eq]; first | done | omega) (by simp only [okRs, List.length_cons, List.length_nil, and_true, Nat.lt_eq]; first | done | omega)) (Nat.le_of_ble_eq_true rfl) (Nat.le_of_ble_eq_true rfl) (fun hw => ?_)
  refine ev_dup dX3_init_37 (by rfl) ?_
  obtain ⟨m19, hq20, h⟩ := bndV_t h
  refine ev_cI (L := [_, _, _, _, _, _, _, _, _, _, _, _, _, _, _, _, _, _, _, _, _, _, _, _, _, _, _, _, _, _, _, _, _]) (L' := [_, _, _, _, _, _, _, _, _, _, _, _, _, _, _, _, _, _, _, _, _, _, _, _, _, _, _, _, _, _, _, _, _, _, _, _, _, _, _]) mv_X3_21 dX3_init_38 (c_X8_init (by rw [List.length_append, ha]; rfl) (by rw [List.append_assoc]; exact hw) hq20) rfl rfl rfl rfl (Nat.le_of_ble_eq_true rfl) (by rfl) (Nat.le_of_ble_eq_true rfl) (Nat.le_of_ble_eq_true rfl) (Nat.le_of_ble_eq_true rfl) (okR_of (by simp only [okRl, List.length_cons, List.length_nil, and_true, Nat.lt_eq]; first | done | omega) (by simp only [okRs, List.length_cons, List.length_nil, and_true, Nat.lt_eq]; first | done | omega)) (fun hw => ?_)
  refine ev_aastT (L' := [_, _, _, _, _, _, _, _, _, _, _, _, _, _, _, _, _, _, _, _, _, _, _, _, _, _, _, _, _, _, _, _, _, _, _, _, _, _, _]) (k := 1) (kb := 33) dX3_init_41 ha rfl (vpl _ _ (by decide)) rfl rfl rfl hw (fun hw => ?_)
  refine ev_iinc (cq := (1 : Int32)) (loc' := [_, _]) dX3_init_42 rfl (by decide) rfl (by decide) (by rfl) ?_
  refine ev_goto (tgt := 23) dX3_init_45 (by decide) ?_
  refine ev_iload_n dX3_init_23 rfl ?_
  refine ev_bipush (v := (6 : Int32)) dX3_init_24 (by decide) ?_
  refine ev_icmp_ge (tgt := 48) dX3_init_26 (by decide) (fun _ => ?_) (fun q => absurd (by decide) q)
  exact ev_vret rfl (Nat.le_of_ble_eq_true rfl) (Nat.le_of_ble_eq_true rfl) dX3_init_48 (ctP_i hw h)
end
