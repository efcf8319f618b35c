section
def full_X8 (a : Nat ) : List Shp := [.inr (.inr (7, [some (some (a + 1)), some (some (a + 2)), some (some (a + 3)), some (some (a + 4)), some (some (a + 5)), none, none, none, none])), .inl 12, .inl 8, .inl 8, .inl 8, .inl 8]
def f_X8_init (G : Nat) (a : Nat) (μ : Mem) : Option Mem :=
  (let m1 := zr μ (a + 1)
  (let m2 := zr m1 (a + 2)
  (let m3 := zr m2 (a + 3)
  (let m4 := zr m3 (a + 4)
  (let m5 := zr m4 (a + 5)
  bndV (f_J7_fill_53178 G (a + 1) 12 (-1 : Int32) m5) (fun m7 =>
  bndV (f_J7_fill_53178 G (a + 2) 8 (-1 : Int32) m7) (fun m9 =>
  some m9)))))))
set_option maxHeartbeats 8000000 in
set_option maxRecDepth 100000 in
theorem c_X8_init {pre : List Shp} {G : Nat} {a : Nat} {μ : Mem} {μr : Mem} (ha : pre.length = a) (hw : wfS (pre ++ [.inr (.inr (7, [some none, some none, some none, some none, some none, none, none, none, none]))])) (h : f_X8_init G a μ = some μr) : Cn yX8_init cX8_init 1 none 2 5 44 [.ref a] (pre ++ [.inr (.inr (7, [some none, some none, some none, some none, some none, none, none, none, none]))]) μ (ctP (pre ++ full_X8 a) μr) := by
  refine cn_of (own := RX8) (ini := true) (loc := [some (.ref a)]) rfl (by decide) (fun _ => rfl) (Nat.le_of_ble_eq_true rfl) (by rfl) rfl ?_
  unfold f_X8_init at h
  refine ev_aload_n dX8_init_0 rfl ?_
  refine ev_objInit ml_X8_3 w_oi1 w_oi2 dX8_init_1 (Nat.le_of_ble_eq_true rfl) (by rfl) (Nat.le_of_ble_eq_true rfl) ?_
  refine ev_aload_n dX8_init_4 rfl ?_
  refine ev_bipush (v := (12 : Int32)) dX8_init_5 (by decide) ?_
  refine ev_newaT (N := 12) (q := a + 1) (L' := [_, _]) dX8_init_7 (by decide) (by decide) (by decide) (by rw [ha]; rfl) rfl hw (okR_of (by simp only [okRl, List.length_cons, List.length_nil, and_true, Nat.lt_eq]; first | done | omega) (by simp only [okRs, List.length_cons, List.length_nil, and_true, Nat.lt_eq]; first | done | omega)) (Nat.le_of_ble_eq_true rfl) (Nat.le_of_ble_eq_true rfl) (fun hw => ?_)
  refine ev_putRT (L' := [_, _]) (k := 0) fr_X8_9 rfl rfl dX8_init_9 ha rfl rfl (fun _ => rfl) (fun _ => rfl) (by simp only [List.length_cons, List.length_nil]; omega) rfl hw (fun hw => ?_)
  refine ev_aload_n dX8_init_12 rfl ?_
  refine ev_bipush (v := (8 : Int32)) dX8_init_13 (by decide) ?_
  refine ev_newaT (N := 8) (q := a + 2) (L' := [_, _, _]) dX8_init_15 (by decide) (by decide) (by decide) (by rw [ha]; rfl) rfl hw (okR_of (by simp only [okRl, List.length_cons, List.length_nil, and_true, Nat.lt_eq]; first | done | omega) (by simp only [okRs, List.length_cons, List.length_nil, and_true, Nat.lt_eq]; first | done | omega)) (Nat.le_of_ble_eq_true rfl) (Nat.le_of_ble_eq_true rfl) (fun hw => ?_)
  refine ev_putRT (L' := [_, _, _]) (k := 0) fr_X8_15 rfl rfl dX8_init_17 ha rfl rfl (fun _ => rfl) (fun _ => rfl) (by simp only [List.length_cons, List.length_nil]; omega) rfl hw (fun hw => ?_)
  refine ev_aload_n dX8_init_20 rfl ?_
  refine ev_bipush (v := (8 : Int32)) dX8_init_21 (by decide) ?_
  refine ev_newaT (N := 8) (q := a + 3) (L' := [_, _, _, _]) dX8_init_23 (by decide) (by decide) (by decide) (by rw [ha]; rfl) rfl hw (okR_of (by simp only [okRl, List.length_cons, List.length_nil, and_true, Nat.lt_eq]; first | done | omega) (by simp only [okRs, List.length_cons, List.length_nil, and_true, Nat.lt_eq]; first | done | omega)) (Nat.le_of_ble_eq_true rfl) (Nat.le_of_ble_eq_true rfl) (fun hw => ?_)
  refine ev_putRT (L' := [_, _, _, _]) (k := 0) fr_X8_18 rfl rfl dX8_init_25 ha rfl rfl (fun _ => rfl) (fun _ => rfl) (by simp only [List.length_cons, List.length_nil]; omega) rfl hw (fun hw => ?_)
  refine ev_aload_n dX8_init_28 rfl ?_
  refine ev_bipush (v := (8 : Int32)) dX8_init_29 (by decide) ?_
  refine ev_newaT (N := 8) (q := a + 4) (L' := [_, _, _, _, _]) dX8_init_31 (by decide) (by decide) (by decide) (by rw [ha]; rfl) rfl hw (okR_of (by simp only [okRl, List.length_cons, List.length_nil, and_true, Nat.lt_eq]; first | done | omega) (by simp only [okRs, List.length_cons, List.length_nil, and_true, Nat.lt_eq]; first | done | omega)) (Nat.le_of_ble_eq_true rfl) (Nat.le_of_ble_eq_true rfl) (fun hw => ?_)
  refine ev_putRT (L' := [_, _, _, _, _]) (k := 0) fr_X8_21 rfl rfl dX8_init_33 ha rfl rfl (fun _ => rfl) (fun _ => rfl) (by simp only [List.length_cons, List.length_nil]; omega) rfl hw (fun hw => ?_)
  refine ev_aload_n dX8_init_36 rfl ?_
  refine ev_bipush (v := (8 : Int32)) dX8_init_37 (by decide) ?_
  refine ev_newaT (N := 8) (q := a + 5) (L' := [_, _, _, _, _, _]) dX8_init_39 (by decide) (by decide) (by decide) (by rw [ha]; rfl) rfl hw (okR_of (by simp only [okRl, List.length_cons, List.length_nil, and_true, Nat.lt_eq]; first | done | omega) (by simp only [okRs, List.length_cons, List.length_nil, and_true, Nat.lt_eq]; first | done | omega)) (Nat.le_of_ble_eq_true rfl) (Nat.le_of_ble_eq_true rfl) (fun hw => ?_)
  refine ev_putRT (L' := [_, _, _, _, _, _]) (k := 0) fr_X8_24 rfl rfl dX8_init_41 ha rfl rfl (fun _ => rfl) (fun _ => rfl) (by simp only [List.length_cons, List.length_nil]; omega) rfl hw (fun hw => ?_)
  refine ev_aload_n dX8_init_44 rfl ?_
  refine ev_getR fr_X8_9 (tlg (k := 0) ha rfl) rfl dX8_init_45 ?_
  refine ev_iconst (v := (-1 : Int32)) dX8_init_48 (by decide) ?_
  obtain ⟨m7, hq6, h⟩ := bndV_t h
  refine ev_cSv mv_X8_27 dX8_init_49 (c_J7_fill_53178 (tlg (k := 1) ha rfl) hq6) rfl rfl (Nat.le_of_ble_eq_true rfl) (by rfl) (Nat.le_of_ble_eq_true rfl) (Nat.le_of_ble_eq_true rfl) (Nat.le_of_ble_eq_true rfl) ?_
  refine ev_aload_n dX8_init_52 rfl ?_
  refine ev_getR fr_X8_15 (tlg (k := 0) ha rfl) rfl dX8_init_53 ?_
  refine ev_iconst (v := (-1 : Int32)) dX8_init_56 (by decide) ?_
  obtain ⟨m9, hq8, h⟩ := bndV_t h
  refine ev_cSv mv_X8_27 dX8_init_57 (c_J7_fill_53178 (tlg (k := 2) ha rfl) hq8) rfl rfl (Nat.le_of_ble_eq_true rfl) (by rfl) (Nat.le_of_ble_eq_true rfl) (Nat.le_of_ble_eq_true rfl) (Nat.le_of_ble_eq_true rfl) ?_
  exact ev_vret rfl (Nat.le_of_ble_eq_true rfl) (Nat.le_of_ble_eq_true rfl) dX8_init_60 (ctP_i hw h)
def full_X1 (a : Nat ) : List Shp := [.inr (.inr (1, [some (some (a + 1)), some (some (a + 2)), some (some (a + 3)), some (some (a + 4)), some (some (a + 5)), some (some (a + 6)), none, none])), .inl 400, .inl 16, .inl 16, .inl 16, .inl 16, .inl 40]
def f_X1_init (G : Nat) (a : Nat) (μ : Mem) : Option Mem :=
  (let m1 := zr μ (a + 1)
  (let m2 := zr m1 (a + 2)
  (let m3 := zr m2 (a + 3)
  (let m4 := zr m3 (a + 4)
  (let m5 := zr m4 (a + 5)
  (let m6 := zr m5 (a + 6)
  some m6))))))
set_option maxHeartbeats 8000000 in
set_option maxRecDepth 100000 in
theorem c_X1_init {pre : List Shp} {G : Nat} {a : Nat} {μ : Mem} {μr : Mem} (ha : pre.length = a) (hw : wfS (pre ++ [.inr (.inr (1, [some none, some none, some none, some none, some none, some none, none, none]))])) (h : f_X1_init G a μ = some μr) : Cn yX1_init cX1_init 1 none 2 6 504 [.ref a] (pre ++ [.inr (.inr (1, [some none, some none, some none, some none, some none, some none, none, none]))]) μ (ctP (pre ++ full_X1 a) μr) := by
  refine cn_of (own := RX1) (ini := true) (loc := [some (.ref a)]) rfl (by decide) (fun _ => rfl) (Nat.le_of_ble_eq_true rfl) (by rfl) rfl ?_
  unfold f_X1_init at h
  refine ev_aload_n dX1_init_0 rfl ?_
  refine ev_objInit ml_X1_3 w_oi1 w_oi2 dX1_init_1 (Nat.le_of_ble_eq_true rfl) (by rfl) (Nat.le_of_ble_eq_true rfl) ?_
  refine ev_aload_n dX1_init_4 rfl ?_
  refine ev_sipush (v := (400 : Int32)) dX1_init_5 (by decide) ?_
  refine ev_newaT (N := 400) (q := a + 1) (L' := [_, _]) dX1_init_8 (by decide) (by decide) (by decide) (by rw [ha]; rfl) rfl hw (okR_of (by simp only [okRl, List.length_cons, List.length_nil, and_true, Nat.lt_eq]; first | done | omega) (by simp only [okRs, List.length_cons, List.length_nil, and_true, Nat.lt_eq]; first | done | omega)) (Nat.le_of_ble_eq_true rfl) (Nat.le_of_ble_eq_true rfl) (fun hw => ?_)
  refine ev_putRT (L' := [_, _]) (k := 0) fr_X1_9 rfl rfl dX1_init_10 ha rfl rfl (fun _ => rfl) (fun _ => rfl) (by simp only [List.length_cons, List.length_nil]; omega) rfl hw (fun hw => ?_)
  refine ev_aload_n dX1_init_13 rfl ?_
  refine ev_bipush (v := (16 : Int32)) dX1_init_14 (by decide) ?_
  refine ev_newaT (N := 16) (q := a + 2) (L' := [_, _, _]) dX1_init_16 (by decide) (by decide) (by decide) (by rw [ha]; rfl) rfl hw (okR_of (by simp only [okRl, List.length_cons, List.length_nil, and_true, Nat.lt_eq]; first | done | omega) (by simp only [okRs, List.length_cons, List.length_nil, and_true, Nat.lt_eq]; first | done | omega)) (Nat.le_of_ble_eq_true rfl) (Nat.le_of_ble_eq_true rfl) (fun hw => ?_)
  refine ev_putRT (L' := [_, _, _]) (k := 0) fr_X1_15 rfl rfl dX1_init_18 ha rfl rfl (fun _ => rfl) (fun _ => rfl) (by simp only [List.length_cons, List.length_nil]; omega) rfl hw (fun hw => ?_)
  refine ev_aload_n dX1_init_21 rfl ?_
  refine ev_bipush (v := (16 : Int32)) dX1_init_22 (by decide) ?_
  refine ev_newaT (N := 16) (q := a + 3) (L' := [_, _, _, _]) dX1_init_24 (by decide) (by decide) (by decide) (by rw [ha]; rfl) rfl hw (okR_of (by simp only [okRl, List.length_cons, List.length_nil, and_true, Nat.lt_eq]; first | done | omega) (by simp only [okRs, List.length_cons, List.length_nil, and_true, Nat.lt_eq]; first | done | omega)) (Nat.le_of_ble_eq_true rfl) (Nat.le_of_ble_eq_true rfl) (fun hw => ?_)
  refine ev_putRT (L' := [_, _, _, _]) (k := 0) fr_X1_18 rfl rfl dX1_init_26 ha rfl rfl (fun _ => rfl) (fun _ => rfl) (by simp only [List.length_cons, List.length_nil]; omega) rfl hw (fun hw => ?_)
  refine ev_aload_n dX1_init_29 rfl ?_
  refine ev_bipush (v := (16 : Int32)) dX1_init_30 (by decide) ?_
  refine ev_newaT (N := 16) (q := a + 4) (L' := [_, _, _, _, _]) dX1_init_32 (by decide) (by decide) (by decide) (by rw [ha]; rfl) rfl hw (okR_of (by simp only [okRl, List.length_cons, List.length_nil, and_true, Nat.lt_eq]; first | done | omega) (by simp only [okRs, List.length_cons, List.length_nil, and_true, Nat.lt_eq]; first | done | omega)) (Nat.le_of_ble_eq_true rfl) (Nat.le_of_ble_eq_true rfl) (fun hw => ?_)
  refine ev_putRT (L' := [_, _, _, _, _]) (k := 0) fr_X1_21 rfl rfl dX1_init_34 ha rfl rfl (fun _ => rfl) (fun _ => rfl) (by simp only [List.length_cons, List.length_nil]; omega) rfl hw (fun hw => ?_)
  refine ev_aload_n dX1_init_37 rfl ?_
  refine ev_bipush (v := (16 : Int32)) dX1_init_38 (by decide) ?_
  refine ev_newaT (N := 16) (q := a + 5) (L' := [_, _, _, _, _, _]) dX1_init_40 (by decide) (by decide) (by decide) (by rw [ha]; rfl) rfl hw (okR_of (by simp only [okRl, List.length_cons, List.length_nil, and_true, Nat.lt_eq]; first | done | omega) (by simp only [okRs, List.length_cons, List.length_nil, and_true, Nat.lt_eq]; first | done | omega)) (Nat.le_of_ble_eq_true rfl) (Nat.le_of_ble_eq_true rfl) (fun hw => ?_)
  refine ev_putRT (L' := [_, _, _, _, _, _]) (k := 0) fr_X1_24 rfl rfl dX1_init_42 ha rfl rfl (fun _ => rfl) (fun _ => rfl) (by simp only [List.length_cons, List.length_nil]; omega) rfl hw (fun hw => ?_)
  refine ev_aload_n dX1_init_45 rfl ?_
  refine ev_bipush (v := (40 : Int32)) dX1_init_46 (by decide) ?_
  refine ev_newaT (N := 40) (q := a + 6) (L' := [_, _, _, _, _, _, _]) dX1_init_48 (by decide) (by decide) (by decide) (by rw [ha]; rfl) rfl hw (okR_of (by simp only [okRl, List.length_cons, List.length_nil, and_true, Nat.lt_eq]; first | done | omega) (by simp only [okRs, List.length_cons, List.length_nil, and_true, Nat.lt_eq]; first | done | omega)) (Nat.le_of_ble_eq_true rfl) (Nat.le_of_ble_eq_true rfl) (fun hw => ?_)
  refine ev_putRT (L' := [_, _, _, _, _, _, _]) (k := 0) fr_X1_27 rfl rfl dX1_init_50 ha rfl rfl (fun _ => rfl) (fun _ => rfl) (by simp only [List.length_cons, List.length_nil]; omega) rfl hw (fun hw => ?_)
  exact ev_vret rfl (Nat.le_of_ble_eq_true rfl) (Nat.le_of_ble_eq_true rfl) dX1_init_53 (ctP_i hw h)
def f_X2_init (G a : Nat) (p1 p2 : Int32) (μ : Mem) : Option Mem := some (wr (zr (wr (wr μ a 0 (imax 0 p1)) a 1 (imax 0 p2)) (a + 1)) a 3 0)
set_option maxHeartbeats 8000000 in
set_option maxRecDepth 100000 in
theorem c_X2_init {pre : List Shp} {G a N : Nat} {μ : Mem} {p1 p2 : Int32} {μr : Mem} (g1 : ¬ (imax 0 p1 * imax 0 p2) < 0) (g2 : ix (imax 0 p1 * imax 0 p2) = N) (g3 : N ≤ 100000) (ha : pre.length = a) (hw : wfS (pre ++ [.inr (.inr (2, [none, none, some none, none]))])) (h : f_X2_init G a p1 p2 μ = some μr) : Cn yX2_init cX2_init 3 none 2 1 N [.ref a, .int p1, .int p2] (pre ++ [.inr (.inr (2, [none, none, some none, none]))]) μ (ctP (pre ++ [.inr (.inr (2, [none, none, some (some (a + 1)), none])), .inl N]) μr) := by
  refine cn_of (own := RX2) (ini := true) (loc := [some (.ref a), some (.int p1), some (.int p2)]) rfl (by decide) (fun _ => rfl) (Nat.le_of_ble_eq_true rfl) (by rfl) rfl ?_
  unfold f_X2_init at h
  refine ev_aload_n dX2_init_0 rfl ?_
  refine ev_objInit ml_X2_3 w_oi1 w_oi2 dX2_init_1 (Nat.le_of_ble_eq_true rfl) (by rfl) (Nat.le_of_ble_eq_true rfl) ?_
  refine ev_aload_n dX2_init_4 rfl ?_
  refine ev_iconst (v := 0) dX2_init_5 (by decide) ?_
  refine ev_iload_n dX2_init_6 rfl ?_
  refine ev_max mm_X2_9 dX2_init_7 (Nat.le_of_ble_eq_true rfl) (by rfl) (Nat.le_of_ble_eq_true rfl) (Nat.le_of_ble_eq_true rfl) (Nat.zero_le _) ?_
  refine ev_putIF fr_X2_15 rfl rfl (tlg (k := 0) ha rfl) rfl rfl rfl dX2_init_10 ?_
  refine ev_aload_n dX2_init_13 rfl ?_
  refine ev_iconst (v := 0) dX2_init_14 (by decide) ?_
  refine ev_iload_n dX2_init_15 rfl ?_
  refine ev_max mm_X2_9 dX2_init_16 (Nat.le_of_ble_eq_true rfl) (by rfl) (Nat.le_of_ble_eq_true rfl) (Nat.le_of_ble_eq_true rfl) (Nat.zero_le _) ?_
  refine ev_putIF fr_X2_21 rfl rfl (tlg (k := 0) ha rfl) rfl rfl rfl dX2_init_19 ?_
  refine ev_aload_n dX2_init_22 rfl ?_
  refine ev_aload_n dX2_init_23 rfl ?_
  refine ev_getI fr_X2_15 (tlg (k := 0) ha rfl) rfl dX2_init_24 ?_
  refine ev_aload_n dX2_init_27 rfl ?_
  refine ev_getI fr_X2_21 (tlg (k := 0) ha rfl) rfl dX2_init_28 ?_
  refine ev_imul dX2_init_31 ?_
  have e1 : wr (wr μ a 0 (imax 0 p1)) a 1 (imax 0 p2) (a + 0) 0 = imax 0 p1 := by simp [wr]
  have e2 : wr (wr μ a 0 (imax 0 p1)) a 1 (imax 0 p2) (a + 0) 1 = imax 0 p2 := by simp [wr]
  refine ev_newaT (N := N) (q := a + 1) (L' := [_, _]) dX2_init_32 (by rw [e1, e2]; exact g1) (by rw [e1, e2]; exact g2) g3 (by rw [ha]; rfl) rfl hw (okR_of (by simp only [okRl, List.length_cons, List.length_nil, and_true, Nat.lt_eq]; first | done | omega) (by simp only [okRs, List.length_cons, List.length_nil, and_true, Nat.lt_eq]; first | done | omega)) (Nat.le_of_ble_eq_true rfl) (by omega) (fun hw => ?_)
  refine ev_putRT (L' := [_, _]) (k := 0) fr_X2_24 rfl rfl dX2_init_34 ha rfl rfl (fun _ => rfl) (fun _ => rfl) (by simp only [List.length_cons, List.length_nil]; omega) rfl hw (fun hw => ?_)
  refine ev_aload_n dX2_init_37 rfl ?_
  refine ev_iconst (v := 0) dX2_init_38 (by decide) ?_
  refine ev_putI fr_X2_28 (tlg (k := 0) ha rfl) rfl rfl rfl dX2_init_39 ?_
  exact ev_vret rfl (Nat.le_of_ble_eq_true rfl) (by omega) dX2_init_42 (ctP_i hw h)
def full_X0 (a : Nat ) : List Shp := [.inr (.inr (0, [some (some (a + 1)), some (some (a + 7)), some (some (a + 8)), some (some (a + 9)), some (some (a + 10)), some (some (a + 11)), none, none, some (some (a + 12)), some (some (a + 19)), some (some (a + 21)), some (some (a + 23)), some (some (a + 25)), some (some (a + 27)), some (some (a + 29)), some (some (a + 31)), some (some (a + 33)), some (some (a + 35)), some (some (a + 37)), some (some (a + 39))])), .inr (.inr (7, [some (some (a + 2)), some (some (a + 3)), some (some (a + 4)), some (some (a + 5)), some (some (a + 6)), none, none, none, none])), .inl 12, .inl 8, .inl 8, .inl 8, .inl 8, .inl 12, .inl 12, .inl 12, .inl 8, .inl 8, .inr (.inr (1, [some (some (a + 13)), some (some (a + 14)), some (some (a + 15)), some (some (a + 16)), some (some (a + 17)), some (some (a + 18)), none, none])), .inl 400, .inl 16, .inl 16, .inl 16, .inl 16, .inl 40, .inr (.inr (2, [none, none, some (some (a + 20)), none])), .inl 16, .inr (.inr (2, [none, none, some (some (a + 22)), none])), .inl 96, .inr (.inr (2, [none, none, some (some (a + 24)), none])), .inl 32, .inr (.inr (2, [none, none, some (some (a + 26)), none])), .inl 600, .inr (.inr (2, [none, none, some (some (a + 28)), none])), .inl 30, .inr (.inr (2, [none, none, some (some (a + 30)), none])), .inl 24, .inr (.inr (2, [none, none, some (some (a + 32)), none])), .inl 12, .inr (.inr (2, [none, none, some (some (a + 34)), none])), .inl 32, .inr (.inr (2, [none, none, some (some (a + 36)), none])), .inl 12, .inr (.inr (2, [none, none, some (some (a + 38)), none])), .inl 7, .inl 6]
def f_X0_init (G : Nat) (a : Nat) (μ : Mem) : Option Mem :=
  (let m1 := zr μ (a + 1)
  bndV (f_X8_init G (a + 1) m1) (fun m2 =>
  (let m4 := zr m2 (a + 7)
  (let m5 := zr m4 (a + 8)
  (let m6 := zr m5 (a + 9)
  (let m7 := zr m6 (a + 10)
  (let m8 := zr m7 (a + 11)
  (let m9 := zr m8 (a + 12)
  bndV (f_X1_init G (a + 12) m9) (fun m10 =>
  (let m12 := zr m10 (a + 19)
  bndV (f_X2_init G (a + 19) (16 : Int32) (1 : Int32) m12) (fun m13 =>
  (let m15 := zr m13 (a + 21)
  bndV (f_X2_init G (a + 21) (16 : Int32) (6 : Int32) m15) (fun m16 =>
  (let m18 := zr m16 (a + 23)
  bndV (f_X2_init G (a + 23) (16 : Int32) (2 : Int32) m18) (fun m19 =>
  (let m21 := zr m19 (a + 25)
  bndV (f_X2_init G (a + 25) (150 : Int32) (4 : Int32) m21) (fun m22 =>
  (let m24 := zr m22 (a + 27)
  bndV (f_X2_init G (a + 27) (10 : Int32) (3 : Int32) m24) (fun m25 =>
  (let m27 := zr m25 (a + 29)
  bndV (f_X2_init G (a + 29) (8 : Int32) (3 : Int32) m27) (fun m28 =>
  (let m30 := zr m28 (a + 31)
  bndV (f_X2_init G (a + 31) (6 : Int32) (2 : Int32) m30) (fun m31 =>
  (let m33 := zr m31 (a + 33)
  bndV (f_X2_init G (a + 33) (16 : Int32) (2 : Int32) m33) (fun m34 =>
  (let m36 := zr m34 (a + 35)
  bndV (f_X2_init G (a + 35) (12 : Int32) (1 : Int32) m36) (fun m37 =>
  (let m39 := zr m37 (a + 37)
  bndV (f_X2_init G (a + 37) (7 : Int32) (1 : Int32) m39) (fun m40 =>
  (let m42 := zr m40 (a + 39)
  (let m43 := wr m42 (a + 39) 0 (1 : Int32)
  (let m44 := wr m43 (a + 39) 1 (0 : Int32)
  (let m45 := wr m44 (a + 39) 2 (1 : Int32)
  (let m46 := wr m45 (a + 39) 3 (0 : Int32)
  (let m47 := wr m46 (a + 39) 4 (1 : Int32)
  (let m48 := wr m47 (a + 39) 5 (0 : Int32)
  some m48))))))))))))))))))))))))))))))))))))
set_option maxHeartbeats 8000000 in
set_option maxRecDepth 100000 in
theorem c_X0_init {pre : List Shp} {G : Nat} {a : Nat} {μ : Mem} {μr : Mem} (ha : pre.length = a) (hw : wfS (pre ++ [.inr (.inr (0, [some none, some none, some none, some none, some none, some none, none, none, some none, some none, some none, some none, some none, some none, some none, some none, some none, some none, some none, some none]))])) (h : f_X0_init G a μ = some μr) : Cn yX0_init cX0_init 1 none 3 39 1524 [.ref a] (pre ++ [.inr (.inr (0, [some none, some none, some none, some none, some none, some none, none, none, some none, some none, some none, some none, some none, some none, some none, some none, some none, some none, some none, some none]))]) μ (ctP (pre ++ full_X0 a) μr) := by
  refine cn_of (own := RX0) (ini := true) (loc := [some (.ref a)]) rfl (by decide) (fun _ => rfl) (Nat.le_of_ble_eq_true rfl) (by rfl) rfl ?_
  unfold f_X0_init at h
  refine ev_aload_n dX0_init_0 rfl ?_
  refine ev_objInit ml_X0_3 w_oi1 w_oi2 dX0_init_1 (Nat.le_of_ble_eq_true rfl) (by rfl) (Nat.le_of_ble_eq_true rfl) ?_
  refine ev_aload_n dX0_init_4 rfl ?_
  refine ev_newT (q := a + 1) (L' := [_, _]) cr_X0_9 dX0_init_5 (by rw [ha]; rfl) rfl hw (okR_of (by simp only [okRl, List.length_cons, List.length_nil, and_true, Nat.lt_eq]; first | done | omega) (by simp only [okRs, List.length_cons, List.length_nil, and_true, Nat.lt_eq]; first | done | omega)) (Nat.le_of_ble_eq_true rfl) (Nat.le_of_ble_eq_true rfl) (fun hw => ?_)
  refine ev_dup dX0_init_8 (by rfl) ?_
  obtain ⟨m2, hq3, h⟩ := bndV_t h
  refine ev_cI (L := [_]) (L' := [_, _, _, _, _, _, _]) mv_X0_11 dX0_init_9 (c_X8_init (by rw [List.length_append, ha]; rfl) (by rw [List.append_assoc]; exact hw) hq3) rfl rfl rfl rfl (Nat.le_of_ble_eq_true rfl) (by rfl) (Nat.le_of_ble_eq_true rfl) (Nat.le_of_ble_eq_true rfl) (Nat.le_of_ble_eq_true rfl) (okR_of (by simp only [okRl, List.length_cons, List.length_nil, and_true, Nat.lt_eq]; first | done | omega) (by simp only [okRs, List.length_cons, List.length_nil, and_true, Nat.lt_eq]; first | done | omega)) (fun hw => ?_)
  refine ev_putRT (L' := [_, _, _, _, _, _, _]) (k := 0) fr_X0_12 rfl rfl dX0_init_12 ha rfl rfl (fun _ => rfl) (fun _ => rfl) (by simp only [List.length_cons, List.length_nil]; omega) rfl hw (fun hw => ?_)
  refine ev_aload_n dX0_init_15 rfl ?_
  refine ev_bipush (v := (12 : Int32)) dX0_init_16 (by decide) ?_
  refine ev_newaT (N := 12) (q := a + 7) (L' := [_, _, _, _, _, _, _, _]) dX0_init_18 (by decide) (by decide) (by decide) (by rw [ha]; rfl) rfl hw (okR_of (by simp only [okRl, List.length_cons, List.length_nil, and_true, Nat.lt_eq]; first | done | omega) (by simp only [okRs, List.length_cons, List.length_nil, and_true, Nat.lt_eq]; first | done | omega)) (Nat.le_of_ble_eq_true rfl) (Nat.le_of_ble_eq_true rfl) (fun hw => ?_)
  refine ev_putRT (L' := [_, _, _, _, _, _, _, _]) (k := 0) fr_X0_18 rfl rfl dX0_init_20 ha rfl rfl (fun _ => rfl) (fun _ => rfl) (by simp only [List.length_cons, List.length_nil]; omega) rfl hw (fun hw => ?_)
  refine ev_aload_n dX0_init_23 rfl ?_
  refine ev_bipush (v := (12 : Int32)) dX0_init_24 (by decide) ?_
  refine ev_newaT (N := 12) (q := a + 8) (L' := [_, _, _, _, _, _, _, _, _]) dX0_init_26 (by decide) (by decide) (by decide) (by rw [ha]; rfl) rfl hw (okR_of (by simp only [okRl, List.length_cons, List.length_nil, and_true, Nat.lt_eq]; first | done | omega) (by simp only [okRs, List.length_cons, List.length_nil, and_true, Nat.lt_eq]; first | done | omega)) (Nat.le_of_ble_eq_true rfl) (Nat.le_of_ble_eq_true rfl) (fun hw => ?_)
  refine ev_putRT (L' := [_, _, _, _, _, _, _, _, _]) (k := 0) fr_X0_22 rfl rfl dX0_init_28 ha rfl rfl (fun _ => rfl) (fun _ => rfl) (by simp only [List.length_cons, List.length_nil]; omega) rfl hw (fun hw => ?_)
  refine ev_aload_n dX0_init_31 rfl ?_
  refine ev_bipush (v := (12 : Int32)) dX0_init_32 (by decide) ?_
  refine ev_newaT (N := 12) (q := a + 9) (L' := [_, _, _, _, _, _, _, _, _, _]) dX0_init_34 (by decide) (by decide) (by decide) (by rw [ha]; rfl) rfl hw (okR_of (by simp only [okRl, List.length_cons, List.length_nil, and_true, Nat.lt_eq]; first | done | omega) (by simp only [okRs, List.length_cons, List.length_nil, and_true, Nat.lt_eq]; first | done | omega)) (Nat.le_of_ble_eq_true rfl) (Nat.le_of_ble_eq_true rfl) (fun hw => ?_)
  refine ev_putRT (L' := [_, _, _, _, _, _, _, _, _, _]) (k := 0) fr_X0_25 rfl rfl dX0_init_36 ha rfl rfl (fun _ => rfl) (fun _ => rfl) (by simp only [List.length_cons, List.length_nil]; omega) rfl hw (fun hw => ?_)
  refine ev_aload_n dX0_init_39 rfl ?_
  refine ev_bipush (v := (8 : Int32)) dX0_init_40 (by decide) ?_
  refine ev_newaT (N := 8) (q := a + 10) (L' := [_, _, _, _, _, _, _, _, _, _, _]) dX0_init_42 (by decide) (by decide) (by decide) (by rw [ha]; rfl) rfl hw (okR_of (by simp only [okRl, List.length_cons, List.length_nil, and_true, Nat.lt_eq]; first | done | omega) (by simp only [okRs, List.length_cons, List.length_nil, and_true, Nat.lt_eq]; first | done | omega)) (Nat.le_of_ble_eq_true rfl) (Nat.le_of_ble_eq_true rfl) (fun hw => ?_)
  refine ev_putRT (L' := [_, _, _, _, _, _, _, _, _, _, _]) (k := 0) fr_X0_28 rfl rfl dX0_init_44 ha rfl rfl (fun _ => rfl) (fun _ => rfl) (by simp only [List.length_cons, List.length_nil]; omega) rfl hw (fun hw => ?_)
  refine ev_aload_n dX0_init_47 rfl ?_
  refine ev_bipush (v := (8 : Int32)) dX0_init_48 (by decide) ?_
  refine ev_newaT (N := 8) (q := a + 11) (L' := [_, _, _, _, _, _, _, _, _, _, _, _]) dX0_init_50 (by decide) (by decide) (by decide) (by rw [ha]; rfl) rfl hw (okR_of (by simp only [okRl, List.length_cons, List.length_nil, and_true, Nat.lt_eq]; first | done | omega) (by simp only [okRs, List.length_cons, List.length_nil, and_true, Nat.lt_eq]; first | done | omega)) (Nat.le_of_ble_eq_true rfl) (Nat.le_of_ble_eq_true rfl) (fun hw => ?_)
  refine ev_putRT (L' := [_, _, _, _, _, _, _, _, _, _, _, _]) (k := 0) fr_X0_31 rfl rfl dX0_init_52 ha rfl rfl (fun _ => rfl) (fun _ => rfl) (by simp only [List.length_cons, List.length_nil]; omega) rfl hw (fun hw => ?_)
  refine ev_aload_n dX0_init_55 rfl ?_
  refine ev_newT (q := a + 12) (L' := [_, _, _, _, _, _, _, _, _, _, _, _, _]) cr_X0_34 dX0_init_56 (by rw [ha]; rfl) rfl hw (okR_of (by simp only [okRl, List.length_cons, List.length_nil, and_true, Nat.lt_eq]; first | done | omega) (by simp only [okRs, List.length_cons, List.length_nil, and_true, Nat.lt_eq]; first | done | omega)) (Nat.le_of_ble_eq_true rfl) (Nat.le_of_ble_eq_true rfl) (fun hw => ?_)
  refine ev_dup dX0_init_59 (by rfl) ?_
  obtain ⟨m10, hq11, h⟩ := bndV_t h
  refine ev_cIN (L := [_, _, _, _, _, _, _, _, _, _, _, _]) (L' := [_, _, _, _, _, _, _, _, _, _, _, _, _, _, _, _, _, _, _]) mv_X0_36 dX0_init_60 (c_X1_init (by rw [List.length_append, ha]; rfl) (by rw [List.append_assoc]; exact hw) hq11) rfl rfl rfl rfl (Nat.le_of_ble_eq_true rfl) (by rfl) (Nat.le_of_ble_eq_true rfl) (Nat.le_of_ble_eq_true rfl) (Nat.le_of_ble_eq_true rfl) (okR_of (by simp only [okRl, List.length_cons, List.length_nil, and_true, Nat.lt_eq]; first | done | omega) (by simp only [okRs, List.length_cons, List.length_nil, and_true, Nat.lt_eq]; first | done | omega)) (fun hw => ?_)
  refine ev_putRT (L' := [_, _, _, _, _, _, _, _, _, _, _, _, _, _, _, _, _, _, _]) (k := 0) fr_X0_37 rfl rfl dX0_init_63 ha rfl rfl (fun _ => rfl) (fun _ => rfl) (by simp only [List.length_cons, List.length_nil]; omega) rfl hw (fun hw => ?_)
  refine ev_aload_n dX0_init_66 rfl ?_
  refine ev_newT (q := a + 19) (L' := [_, _, _, _, _, _, _, _, _, _, _, _, _, _, _, _, _, _, _, _]) cr_X0_41 dX0_init_67 (by rw [ha]; rfl) rfl hw (okR_of (by simp only [okRl, List.length_cons, List.length_nil, and_true, Nat.lt_eq]; first | done | omega) (by simp only [okRs, List.length_cons, List.length_nil, and_true, Nat.lt_eq]; first | done | omega)) (Nat.le_of_ble_eq_true rfl) (Nat.le_of_ble_eq_true rfl) (fun hw => ?_)
  refine ev_dup dX0_init_70 (by rfl) ?_
  refine ev_bipush (v := (16 : Int32)) dX0_init_71 (by decide) ?_
  refine ev_iconst (v := (1 : Int32)) dX0_init_73 (by decide) ?_
  obtain ⟨m13, hq14, h⟩ := bndV_t h
  refine ev_cI (L := [_, _, _, _, _, _, _, _, _, _, _, _, _, _, _, _, _, _, _]) (L' := [_, _, _, _, _, _, _, _, _, _, _, _, _, _, _, _, _, _, _, _, _]) mv_X0_43 dX0_init_74 (c_X2_init (N := 16) (by decide) (by decide) (by decide) (by rw [List.length_append, ha]; rfl) (by rw [List.append_assoc]; exact hw) hq14) rfl rfl rfl rfl (Nat.le_of_ble_eq_true rfl) (by rfl) (Nat.le_of_ble_eq_true rfl) (Nat.le_of_ble_eq_true rfl) (Nat.le_of_ble_eq_true rfl) (okR_of (by simp only [okRl, List.length_cons, List.length_nil, and_true, Nat.lt_eq]; first | done | omega) (by simp only [okRs, List.length_cons, List.length_nil, and_true, Nat.lt_eq]; first | done | omega)) (fun hw => ?_)
  refine ev_putRT (L' := [_, _, _, _, _, _, _, _, _, _, _, _, _, _, _, _, _, _, _, _, _]) (k := 0) fr_X0_46 rfl rfl dX0_init_77 ha rfl rfl (fun _ => rfl) (fun _ => rfl) (by simp only [List.length_cons, List.length_nil]; omega) rfl hw (fun hw => ?_)
  refine ev_aload_n dX0_init_80 rfl ?_
  refine ev_newT (q := a + 21) (L' := [_, _, _, _, _, _, _, _, _, _, _, _, _, _, _, _, _, _, _, _, _, _]) cr_X0_41 dX0_init_81 (by rw [ha]; rfl) rfl hw (okR_of (by simp only [okRl, List.length_cons, List.length_nil, and_true, Nat.lt_eq]; first | done | omega) (by simp only [okRs, List.length_cons, List.length_nil, and_true, Nat.lt_eq]; first | done | omega)) (Nat.le_of_ble_eq_true rfl) (Nat.le_of_ble_eq_true rfl) (fun hw => ?_)
  refine ev_dup dX0_init_84 (by rfl) ?_
  refine ev_bipush (v := (16 : Int32)) dX0_init_85 (by decide) ?_
  refine ev_bipush (v := (6 : Int32)) dX0_init_87 (by decide) ?_
  obtain ⟨m16, hq17, h⟩ := bndV_t h
  refine ev_cI (L := [_, _, _, _, _, _, _, _, _, _, _, _, _, _, _, _, _, _, _, _, _]) (L' := [_, _, _, _, _, _, _, _, _, _, _, _, _, _, _, _, _, _, _, _, _, _, _]) mv_X0_43 dX0_init_89 (c_X2_init (N := 96) (by decide) (by decide) (by decide) (by rw [List.length_append, ha]; rfl) (by rw [List.append_assoc]; exact hw) hq17) rfl rfl rfl rfl (Nat.le_of_ble_eq_true rfl) (by rfl) (Nat.le_of_ble_eq_true rfl) (Nat.le_of_ble_eq_true rfl) (Nat.le_of_ble_eq_true rfl) (okR_of (by simp only [okRl, List.length_cons, List.length_nil, and_true, Nat.lt_eq]; first | done | omega) (by simp only [okRs, List.length_cons, List.length_nil, and_true, Nat.lt_eq]; first | done | omega)) (fun hw => ?_)
  refine ev_putRT (L' := [_, _, _, _, _, _, _, _, _, _, _, _, _, _, _, _, _, _, _, _, _, _, _]) (k := 0) fr_X0_50 rfl rfl dX0_init_92 ha rfl rfl (fun _ => rfl) (fun _ => rfl) (by simp only [List.length_cons, List.length_nil]; omega) rfl hw (fun hw => ?_)
  refine ev_aload_n dX0_init_95 rfl ?_
  refine ev_newT (q := a + 23) (L' := [_, _, _, _, _, _, _, _, _, _, _, _, _, _, _, _, _, _, _, _, _, _, _, _]) cr_X0_41 dX0_init_96 (by rw [ha]; rfl) rfl hw (okR_of (by simp only [okRl, List.length_cons, List.length_nil, and_true, Nat.lt_eq]; first | done | omega) (by simp only [okRs, List.length_cons, List.length_nil, and_true, Nat.lt_eq]; first | done | omega)) (Nat.le_of_ble_eq_true rfl) (Nat.le_of_ble_eq_true rfl) (fun hw => ?_)
  refine ev_dup dX0_init_99 (by rfl) ?_
  refine ev_bipush (v := (16 : Int32)) dX0_init_100 (by decide) ?_
  refine ev_iconst (v := (2 : Int32)) dX0_init_102 (by decide) ?_
  obtain ⟨m19, hq20, h⟩ := bndV_t h
  refine ev_cI (L := [_, _, _, _, _, _, _, _, _, _, _, _, _, _, _, _, _, _, _, _, _, _, _]) (L' := [_, _, _, _, _, _, _, _, _, _, _, _, _, _, _, _, _, _, _, _, _, _, _, _, _]) mv_X0_43 dX0_init_103 (c_X2_init (N := 32) (by decide) (by decide) (by decide) (by rw [List.length_append, ha]; rfl) (by rw [List.append_assoc]; exact hw) hq20) rfl rfl rfl rfl (Nat.le_of_ble_eq_true rfl) (by rfl) (Nat.le_of_ble_eq_true rfl) (Nat.le_of_ble_eq_true rfl) (Nat.le_of_ble_eq_true rfl) (okR_of (by simp only [okRl, List.length_cons, List.length_nil, and_true, Nat.lt_eq]; first | done | omega) (by simp only [okRs, List.length_cons, List.length_nil, and_true, Nat.lt_eq]; first | done | omega)) (fun hw => ?_)
  refine ev_putRT (L' := [_, _, _, _, _, _, _, _, _, _, _, _, _, _, _, _, _, _, _, _, _, _, _, _, _]) (k := 0) fr_X0_53 rfl rfl dX0_init_106 ha rfl rfl (fun _ => rfl) (fun _ => rfl) (by simp only [List.length_cons, List.length_nil]; omega) rfl hw (fun hw => ?_)
  refine ev_aload_n dX0_init_109 rfl ?_
  refine ev_newT (q := a + 25) (L' := [_, _, _, _, _, _, _, _, _, _, _, _, _, _, _, _, _, _, _, _, _, _, _, _, _, _]) cr_X0_41 dX0_init_110 (by rw [ha]; rfl) rfl hw (okR_of (by simp only [okRl, List.length_cons, List.length_nil, and_true, Nat.lt_eq]; first | done | omega) (by simp only [okRs, List.length_cons, List.length_nil, and_true, Nat.lt_eq]; first | done | omega)) (Nat.le_of_ble_eq_true rfl) (Nat.le_of_ble_eq_true rfl) (fun hw => ?_)
  refine ev_dup dX0_init_113 (by rfl) ?_
  refine ev_sipush (v := (150 : Int32)) dX0_init_114 (by decide) ?_
  refine ev_iconst (v := (4 : Int32)) dX0_init_117 (by decide) ?_
  obtain ⟨m22, hq23, h⟩ := bndV_t h
  refine ev_cI (L := [_, _, _, _, _, _, _, _, _, _, _, _, _, _, _, _, _, _, _, _, _, _, _, _, _]) (L' := [_, _, _, _, _, _, _, _, _, _, _, _, _, _, _, _, _, _, _, _, _, _, _, _, _, _, _]) mv_X0_43 dX0_init_118 (c_X2_init (N := 600) (by decide) (by decide) (by decide) (by rw [List.length_append, ha]; rfl) (by rw [List.append_assoc]; exact hw) hq23) rfl rfl rfl rfl (Nat.le_of_ble_eq_true rfl) (by rfl) (Nat.le_of_ble_eq_true rfl) (Nat.le_of_ble_eq_true rfl) (Nat.le_of_ble_eq_true rfl) (okR_of (by simp only [okRl, List.length_cons, List.length_nil, and_true, Nat.lt_eq]; first | done | omega) (by simp only [okRs, List.length_cons, List.length_nil, and_true, Nat.lt_eq]; first | done | omega)) (fun hw => ?_)
  refine ev_putRT (L' := [_, _, _, _, _, _, _, _, _, _, _, _, _, _, _, _, _, _, _, _, _, _, _, _, _, _, _]) (k := 0) fr_X0_56 rfl rfl dX0_init_121 ha rfl rfl (fun _ => rfl) (fun _ => rfl) (by simp only [List.length_cons, List.length_nil]; omega) rfl hw (fun hw => ?_)
  refine ev_aload_n dX0_init_124 rfl ?_
  refine ev_newT (q := a + 27) (L' := [_, _, _, _, _, _, _, _, _, _, _, _, _, _, _, _, _, _, _, _, _, _, _, _, _, _, _, _]) cr_X0_41 dX0_init_125 (by rw [ha]; rfl) rfl hw (okR_of (by simp only [okRl, List.length_cons, List.length_nil, and_true, Nat.lt_eq]; first | done | omega) (by simp only [okRs, List.length_cons, List.length_nil, and_true, Nat.lt_eq]; first | done | omega)) (Nat.le_of_ble_eq_true rfl) (Nat.le_of_ble_eq_true rfl) (fun hw => ?_)
  refine ev_dup dX0_init_128 (by rfl) ?_
  refine ev_bipush (v := (10 : Int32)) dX0_init_129 (by decide) ?_
  refine ev_iconst (v := (3 : Int32)) dX0_init_131 (by decide) ?_
  obtain ⟨m25, hq26, h⟩ := bndV_t h
  refine ev_cI (L := [_, _, _, _, _, _, _, _, _, _, _, _, _, _, _, _, _, _, _, _, _, _, _, _, _, _, _]) (L' := [_, _, _, _, _, _, _, _, _, _, _, _, _, _, _, _, _, _, _, _, _, _, _, _, _, _, _, _, _]) mv_X0_43 dX0_init_132 (c_X2_init (N := 30) (by decide) (by decide) (by decide) (by rw [List.length_append, ha]; rfl) (by rw [List.append_assoc]; exact hw) hq26) rfl rfl rfl rfl (Nat.le_of_ble_eq_true rfl) (by rfl) (Nat.le_of_ble_eq_true rfl) (Nat.le_of_ble_eq_true rfl) (Nat.le_of_ble_eq_true rfl) (okR_of (by simp only [okRl, List.length_cons, List.length_nil, and_true, Nat.lt_eq]; first | done | omega) (by simp only [okRs, List.length_cons, List.length_nil, and_true, Nat.lt_eq]; first | done | omega)) (fun hw => ?_)
  refine ev_putRT (L' := [_, _, _, _, _, _, _, _, _, _, _, _, _, _, _, _, _, _, _, _, _, _, _, _, _, _, _, _, _]) (k := 0) fr_X0_59 rfl rfl dX0_init_135 ha rfl rfl (fun _ => rfl) (fun _ => rfl) (by simp only [List.length_cons, List.length_nil]; omega) rfl hw (fun hw => ?_)
  refine ev_aload_n dX0_init_138 rfl ?_
  refine ev_newT (q := a + 29) (L' := [_, _, _, _, _, _, _, _, _, _, _, _, _, _, _, _, _, _, _, _, _, _, _, _, _, _, _, _, _, _]) cr_X0_41 dX0_init_139 (by rw [ha]; rfl) rfl hw (okR_of (by simp only [okRl, List.length_cons, List.length_nil, and_true, Nat.lt_eq]; first | done | omega) (by simp only [okRs, List.length_cons, List.length_nil, and_true, Nat.lt_eq]; first | done | omega)) (Nat.le_of_ble_eq_true rfl) (Nat.le_of_ble_eq_true rfl) (fun hw => ?_)
  refine ev_dup dX0_init_142 (by rfl) ?_
  refine ev_bipush (v := (8 : Int32)) dX0_init_143 (by decide) ?_
  refine ev_iconst (v := (3 : Int32)) dX0_init_145 (by decide) ?_
  obtain ⟨m28, hq29, h⟩ := bndV_t h
  refine ev_cI (L := [_, _, _, _, _, _, _, _, _, _, _, _, _, _, _, _, _, _, _, _, _, _, _, _, _, _, _, _, _]) (L' := [_, _, _, _, _, _, _, _, _, _, _, _, _, _, _, _, _, _, _, _, _, _, _, _, _, _, _, _, _, _, _]) mv_X0_43 dX0_init_146 (c_X2_init (N := 24) (by decide) (by decide) (by decide) (by rw [List.length_append, ha]; rfl) (by rw [List.append_assoc]; exact hw) hq29) rfl rfl rfl rfl (Nat.le_of_ble_eq_true rfl) (by rfl) (Nat.le_of_ble_eq_true rfl) (Nat.le_of_ble_eq_true rfl) (Nat.le_of_ble_eq_true rfl) (okR_of (by simp only [okRl, List.length_cons, List.length_nil, and_true, Nat.lt_eq]; first | done | omega) (by simp only [okRs, List.length_cons, List.length_nil, and_true, Nat.lt_eq]; first | done | omega)) (fun hw => ?_)
  refine ev_putRT (L' := [_, _, _, _, _, _, _, _, _, _, _, _, _, _, _, _, _, _, _, _, _, _, _, _, _, _, _, _, _, _, _]) (k := 0) fr_X0_62 rfl rfl dX0_init_149 ha rfl rfl (fun _ => rfl) (fun _ => rfl) (by simp only [List.length_cons, List.length_nil]; omega) rfl hw (fun hw => ?_)
  refine ev_aload_n dX0_init_152 rfl ?_
  refine ev_newT (q := a + 31) (L' := [_, _, _, _, _, _, _, _, _, _, _, _, _, _, _, _, _, _, _, _, _, _, _, _, _, _, _, _, _, _, _, _]) cr_X0_41 dX0_init_153 (by rw [ha]; rfl) rfl hw (okR_of (by simp only [okRl, List.length_cons, List.length_nil, and_true, Nat.lt_eq]; first | done | omega) (by simp only [okRs, List.length_cons, List.length_nil, and_true, Nat.lt_eq]; first | done | omega)) (Nat.le_of_ble_eq_true rfl) (Nat.le_of_ble_eq_true rfl) (fun hw => ?_)
  refine ev_dup dX0_init_156 (by rfl) ?_
  refine ev_bipush (v := (6 : Int32)) dX0_init_157 (by decide) ?_
  refine ev_iconst (v := (2 : Int32)) dX0_init_159 (by decide) ?_
  obtain ⟨m31, hq32, h⟩ := bndV_t h
  refine ev_cI (L := [_, _, _, _, _, _, _, _, _, _, _, _, _, _, _, _, _, _, _, _, _, _, _, _, _, _, _, _, _, _, _]) (L' := [_, _, _, _, _, _, _, _, _, _, _, _, _, _, _, _, _, _, _, _, _, _, _, _, _, _, _, _, _, _, _, _, _]) mv_X0_43 dX0_init_160 (c_X2_init (N := 12) (by decide) (by decide) (by decide) (by rw [List.length_append, ha]; rfl) (by rw [List.append_assoc]; exact hw) hq32) rfl rfl rfl rfl (Nat.le_of_ble_eq_true rfl) (by rfl) (Nat.le_of_ble_eq_true rfl) (Nat.le_of_ble_eq_true rfl) (Nat.le_of_ble_eq_true rfl) (okR_of (by simp only [okRl, List.length_cons, List.length_nil, and_true, Nat.lt_eq]; first | done | omega) (by simp only [okRs, List.length_cons, List.length_nil, and_true, Nat.lt_eq]; first | done | omega)) (fun hw => ?_)
  refine ev_putRT (L' := [_, _, _, _, _, _, _, _, _, _, _, _, _, _, _, _, _, _, _, _, _, _, _, _, _, _, _, _, _, _, _, _, _]) (k := 0) fr_X0_65 rfl rfl dX0_init_163 ha rfl rfl (fun _ => rfl) (fun _ => rfl) (by simp only [List.length_cons, List.length_nil]; omega) rfl hw (fun hw => ?_)
  refine ev_aload_n dX0_init_166 rfl ?_
  refine ev_newT (q := a + 33) (L' := [_, _, _, _, _, _, _, _, _, _, _, _, _, _, _, _, _, _, _, _, _, _, _, _, _, _, _, _, _, _, _, _, _, _]) cr_X0_41 dX0_init_167 (by rw [ha]; rfl) rfl hw (okR_of (by simp only [okRl, List.length_cons, List.length_nil, and_true, Nat.lt_eq]; first | done | omega) (by simp only [okRs, List.length_cons, List.length_nil, and_true, Nat.lt_eq]; first | done | omega)) (Nat.le_of_ble_eq_true rfl) (Nat.le_of_ble_eq_true rfl) (fun hw => ?_)
  refine ev_dup dX0_init_170 (by rfl) ?_
  refine ev_bipush (v := (16 : Int32)) dX0_init_171 (by decide) ?_
  refine ev_iconst (v := (2 : Int32)) dX0_init_173 (by decide) ?_
  obtain ⟨m34, hq35, h⟩ := bndV_t h
  refine ev_cI (L := [_, _, _, _, _, _, _, _, _, _, _, _, _, _, _, _, _, _, _, _, _, _, _, _, _, _, _, _, _, _, _, _, _]) (L' := [_, _, _, _, _, _, _, _, _, _, _, _, _, _, _, _, _, _, _, _, _, _, _, _, _, _, _, _, _, _, _, _, _, _, _]) mv_X0_43 dX0_init_174 (c_X2_init (N := 32) (by decide) (by decide) (by decide) (by rw [List.length_append, ha]; rfl) (by rw [List.append_assoc]; exact hw) hq35) rfl rfl rfl rfl (Nat.le_of_ble_eq_true rfl) (by rfl) (Nat.le_of_ble_eq_true rfl) (Nat.le_of_ble_eq_true rfl) (Nat.le_of_ble_eq_true rfl) (okR_of (by simp only [okRl, List.length_cons, List.length_nil, and_true, Nat.lt_eq]; first | done | omega) (by simp only [okRs, List.length_cons, List.length_nil, and_true, Nat.lt_eq]; first | done | omega)) (fun hw => ?_)
  refine ev_putRT (L' := [_, _, _, _, _, _, _, _, _, _, _, _, _, _, _, _, _, _, _, _, _, _, _, _, _, _, _, _, _, _, _, _, _, _, _]) (k := 0) fr_X0_68 rfl rfl dX0_init_177 ha rfl rfl (fun _ => rfl) (fun _ => rfl) (by simp only [List.length_cons, List.length_nil]; omega) rfl hw (fun hw => ?_)
  refine ev_aload_n dX0_init_180 rfl ?_
  refine ev_newT (q := a + 35) (L' := [_, _, _, _, _, _, _, _, _, _, _, _, _, _, _, _, _, _, _, _, _, _, _, _, _, _, _, _, _, _, _, _, _, _, _, _]) cr_X0_41 dX0_init_181 (by rw [ha]; rfl) rfl hw (okR_of (by simp only [okRl, List.length_cons, List.length_nil, and_true, Nat.lt_eq]; first | done | omega) (by simp only [okRs, List.length_cons, List.length_nil, and_true, Nat.lt_eq]; first | done | omega)) (Nat.le_of_ble_eq_true rfl) (Nat.le_of_ble_eq_true rfl) (fun hw => ?_)
  refine ev_dup dX0_init_184 (by rfl) ?_
  refine ev_bipush (v := (12 : Int32)) dX0_init_185 (by decide) ?_
  refine ev_iconst (v := (1 : Int32)) dX0_init_187 (by decide) ?_
  obtain ⟨m37, hq38, h⟩ := bndV_t h
  refine ev_cI (L := [_, _, _, _, _, _, _, _, _, _, _, _, _, _, _, _, _, _, _, _, _, _, _, _, _, _, _, _, _, _, _, _, _, _, _]) (L' := [_, _, _, _, _, _, _, _, _, _, _, _, _, _, _, _, _, _, _, _, _, _, _, _, _, _, _, _, _, _, _, _, _, _, _, _, _]) mv_X0_43 dX0_init_188 (c_X2_init (N := 12) (by decide) (by decide) (by decide) (by rw [List.length_append, ha]; rfl) (by rw [List.append_assoc]; exact hw) hq38) rfl rfl rfl rfl (Nat.le_of_ble_eq_true rfl) (by rfl) (Nat.le_of_ble_eq_true rfl) (Nat.le_of_ble_eq_true rfl) (Nat.le_of_ble_eq_true rfl) (okR_of (by simp only [okRl, List.length_cons, List.length_nil, and_true, Nat.lt_eq]; first | done | omega) (by simp only [okRs, List.length_cons, List.length_nil, and_true, Nat.lt_eq]; first | done | omega)) (fun hw => ?_)
  refine ev_putRT (L' := [_, _, _, _, _, _, _, _, _, _, _, _, _, _, _, _, _, _, _, _, _, _, _, _, _, _, _, _, _, _, _, _, _, _, _, _, _]) (k := 0) fr_X0_71 rfl rfl dX0_init_191 ha rfl rfl (fun _ => rfl) (fun _ => rfl) (by simp only [List.length_cons, List.length_nil]; omega) rfl hw (fun hw => ?_)
  refine ev_aload_n dX0_init_194 rfl ?_
  refine ev_newT (q := a + 37) (L' := [_, _, _, _, _, _, _, _, _, _, _, _, _, _, _, _, _, _, _, _, _, _, _, _, _, _, _, _, _, _, _, _, _, _, _, _, _, _]) cr_X0_41 dX0_init_195 (by rw [ha]; rfl) rfl hw (okR_of (by simp only [okRl, List.length_cons, List.length_nil, and_true, Nat.lt_eq]; first | done | omega) (by simp only [okRs, List.length_cons, List.length_nil, and_true, Nat.lt_eq]; first | done | omega)) (Nat.le_of_ble_eq_true rfl) (Nat.le_of_ble_eq_true rfl) (fun hw => ?_)
  refine ev_dup dX0_init_198 (by rfl) ?_
  refine ev_bipush (v := (7 : Int32)) dX0_init_199 (by decide) ?_
  refine ev_iconst (v := (1 : Int32)) dX0_init_201 (by decide) ?_
  obtain ⟨m40, hq41, h⟩ := bndV_t h
  refine ev_cI (L := [_, _, _, _, _, _, _, _, _, _, _, _, _, _, _, _, _, _, _, _, _, _, _, _, _, _, _, _, _, _, _, _, _, _, _, _, _]) (L' := [_, _, _, _, _, _, _, _, _, _, _, _, _, _, _, _, _, _, _, _, _, _, _, _, _, _, _, _, _, _, _, _, _, _, _, _, _, _, _]) mv_X0_43 dX0_init_202 (c_X2_init (N := 7) (by decide) (by decide) (by decide) (by rw [List.length_append, ha]; rfl) (by rw [List.append_assoc]; exact hw) hq41) rfl rfl rfl rfl (Nat.le_of_ble_eq_true rfl) (by rfl) (Nat.le_of_ble_eq_true rfl) (Nat.le_of_ble_eq_true rfl) (Nat.le_of_ble_eq_true rfl) (okR_of (by simp only [okRl, List.length_cons, List.length_nil, and_true, Nat.lt_eq]; first | done | omega) (by simp only [okRs, List.length_cons, List.length_nil, and_true, Nat.lt_eq]; first | done | omega)) (fun hw => ?_)
  refine ev_putRT (L' := [_, _, _, _, _, _, _, _, _, _, _, _, _, _, _, _, _, _, _, _, _, _, _, _, _, _, _, _, _, _, _, _, _, _, _, _, _, _, _]) (k := 0) fr_X0_74 rfl rfl dX0_init_205 ha rfl rfl (fun _ => rfl) (fun _ => rfl) (by simp only [List.length_cons, List.length_nil]; omega) rfl hw (fun hw => ?_)
  refine ev_aload_n dX0_init_208 rfl ?_
  refine ev_bipush (v := (6 : Int32)) dX0_init_209 (by decide) ?_
  refine ev_newaT (N := 6) (q := a + 39) (L' := [_, _, _, _, _, _, _, _, _, _, _, _, _, _, _, _, _, _, _, _, _, _, _, _, _, _, _, _, _, _, _, _, _, _, _, _, _, _, _, _]) dX0_init_211 (by decide) (by decide) (by decide) (by rw [ha]; rfl) rfl hw (okR_of (by simp only [okRl, List.length_cons, List.length_nil, and_true, Nat.lt_eq]; first | done | omega) (by simp only [okRs, List.length_cons, List.length_nil, and_true, Nat.lt_eq]; first | done | omega)) (Nat.le_of_ble_eq_true rfl) (Nat.le_of_ble_eq_true rfl) (fun hw => ?_)
  refine ev_dup dX0_init_213 (by rfl) ?_
  refine ev_iconst (v := (0 : Int32)) dX0_init_214 (by decide) ?_
  refine ev_iconst (v := (1 : Int32)) dX0_init_215 (by decide) ?_
  refine ev_iastL (j := 0) (tlg (k := 39) ha rfl) (by decide) (vpl _ _ (by decide)) dX0_init_216 ?_
  refine ev_dup dX0_init_217 (by rfl) ?_
  refine ev_iconst (v := (1 : Int32)) dX0_init_218 (by decide) ?_
  refine ev_iconst (v := (0 : Int32)) dX0_init_219 (by decide) ?_
  refine ev_iastL (j := 1) (tlg (k := 39) ha rfl) (by decide) (vpl _ _ (by decide)) dX0_init_220 ?_
  refine ev_dup dX0_init_221 (by rfl) ?_
  refine ev_iconst (v := (2 : Int32)) dX0_init_222 (by decide) ?_
  refine ev_iconst (v := (1 : Int32)) dX0_init_223 (by decide) ?_
  refine ev_iastL (j := 2) (tlg (k := 39) ha rfl) (by decide) (vpl _ _ (by decide)) dX0_init_224 ?_
  refine ev_dup dX0_init_225 (by rfl) ?_
  refine ev_iconst (v := (3 : Int32)) dX0_init_226 (by decide) ?_
  refine ev_iconst (v := (0 : Int32)) dX0_init_227 (by decide) ?_
  refine ev_iastL (j := 3) (tlg (k := 39) ha rfl) (by decide) (vpl _ _ (by decide)) dX0_init_228 ?_
  refine ev_dup dX0_init_229 (by rfl) ?_
  refine ev_iconst (v := (4 : Int32)) dX0_init_230 (by decide) ?_
  refine ev_iconst (v := (1 : Int32)) dX0_init_231 (by decide) ?_
  refine ev_iastL (j := 4) (tlg (k := 39) ha rfl) (by decide) (vpl _ _ (by decide)) dX0_init_232 ?_
  refine ev_dup dX0_init_233 (by rfl) ?_
  refine ev_iconst (v := (5 : Int32)) dX0_init_234 (by decide) ?_
  refine ev_iconst (v := (0 : Int32)) dX0_init_235 (by decide) ?_
  refine ev_iastL (j := 5) (tlg (k := 39) ha rfl) (by decide) (vpl _ _ (by decide)) dX0_init_236 ?_
  refine ev_putRT (L' := [_, _, _, _, _, _, _, _, _, _, _, _, _, _, _, _, _, _, _, _, _, _, _, _, _, _, _, _, _, _, _, _, _, _, _, _, _, _, _, _]) (k := 0) fr_X0_77 rfl rfl dX0_init_237 ha rfl rfl (fun _ => rfl) (fun _ => rfl) (by simp only [List.length_cons, List.length_nil]; omega) rfl hw (fun hw => ?_)
  exact ev_vret rfl (Nat.le_of_ble_eq_true rfl) (Nat.le_of_ble_eq_true rfl) dX0_init_240 (ctP_i hw h)
def full_X5 (a : Nat ) : List Shp := [.inr (.inr (5, [some (some (a + 1)), some (some (a + 2)), some (some (a + 3)), some (some (a + 4)), some (some (a + 11)), none, none, none, none, none, none, none, none])), .inl 400, .inl 401, .inl 401, .inr (.inr (1, [some (some (a + 5)), some (some (a + 6)), some (some (a + 7)), some (some (a + 8)), some (some (a + 9)), some (some (a + 10)), none, none])), .inl 400, .inl 16, .inl 16, .inl 16, .inl 16, .inl 40, .inr (.inr (2, [none, none, some (some (a + 12)), none])), .inl 96]
def f_X5_init (G : Nat) (a : Nat) (μ : Mem) : Option Mem :=
  (let m1 := zr μ (a + 1)
  (let m2 := zr m1 (a + 2)
  (let m3 := zr m2 (a + 3)
  (let m4 := zr m3 (a + 4)
  bndV (f_X1_init G (a + 4) m4) (fun m5 =>
  (let m7 := zr m5 (a + 11)
  bndV (f_X2_init G (a + 11) (16 : Int32) (6 : Int32) m7) (fun m8 =>
  (let m10 := wr m8 a 7 (-1 : Int32)
  some m10))))))))
set_option maxHeartbeats 8000000 in
set_option maxRecDepth 100000 in
theorem c_X5_init {pre : List Shp} {G : Nat} {a : Nat} {μ : Mem} {μr : Mem} (ha : pre.length = a) (hw : wfS (pre ++ [.inr (.inr (5, [some none, some none, some none, some none, some none, none, none, none, none, none, none, none, none]))])) (h : f_X5_init G a μ = some μr) : Cn yX5_init cX5_init 1 none 3 12 1814 [.ref a] (pre ++ [.inr (.inr (5, [some none, some none, some none, some none, some none, none, none, none, none, none, none, none, none]))]) μ (ctP (pre ++ full_X5 a) μr) := by
  refine cn_of (own := RX5) (ini := true) (loc := [some (.ref a)]) rfl (by decide) (fun _ => rfl) (Nat.le_of_ble_eq_true rfl) (by rfl) rfl ?_
  unfold f_X5_init at h
  refine ev_aload_n dX5_init_0 rfl ?_
  refine ev_objInit ml_X5_3 w_oi1 w_oi2 dX5_init_1 (Nat.le_of_ble_eq_true rfl) (by rfl) (Nat.le_of_ble_eq_true rfl) ?_
  refine ev_aload_n dX5_init_4 rfl ?_
  refine ev_sipush (v := (400 : Int32)) dX5_init_5 (by decide) ?_
  refine ev_newaT (N := 400) (q := a + 1) (L' := [_, _]) dX5_init_8 (by decide) (by decide) (by decide) (by rw [ha]; rfl) rfl hw (okR_of (by simp only [okRl, List.length_cons, List.length_nil, and_true, Nat.lt_eq]; first | done | omega) (by simp only [okRs, List.length_cons, List.length_nil, and_true, Nat.lt_eq]; first | done | omega)) (Nat.le_of_ble_eq_true rfl) (Nat.le_of_ble_eq_true rfl) (fun hw => ?_)
  refine ev_putRT (L' := [_, _]) (k := 0) fr_X5_9 rfl rfl dX5_init_10 ha rfl rfl (fun _ => rfl) (fun _ => rfl) (by simp only [List.length_cons, List.length_nil]; omega) rfl hw (fun hw => ?_)
  refine ev_aload_n dX5_init_13 rfl ?_
  refine ev_sipush (v := (401 : Int32)) dX5_init_14 (by decide) ?_
  refine ev_newaT (N := 401) (q := a + 2) (L' := [_, _, _]) dX5_init_17 (by decide) (by decide) (by decide) (by rw [ha]; rfl) rfl hw (okR_of (by simp only [okRl, List.length_cons, List.length_nil, and_true, Nat.lt_eq]; first | done | omega) (by simp only [okRs, List.length_cons, List.length_nil, and_true, Nat.lt_eq]; first | done | omega)) (Nat.le_of_ble_eq_true rfl) (Nat.le_of_ble_eq_true rfl) (fun hw => ?_)
  refine ev_putRT (L' := [_, _, _]) (k := 0) fr_X5_15 rfl rfl dX5_init_19 ha rfl rfl (fun _ => rfl) (fun _ => rfl) (by simp only [List.length_cons, List.length_nil]; omega) rfl hw (fun hw => ?_)
  refine ev_aload_n dX5_init_22 rfl ?_
  refine ev_sipush (v := (401 : Int32)) dX5_init_23 (by decide) ?_
  refine ev_newaT (N := 401) (q := a + 3) (L' := [_, _, _, _]) dX5_init_26 (by decide) (by decide) (by decide) (by rw [ha]; rfl) rfl hw (okR_of (by simp only [okRl, List.length_cons, List.length_nil, and_true, Nat.lt_eq]; first | done | omega) (by simp only [okRs, List.length_cons, List.length_nil, and_true, Nat.lt_eq]; first | done | omega)) (Nat.le_of_ble_eq_true rfl) (Nat.le_of_ble_eq_true rfl) (fun hw => ?_)
  refine ev_putRT (L' := [_, _, _, _]) (k := 0) fr_X5_18 rfl rfl dX5_init_28 ha rfl rfl (fun _ => rfl) (fun _ => rfl) (by simp only [List.length_cons, List.length_nil]; omega) rfl hw (fun hw => ?_)
  refine ev_aload_n dX5_init_31 rfl ?_
  refine ev_newT (q := a + 4) (L' := [_, _, _, _, _]) cr_X5_21 dX5_init_32 (by rw [ha]; rfl) rfl hw (okR_of (by simp only [okRl, List.length_cons, List.length_nil, and_true, Nat.lt_eq]; first | done | omega) (by simp only [okRs, List.length_cons, List.length_nil, and_true, Nat.lt_eq]; first | done | omega)) (Nat.le_of_ble_eq_true rfl) (Nat.le_of_ble_eq_true rfl) (fun hw => ?_)
  refine ev_dup dX5_init_35 (by rfl) ?_
  obtain ⟨m5, hq6, h⟩ := bndV_t h
  refine ev_cIN (L := [_, _, _, _]) (L' := [_, _, _, _, _, _, _, _, _, _, _]) mv_X5_23 dX5_init_36 (c_X1_init (by rw [List.length_append, ha]; rfl) (by rw [List.append_assoc]; exact hw) hq6) rfl rfl rfl rfl (Nat.le_of_ble_eq_true rfl) (by rfl) (Nat.le_of_ble_eq_true rfl) (Nat.le_of_ble_eq_true rfl) (Nat.le_of_ble_eq_true rfl) (okR_of (by simp only [okRl, List.length_cons, List.length_nil, and_true, Nat.lt_eq]; first | done | omega) (by simp only [okRs, List.length_cons, List.length_nil, and_true, Nat.lt_eq]; first | done | omega)) (fun hw => ?_)
  refine ev_putRT (L' := [_, _, _, _, _, _, _, _, _, _, _]) (k := 0) fr_X5_24 rfl rfl dX5_init_39 ha rfl rfl (fun _ => rfl) (fun _ => rfl) (by simp only [List.length_cons, List.length_nil]; omega) rfl hw (fun hw => ?_)
  refine ev_aload_n dX5_init_42 rfl ?_
  refine ev_newT (q := a + 11) (L' := [_, _, _, _, _, _, _, _, _, _, _, _]) cr_X5_28 dX5_init_43 (by rw [ha]; rfl) rfl hw (okR_of (by simp only [okRl, List.length_cons, List.length_nil, and_true, Nat.lt_eq]; first | done | omega) (by simp only [okRs, List.length_cons, List.length_nil, and_true, Nat.lt_eq]; first | done | omega)) (Nat.le_of_ble_eq_true rfl) (Nat.le_of_ble_eq_true rfl) (fun hw => ?_)
  refine ev_dup dX5_init_46 (by rfl) ?_
  refine ev_bipush (v := (16 : Int32)) dX5_init_47 (by decide) ?_
  refine ev_bipush (v := (6 : Int32)) dX5_init_49 (by decide) ?_
  obtain ⟨m8, hq9, h⟩ := bndV_t h
  refine ev_cI (L := [_, _, _, _, _, _, _, _, _, _, _]) (L' := [_, _, _, _, _, _, _, _, _, _, _, _, _]) mv_X5_30 dX5_init_51 (c_X2_init (N := 96) (by decide) (by decide) (by decide) (by rw [List.length_append, ha]; rfl) (by rw [List.append_assoc]; exact hw) hq9) rfl rfl rfl rfl (Nat.le_of_ble_eq_true rfl) (by rfl) (Nat.le_of_ble_eq_true rfl) (Nat.le_of_ble_eq_true rfl) (Nat.le_of_ble_eq_true rfl) (okR_of (by simp only [okRl, List.length_cons, List.length_nil, and_true, Nat.lt_eq]; first | done | omega) (by simp only [okRs, List.length_cons, List.length_nil, and_true, Nat.lt_eq]; first | done | omega)) (fun hw => ?_)
  refine ev_putRT (L' := [_, _, _, _, _, _, _, _, _, _, _, _, _]) (k := 0) fr_X5_33 rfl rfl dX5_init_54 ha rfl rfl (fun _ => rfl) (fun _ => rfl) (by simp only [List.length_cons, List.length_nil]; omega) rfl hw (fun hw => ?_)
  refine ev_aload_n dX5_init_57 rfl ?_
  refine ev_iconst (v := (-1 : Int32)) dX5_init_58 (by decide) ?_
  refine ev_putI fr_X5_37 (tlg (k := 0) ha rfl) rfl rfl rfl dX5_init_59 ?_
  exact ev_vret rfl (Nat.le_of_ble_eq_true rfl) (Nat.le_of_ble_eq_true rfl) dX5_init_62 (ctP_i hw h)
def pastG (a : Nat) : Nat → Option Nat := (va_up (va_up (va_up (va_up (va_up (va_up (fun _ => none) (ix (0 : Int32)) (some (a + 3))) (ix ((0 : Int32) + (1 : Int32))) (some (a + 9))) (ix (((0 : Int32) + (1 : Int32)) + (1 : Int32))) (some (a + 15))) (ix ((((0 : Int32) + (1 : Int32)) + (1 : Int32)) + (1 : Int32))) (some (a + 21))) (ix (((((0 : Int32) + (1 : Int32)) + (1 : Int32)) + (1 : Int32)) + (1 : Int32))) (some (a + 27))) (ix ((((((0 : Int32) + (1 : Int32)) + (1 : Int32)) + (1 : Int32)) + (1 : Int32)) + (1 : Int32))) (some (a + 33)))
def full_X3 (a : Nat ) : List Shp := [.inr (.inr (3, [some (some (a + 1)), some (some (a + 2)), none, none])), .inr (.inl (6, pastG a)), .inl 6, .inr (.inr (7, [some (some (a + 4)), some (some (a + 5)), some (some (a + 6)), some (some (a + 7)), some (some (a + 8)), none, none, none, none])), .inl 12, .inl 8, .inl 8, .inl 8, .inl 8, .inr (.inr (7, [some (some (a + 10)), some (some (a + 11)), some (some (a + 12)), some (some (a + 13)), some (some (a + 14)), none, none, none, none])), .inl 12, .inl 8, .inl 8, .inl 8, .inl 8, .inr (.inr (7, [some (some (a + 16)), some (some (a + 17)), some (some (a + 18)), some (some (a + 19)), some (some (a + 20)), none, none, none, none])), .inl 12, .inl 8, .inl 8, .inl 8, .inl 8, .inr (.inr (7, [some (some (a + 22)), some (some (a + 23)), some (some (a + 24)), some (some (a + 25)), some (some (a + 26)), none, none, none, none])), .inl 12, .inl 8, .inl 8, .inl 8, .inl 8, .inr (.inr (7, [some (some (a + 28)), some (some (a + 29)), some (some (a + 30)), some (some (a + 31)), some (some (a + 32)), none, none, none, none])), .inl 12, .inl 8, .inl 8, .inl 8, .inl 8, .inr (.inr (7, [some (some (a + 34)), some (some (a + 35)), some (some (a + 36)), some (some (a + 37)), some (some (a + 38)), none, none, none, none])), .inl 12, .inl 8, .inl 8, .inl 8, .inl 8]
def f_X3_init (G : Nat) (a : Nat) (μ : Mem) : Option Mem :=
  (let m1 := zr μ (a + 1)
  (let m2 := zr m1 (a + 2)
  (let m3 := zr m2 (a + 3)
  bndV (f_X8_init G (a + 3) m3) (fun m4 =>
  (let m6 := zr m4 (a + 9)
  bndV (f_X8_init G (a + 9) m6) (fun m7 =>
  (let m9 := zr m7 (a + 15)
  bndV (f_X8_init G (a + 15) m9) (fun m10 =>
  (let m12 := zr m10 (a + 21)
  bndV (f_X8_init G (a + 21) m12) (fun m13 =>
  (let m15 := zr m13 (a + 27)
  bndV (f_X8_init G (a + 27) m15) (fun m16 =>
  (let m18 := zr m16 (a + 33)
  bndV (f_X8_init G (a + 33) m18) (fun m19 =>
  some m19))))))))))))))
set_option maxHeartbeats 8000000 in
set_option maxRecDepth 100000 in
theorem c_X3_init {pre : List Shp} {G : Nat} {a : Nat} {μ : Mem} {μr : Mem} (ha : pre.length = a) (hw : wfS (pre ++ [.inr (.inr (3, [some none, some none, none, none]))])) (h : f_X3_init G a μ = some μr) : Cn yX3_init cX3_init 2 none 3 38 330 [.ref a] (pre ++ [.inr (.inr (3, [some none, some none, none, none]))]) μ (ctP (pre ++ full_X3 a) μr) := by
  refine cn_of (own := RX3) (ini := true) (loc := [some (.ref a), none]) rfl (by decide) (fun _ => rfl) (Nat.le_of_ble_eq_true rfl) (by rfl) rfl ?_
  unfold f_X3_init at h
  refine ev_aload_n dX3_init_0 rfl ?_
  refine ev_objInit ml_X3_3 w_oi1 w_oi2 dX3_init_1 (Nat.le_of_ble_eq_true rfl) (by rfl) (Nat.le_of_ble_eq_true rfl) ?_
  refine ev_aload_n dX3_init_4 rfl ?_
  refine ev_bipush (v := (6 : Int32)) dX3_init_5 (by decide) ?_
  refine ev_newqT (N := 6) (q := a + 1) (L' := [_, _]) dX3_init_7 cl_X3_9 (by decide) (by decide) (by decide) (by rw [ha]; rfl) rfl hw (okR_of (by simp only [okRl, List.length_cons, List.length_nil, and_true, Nat.lt_eq]; first | done | omega) (by simp only [okRs, List.length_cons, List.length_nil, and_true, Nat.lt_eq]; first | done | omega)) (Nat.le_of_ble_eq_true rfl) (Nat.le_of_ble_eq_true rfl) (fun hw => ?_)
  refine ev_putRT (L' := [_, _]) (k := 0) fr_X3_11 rfl rfl dX3_init_10 ha rfl rfl (fun _ => rfl) (fun _ => rfl) (by simp only [List.length_cons, List.length_nil]; omega) rfl hw (fun hw => ?_)
  refine ev_aload_n dX3_init_13 rfl ?_
  refine ev_bipush (v := (6 : Int32)) dX3_init_14 (by decide) ?_
  refine ev_newaT (N := 6) (q := a + 2) (L' := [_, _, _]) dX3_init_16 (by decide) (by decide) (by decide) (by rw [ha]; rfl) rfl hw (okR_of (by simp only [okRl, List.length_cons, List.length_nil, and_true, Nat.lt_eq]; first | done | omega) (by simp only [okRs, List.length_cons, List.length_nil, and_true, Nat.lt_eq]; first | done | omega)) (Nat.le_of_ble_eq_true rfl) (Nat.le_of_ble_eq_true rfl) (fun hw => ?_)
  refine ev_putRT (L' := [_, _, _]) (k := 0) fr_X3_17 rfl rfl dX3_init_18 ha rfl rfl (fun _ => rfl) (fun _ => rfl) (by simp only [List.length_cons, List.length_nil]; omega) rfl hw (fun hw => ?_)
  refine ev_iconst (v := (0 : Int32)) dX3_init_21 (by decide) ?_
  refine ev_istore_n (loc' := [_, _]) dX3_init_22 rfl (by decide) (by rfl) ?_
  refine ev_iload_n dX3_init_23 rfl ?_
  refine ev_bipush (v := (6 : Int32)) dX3_init_24 (by decide) ?_
  refine ev_icmp_ge (tgt := 48) dX3_init_26 (by decide) (fun q => absurd q (by decide)) (fun _ => ?_)
  refine ev_aload_n dX3_init_29 rfl ?_
  refine ev_getR fr_X3_11 (tlg (k := 0) ha rfl) rfl dX3_init_30 ?_
  refine ev_iload_n dX3_init_33 rfl ?_
  refine ev_newT (q := a + 3) (L' := [_, _, _, _]) cr_X3_9 dX3_init_34 (by rw [ha]; rfl) rfl hw (okR_of (by simp only [okRl, List.length_cons, List.length_nil, and_true, Nat.lt_eq]; first | done | omega) (by simp only [okRs, List.length_cons, List.length_nil, and_true, Nat.lt_eq]; first | done | omega)) (Nat.le_of_ble_eq_true rfl) (Nat.le_of_ble_eq_true rfl) (fun hw => ?_)
  refine ev_dup dX3_init_37 (by rfl) ?_
  obtain ⟨m4, hq5, h⟩ := bndV_t h
  refine ev_cI (L := [_, _, _]) (L' := [_, _, _, _, _, _, _, _, _]) mv_X3_21 dX3_init_38 (c_X8_init (by rw [List.length_append, ha]; rfl) (by rw [List.append_assoc]; exact hw) hq5) rfl rfl rfl rfl (Nat.le_of_ble_eq_true rfl) (by rfl) (Nat.le_of_ble_eq_true rfl) (Nat.le_of_ble_eq_true rfl) (Nat.le_of_ble_eq_true rfl) (okR_of (by simp only [okRl, List.length_cons, List.length_nil, and_true, Nat.lt_eq]; first | done | omega) (by simp only [okRs, List.length_cons, List.length_nil, and_true, Nat.lt_eq]; first | done | omega)) (fun hw => ?_)
  refine ev_aastT (L' := [_, _, _, _, _, _, _, _, _]) (k := 1) (kb := 3) dX3_init_41 ha rfl (vpl _ _ (by decide)) rfl rfl rfl hw (fun hw => ?_)
  refine ev_iinc (cq := (1 : Int32)) (loc' := [_, _]) dX3_init_42 rfl (by decide) rfl (by decide) (by rfl) ?_
  refine ev_goto (tgt := 23) dX3_init_45 (by decide) ?_
  refine ev_iload_n dX3_init_23 rfl ?_
  refine ev_bipush (v := (6 : Int32)) dX3_init_24 (by decide) ?_
  refine ev_icmp_ge (tgt := 48) dX3_init_26 (by decide) (fun q => absurd q (by decide)) (fun _ => ?_)
  refine ev_aload_n dX3_init_29 rfl ?_
  refine ev_getR fr_X3_11 (tlg (k := 0) ha rfl) rfl dX3_init_30 ?_
  refine ev_iload_n dX3_init_33 rfl ?_
  refine ev_newT (q := a + 9) (L' := [_, _, _, _, _, _, _, _, _, _]) cr_X3_9 dX3_init_34 (by rw [ha]; rfl) rfl hw (okR_of (by simp only [okRl, List.length_cons, List.length_nil, and_true, Nat.lt_eq]; first | done | omega) (by simp only [okRs, List.length_cons, List.length_nil, and_true, Nat.lt_eq]; first | done | omega)) (Nat.le_of_ble_eq_true rfl) (Nat.le_of_ble_eq_true rfl) (fun hw => ?_)
  refine ev_dup dX3_init_37 (by rfl) ?_
  obtain ⟨m7, hq8, h⟩ := bndV_t h
  refine ev_cI (L := [_, _, _, _, _, _, _, _, _]) (L' := [_, _, _, _, _, _, _, _, _, _, _, _, _, _, _]) mv_X3_21 dX3_init_38 (c_X8_init (by rw [List.length_append, ha]; rfl) (by rw [List.append_assoc]; exact hw) hq8) rfl rfl rfl rfl (Nat.le_of_ble_eq_true rfl) (by rfl) (Nat.le_of_ble_eq_true rfl) (Nat.le_of_ble_eq_true rfl) (Nat.le_of_ble_eq_true rfl) (okR_of (by simp only [okRl, List.length_cons, List.length_nil, and_true, Nat.lt_eq]; first | done | omega) (by simp only [okRs, List.length_cons, List.length_nil, and_true, Nat.lt_eq]; first | done | omega)) (fun hw => ?_)
  refine ev_aastT (L' := [_, _, _, _, _, _, _, _, _, _, _, _, _, _, _]) (k := 1) (kb := 9) dX3_init_41 ha rfl (vpl _ _ (by decide)) rfl rfl rfl hw (fun hw => ?_)
  refine ev_iinc (cq := (1 : Int32)) (loc' := [_, _]) dX3_init_42 rfl (by decide) rfl (by decide) (by rfl) ?_
  refine ev_goto (tgt := 23) dX3_init_45 (by decide) ?_
  refine ev_iload_n dX3_init_23 rfl ?_
  refine ev_bipush (v := (6 : Int32)) dX3_init_24 (by decide) ?_
  refine ev_icmp_ge (tgt := 48) dX3_init_26 (by decide) (fun q => absurd q (by decide)) (fun _ => ?_)
  refine ev_aload_n dX3_init_29 rfl ?_
  refine ev_getR fr_X3_11 (tlg (k := 0) ha rfl) rfl dX3_init_30 ?_
  refine ev_iload_n dX3_init_33 rfl ?_
  refine ev_newT (q := a + 15) (L' := [_, _, _, _, _, _, _, _, _, _, _, _, _, _, _, _]) cr_X3_9 dX3_init_34 (by rw [ha]; rfl) rfl hw (okR_of (by simp only [okRl, List.length_cons, List.length_nil, and_true, Nat.lt_eq]; first | done | omega) (by simp only [okRs, List.length_cons, List.length_nil, and_true, Nat.lt_eq]; first | done | omega)) (Nat.le_of_ble_eq_true rfl) (Nat.le_of_ble_eq_true rfl) (fun hw => ?_)
  refine ev_dup dX3_init_37 (by rfl) ?_
  obtain ⟨m10, hq11, h⟩ := bndV_t h
  refine ev_cI (L := [_, _, _, _, _, _, _, _, _, _, _, _, _, _, _]) (L' := [_, _, _, _, _, _, _, _, _, _, _, _, _, _, _, _, _, _, _, _, _]) mv_X3_21 dX3_init_38 (c_X8_init (by rw [List.length_append, ha]; rfl) (by rw [List.append_assoc]; exact hw) hq11) rfl rfl rfl rfl (Nat.le_of_ble_eq_true rfl) (by rfl) (Nat.le_of_ble_eq_true rfl) (Nat.le_of_ble_eq_true rfl) (Nat.le_of_ble_eq_true rfl) (okR_of (by simp only [okRl, List.length_cons, List.length_nil, and_true, Nat.lt_eq]; first | done | omega) (by simp only [okRs, List.length_cons, List.length_nil, and_true, Nat.lt_eq]; first | done | omega)) (fun hw => ?_)
  refine ev_aastT (L' := [_, _, _, _, _, _, _, _, _, _, _, _, _, _, _, _, _, _, _, _, _]) (k := 1) (kb := 15) dX3_init_41 ha rfl (vpl _ _ (by decide)) rfl rfl rfl hw (fun hw => ?_)
  refine ev_iinc (cq := (1 : Int32)) (loc' := [_, _]) dX3_init_42 rfl (by decide) rfl (by decide) (by rfl) ?_
  refine ev_goto (tgt := 23) dX3_init_45 (by decide) ?_
  refine ev_iload_n dX3_init_23 rfl ?_
  refine ev_bipush (v := (6 : Int32)) dX3_init_24 (by decide) ?_
  refine ev_icmp_ge (tgt := 48) dX3_init_26 (by decide) (fun q => absurd q (by decide)) (fun _ => ?_)
  refine ev_aload_n dX3_init_29 rfl ?_
  refine ev_getR fr_X3_11 (tlg (k := 0) ha rfl) rfl dX3_init_30 ?_
  refine ev_iload_n dX3_init_33 rfl ?_
  refine ev_newT (q := a + 21) (L' := [_, _, _, _, _, _, _, _, _, _, _, _, _, _, _, _, _, _, _, _, _, _]) cr_X3_9 dX3_init_34 (by rw [ha]; rfl) rfl hw (okR_of (by simp only [okRl, List.length_cons, List.length_nil, and_true, Nat.lt_eq]; first | done | omega) (by simp only [okRs, List.length_cons, List.length_nil, and_true, Nat.lt_eq]; first | done | omega)) (Nat.le_of_ble_eq_true rfl) (Nat.le_of_ble_eq_true rfl) (fun hw => ?_)
  refine ev_dup dX3_init_37 (by rfl) ?_
  obtain ⟨m13, hq14, h⟩ := bndV_t h
  refine ev_cI (L := [_, _, _, _, _, _, _, _, _, _, _, _, _, _, _, _, _, _, _, _, _]) (L' := [_, _, _, _, _, _, _, _, _, _, _, _, _, _, _, _, _, _, _, _, _, _, _, _, _, _, _]) mv_X3_21 dX3_init_38 (c_X8_init (by rw [List.length_append, ha]; rfl) (by rw [List.append_assoc]; exact hw) hq14) rfl rfl rfl rfl (Nat.le_of_ble_eq_true rfl) (by rfl) (Nat.le_of_ble_eq_true rfl) (Nat.le_of_ble_eq_true rfl) (Nat.le_of_ble_eq_true rfl) (okR_of (by simp only [okRl, List.length_cons, List.length_nil, and_true, Nat.lt_eq]; first | done | omega) (by simp only [okRs, List.length_cons, List.length_nil, and_true, Nat.lt_eq]; first | done | omega)) (fun hw => ?_)
  refine ev_aastT (L' := [_, _, _, _, _, _, _, _, _, _, _, _, _, _, _, _, _, _, _, _, _, _, _, _, _, _, _]) (k := 1) (kb := 21) dX3_init_41 ha rfl (vpl _ _ (by decide)) rfl rfl rfl hw (fun hw => ?_)
  refine ev_iinc (cq := (1 : Int32)) (loc' := [_, _]) dX3_init_42 rfl (by decide) rfl (by decide) (by rfl) ?_
  refine ev_goto (tgt := 23) dX3_init_45 (by decide) ?_
  refine ev_iload_n dX3_init_23 rfl ?_
  refine ev_bipush (v := (6 : Int32)) dX3_init_24 (by decide) ?_
  refine ev_icmp_ge (tgt := 48) dX3_init_26 (by decide) (fun q => absurd q (by decide)) (fun _ => ?_)
  refine ev_aload_n dX3_init_29 rfl ?_
  refine ev_getR fr_X3_11 (tlg (k := 0) ha rfl) rfl dX3_init_30 ?_
  refine ev_iload_n dX3_init_33 rfl ?_
  refine ev_newT (q := a + 27) (L' := [_, _, _, _, _, _, _, _, _, _, _, _, _, _, _, _, _, _, _, _, _, _, _, _, _, _, _, _]) cr_X3_9 dX3_init_34 (by rw [ha]; rfl) rfl hw (okR_of (by simp only [okRl, List.length_cons, List.length_nil, and_true, Nat.lt_eq]; first | done | omega) (by simp only [okRs, List.length_cons, List.length_nil, and_true, Nat.lt_eq]; first | done | omega)) (Nat.le_of_ble_eq_true rfl) (Nat.le_of_ble_eq_true rfl) (fun hw => ?_)
  refine ev_dup dX3_init_37 (by rfl) ?_
  obtain ⟨m16, hq17, h⟩ := bndV_t h
  refine ev_cI (L := [_, _, _, _, _, _, _, _, _, _, _, _, _, _, _, _, _, _, _, _, _, _, _, _, _, _, _]) (L' := [_, _, _, _, _, _, _, _, _, _, _, _, _, _, _, _, _, _, _, _, _, _, _, _, _, _, _, _, _, _, _, _, _]) mv_X3_21 dX3_init_38 (c_X8_init (by rw [List.length_append, ha]; rfl) (by rw [List.append_assoc]; exact hw) hq17) rfl rfl rfl rfl (Nat.le_of_ble_eq_true rfl) (by rfl) (Nat.le_of_ble_eq_true rfl) (Nat.le_of_ble_eq_true rfl) (Nat.le_of_ble_eq_true rfl) (okR_of (by simp only [okRl, List.length_cons, List.length_nil, and_true, Nat.lt_eq]; first | done | omega) (by simp only [okRs, List.length_cons, List.length_nil, and_true, Nat.lt_eq]; first | done | omega)) (fun hw => ?_)
  refine ev_aastT (L' := [_, _, _, _, _, _, _, _, _, _, _, _, _, _, _, _, _, _, _, _, _, _, _, _, _, _, _, _, _, _, _, _, _]) (k := 1) (kb := 27) dX3_init_41 ha rfl (vpl _ _ (by decide)) rfl rfl rfl hw (fun hw => ?_)
  refine ev_iinc (cq := (1 : Int32)) (loc' := [_, _]) dX3_init_42 rfl (by decide) rfl (by decide) (by rfl) ?_
  refine ev_goto (tgt := 23) dX3_init_45 (by decide) ?_
  refine ev_iload_n dX3_init_23 rfl ?_
  refine ev_bipush (v := (6 : Int32)) dX3_init_24 (by decide) ?_
  refine ev_icmp_ge (tgt := 48) dX3_init_26 (by decide) (fun q => absurd q (by decide)) (fun _ => ?_)
  refine ev_aload_n dX3_init_29 rfl ?_
  refine ev_getR fr_X3_11 (tlg (k := 0) ha rfl) rfl dX3_init_30 ?_
  refine ev_iload_n dX3_init_33 rfl ?_
  refine ev_newT (q := a + 33) (L' := [_, _, _, _, _, _, _, _, _, _, _, _, _, _, _, _, _, _, _, _, _, _, _, _, _, _, _, _, _, _, _, _, _, _]) cr_X3_9 dX3_init_34 (by rw [ha]; rfl) rfl hw (okR_of (by simp only [okRl, List.length_cons, List.length_nil, and_true, Nat.lt_eq]; first | done | omega) (by simp only [okRs, List.length_cons, List.length_nil, and_true, Nat.lt_eq]; first | done | omega)) (Nat.le_of_ble_eq_true rfl) (Nat.le_of_ble_eq_true rfl) (fun hw => ?_)
  refine ev_dup dX3_init_37 (by rfl) ?_
  obtain ⟨m19, hq20, h⟩ := bndV_t h
  refine ev_cI (L := [_, _, _, _, _, _, _, _, _, _, _, _, _, _, _, _, _, _, _, _, _, _, _, _, _, _, _, _, _, _, _, _, _]) (L' := [_, _, _, _, _, _, _, _, _, _, _, _, _, _, _, _, _, _, _, _, _, _, _, _, _, _, _, _, _, _, _, _, _, _, _, _, _, _, _]) mv_X3_21 dX3_init_38 (c_X8_init (by rw [List.length_append, ha]; rfl) (by rw [List.append_assoc]; exact hw) hq20) rfl rfl rfl rfl (Nat.le_of_ble_eq_true rfl) (by rfl) (Nat.le_of_ble_eq_true rfl) (Nat.le_of_ble_eq_true rfl) (Nat.le_of_ble_eq_true rfl) (okR_of (by simp only [okRl, List.length_cons, List.length_nil, and_true, Nat.lt_eq]; first | done | omega) (by simp only [okRs, List.length_cons, List.length_nil, and_true, Nat.lt_eq]; first | done | omega)) (fun hw => ?_)
  refine ev_aastT (L' := [_, _, _, _, _, _, _, _, _, _, _, _, _, _, _, _, _, _, _, _, _, _, _, _, _, _, _, _, _, _, _, _, _, _, _, _, _, _, _]) (k := 1) (kb := 33) dX3_init_41 ha rfl (vpl _ _ (by decide)) rfl rfl rfl hw (fun hw => ?_)
  refine ev_iinc (cq := (1 : Int32)) (loc' := [_, _]) dX3_init_42 rfl (by decide) rfl (by decide) (by rfl) ?_
  refine ev_goto (tgt := 23) dX3_init_45 (by decide) ?_
  refine ev_iload_n dX3_init_23 rfl ?_
  refine ev_bipush (v := (6 : Int32)) dX3_init_24 (by decide) ?_
  refine ev_icmp_ge (tgt := 48) dX3_init_26 (by decide) (fun _ => ?_) (fun q => absurd (by decide) q)
  exact ev_vret rfl (Nat.le_of_ble_eq_true rfl) (Nat.le_of_ble_eq_true rfl) dX3_init_48 (ctP_i hw h)
def full_X7 (a : Nat) (b : Nat) : List Shp := [.inr (.inr (6, [some (some b), some (some (a + 1)), some (some (a + 2)), some (some (a + 3)), some (some (a + 4)), some (some (a + 5))])), .inl 11, .inl 3, .inl 3, .inl 12, .inl 12]
def f_X7_init (G : Nat) (a : Nat) (b : Nat) (μ : Mem) : Option Mem :=
  (let m1 := zr μ (a + 1)
  (let m2 := zr m1 (a + 2)
  (let m3 := zr m2 (a + 3)
  (let m4 := zr m3 (a + 4)
  (let m5 := zr m4 (a + 5)
  some m5)))))
set_option maxHeartbeats 8000000 in
set_option maxRecDepth 100000 in
theorem c_X7_init {pre : List Shp} {G : Nat} {a : Nat} {b : Nat} {μ : Mem} {μr : Mem} (ha : pre.length = a) (hw : wfS (pre ++ [.inr (.inr (6, [some none, some none, some none, some none, some none, some none]))])) (hb : b < a) (h : f_X7_init G a b μ = some μr) : Cn yX7_init cX7_init 2 none 2 5 41 [.ref a, .ref b] (pre ++ [.inr (.inr (6, [some none, some none, some none, some none, some none, some none]))]) μ (ctP (pre ++ full_X7 a b) μr) := by
  refine cn_of (own := RX7) (ini := true) (loc := [some (.ref a), some (.ref b)]) rfl (by decide) (fun _ => rfl) (Nat.le_of_ble_eq_true rfl) (by rfl) rfl ?_
  unfold f_X7_init at h
  refine ev_aload_n dX7_init_0 rfl ?_
  refine ev_objInit ml_X7_3 w_oi1 w_oi2 dX7_init_1 (Nat.le_of_ble_eq_true rfl) (by rfl) (Nat.le_of_ble_eq_true rfl) ?_
  refine ev_aload_n dX7_init_4 rfl ?_
  refine ev_bipush (v := (11 : Int32)) dX7_init_5 (by decide) ?_
  refine ev_newaT (N := 11) (q := a + 1) (L' := [_, _]) dX7_init_7 (by decide) (by decide) (by decide) (by rw [ha]; rfl) rfl hw (okR_of (by simp only [okRl, List.length_cons, List.length_nil, and_true, Nat.lt_eq]; first | done | omega) (by simp only [okRs, List.length_cons, List.length_nil, and_true, Nat.lt_eq]; first | done | omega)) (Nat.le_of_ble_eq_true rfl) (Nat.le_of_ble_eq_true rfl) (fun hw => ?_)
  refine ev_putRT (L' := [_, _]) (k := 0) fr_X7_11 rfl rfl dX7_init_9 ha rfl rfl (fun _ => rfl) (fun _ => rfl) (by simp only [List.length_cons, List.length_nil]; omega) rfl hw (fun hw => ?_)
  refine ev_aload_n dX7_init_12 rfl ?_
  refine ev_iconst (v := (3 : Int32)) dX7_init_13 (by decide) ?_
  refine ev_newaT (N := 3) (q := a + 2) (L' := [_, _, _]) dX7_init_14 (by decide) (by decide) (by decide) (by rw [ha]; rfl) rfl hw (okR_of (by simp only [okRl, List.length_cons, List.length_nil, and_true, Nat.lt_eq]; first | done | omega) (by simp only [okRs, List.length_cons, List.length_nil, and_true, Nat.lt_eq]; first | done | omega)) (Nat.le_of_ble_eq_true rfl) (Nat.le_of_ble_eq_true rfl) (fun hw => ?_)
  refine ev_putRT (L' := [_, _, _]) (k := 0) fr_X7_17 rfl rfl dX7_init_16 ha rfl rfl (fun _ => rfl) (fun _ => rfl) (by simp only [List.length_cons, List.length_nil]; omega) rfl hw (fun hw => ?_)
  refine ev_aload_n dX7_init_19 rfl ?_
  refine ev_iconst (v := (3 : Int32)) dX7_init_20 (by decide) ?_
  refine ev_newaT (N := 3) (q := a + 3) (L' := [_, _, _, _]) dX7_init_21 (by decide) (by decide) (by decide) (by rw [ha]; rfl) rfl hw (okR_of (by simp only [okRl, List.length_cons, List.length_nil, and_true, Nat.lt_eq]; first | done | omega) (by simp only [okRs, List.length_cons, List.length_nil, and_true, Nat.lt_eq]; first | done | omega)) (Nat.le_of_ble_eq_true rfl) (Nat.le_of_ble_eq_true rfl) (fun hw => ?_)
  refine ev_putRT (L' := [_, _, _, _]) (k := 0) fr_X7_20 rfl rfl dX7_init_23 ha rfl rfl (fun _ => rfl) (fun _ => rfl) (by simp only [List.length_cons, List.length_nil]; omega) rfl hw (fun hw => ?_)
  refine ev_aload_n dX7_init_26 rfl ?_
  refine ev_bipush (v := (12 : Int32)) dX7_init_27 (by decide) ?_
  refine ev_newaT (N := 12) (q := a + 4) (L' := [_, _, _, _, _]) dX7_init_29 (by decide) (by decide) (by decide) (by rw [ha]; rfl) rfl hw (okR_of (by simp only [okRl, List.length_cons, List.length_nil, and_true, Nat.lt_eq]; first | done | omega) (by simp only [okRs, List.length_cons, List.length_nil, and_true, Nat.lt_eq]; first | done | omega)) (Nat.le_of_ble_eq_true rfl) (Nat.le_of_ble_eq_true rfl) (fun hw => ?_)
  refine ev_putRT (L' := [_, _, _, _, _]) (k := 0) fr_X7_23 rfl rfl dX7_init_31 ha rfl rfl (fun _ => rfl) (fun _ => rfl) (by simp only [List.length_cons, List.length_nil]; omega) rfl hw (fun hw => ?_)
  refine ev_aload_n dX7_init_34 rfl ?_
  refine ev_bipush (v := (12 : Int32)) dX7_init_35 (by decide) ?_
  refine ev_newaT (N := 12) (q := a + 5) (L' := [_, _, _, _, _, _]) dX7_init_37 (by decide) (by decide) (by decide) (by rw [ha]; rfl) rfl hw (okR_of (by simp only [okRl, List.length_cons, List.length_nil, and_true, Nat.lt_eq]; first | done | omega) (by simp only [okRs, List.length_cons, List.length_nil, and_true, Nat.lt_eq]; first | done | omega)) (Nat.le_of_ble_eq_true rfl) (Nat.le_of_ble_eq_true rfl) (fun hw => ?_)
  refine ev_putRT (L' := [_, _, _, _, _, _]) (k := 0) fr_X7_26 rfl rfl dX7_init_39 ha rfl rfl (fun _ => rfl) (fun _ => rfl) (by simp only [List.length_cons, List.length_nil]; omega) rfl hw (fun hw => ?_)
  refine ev_aload_n dX7_init_42 rfl ?_
  refine ev_aload_n dX7_init_43 rfl ?_
  refine ev_putRT (L' := [_, _, _, _, _, _]) (k := 0) fr_X7_29 rfl rfl dX7_init_44 ha rfl rfl (fun _ => rfl) (fun _ => rfl) (by simp only [List.length_cons, List.length_nil]; omega) rfl hw (fun hw => ?_)
  exact ev_vret rfl (Nat.le_of_ble_eq_true rfl) (Nat.le_of_ble_eq_true rfl) dX7_init_47 (ctP_i hw h)
def full_X4 (a : Nat ) : List Shp := [.inr (.inr (4, [some (some (a + 1)), some (some (a + 2)), some (some (a + 3)), some (some (a + 4)), none, none])), .inl 216, .inl 216, .inl 216, .inl 16]
def f_X4_init_L41 (G : Nat) (a : Nat)  : Nat → Int32 → Mem → Option Mem
  | 0, _, _ => none
  | g + 1, v1, μ =>
  (if (216 : Int32) ≤ v1 then
  (let m6 := wr μ a 4 (-2 : Int32)
  (let m7 := wr m6 a 5 (-2 : Int32)
  some m7))
  else
  chk v1 216 (let m8 := wr μ (a + 1) (ix v1) (((sl (1 : Int32) (v1 / (36 : Int32))) ||| (sl (1 : Int32) ((6 : Int32) + (irm (v1 / (6 : Int32)) (6 : Int32))))) ||| (sl (1 : Int32) ((12 : Int32) + (irm v1 (6 : Int32)))))
  chk v1 216 (let m10 := wr m8 (a + 2) (ix v1) (f_X4_oneMore (f_X4_oneMore (f_X4_oneMore (0 : Int32) (v1 / (36 : Int32))) (irm (v1 / (6 : Int32)) (6 : Int32))) (irm v1 (6 : Int32)))
  (f_X4_init_L41 G a g) (v1 + (1 : Int32)) m10)))
set_option maxHeartbeats 8000000 in
set_option maxRecDepth 100000 in
theorem f_X4_init_L41_ok {pre : List Shp} {G : Nat} {a : Nat} {μr : Mem} (ha : pre.length = a) (hw : wfS (pre ++ [.inr (.inr (4, [some (some (a + 1)), some (some (a + 2)), some (some (a + 3)), some (some (a + 4)), none, none])), .inl 216, .inl 216, .inl 216, .inl 16]))   : ∀ (g : Nat) (v1 : Int32) (μ : Mem), f_X4_init_L41 G a g v1 μ = some μr → Ev RX4 cX4_init 5 none true 2 4 664 (ctP (pre ++ full_X4 a) μr) 41 [some (.ref a), some (.int v1), none, none, none] [] (pre ++ [.inr (.inr (4, [some (some (a + 1)), some (some (a + 2)), some (some (a + 3)), some (some (a + 4)), none, none])), .inl 216, .inl 216, .inl 216, .inl 16]) μ 4 664 := by
  intro g
  induction g with
  | zero =>
    intro v1 μ h
    cases h
  | succ g ih =>
    intro v1 μ h
    rw [f_X4_init_L41] at h
    refine ev_iload_n dX4_init_41 rfl ?_
    refine ev_sipush (v := (216 : Int32)) dX4_init_42 (by decide) ?_
    refine ev_icmp_ge (tgt := 117) dX4_init_45 (by decide) (fun hc5 => ?_) (fun hc5 => ?_)
    · replace h := ite_t hc5 h
      refine ev_aload_n dX4_init_117 rfl ?_
      refine ev_bipush (v := (-2 : Int32)) dX4_init_118 (by decide) ?_
      refine ev_putI fr_X4_28 (tlg (k := 0) ha rfl) rfl rfl rfl dX4_init_120 ?_
      refine ev_aload_n dX4_init_123 rfl ?_
      refine ev_bipush (v := (-2 : Int32)) dX4_init_124 (by decide) ?_
      refine ev_putI fr_X4_32 (tlg (k := 0) ha rfl) rfl rfl rfl dX4_init_126 ?_
      exact ev_vret rfl (Nat.le_of_ble_eq_true rfl) (Nat.le_of_ble_eq_true rfl) dX4_init_129 (ctP_i hw h)
    · replace h := ite_f hc5 h
      refine ev_iload_n dX4_init_48 rfl ?_
      refine ev_bipush (v := (36 : Int32)) dX4_init_49 (by decide) ?_
      refine ev_idiv dX4_init_51 (by decide) ?_
      refine ev_istore_n (loc' := [_, _, _, _, _]) dX4_init_52 rfl (by decide) (by rfl) ?_
      refine ev_iload_n dX4_init_53 rfl ?_
      refine ev_bipush (v := (6 : Int32)) dX4_init_54 (by decide) ?_
      refine ev_idiv dX4_init_56 (by decide) ?_
      refine ev_bipush (v := (6 : Int32)) dX4_init_57 (by decide) ?_
      refine ev_irem dX4_init_59 (by decide) ?_
      refine ev_istore_n (loc' := [_, _, _, _, _]) dX4_init_60 rfl (by decide) (by rfl) ?_
      refine ev_iload_n dX4_init_61 rfl ?_
      refine ev_bipush (v := (6 : Int32)) dX4_init_62 (by decide) ?_
      refine ev_irem dX4_init_64 (by decide) ?_
      refine ev_istore (loc' := [_, _, _, _, _]) dX4_init_65 rfl (by decide) (by rfl) ?_
      refine ev_aload_n dX4_init_67 rfl ?_
      refine ev_getR fr_X4_11 (tlg (k := 0) ha rfl) rfl dX4_init_68 ?_
      refine ev_iload_n dX4_init_71 rfl ?_
      refine ev_iconst (v := (1 : Int32)) dX4_init_72 (by decide) ?_
      refine ev_iload_n dX4_init_73 rfl ?_
      refine ev_ishl dX4_init_74 ?_
      refine ev_iconst (v := (1 : Int32)) dX4_init_75 (by decide) ?_
      refine ev_bipush (v := (6 : Int32)) dX4_init_76 (by decide) ?_
      refine ev_iload_n dX4_init_78 rfl ?_
      refine ev_iadd dX4_init_79 ?_
      refine ev_ishl dX4_init_80 ?_
      refine ev_ior dX4_init_81 ?_
      refine ev_iconst (v := (1 : Int32)) dX4_init_82 (by decide) ?_
      refine ev_bipush (v := (12 : Int32)) dX4_init_83 (by decide) ?_
      refine ev_iload dX4_init_85 rfl ?_
      refine ev_iadd dX4_init_87 ?_
      refine ev_ishl dX4_init_88 ?_
      refine ev_ior dX4_init_89 ?_
      obtain ⟨hi9, h⟩ := chk_t h
      refine ev_iast (tlg (k := 1) ha rfl) hi9 dX4_init_90 ?_
      refine ev_aload_n dX4_init_91 rfl ?_
      refine ev_getR fr_X4_15 (tlg (k := 0) ha rfl) rfl dX4_init_92 ?_
      refine ev_iload_n dX4_init_95 rfl ?_
      refine ev_iconst (v := (0 : Int32)) dX4_init_96 (by decide) ?_
      refine ev_iload_n dX4_init_97 rfl ?_
      refine ev_cSi mv_X4_24 dX4_init_98 c_X4_oneMore rfl rfl (Nat.le_of_ble_eq_true rfl) (by rfl) (Nat.le_of_ble_eq_true rfl) (Nat.le_of_ble_eq_true rfl) (Nat.le_of_ble_eq_true rfl) ?_
      refine ev_iload_n dX4_init_101 rfl ?_
      refine ev_cSi mv_X4_24 dX4_init_102 c_X4_oneMore rfl rfl (Nat.le_of_ble_eq_true rfl) (by rfl) (Nat.le_of_ble_eq_true rfl) (Nat.le_of_ble_eq_true rfl) (Nat.le_of_ble_eq_true rfl) ?_
      refine ev_iload dX4_init_105 rfl ?_
      refine ev_cSi mv_X4_24 dX4_init_107 c_X4_oneMore rfl rfl (Nat.le_of_ble_eq_true rfl) (by rfl) (Nat.le_of_ble_eq_true rfl) (Nat.le_of_ble_eq_true rfl) (Nat.le_of_ble_eq_true rfl) ?_
      obtain ⟨hi11, h⟩ := chk_t h
      refine ev_iast (tlg (k := 2) ha rfl) hi11 dX4_init_110 ?_
      refine ev_iinc (cq := (1 : Int32)) (loc' := [_, _, _, _, _]) dX4_init_111 rfl (by decide) rfl (by decide) (by rfl) ?_
      refine ev_goto (tgt := 41) dX4_init_114 (by decide) ?_
      exact ev_lt (ih _ _ h) ⟨rfl, ⟨rfl, trivial⟩⟩
def f_X4_init (G : Nat) (a : Nat) (μ : Mem) : Option Mem :=
  (let m1 := zr μ (a + 1)
  (let m2 := zr m1 (a + 2)
  (let m3 := zr m2 (a + 3)
  (let m4 := zr m3 (a + 4)
  f_X4_init_L41 G a G (0 : Int32) m4))))
set_option maxHeartbeats 8000000 in
set_option maxRecDepth 100000 in
theorem c_X4_init {pre : List Shp} {G : Nat} {a : Nat} {μ : Mem} {μr : Mem} (ha : pre.length = a) (hw : wfS (pre ++ [.inr (.inr (4, [some none, some none, some none, some none, none, none]))])) (h : f_X4_init G a μ = some μr) : Cn yX4_init cX4_init 5 none 2 4 664 [.ref a] (pre ++ [.inr (.inr (4, [some none, some none, some none, some none, none, none]))]) μ (ctP (pre ++ full_X4 a) μr) := by
  refine cn_of (own := RX4) (ini := true) (loc := [some (.ref a), none, none, none, none]) rfl (by decide) (fun _ => rfl) (Nat.le_of_ble_eq_true rfl) (by rfl) rfl ?_
  unfold f_X4_init at h
  refine ev_aload_n dX4_init_0 rfl ?_
  refine ev_objInit ml_X4_3 w_oi1 w_oi2 dX4_init_1 (Nat.le_of_ble_eq_true rfl) (by rfl) (Nat.le_of_ble_eq_true rfl) ?_
  refine ev_aload_n dX4_init_4 rfl ?_
  refine ev_sipush (v := (216 : Int32)) dX4_init_5 (by decide) ?_
  refine ev_newaT (N := 216) (q := a + 1) (L' := [_, _]) dX4_init_8 (by decide) (by decide) (by decide) (by rw [ha]; rfl) rfl hw (okR_of (by simp only [okRl, List.length_cons, List.length_nil, and_true, Nat.lt_eq]; first | done | omega) (by simp only [okRs, List.length_cons, List.length_nil, and_true, Nat.lt_eq]; first | done | omega)) (Nat.le_of_ble_eq_true rfl) (Nat.le_of_ble_eq_true rfl) (fun hw => ?_)
  refine ev_putRT (L' := [_, _]) (k := 0) fr_X4_11 rfl rfl dX4_init_10 ha rfl rfl (fun _ => rfl) (fun _ => rfl) (by simp only [List.length_cons, List.length_nil]; omega) rfl hw (fun hw => ?_)
  refine ev_aload_n dX4_init_13 rfl ?_
  refine ev_sipush (v := (216 : Int32)) dX4_init_14 (by decide) ?_
  refine ev_newaT (N := 216) (q := a + 2) (L' := [_, _, _]) dX4_init_17 (by decide) (by decide) (by decide) (by rw [ha]; rfl) rfl hw (okR_of (by simp only [okRl, List.length_cons, List.length_nil, and_true, Nat.lt_eq]; first | done | omega) (by simp only [okRs, List.length_cons, List.length_nil, and_true, Nat.lt_eq]; first | done | omega)) (Nat.le_of_ble_eq_true rfl) (Nat.le_of_ble_eq_true rfl) (fun hw => ?_)
  refine ev_putRT (L' := [_, _, _]) (k := 0) fr_X4_15 rfl rfl dX4_init_19 ha rfl rfl (fun _ => rfl) (fun _ => rfl) (by simp only [List.length_cons, List.length_nil]; omega) rfl hw (fun hw => ?_)
  refine ev_aload_n dX4_init_22 rfl ?_
  refine ev_sipush (v := (216 : Int32)) dX4_init_23 (by decide) ?_
  refine ev_newaT (N := 216) (q := a + 3) (L' := [_, _, _, _]) dX4_init_26 (by decide) (by decide) (by decide) (by rw [ha]; rfl) rfl hw (okR_of (by simp only [okRl, List.length_cons, List.length_nil, and_true, Nat.lt_eq]; first | done | omega) (by simp only [okRs, List.length_cons, List.length_nil, and_true, Nat.lt_eq]; first | done | omega)) (Nat.le_of_ble_eq_true rfl) (Nat.le_of_ble_eq_true rfl) (fun hw => ?_)
  refine ev_putRT (L' := [_, _, _, _]) (k := 0) fr_X4_18 rfl rfl dX4_init_28 ha rfl rfl (fun _ => rfl) (fun _ => rfl) (by simp only [List.length_cons, List.length_nil]; omega) rfl hw (fun hw => ?_)
  refine ev_aload_n dX4_init_31 rfl ?_
  refine ev_bipush (v := (16 : Int32)) dX4_init_32 (by decide) ?_
  refine ev_newaT (N := 16) (q := a + 4) (L' := [_, _, _, _, _]) dX4_init_34 (by decide) (by decide) (by decide) (by rw [ha]; rfl) rfl hw (okR_of (by simp only [okRl, List.length_cons, List.length_nil, and_true, Nat.lt_eq]; first | done | omega) (by simp only [okRs, List.length_cons, List.length_nil, and_true, Nat.lt_eq]; first | done | omega)) (Nat.le_of_ble_eq_true rfl) (Nat.le_of_ble_eq_true rfl) (fun hw => ?_)
  refine ev_putRT (L' := [_, _, _, _, _]) (k := 0) fr_X4_21 rfl rfl dX4_init_36 ha rfl rfl (fun _ => rfl) (fun _ => rfl) (by simp only [List.length_cons, List.length_nil]; omega) rfl hw (fun hw => ?_)
  refine ev_iconst (v := (0 : Int32)) dX4_init_39 (by decide) ?_
  refine ev_istore_n (loc' := [_, _, _, _, _]) dX4_init_40 rfl (by decide) (by rfl) ?_
  exact ev_lt (f_X4_init_L41_ok ha hw _ _ _ h) ⟨rfl, ⟨rfl, trivial⟩⟩
def full_X9 (a : Nat ) : List Shp := [.inr (.inr (8, [some (some (a + 1))])), .inl 10]
def f_X9_init (G : Nat) (a : Nat) (μ : Mem) : Option Mem :=
  (let m1 := zr μ (a + 1)
  some m1)
set_option maxHeartbeats 8000000 in
set_option maxRecDepth 100000 in
theorem c_X9_init {pre : List Shp} {G : Nat} {a : Nat} {μ : Mem} {μr : Mem} (ha : pre.length = a) (hw : wfS (pre ++ [.inr (.inr (8, [some none]))])) (h : f_X9_init G a μ = some μr) : Cn yX9_init cX9_init 1 none 2 1 10 [.ref a] (pre ++ [.inr (.inr (8, [some none]))]) μ (ctP (pre ++ full_X9 a) μr) := by
  refine cn_of (own := RX9) (ini := true) (loc := [some (.ref a)]) rfl (by decide) (fun _ => rfl) (Nat.le_of_ble_eq_true rfl) (by rfl) rfl ?_
  unfold f_X9_init at h
  refine ev_aload_n dX9_init_0 rfl ?_
  refine ev_objInit ml_X9_3 w_oi1 w_oi2 dX9_init_1 (Nat.le_of_ble_eq_true rfl) (by rfl) (Nat.le_of_ble_eq_true rfl) ?_
  refine ev_aload_n dX9_init_4 rfl ?_
  refine ev_bipush (v := (10 : Int32)) dX9_init_5 (by decide) ?_
  refine ev_newaT (N := 10) (q := a + 1) (L' := [_, _]) dX9_init_7 (by decide) (by decide) (by decide) (by rw [ha]; rfl) rfl hw (okR_of (by simp only [okRl, List.length_cons, List.length_nil, and_true, Nat.lt_eq]; first | done | omega) (by simp only [okRs, List.length_cons, List.length_nil, and_true, Nat.lt_eq]; first | done | omega)) (Nat.le_of_ble_eq_true rfl) (Nat.le_of_ble_eq_true rfl) (fun hw => ?_)
  refine ev_putRT (L' := [_, _]) (k := 0) fr_X9_11 rfl rfl dX9_init_9 ha rfl rfl (fun _ => rfl) (fun _ => rfl) (by simp only [List.length_cons, List.length_nil]; omega) rfl hw (fun hw => ?_)
  exact ev_vret rfl (Nat.le_of_ble_eq_true rfl) (Nat.le_of_ble_eq_true rfl) dX9_init_12 (ctP_i hw h)
def full_X11 (a : Nat ) : List Shp := [.inr (.inr (9, [some (some (a + 1)), some (some (a + 41)), some (some (a + 54)), some (some (a + 93)), some (some (a + 99)), some (some (a + 105)), some (some (a + 110)), some none])), .inr (.inr (0, [some (some (a + 2)), some (some (a + 8)), some (some (a + 9)), some (some (a + 10)), some (some (a + 11)), some (some (a + 12)), none, none, some (some (a + 13)), some (some (a + 20)), some (some (a + 22)), some (some (a + 24)), some (some (a + 26)), some (some (a + 28)), some (some (a + 30)), some (some (a + 32)), some (some (a + 34)), some (some (a + 36)), some (some (a + 38)), some (some (a + 40))])), .inr (.inr (7, [some (some (a + 3)), some (some (a + 4)), some (some (a + 5)), some (some (a + 6)), some (some (a + 7)), none, none, none, none])), .inl 12, .inl 8, .inl 8, .inl 8, .inl 8, .inl 12, .inl 12, .inl 12, .inl 8, .inl 8, .inr (.inr (1, [some (some (a + 14)), some (some (a + 15)), some (some (a + 16)), some (some (a + 17)), some (some (a + 18)), some (some (a + 19)), none, none])), .inl 400, .inl 16, .inl 16, .inl 16, .inl 16, .inl 40, .inr (.inr (2, [none, none, some (some (a + 21)), none])), .inl 16, .inr (.inr (2, [none, none, some (some (a + 23)), none])), .inl 96, .inr (.inr (2, [none, none, some (some (a + 25)), none])), .inl 32, .inr (.inr (2, [none, none, some (some (a + 27)), none])), .inl 600, .inr (.inr (2, [none, none, some (some (a + 29)), none])), .inl 30, .inr (.inr (2, [none, none, some (some (a + 31)), none])), .inl 24, .inr (.inr (2, [none, none, some (some (a + 33)), none])), .inl 12, .inr (.inr (2, [none, none, some (some (a + 35)), none])), .inl 32, .inr (.inr (2, [none, none, some (some (a + 37)), none])), .inl 12, .inr (.inr (2, [none, none, some (some (a + 39)), none])), .inl 7, .inl 6, .inr (.inr (5, [some (some (a + 42)), some (some (a + 43)), some (some (a + 44)), some (some (a + 45)), some (some (a + 52)), none, none, none, none, none, none, none, none])), .inl 400, .inl 401, .inl 401, .inr (.inr (1, [some (some (a + 46)), some (some (a + 47)), some (some (a + 48)), some (some (a + 49)), some (some (a + 50)), some (some (a + 51)), none, none])), .inl 400, .inl 16, .inl 16, .inl 16, .inl 16, .inl 40, .inr (.inr (2, [none, none, some (some (a + 53)), none])), .inl 96, .inr (.inr (3, [some (some (a + 55)), some (some (a + 56)), none, none])), .inr (.inl (6, (pastG (a + 54)))), .inl 6, .inr (.inr (7, [some (some (a + 58)), some (some (a + 59)), some (some (a + 60)), some (some (a + 61)), some (some (a + 62)), none, none, none, none])), .inl 12, .inl 8, .inl 8, .inl 8, .inl 8, .inr (.inr (7, [some (some (a + 64)), some (some (a + 65)), some (some (a + 66)), some (some (a + 67)), some (some (a + 68)), none, none, none, none])), .inl 12, .inl 8, .inl 8, .inl 8, .inl 8, .inr (.inr (7, [some (some (a + 70)), some (some (a + 71)), some (some (a + 72)), some (some (a + 73)), some (some (a + 74)), none, none, none, none])), .inl 12, .inl 8, .inl 8, .inl 8, .inl 8, .inr (.inr (7, [some (some (a + 76)), some (some (a + 77)), some (some (a + 78)), some (some (a + 79)), some (some (a + 80)), none, none, none, none])), .inl 12, .inl 8, .inl 8, .inl 8, .inl 8, .inr (.inr (7, [some (some (a + 82)), some (some (a + 83)), some (some (a + 84)), some (some (a + 85)), some (some (a + 86)), none, none, none, none])), .inl 12, .inl 8, .inl 8, .inl 8, .inl 8, .inr (.inr (7, [some (some (a + 88)), some (some (a + 89)), some (some (a + 90)), some (some (a + 91)), some (some (a + 92)), none, none, none, none])), .inl 12, .inl 8, .inl 8, .inl 8, .inl 8, .inr (.inr (6, [some (some (a + 1)), some (some (a + 94)), some (some (a + 95)), some (some (a + 96)), some (some (a + 97)), some (some (a + 98))])), .inl 11, .inl 3, .inl 3, .inl 12, .inl 12, .inr (.inr (7, [some (some (a + 100)), some (some (a + 101)), some (some (a + 102)), some (some (a + 103)), some (some (a + 104)), none, none, none, none])), .inl 12, .inl 8, .inl 8, .inl 8, .inl 8, .inr (.inr (4, [some (some (a + 106)), some (some (a + 107)), some (some (a + 108)), some (some (a + 109)), none, none])), .inl 216, .inl 216, .inl 216, .inl 16, .inr (.inr (8, [some (some (a + 111))])), .inl 10]
def f_X11_init (G : Nat) (a : Nat) (μ : Mem) : Option Mem :=
  (let m1 := zr μ (a + 1)
  bndV (f_X0_init G (a + 1) m1) (fun m2 =>
  (let m4 := zr m2 (a + 41)
  bndV (f_X5_init G (a + 41) m4) (fun m5 =>
  (let m7 := zr m5 (a + 54)
  bndV (f_X3_init G (a + 54) m7) (fun m8 =>
  (let m10 := zr m8 (a + 93)
  bndV (f_X7_init G (a + 93) (a + 1) m10) (fun m11 =>
  (let m13 := zr m11 (a + 99)
  bndV (f_X8_init G (a + 99) m13) (fun m14 =>
  (let m16 := zr m14 (a + 105)
  bndV (f_X4_init G (a + 105) m16) (fun m17 =>
  (let m19 := zr m17 (a + 110)
  bndV (f_X9_init G (a + 110) m19) (fun m20 =>
  some m20))))))))))))))
set_option maxHeartbeats 8000000 in
set_option maxRecDepth 100000 in
theorem c_X11_init {pre : List Shp} {G : Nat} {a : Nat} {μ : Mem} {μr : Mem} (ha : pre.length = a) (hw : wfS (pre ++ [.inr (.inr (9, [some none, some none, some none, some none, some none, some none, some none, some none]))])) (h : f_X11_init G a μ = some μr) : Cn yX11_init cX11_init 1 none 4 111 4486 [.ref a] (pre ++ [.inr (.inr (9, [some none, some none, some none, some none, some none, some none, some none, some none]))]) μ (ctP (pre ++ full_X11 a) μr) := by
  refine cn_of (own := RX11) (ini := true) (loc := [some (.ref a)]) rfl (by decide) (fun _ => rfl) (Nat.le_of_ble_eq_true rfl) (by rfl) rfl ?_
  unfold f_X11_init at h
  refine ev_aload_n dX11_init_0 rfl ?_
  refine ev_objInit ml_X11_3 w_oi1 w_oi2 dX11_init_1 (Nat.le_of_ble_eq_true rfl) (by rfl) (Nat.le_of_ble_eq_true rfl) ?_
  refine ev_aload_n dX11_init_4 rfl ?_
  refine ev_newT (q := a + 1) (L' := [_, _]) cr_X11_9 dX11_init_5 (by rw [ha]; rfl) rfl hw (okR_of (by simp only [okRl, List.length_cons, List.length_nil, and_true, Nat.lt_eq]; first | done | omega) (by simp only [okRs, List.length_cons, List.length_nil, and_true, Nat.lt_eq]; first | done | omega)) (Nat.le_of_ble_eq_true rfl) (Nat.le_of_ble_eq_true rfl) (fun hw => ?_)
  refine ev_dup dX11_init_8 (by rfl) ?_
  obtain ⟨m2, hq3, h⟩ := bndV_t h
  refine ev_cIN (L := [_]) (L' := [_, _, _, _, _, _, _, _, _, _, _, _, _, _, _, _, _, _, _, _, _, _, _, _, _, _, _, _, _, _, _, _, _, _, _, _, _, _, _, _, _]) mv_X11_11 dX11_init_9 (c_X0_init (by rw [List.length_append, ha]; rfl) (by rw [List.append_assoc]; exact hw) hq3) rfl rfl rfl rfl (Nat.le_of_ble_eq_true rfl) (by rfl) (Nat.le_of_ble_eq_true rfl) (Nat.le_of_ble_eq_true rfl) (Nat.le_of_ble_eq_true rfl) (okR_of (by simp only [okRl, List.length_cons, List.length_nil, and_true, Nat.lt_eq]; first | done | omega) (by simp only [okRs, List.length_cons, List.length_nil, and_true, Nat.lt_eq]; first | done | omega)) (fun hw => ?_)
  refine ev_putRT (L' := [_, _, _, _, _, _, _, _, _, _, _, _, _, _, _, _, _, _, _, _, _, _, _, _, _, _, _, _, _, _, _, _, _, _, _, _, _, _, _, _, _]) (k := 0) fr_X11_12 rfl rfl dX11_init_12 ha rfl rfl (fun _ => rfl) (fun _ => rfl) (by simp only [List.length_cons, List.length_nil]; omega) rfl hw (fun hw => ?_)
  refine ev_aload_n dX11_init_15 rfl ?_
  refine ev_newT (q := a + 41) (L' := [_, _, _, _, _, _, _, _, _, _, _, _, _, _, _, _, _, _, _, _, _, _, _, _, _, _, _, _, _, _, _, _, _, _, _, _, _, _, _, _, _, _]) cr_X11_16 dX11_init_16 (by rw [ha]; rfl) rfl hw (okR_of (by simp only [okRl, List.length_cons, List.length_nil, and_true, Nat.lt_eq]; first | done | omega) (by simp only [okRs, List.length_cons, List.length_nil, and_true, Nat.lt_eq]; first | done | omega)) (Nat.le_of_ble_eq_true rfl) (Nat.le_of_ble_eq_true rfl) (fun hw => ?_)
  refine ev_dup dX11_init_19 (by rfl) ?_
  obtain ⟨m5, hq6, h⟩ := bndV_t h
  refine ev_cI (L := [_, _, _, _, _, _, _, _, _, _, _, _, _, _, _, _, _, _, _, _, _, _, _, _, _, _, _, _, _, _, _, _, _, _, _, _, _, _, _, _, _]) (L' := [_, _, _, _, _, _, _, _, _, _, _, _, _, _, _, _, _, _, _, _, _, _, _, _, _, _, _, _, _, _, _, _, _, _, _, _, _, _, _, _, _, _, _, _, _, _, _, _, _, _, _, _, _, _]) mv_X11_18 dX11_init_20 (c_X5_init (by rw [List.length_append, ha]; rfl) (by rw [List.append_assoc]; exact hw) hq6) rfl rfl rfl rfl (Nat.le_of_ble_eq_true rfl) (by rfl) (Nat.le_of_ble_eq_true rfl) (Nat.le_of_ble_eq_true rfl) (Nat.le_of_ble_eq_true rfl) (okR_of (by simp only [okRl, List.length_cons, List.length_nil, and_true, Nat.lt_eq]; first | done | omega) (by simp only [okRs, List.length_cons, List.length_nil, and_true, Nat.lt_eq]; first | done | omega)) (fun hw => ?_)
  refine ev_putRT (L' := [_, _, _, _, _, _, _, _, _, _, _, _, _, _, _, _, _, _, _, _, _, _, _, _, _, _, _, _, _, _, _, _, _, _, _, _, _, _, _, _, _, _, _, _, _, _, _, _, _, _, _, _, _, _]) (k := 0) fr_X11_19 rfl rfl dX11_init_23 ha rfl rfl (fun _ => rfl) (fun _ => rfl) (by simp only [List.length_cons, List.length_nil]; omega) rfl hw (fun hw => ?_)
  refine ev_aload_n dX11_init_26 rfl ?_
  refine ev_newT (q := a + 54) (L' := [_, _, _, _, _, _, _, _, _, _, _, _, _, _, _, _, _, _, _, _, _, _, _, _, _, _, _, _, _, _, _, _, _, _, _, _, _, _, _, _, _, _, _, _, _, _, _, _, _, _, _, _, _, _, _]) cr_X11_23 dX11_init_27 (by rw [ha]; rfl) rfl hw (okR_of (by simp only [okRl, List.length_cons, List.length_nil, and_true, Nat.lt_eq]; first | done | omega) (by simp only [okRs, List.length_cons, List.length_nil, and_true, Nat.lt_eq]; first | done | omega)) (Nat.le_of_ble_eq_true rfl) (Nat.le_of_ble_eq_true rfl) (fun hw => ?_)
  refine ev_dup dX11_init_30 (by rfl) ?_
  obtain ⟨m8, hq9, h⟩ := bndV_t h
  refine ev_cI (L := [_, _, _, _, _, _, _, _, _, _, _, _, _, _, _, _, _, _, _, _, _, _, _, _, _, _, _, _, _, _, _, _, _, _, _, _, _, _, _, _, _, _, _, _, _, _, _, _, _, _, _, _, _, _]) (L' := [_, _, _, _, _, _, _, _, _, _, _, _, _, _, _, _, _, _, _, _, _, _, _, _, _, _, _, _, _, _, _, _, _, _, _, _, _, _, _, _, _, _, _, _, _, _, _, _, _, _, _, _, _, _, _, _, _, _, _, _, _, _, _, _, _, _, _, _, _, _, _, _, _, _, _, _, _, _, _, _, _, _, _, _, _, _, _, _, _, _, _, _, _]) mv_X11_25 dX11_init_31 (c_X3_init (by rw [List.length_append, ha]; rfl) (by rw [List.append_assoc]; exact hw) hq9) rfl rfl rfl rfl (Nat.le_of_ble_eq_true rfl) (by rfl) (Nat.le_of_ble_eq_true rfl) (Nat.le_of_ble_eq_true rfl) (Nat.le_of_ble_eq_true rfl) (okR_of (by simp only [okRl, List.length_cons, List.length_nil, and_true, Nat.lt_eq]; first | done | omega) (by simp only [okRs, List.length_cons, List.length_nil, and_true, Nat.lt_eq]; first | done | omega)) (fun hw => ?_)
  refine ev_putRT (L' := [_, _, _, _, _, _, _, _, _, _, _, _, _, _, _, _, _, _, _, _, _, _, _, _, _, _, _, _, _, _, _, _, _, _, _, _, _, _, _, _, _, _, _, _, _, _, _, _, _, _, _, _, _, _, _, _, _, _, _, _, _, _, _, _, _, _, _, _, _, _, _, _, _, _, _, _, _, _, _, _, _, _, _, _, _, _, _, _, _, _, _, _, _]) (k := 0) fr_X11_26 rfl rfl dX11_init_34 ha rfl rfl (fun _ => rfl) (fun _ => rfl) (by simp only [List.length_cons, List.length_nil]; omega) rfl hw (fun hw => ?_)
  refine ev_aload_n dX11_init_37 rfl ?_
  refine ev_newT (q := a + 93) (L' := [_, _, _, _, _, _, _, _, _, _, _, _, _, _, _, _, _, _, _, _, _, _, _, _, _, _, _, _, _, _, _, _, _, _, _, _, _, _, _, _, _, _, _, _, _, _, _, _, _, _, _, _, _, _, _, _, _, _, _, _, _, _, _, _, _, _, _, _, _, _, _, _, _, _, _, _, _, _, _, _, _, _, _, _, _, _, _, _, _, _, _, _, _, _]) cr_X11_30 dX11_init_38 (by rw [ha]; rfl) rfl hw (okR_of (by simp only [okRl, List.length_cons, List.length_nil, and_true, Nat.lt_eq]; first | done | omega) (by simp only [okRs, List.length_cons, List.length_nil, and_true, Nat.lt_eq]; first | done | omega)) (Nat.le_of_ble_eq_true rfl) (Nat.le_of_ble_eq_true rfl) (fun hw => ?_)
  refine ev_dup dX11_init_41 (by rfl) ?_
  refine ev_aload_n dX11_init_42 rfl ?_
  refine ev_getR fr_X11_12 (tlg (k := 0) ha rfl) rfl dX11_init_43 ?_
  obtain ⟨m11, hq12, h⟩ := bndV_t h
  refine ev_cI (L := [_, _, _, _, _, _, _, _, _, _, _, _, _, _, _, _, _, _, _, _, _, _, _, _, _, _, _, _, _, _, _, _, _, _, _, _, _, _, _, _, _, _, _, _, _, _, _, _, _, _, _, _, _, _, _, _, _, _, _, _, _, _, _, _, _, _, _, _, _, _, _, _, _, _, _, _, _, _, _, _, _, _, _, _, _, _, _, _, _, _, _, _, _]) (L' := [_, _, _, _, _, _, _, _, _, _, _, _, _, _, _, _, _, _, _, _, _, _, _, _, _, _, _, _, _, _, _, _, _, _, _, _, _, _, _, _, _, _, _, _, _, _, _, _, _, _, _, _, _, _, _, _, _, _, _, _, _, _, _, _, _, _, _, _, _, _, _, _, _, _, _, _, _, _, _, _, _, _, _, _, _, _, _, _, _, _, _, _, _, _, _, _, _, _, _]) mv_X11_32 dX11_init_46 (c_X7_init (by rw [List.length_append, ha]; rfl) (by rw [List.append_assoc]; exact hw) (by omega) hq12) rfl rfl rfl rfl (Nat.le_of_ble_eq_true rfl) (by rfl) (Nat.le_of_ble_eq_true rfl) (Nat.le_of_ble_eq_true rfl) (Nat.le_of_ble_eq_true rfl) (okR_of (by simp only [okRl, List.length_cons, List.length_nil, and_true, Nat.lt_eq]; first | done | omega) (by simp only [okRs, List.length_cons, List.length_nil, and_true, Nat.lt_eq]; first | done | omega)) (fun hw => ?_)
  refine ev_putRT (L' := [_, _, _, _, _, _, _, _, _, _, _, _, _, _, _, _, _, _, _, _, _, _, _, _, _, _, _, _, _, _, _, _, _, _, _, _, _, _, _, _, _, _, _, _, _, _, _, _, _, _, _, _, _, _, _, _, _, _, _, _, _, _, _, _, _, _, _, _, _, _, _, _, _, _, _, _, _, _, _, _, _, _, _, _, _, _, _, _, _, _, _, _, _, _, _, _, _, _, _]) (k := 0) fr_X11_35 rfl rfl dX11_init_49 ha rfl rfl (fun _ => rfl) (fun _ => rfl) (by simp only [List.length_cons, List.length_nil]; omega) rfl hw (fun hw => ?_)
  refine ev_aload_n dX11_init_52 rfl ?_
  refine ev_newT (q := a + 99) (L' := [_, _, _, _, _, _, _, _, _, _, _, _, _, _, _, _, _, _, _, _, _, _, _, _, _, _, _, _, _, _, _, _, _, _, _, _, _, _, _, _, _, _, _, _, _, _, _, _, _, _, _, _, _, _, _, _, _, _, _, _, _, _, _, _, _, _, _, _, _, _, _, _, _, _, _, _, _, _, _, _, _, _, _, _, _, _, _, _, _, _, _, _, _, _, _, _, _, _, _, _]) cr_X11_39 dX11_init_53 (by rw [ha]; rfl) rfl hw (okR_of (by simp only [okRl, List.length_cons, List.length_nil, and_true, Nat.lt_eq]; first | done | omega) (by simp only [okRs, List.length_cons, List.length_nil, and_true, Nat.lt_eq]; first | done | omega)) (Nat.le_of_ble_eq_true rfl) (Nat.le_of_ble_eq_true rfl) (fun hw => ?_)
  refine ev_dup dX11_init_56 (by rfl) ?_
  obtain ⟨m14, hq15, h⟩ := bndV_t h
  refine ev_cI (L := [_, _, _, _, _, _, _, _, _, _, _, _, _, _, _, _, _, _, _, _, _, _, _, _, _, _, _, _, _, _, _, _, _, _, _, _, _, _, _, _, _, _, _, _, _, _, _, _, _, _, _, _, _, _, _, _, _, _, _, _, _, _, _, _, _, _, _, _, _, _, _, _, _, _, _, _, _, _, _, _, _, _, _, _, _, _, _, _, _, _, _, _, _, _, _, _, _, _, _]) (L' := [_, _, _, _, _, _, _, _, _, _, _, _, _, _, _, _, _, _, _, _, _, _, _, _, _, _, _, _, _, _, _, _, _, _, _, _, _, _, _, _, _, _, _, _, _, _, _, _, _, _, _, _, _, _, _, _, _, _, _, _, _, _, _, _, _, _, _, _, _, _, _, _, _, _, _, _, _, _, _, _, _, _, _, _, _, _, _, _, _, _, _, _, _, _, _, _, _, _, _, _, _, _, _, _, _]) mv_X11_41 dX11_init_57 (c_X8_init (by rw [List.length_append, ha]; rfl) (by rw [List.append_assoc]; exact hw) hq15) rfl rfl rfl rfl (Nat.le_of_ble_eq_true rfl) (by rfl) (Nat.le_of_ble_eq_true rfl) (Nat.le_of_ble_eq_true rfl) (Nat.le_of_ble_eq_true rfl) (okR_of (by simp only [okRl, List.length_cons, List.length_nil, and_true, Nat.lt_eq]; first | done | omega) (by simp only [okRs, List.length_cons, List.length_nil, and_true, Nat.lt_eq]; first | done | omega)) (fun hw => ?_)
  refine ev_putRT (L' := [_, _, _, _, _, _, _, _, _, _, _, _, _, _, _, _, _, _, _, _, _, _, _, _, _, _, _, _, _, _, _, _, _, _, _, _, _, _, _, _, _, _, _, _, _, _, _, _, _, _, _, _, _, _, _, _, _, _, _, _, _, _, _, _, _, _, _, _, _, _, _, _, _, _, _, _, _, _, _, _, _, _, _, _, _, _, _, _, _, _, _, _, _, _, _, _, _, _, _, _, _, _, _, _, _]) (k := 0) fr_X11_42 rfl rfl dX11_init_60 ha rfl rfl (fun _ => rfl) (fun _ => rfl) (by simp only [List.length_cons, List.length_nil]; omega) rfl hw (fun hw => ?_)
  refine ev_aload_n dX11_init_63 rfl ?_
  refine ev_newT (q := a + 105) (L' := [_, _, _, _, _, _, _, _, _, _, _, _, _, _, _, _, _, _, _, _, _, _, _, _, _, _, _, _, _, _, _, _, _, _, _, _, _, _, _, _, _, _, _, _, _, _, _, _, _, _, _, _, _, _, _, _, _, _, _, _, _, _, _, _, _, _, _, _, _, _, _, _, _, _, _, _, _, _, _, _, _, _, _, _, _, _, _, _, _, _, _, _, _, _, _, _, _, _, _, _, _, _, _, _, _, _]) cr_X11_46 dX11_init_64 (by rw [ha]; rfl) rfl hw (okR_of (by simp only [okRl, List.length_cons, List.length_nil, and_true, Nat.lt_eq]; first | done | omega) (by simp only [okRs, List.length_cons, List.length_nil, and_true, Nat.lt_eq]; first | done | omega)) (Nat.le_of_ble_eq_true rfl) (Nat.le_of_ble_eq_true rfl) (fun hw => ?_)
  refine ev_dup dX11_init_67 (by rfl) ?_
  obtain ⟨m17, hq18, h⟩ := bndV_t h
  refine ev_cI (L := [_, _, _, _, _, _, _, _, _, _, _, _, _, _, _, _, _, _, _, _, _, _, _, _, _, _, _, _, _, _, _, _, _, _, _, _, _, _, _, _, _, _, _, _, _, _, _, _, _, _, _, _, _, _, _, _, _, _, _, _, _, _, _, _, _, _, _, _, _, _, _, _, _, _, _, _, _, _, _, _, _, _, _, _, _, _, _, _, _, _, _, _, _, _, _, _, _, _, _, _, _, _, _, _, _]) (L' := [_, _, _, _, _, _, _, _, _, _, _, _, _, _, _, _, _, _, _, _, _, _, _, _, _, _, _, _, _, _, _, _, _, _, _, _, _, _, _, _, _, _, _, _, _, _, _, _, _, _, _, _, _, _, _, _, _, _, _, _, _, _, _, _, _, _, _, _, _, _, _, _, _, _, _, _, _, _, _, _, _, _, _, _, _, _, _, _, _, _, _, _, _, _, _, _, _, _, _, _, _, _, _, _, _, _, _, _, _, _]) mv_X11_48 dX11_init_68 (c_X4_init (by rw [List.length_append, ha]; rfl) (by rw [List.append_assoc]; exact hw) hq18) rfl rfl rfl rfl (Nat.le_of_ble_eq_true rfl) (by rfl) (Nat.le_of_ble_eq_true rfl) (Nat.le_of_ble_eq_true rfl) (Nat.le_of_ble_eq_true rfl) (okR_of (by simp only [okRl, List.length_cons, List.length_nil, and_true, Nat.lt_eq]; first | done | omega) (by simp only [okRs, List.length_cons, List.length_nil, and_true, Nat.lt_eq]; first | done | omega)) (fun hw => ?_)
  refine ev_putRT (L' := [_, _, _, _, _, _, _, _, _, _, _, _, _, _, _, _, _, _, _, _, _, _, _, _, _, _, _, _, _, _, _, _, _, _, _, _, _, _, _, _, _, _, _, _, _, _, _, _, _, _, _, _, _, _, _, _, _, _, _, _, _, _, _, _, _, _, _, _, _, _, _, _, _, _, _, _, _, _, _, _, _, _, _, _, _, _, _, _, _, _, _, _, _, _, _, _, _, _, _, _, _, _, _, _, _, _, _, _, _, _]) (k := 0) fr_X11_49 rfl rfl dX11_init_71 ha rfl rfl (fun _ => rfl) (fun _ => rfl) (by simp only [List.length_cons, List.length_nil]; omega) rfl hw (fun hw => ?_)
  refine ev_aload_n dX11_init_74 rfl ?_
  refine ev_newT (q := a + 110) (L' := [_, _, _, _, _, _, _, _, _, _, _, _, _, _, _, _, _, _, _, _, _, _, _, _, _, _, _, _, _, _, _, _, _, _, _, _, _, _, _, _, _, _, _, _, _, _, _, _, _, _, _, _, _, _, _, _, _, _, _, _, _, _, _, _, _, _, _, _, _, _, _, _, _, _, _, _, _, _, _, _, _, _, _, _, _, _, _, _, _, _, _, _, _, _, _, _, _, _, _, _, _, _, _, _, _, _, _, _, _, _, _]) cr_X11_53 dX11_init_75 (by rw [ha]; rfl) rfl hw (okR_of (by simp only [okRl, List.length_cons, List.length_nil, and_true, Nat.lt_eq]; first | done | omega) (by simp only [okRs, List.length_cons, List.length_nil, and_true, Nat.lt_eq]; first | done | omega)) (Nat.le_of_ble_eq_true rfl) (Nat.le_of_ble_eq_true rfl) (fun hw => ?_)
  refine ev_dup dX11_init_78 (by rfl) ?_
  obtain ⟨m20, hq21, h⟩ := bndV_t h
  refine ev_cIN (L := [_, _, _, _, _, _, _, _, _, _, _, _, _, _, _, _, _, _, _, _, _, _, _, _, _, _, _, _, _, _, _, _, _, _, _, _, _, _, _, _, _, _, _, _, _, _, _, _, _, _, _, _, _, _, _, _, _, _, _, _, _, _, _, _, _, _, _, _, _, _, _, _, _, _, _, _, _, _, _, _, _, _, _, _, _, _, _, _, _, _, _, _, _, _, _, _, _, _, _, _, _, _, _, _, _, _, _, _, _, _]) (L' := [_, _, _, _, _, _, _, _, _, _, _, _, _, _, _, _, _, _, _, _, _, _, _, _, _, _, _, _, _, _, _, _, _, _, _, _, _, _, _, _, _, _, _, _, _, _, _, _, _, _, _, _, _, _, _, _, _, _, _, _, _, _, _, _, _, _, _, _, _, _, _, _, _, _, _, _, _, _, _, _, _, _, _, _, _, _, _, _, _, _, _, _, _, _, _, _, _, _, _, _, _, _, _, _, _, _, _, _, _, _, _, _]) mv_X11_55 dX11_init_79 (c_X9_init (by rw [List.length_append, ha]; rfl) (by rw [List.append_assoc]; exact hw) hq21) rfl rfl rfl rfl (Nat.le_of_ble_eq_true rfl) (by rfl) (Nat.le_of_ble_eq_true rfl) (Nat.le_of_ble_eq_true rfl) (Nat.le_of_ble_eq_true rfl) (okR_of (by simp only [okRl, List.length_cons, List.length_nil, and_true, Nat.lt_eq]; first | done | omega) (by simp only [okRs, List.length_cons, List.length_nil, and_true, Nat.lt_eq]; first | done | omega)) (fun hw => ?_)
  refine ev_putRT (L' := [_, _, _, _, _, _, _, _, _, _, _, _, _, _, _, _, _, _, _, _, _, _, _, _, _, _, _, _, _, _, _, _, _, _, _, _, _, _, _, _, _, _, _, _, _, _, _, _, _, _, _, _, _, _, _, _, _, _, _, _, _, _, _, _, _, _, _, _, _, _, _, _, _, _, _, _, _, _, _, _, _, _, _, _, _, _, _, _, _, _, _, _, _, _, _, _, _, _, _, _, _, _, _, _, _, _, _, _, _, _, _, _]) (k := 0) fr_X11_56 rfl rfl dX11_init_82 ha rfl rfl (fun _ => rfl) (fun _ => rfl) (by simp only [List.length_cons, List.length_nil]; omega) rfl hw (fun hw => ?_)
  refine ev_aload_n dX11_init_85 rfl ?_
  refine ev_null dX11_init_86 ?_
  refine ev_putNT (L' := [_, _, _, _, _, _, _, _, _, _, _, _, _, _, _, _, _, _, _, _, _, _, _, _, _, _, _, _, _, _, _, _, _, _, _, _, _, _, _, _, _, _, _, _, _, _, _, _, _, _, _, _, _, _, _, _, _, _, _, _, _, _, _, _, _, _, _, _, _, _, _, _, _, _, _, _, _, _, _, _, _, _, _, _, _, _, _, _, _, _, _, _, _, _, _, _, _, _, _, _, _, _, _, _, _, _, _, _, _, _, _, _]) (k := 0) fr_X11_60 dX11_init_87 ha rfl rfl rfl rfl rfl hw (fun hw => ?_)
  exact ev_vret rfl (Nat.le_of_ble_eq_true rfl) (Nat.le_of_ble_eq_true rfl) dX11_init_90 (ctP_i hw h)
def full_X12 (a : Nat ) : List Shp := [.inr (.inr (10, [none, some (some (a + 1)), some (some (a + 2)), none, some (some (a + 3)), none, none, none, some (some (a + 4)), some (some (a + 5)), some (some (a + 6)), some (some (a + 7)), some (some (a + 8)), some (some (a + 9)), some (some (a + 10)), none, none, none, none, none, some (some (a + 11)), some (some (a + 12)), some (some (a + 13)), some (some (a + 14)), some (some (a + 15)), some (some (a + 16)), some (some (a + 17)), some (some (a + 18)), none, none, none, some (some (a + 19)), none, none, none, none, none, none, some (some (a + 20)), none, some (some (a + 21)), none, some (some (a + 22)), some (some (a + 23)), some (some (a + 24)), some (some (a + 25)), some (some (a + 26)), none, some (some (a + 27)), some (some (a + 28)), some (some (a + 29)), none, some (some (a + 30)), some (some (a + 31)), some (some (a + 32)), none, some (some (a + 33)), none, some (some (a + 34)), some (some (a + 35)), none, some (some (a + 36)), some (some (a + 37)), some (some (a + 38)), none, some (some (a + 39)), some (some (a + 40)), some (some (a + 41)), none, some (some (a + 42)), some (some (a + 43)), some (some (a + 44)), none, none, none, some (some (a + 45))])), .inl 49, .inl 294, .inl 49, .inl 12, .inl 12, .inl 12, .inl 8, .inl 8, .inl 600, .inl 400, .inl 132, .inl 2, .inl 48, .inl 48, .inl 48, .inl 48, .inl 1200, .inl 1200, .inl 40, .inl 32, .inl 192, .inl 24, .inl 11, .inl 420, .inl 3, .inl 3, .inl 10, .inl 10, .inl 10, .inl 8, .inl 8, .inl 16, .inl 216, .inl 6, .inl 6, .inl 10, .inl 400, .inl 20, .inl 12, .inl 3, .inl 3, .inl 7, .inl 7, .inl 7, .inl 2300]
def f_X12_init (G : Nat) (a : Nat) (μ : Mem) : Option Mem :=
  (let m1 := zr μ (a + 1)
  (let m2 := zr m1 (a + 2)
  (let m3 := zr m2 (a + 3)
  (let m4 := zr m3 (a + 4)
  (let m5 := zr m4 (a + 5)
  (let m6 := zr m5 (a + 6)
  (let m7 := zr m6 (a + 7)
  (let m8 := zr m7 (a + 8)
  (let m9 := zr m8 (a + 9)
  (let m10 := zr m9 (a + 10)
  (let m11 := zr m10 (a + 11)
  (let m12 := wr m11 (a + 11) 0 (32 : Int32)
  (let m13 := wr m12 (a + 11) 1 (121 : Int32)
  (let m14 := wr m13 (a + 11) 2 (101 : Int32)
  (let m15 := wr m14 (a + 11) 3 (115 : Int32)
  (let m16 := wr m15 (a + 11) 4 (32 : Int32)
  (let m17 := wr m16 (a + 11) 5 (99 : Int32)
  (let m18 := wr m17 (a + 11) 6 (111 : Int32)
  (let m19 := wr m18 (a + 11) 7 (117 : Int32)
  (let m20 := wr m19 (a + 11) 8 (110 : Int32)
  (let m21 := wr m20 (a + 11) 9 (116 : Int32)
  (let m22 := wr m21 (a + 11) 10 (115 : Int32)
  (let m23 := wr m22 (a + 11) 11 (32 : Int32)
  (let m24 := wr m23 (a + 11) 12 (106 : Int32)
  (let m25 := wr m24 (a + 11) 13 (111 : Int32)
  (let m26 := wr m25 (a + 11) 14 (121 : Int32)
  (let m27 := wr m26 (a + 11) 15 (32 : Int32)
  (let m28 := wr m27 (a + 11) 16 (119 : Int32)
  (let m29 := wr m28 (a + 11) 17 (104 : Int32)
  (let m30 := wr m29 (a + 11) 18 (101 : Int32)
  (let m31 := wr m30 (a + 11) 19 (110 : Int32)
  (let m32 := wr m31 (a + 11) 20 (32 : Int32)
  (let m33 := wr m32 (a + 11) 21 (111 : Int32)
  (let m34 := wr m33 (a + 11) 22 (114 : Int32)
  (let m35 := wr m34 (a + 11) 23 (32 : Int32)
  (let m36 := wr m35 (a + 11) 24 (97 : Int32)
  (let m37 := wr m36 (a + 11) 25 (110 : Int32)
  (let m38 := wr m37 (a + 11) 26 (100 : Int32)
  (let m39 := wr m38 (a + 11) 27 (32 : Int32)
  (let m40 := wr m39 (a + 11) 28 (110 : Int32)
  (let m41 := wr m40 (a + 11) 29 (111 : Int32)
  (let m42 := wr m41 (a + 11) 30 (116 : Int32)
  (let m43 := wr m42 (a + 11) 31 (32 : Int32)
  (let m44 := wr m43 (a + 11) 32 (115 : Int32)
  (let m45 := wr m44 (a + 11) 33 (116 : Int32)
  (let m46 := wr m45 (a + 11) 34 (101 : Int32)
  (let m47 := wr m46 (a + 11) 35 (112 : Int32)
  (let m48 := wr m47 (a + 11) 36 (32 : Int32)
  (let m49 := wr m48 (a + 11) 37 (104 : Int32)
  (let m50 := wr m49 (a + 11) 38 (101 : Int32)
  (let m51 := wr m50 (a + 11) 39 (97 : Int32)
  (let m52 := wr m51 (a + 11) 40 (114 : Int32)
  (let m53 := wr m52 (a + 11) 41 (116 : Int32)
  (let m54 := wr m53 (a + 11) 42 (32 : Int32)
  (let m55 := wr m54 (a + 11) 43 (114 : Int32)
  (let m56 := wr m55 (a + 11) 44 (111 : Int32)
  (let m57 := wr m56 (a + 11) 45 (116 : Int32)
  (let m58 := wr m57 (a + 11) 46 (101 : Int32)
  (let m59 := wr m58 (a + 11) 47 (32 : Int32)
  (let m60 := wr m59 (a + 11) 48 (115 : Int32)
  (let m61 := wr m60 (a + 11) 49 (104 : Int32)
  (let m62 := wr m61 (a + 11) 50 (101 : Int32)
  (let m63 := wr m62 (a + 11) 51 (32 : Int32)
  (let m64 := wr m63 (a + 11) 52 (115 : Int32)
  (let m65 := wr m64 (a + 11) 53 (97 : Int32)
  (let m66 := wr m65 (a + 11) 54 (105 : Int32)
  (let m67 := wr m66 (a + 11) 55 (100 : Int32)
  (let m68 := wr m67 (a + 11) 56 (32 : Int32)
  (let m69 := wr m68 (a + 11) 57 (113 : Int32)
  (let m70 := wr m69 (a + 11) 58 (117 : Int32)
  (let m71 := wr m70 (a + 11) 59 (101 : Int32)
  (let m72 := wr m71 (a + 11) 60 (115 : Int32)
  (let m73 := wr m72 (a + 11) 61 (116 : Int32)
  (let m74 := wr m73 (a + 11) 62 (105 : Int32)
  (let m75 := wr m74 (a + 11) 63 (111 : Int32)
  (let m76 := wr m75 (a + 11) 64 (110 : Int32)
  (let m77 := wr m76 (a + 11) 65 (32 : Int32)
  (let m78 := wr m77 (a + 11) 66 (112 : Int32)
  (let m79 := wr m78 (a + 11) 67 (108 : Int32)
  (let m80 := wr m79 (a + 11) 68 (97 : Int32)
  (let m81 := wr m80 (a + 11) 69 (99 : Int32)
  (let m82 := wr m81 (a + 11) 70 (101 : Int32)
  (let m83 := wr m82 (a + 11) 71 (32 : Int32)
  (let m84 := wr m83 (a + 11) 72 (110 : Int32)
  (let m85 := wr m84 (a + 11) 73 (101 : Int32)
  (let m86 := wr m85 (a + 11) 74 (114 : Int32)
  (let m87 := wr m86 (a + 11) 75 (118 : Int32)
  (let m88 := wr m87 (a + 11) 76 (101 : Int32)
  (let m89 := wr m88 (a + 11) 77 (32 : Int32)
  (let m90 := wr m89 (a + 11) 78 (121 : Int32)
  (let m91 := wr m90 (a + 11) 79 (101 : Int32)
  (let m92 := wr m91 (a + 11) 80 (97 : Int32)
  (let m93 := wr m92 (a + 11) 81 (114 : Int32)
  (let m94 := wr m93 (a + 11) 82 (32 : Int32)
  (let m95 := wr m94 (a + 11) 83 (99 : Int32)
  (let m96 := wr m95 (a + 11) 84 (104 : Int32)
  (let m97 := wr m96 (a + 11) 85 (105 : Int32)
  (let m98 := wr m97 (a + 11) 86 (108 : Int32)
  (let m99 := wr m98 (a + 11) 87 (100 : Int32)
  (let m100 := wr m99 (a + 11) 88 (114 : Int32)
  (let m101 := wr m100 (a + 11) 89 (101 : Int32)
  (let m102 := wr m101 (a + 11) 90 (110 : Int32)
  (let m103 := wr m102 (a + 11) 91 (32 : Int32)
  (let m104 := wr m103 (a + 11) 92 (103 : Int32)
  (let m105 := wr m104 (a + 11) 93 (108 : Int32)
  (let m106 := wr m105 (a + 11) 94 (97 : Int32)
  (let m107 := wr m106 (a + 11) 95 (100 : Int32)
  (let m108 := wr m107 (a + 11) 96 (32 : Int32)
  (let m109 := wr m108 (a + 11) 97 (97 : Int32)
  (let m110 := wr m109 (a + 11) 98 (115 : Int32)
  (let m111 := wr m110 (a + 11) 99 (107 : Int32)
  (let m112 := wr m111 (a + 11) 100 (32 : Int32)
  (let m113 := wr m112 (a + 11) 101 (105 : Int32)
  (let m114 := wr m113 (a + 11) 102 (110 : Int32)
  (let m115 := wr m114 (a + 11) 103 (32 : Int32)
  (let m116 := wr m115 (a + 11) 104 (119 : Int32)
  (let m117 := wr m116 (a + 11) 105 (101 : Int32)
  (let m118 := wr m117 (a + 11) 106 (100 : Int32)
  (let m119 := wr m118 (a + 11) 107 (32 : Int32)
  (let m120 := wr m119 (a + 11) 108 (99 : Int32)
  (let m121 := wr m120 (a + 11) 109 (111 : Int32)
  (let m122 := wr m121 (a + 11) 110 (117 : Int32)
  (let m123 := wr m122 (a + 11) 111 (103 : Int32)
  (let m124 := wr m123 (a + 11) 112 (104 : Int32)
  (let m125 := wr m124 (a + 11) 113 (32 : Int32)
  (let m126 := wr m125 (a + 11) 114 (112 : Int32)
  (let m127 := wr m126 (a + 11) 115 (97 : Int32)
  (let m128 := wr m127 (a + 11) 116 (114 : Int32)
  (let m129 := wr m128 (a + 11) 117 (116 : Int32)
  (let m130 := wr m129 (a + 11) 118 (32 : Int32)
  (let m131 := wr m130 (a + 11) 119 (119 : Int32)
  (let m132 := wr m131 (a + 11) 120 (111 : Int32)
  (let m133 := wr m132 (a + 11) 121 (109 : Int32)
  (let m134 := wr m133 (a + 11) 122 (97 : Int32)
  (let m135 := wr m134 (a + 11) 123 (110 : Int32)
  (let m136 := wr m135 (a + 11) 124 (32 : Int32)
  (let m137 := wr m136 (a + 11) 125 (115 : Int32)
  (let m138 := wr m137 (a + 11) 126 (105 : Int32)
  (let m139 := wr m138 (a + 11) 127 (115 : Int32)
  (let m140 := wr m139 (a + 11) 128 (116 : Int32)
  (let m141 := wr m140 (a + 11) 129 (101 : Int32)
  (let m142 := wr m141 (a + 11) 130 (114 : Int32)
  (let m143 := wr m142 (a + 11) 131 (32 : Int32)
  (let m144 := zr m143 (a + 12)
  (let m145 := zr m144 (a + 13)
  (let m146 := zr m145 (a + 14)
  (let m147 := zr m146 (a + 15)
  (let m148 := zr m147 (a + 16)
  (let m149 := zr m148 (a + 17)
  (let m150 := zr m149 (a + 18)
  (let m151 := zr m150 (a + 19)
  (let m152 := wr m151 a 36 (-1 : Int32)
  (let m153 := zr m152 (a + 20)
  (let m154 := zr m153 (a + 21)
  (let m155 := zr m154 (a + 22)
  (let m156 := zr m155 (a + 23)
  (let m157 := zr m156 (a + 24)
  (let m158 := zr m157 (a + 25)
  (let m159 := zr m158 (a + 26)
  (let m160 := zr m159 (a + 27)
  (let m161 := zr m160 (a + 28)
  (let m162 := zr m161 (a + 29)
  (let m163 := zr m162 (a + 30)
  (let m164 := zr m163 (a + 31)
  (let m165 := zr m164 (a + 32)
  (let m166 := zr m165 (a + 33)
  (let m167 := zr m166 (a + 34)
  (let m168 := zr m167 (a + 35)
  (let m169 := zr m168 (a + 36)
  (let m170 := zr m169 (a + 37)
  (let m171 := zr m170 (a + 38)
  (let m172 := zr m171 (a + 39)
  (let m173 := zr m172 (a + 40)
  (let m174 := zr m173 (a + 41)
  (let m175 := zr m174 (a + 42)
  (let m176 := zr m175 (a + 43)
  (let m177 := zr m176 (a + 44)
  (let m178 := zr m177 (a + 45)
  some m178))))))))))))))))))))))))))))))))))))))))))))))))))))))))))))))))))))))))))))))))))))))))))))))))))))))))))))))))))))))))))))))))))))))))))))))))))))))))))))))))))))))))))))))))))
set_option maxHeartbeats 8000000 in
set_option maxRecDepth 100000 in
theorem c_X12_init {pre : List Shp} {G : Nat} {a : Nat} {μ : Mem} {μr : Mem} (ha : pre.length = a) (hw : wfS (pre ++ [.inr (.inr (10, [none, some none, some none, none, some none, none, none, none, some none, some none, some none, some none, some none, some none, some none, none, none, none, none, none, some none, some none, some none, some none, some none, some none, some none, some none, none, none, none, some none, none, none, none, none, none, none, some none, none, some none, none, some none, some none, some none, some none, some none, none, some none, some none, some none, none, some none, some none, some none, none, some none, none, some none, some none, none, some none, some none, some none, none, some none, some none, some none, none, some none, some none, some none, none, none, none, some none]))])) (h : f_X12_init G a μ = some μr) : Cn yX12_init cX12_init 1 none 2 45 7954 [.ref a] (pre ++ [.inr (.inr (10, [none, some none, some none, none, some none, none, none, none, some none, some none, some none, some none, some none, some none, some none, none, none, none, none, none, some none, some none, some none, some none, some none, some none, some none, some none, none, none, none, some none, none, none, none, none, none, none, some none, none, some none, none, some none, some none, some none, some none, some none, none, some none, some none, some none, none, some none, some none, some none, none, some none, none, some none, some none, none, some none, some none, some none, none, some none, some none, some none, none, some none, some none, some none, none, none, none, some none]))]) μ (ctP (pre ++ full_X12 a) μr) := by
  refine cn_of (own := RX12) (ini := true) (loc := [some (.ref a)]) rfl (by decide) (fun _ => rfl) (Nat.le_of_ble_eq_true rfl) (by rfl) rfl ?_
  unfold f_X12_init at h
  refine ev_aload_n dX12_init_0 rfl ?_
  refine ev_objInit ml_X12_1 w_oi1 w_oi2 dX12_init_1 (Nat.le_of_ble_eq_true rfl) (by rfl) (Nat.le_of_ble_eq_true rfl) ?_
  refine ev_aload_n dX12_init_4 rfl ?_
  refine ev_bipush (v := (49 : Int32)) dX12_init_5 (by decide) ?_
  refine ev_newaT (N := 49) (q := a + 1) (L' := [_, _]) dX12_init_7 (by decide) (by decide) (by decide) (by rw [ha]; rfl) rfl hw (okR_of (by simp only [okRl, List.length_cons, List.length_nil, and_true, Nat.lt_eq]; first | done | omega) (by simp only [okRs, List.length_cons, List.length_nil, and_true, Nat.lt_eq]; first | done | omega)) (Nat.le_of_ble_eq_true rfl) (Nat.le_of_ble_eq_true rfl) (fun hw => ?_)
  refine ev_putRT (L' := [_, _]) (k := 0) fr_X12_7 rfl rfl dX12_init_9 ha rfl rfl (fun _ => rfl) (fun _ => rfl) (by simp only [List.length_cons, List.length_nil]; omega) rfl hw (fun hw => ?_)
  refine ev_aload_n dX12_init_12 rfl ?_
  refine ev_sipush (v := (294 : Int32)) dX12_init_13 (by decide) ?_
  refine ev_newaT (N := 294) (q := a + 2) (L' := [_, _, _]) dX12_init_16 (by decide) (by decide) (by decide) (by rw [ha]; rfl) rfl hw (okR_of (by simp only [okRl, List.length_cons, List.length_nil, and_true, Nat.lt_eq]; first | done | omega) (by simp only [okRs, List.length_cons, List.length_nil, and_true, Nat.lt_eq]; first | done | omega)) (Nat.le_of_ble_eq_true rfl) (Nat.le_of_ble_eq_true rfl) (fun hw => ?_)
  refine ev_putRT (L' := [_, _, _]) (k := 0) fr_X12_13 rfl rfl dX12_init_18 ha rfl rfl (fun _ => rfl) (fun _ => rfl) (by simp only [List.length_cons, List.length_nil]; omega) rfl hw (fun hw => ?_)
  refine ev_aload_n dX12_init_21 rfl ?_
  refine ev_bipush (v := (49 : Int32)) dX12_init_22 (by decide) ?_
  refine ev_newaT (N := 49) (q := a + 3) (L' := [_, _, _, _]) dX12_init_24 (by decide) (by decide) (by decide) (by rw [ha]; rfl) rfl hw (okR_of (by simp only [okRl, List.length_cons, List.length_nil, and_true, Nat.lt_eq]; first | done | omega) (by simp only [okRs, List.length_cons, List.length_nil, and_true, Nat.lt_eq]; first | done | omega)) (Nat.le_of_ble_eq_true rfl) (Nat.le_of_ble_eq_true rfl) (fun hw => ?_)
  refine ev_putRT (L' := [_, _, _, _]) (k := 0) fr_X12_16 rfl rfl dX12_init_26 ha rfl rfl (fun _ => rfl) (fun _ => rfl) (by simp only [List.length_cons, List.length_nil]; omega) rfl hw (fun hw => ?_)
  refine ev_aload_n dX12_init_29 rfl ?_
  refine ev_bipush (v := (12 : Int32)) dX12_init_30 (by decide) ?_
  refine ev_newaT (N := 12) (q := a + 4) (L' := [_, _, _, _, _]) dX12_init_32 (by decide) (by decide) (by decide) (by rw [ha]; rfl) rfl hw (okR_of (by simp only [okRl, List.length_cons, List.length_nil, and_true, Nat.lt_eq]; first | done | omega) (by simp only [okRs, List.length_cons, List.length_nil, and_true, Nat.lt_eq]; first | done | omega)) (Nat.le_of_ble_eq_true rfl) (Nat.le_of_ble_eq_true rfl) (fun hw => ?_)
  refine ev_putRT (L' := [_, _, _, _, _]) (k := 0) fr_X12_19 rfl rfl dX12_init_34 ha rfl rfl (fun _ => rfl) (fun _ => rfl) (by simp only [List.length_cons, List.length_nil]; omega) rfl hw (fun hw => ?_)
  refine ev_aload_n dX12_init_37 rfl ?_
  refine ev_bipush (v := (12 : Int32)) dX12_init_38 (by decide) ?_
  refine ev_newaT (N := 12) (q := a + 5) (L' := [_, _, _, _, _, _]) dX12_init_40 (by decide) (by decide) (by decide) (by rw [ha]; rfl) rfl hw (okR_of (by simp only [okRl, List.length_cons, List.length_nil, and_true, Nat.lt_eq]; first | done | omega) (by simp only [okRs, List.length_cons, List.length_nil, and_true, Nat.lt_eq]; first | done | omega)) (Nat.le_of_ble_eq_true rfl) (Nat.le_of_ble_eq_true rfl) (fun hw => ?_)
  refine ev_putRT (L' := [_, _, _, _, _, _]) (k := 0) fr_X12_22 rfl rfl dX12_init_42 ha rfl rfl (fun _ => rfl) (fun _ => rfl) (by simp only [List.length_cons, List.length_nil]; omega) rfl hw (fun hw => ?_)
  refine ev_aload_n dX12_init_45 rfl ?_
  refine ev_bipush (v := (12 : Int32)) dX12_init_46 (by decide) ?_
  refine ev_newaT (N := 12) (q := a + 6) (L' := [_, _, _, _, _, _, _]) dX12_init_48 (by decide) (by decide) (by decide) (by rw [ha]; rfl) rfl hw (okR_of (by simp only [okRl, List.length_cons, List.length_nil, and_true, Nat.lt_eq]; first | done | omega) (by simp only [okRs, List.length_cons, List.length_nil, and_true, Nat.lt_eq]; first | done | omega)) (Nat.le_of_ble_eq_true rfl) (Nat.le_of_ble_eq_true rfl) (fun hw => ?_)
  refine ev_putRT (L' := [_, _, _, _, _, _, _]) (k := 0) fr_X12_25 rfl rfl dX12_init_50 ha rfl rfl (fun _ => rfl) (fun _ => rfl) (by simp only [List.length_cons, List.length_nil]; omega) rfl hw (fun hw => ?_)
  refine ev_aload_n dX12_init_53 rfl ?_
  refine ev_bipush (v := (8 : Int32)) dX12_init_54 (by decide) ?_
  refine ev_newaT (N := 8) (q := a + 7) (L' := [_, _, _, _, _, _, _, _]) dX12_init_56 (by decide) (by decide) (by decide) (by rw [ha]; rfl) rfl hw (okR_of (by simp only [okRl, List.length_cons, List.length_nil, and_true, Nat.lt_eq]; first | done | omega) (by simp only [okRs, List.length_cons, List.length_nil, and_true, Nat.lt_eq]; first | done | omega)) (Nat.le_of_ble_eq_true rfl) (Nat.le_of_ble_eq_true rfl) (fun hw => ?_)
  refine ev_putRT (L' := [_, _, _, _, _, _, _, _]) (k := 0) fr_X12_28 rfl rfl dX12_init_58 ha rfl rfl (fun _ => rfl) (fun _ => rfl) (by simp only [List.length_cons, List.length_nil]; omega) rfl hw (fun hw => ?_)
  refine ev_aload_n dX12_init_61 rfl ?_
  refine ev_bipush (v := (8 : Int32)) dX12_init_62 (by decide) ?_
  refine ev_newaT (N := 8) (q := a + 8) (L' := [_, _, _, _, _, _, _, _, _]) dX12_init_64 (by decide) (by decide) (by decide) (by rw [ha]; rfl) rfl hw (okR_of (by simp only [okRl, List.length_cons, List.length_nil, and_true, Nat.lt_eq]; first | done | omega) (by simp only [okRs, List.length_cons, List.length_nil, and_true, Nat.lt_eq]; first | done | omega)) (Nat.le_of_ble_eq_true rfl) (Nat.le_of_ble_eq_true rfl) (fun hw => ?_)
  refine ev_putRT (L' := [_, _, _, _, _, _, _, _, _]) (k := 0) fr_X12_31 rfl rfl dX12_init_66 ha rfl rfl (fun _ => rfl) (fun _ => rfl) (by simp only [List.length_cons, List.length_nil]; omega) rfl hw (fun hw => ?_)
  refine ev_aload_n dX12_init_69 rfl ?_
  refine ev_sipush (v := (600 : Int32)) dX12_init_70 (by decide) ?_
  refine ev_newaT (N := 600) (q := a + 9) (L' := [_, _, _, _, _, _, _, _, _, _]) dX12_init_73 (by decide) (by decide) (by decide) (by rw [ha]; rfl) rfl hw (okR_of (by simp only [okRl, List.length_cons, List.length_nil, and_true, Nat.lt_eq]; first | done | omega) (by simp only [okRs, List.length_cons, List.length_nil, and_true, Nat.lt_eq]; first | done | omega)) (Nat.le_of_ble_eq_true rfl) (Nat.le_of_ble_eq_true rfl) (fun hw => ?_)
  refine ev_putRT (L' := [_, _, _, _, _, _, _, _, _, _]) (k := 0) fr_X12_34 rfl rfl dX12_init_75 ha rfl rfl (fun _ => rfl) (fun _ => rfl) (by simp only [List.length_cons, List.length_nil]; omega) rfl hw (fun hw => ?_)
  refine ev_aload_n dX12_init_78 rfl ?_
  refine ev_sipush (v := (400 : Int32)) dX12_init_79 (by decide) ?_
  refine ev_newaT (N := 400) (q := a + 10) (L' := [_, _, _, _, _, _, _, _, _, _, _]) dX12_init_82 (by decide) (by decide) (by decide) (by rw [ha]; rfl) rfl hw (okR_of (by simp only [okRl, List.length_cons, List.length_nil, and_true, Nat.lt_eq]; first | done | omega) (by simp only [okRs, List.length_cons, List.length_nil, and_true, Nat.lt_eq]; first | done | omega)) (Nat.le_of_ble_eq_true rfl) (Nat.le_of_ble_eq_true rfl) (fun hw => ?_)
  refine ev_putRT (L' := [_, _, _, _, _, _, _, _, _, _, _]) (k := 0) fr_X12_37 rfl rfl dX12_init_84 ha rfl rfl (fun _ => rfl) (fun _ => rfl) (by simp only [List.length_cons, List.length_nil]; omega) rfl hw (fun hw => ?_)
  refine ev_aload_n dX12_init_87 rfl ?_
  refine ev_sipush (v := (132 : Int32)) dX12_init_88 (by decide) ?_
  refine ev_newaT (N := 132) (q := a + 11) (L' := [_, _, _, _, _, _, _, _, _, _, _, _]) dX12_init_91 (by decide) (by decide) (by decide) (by rw [ha]; rfl) rfl hw (okR_of (by simp only [okRl, List.length_cons, List.length_nil, and_true, Nat.lt_eq]; first | done | omega) (by simp only [okRs, List.length_cons, List.length_nil, and_true, Nat.lt_eq]; first | done | omega)) (Nat.le_of_ble_eq_true rfl) (Nat.le_of_ble_eq_true rfl) (fun hw => ?_)
  refine ev_dup dX12_init_93 (by rfl) ?_
  refine ev_iconst (v := (0 : Int32)) dX12_init_94 (by decide) ?_
  refine ev_bipush (v := (32 : Int32)) dX12_init_95 (by decide) ?_
  refine ev_iastL (j := 0) (tlg (k := 11) ha rfl) (by decide) (vpl _ _ (by decide)) dX12_init_97 ?_
  refine ev_dup dX12_init_98 (by rfl) ?_
  refine ev_iconst (v := (1 : Int32)) dX12_init_99 (by decide) ?_
  refine ev_bipush (v := (121 : Int32)) dX12_init_100 (by decide) ?_
  refine ev_iastL (j := 1) (tlg (k := 11) ha rfl) (by decide) (vpl _ _ (by decide)) dX12_init_102 ?_
  refine ev_dup dX12_init_103 (by rfl) ?_
  refine ev_iconst (v := (2 : Int32)) dX12_init_104 (by decide) ?_
  refine ev_bipush (v := (101 : Int32)) dX12_init_105 (by decide) ?_
  refine ev_iastL (j := 2) (tlg (k := 11) ha rfl) (by decide) (vpl _ _ (by decide)) dX12_init_107 ?_
  refine ev_dup dX12_init_108 (by rfl) ?_
  refine ev_iconst (v := (3 : Int32)) dX12_init_109 (by decide) ?_
  refine ev_bipush (v := (115 : Int32)) dX12_init_110 (by decide) ?_
  refine ev_iastL (j := 3) (tlg (k := 11) ha rfl) (by decide) (vpl _ _ (by decide)) dX12_init_112 ?_
  refine ev_dup dX12_init_113 (by rfl) ?_
  refine ev_iconst (v := (4 : Int32)) dX12_init_114 (by decide) ?_
  refine ev_bipush (v := (32 : Int32)) dX12_init_115 (by decide) ?_
  refine ev_iastL (j := 4) (tlg (k := 11) ha rfl) (by decide) (vpl _ _ (by decide)) dX12_init_117 ?_
  refine ev_dup dX12_init_118 (by rfl) ?_
  refine ev_iconst (v := (5 : Int32)) dX12_init_119 (by decide) ?_
  refine ev_bipush (v := (99 : Int32)) dX12_init_120 (by decide) ?_
  refine ev_iastL (j := 5) (tlg (k := 11) ha rfl) (by decide) (vpl _ _ (by decide)) dX12_init_122 ?_
  refine ev_dup dX12_init_123 (by rfl) ?_
  refine ev_bipush (v := (6 : Int32)) dX12_init_124 (by decide) ?_
  refine ev_bipush (v := (111 : Int32)) dX12_init_126 (by decide) ?_
  refine ev_iastL (j := 6) (tlg (k := 11) ha rfl) (by decide) (vpl _ _ (by decide)) dX12_init_128 ?_
  refine ev_dup dX12_init_129 (by rfl) ?_
  refine ev_bipush (v := (7 : Int32)) dX12_init_130 (by decide) ?_
  refine ev_bipush (v := (117 : Int32)) dX12_init_132 (by decide) ?_
  refine ev_iastL (j := 7) (tlg (k := 11) ha rfl) (by decide) (vpl _ _ (by decide)) dX12_init_134 ?_
  refine ev_dup dX12_init_135 (by rfl) ?_
  refine ev_bipush (v := (8 : Int32)) dX12_init_136 (by decide) ?_
  refine ev_bipush (v := (110 : Int32)) dX12_init_138 (by decide) ?_
  refine ev_iastL (j := 8) (tlg (k := 11) ha rfl) (by decide) (vpl _ _ (by decide)) dX12_init_140 ?_
  refine ev_dup dX12_init_141 (by rfl) ?_
  refine ev_bipush (v := (9 : Int32)) dX12_init_142 (by decide) ?_
  refine ev_bipush (v := (116 : Int32)) dX12_init_144 (by decide) ?_
  refine ev_iastL (j := 9) (tlg (k := 11) ha rfl) (by decide) (vpl _ _ (by decide)) dX12_init_146 ?_
  refine ev_dup dX12_init_147 (by rfl) ?_
  refine ev_bipush (v := (10 : Int32)) dX12_init_148 (by decide) ?_
  refine ev_bipush (v := (115 : Int32)) dX12_init_150 (by decide) ?_
  refine ev_iastL (j := 10) (tlg (k := 11) ha rfl) (by decide) (vpl _ _ (by decide)) dX12_init_152 ?_
  refine ev_dup dX12_init_153 (by rfl) ?_
  refine ev_bipush (v := (11 : Int32)) dX12_init_154 (by decide) ?_
  refine ev_bipush (v := (32 : Int32)) dX12_init_156 (by decide) ?_
  refine ev_iastL (j := 11) (tlg (k := 11) ha rfl) (by decide) (vpl _ _ (by decide)) dX12_init_158 ?_
  refine ev_dup dX12_init_159 (by rfl) ?_
  refine ev_bipush (v := (12 : Int32)) dX12_init_160 (by decide) ?_
  refine ev_bipush (v := (106 : Int32)) dX12_init_162 (by decide) ?_
  refine ev_iastL (j := 12) (tlg (k := 11) ha rfl) (by decide) (vpl _ _ (by decide)) dX12_init_164 ?_
  refine ev_dup dX12_init_165 (by rfl) ?_
  refine ev_bipush (v := (13 : Int32)) dX12_init_166 (by decide) ?_
  refine ev_bipush (v := (111 : Int32)) dX12_init_168 (by decide) ?_
  refine ev_iastL (j := 13) (tlg (k := 11) ha rfl) (by decide) (vpl _ _ (by decide)) dX12_init_170 ?_
  refine ev_dup dX12_init_171 (by rfl) ?_
  refine ev_bipush (v := (14 : Int32)) dX12_init_172 (by decide) ?_
  refine ev_bipush (v := (121 : Int32)) dX12_init_174 (by decide) ?_
  refine ev_iastL (j := 14) (tlg (k := 11) ha rfl) (by decide) (vpl _ _ (by decide)) dX12_init_176 ?_
  refine ev_dup dX12_init_177 (by rfl) ?_
  refine ev_bipush (v := (15 : Int32)) dX12_init_178 (by decide) ?_
  refine ev_bipush (v := (32 : Int32)) dX12_init_180 (by decide) ?_
  refine ev_iastL (j := 15) (tlg (k := 11) ha rfl) (by decide) (vpl _ _ (by decide)) dX12_init_182 ?_
  refine ev_dup dX12_init_183 (by rfl) ?_
  refine ev_bipush (v := (16 : Int32)) dX12_init_184 (by decide) ?_
  refine ev_bipush (v := (119 : Int32)) dX12_init_186 (by decide) ?_
  refine ev_iastL (j := 16) (tlg (k := 11) ha rfl) (by decide) (vpl _ _ (by decide)) dX12_init_188 ?_
  refine ev_dup dX12_init_189 (by rfl) ?_
  refine ev_bipush (v := (17 : Int32)) dX12_init_190 (by decide) ?_
  refine ev_bipush (v := (104 : Int32)) dX12_init_192 (by decide) ?_
  refine ev_iastL (j := 17) (tlg (k := 11) ha rfl) (by decide) (vpl _ _ (by decide)) dX12_init_194 ?_
  refine ev_dup dX12_init_195 (by rfl) ?_
  refine ev_bipush (v := (18 : Int32)) dX12_init_196 (by decide) ?_
  refine ev_bipush (v := (101 : Int32)) dX12_init_198 (by decide) ?_
  refine ev_iastL (j := 18) (tlg (k := 11) ha rfl) (by decide) (vpl _ _ (by decide)) dX12_init_200 ?_
  refine ev_dup dX12_init_201 (by rfl) ?_
  refine ev_bipush (v := (19 : Int32)) dX12_init_202 (by decide) ?_
  refine ev_bipush (v := (110 : Int32)) dX12_init_204 (by decide) ?_
  refine ev_iastL (j := 19) (tlg (k := 11) ha rfl) (by decide) (vpl _ _ (by decide)) dX12_init_206 ?_
  refine ev_dup dX12_init_207 (by rfl) ?_
  refine ev_bipush (v := (20 : Int32)) dX12_init_208 (by decide) ?_
  refine ev_bipush (v := (32 : Int32)) dX12_init_210 (by decide) ?_
  refine ev_iastL (j := 20) (tlg (k := 11) ha rfl) (by decide) (vpl _ _ (by decide)) dX12_init_212 ?_
  refine ev_dup dX12_init_213 (by rfl) ?_
  refine ev_bipush (v := (21 : Int32)) dX12_init_214 (by decide) ?_
  refine ev_bipush (v := (111 : Int32)) dX12_init_216 (by decide) ?_
  refine ev_iastL (j := 21) (tlg (k := 11) ha rfl) (by decide) (vpl _ _ (by decide)) dX12_init_218 ?_
  refine ev_dup dX12_init_219 (by rfl) ?_
  refine ev_bipush (v := (22 : Int32)) dX12_init_220 (by decide) ?_
  refine ev_bipush (v := (114 : Int32)) dX12_init_222 (by decide) ?_
  refine ev_iastL (j := 22) (tlg (k := 11) ha rfl) (by decide) (vpl _ _ (by decide)) dX12_init_224 ?_
  refine ev_dup dX12_init_225 (by rfl) ?_
  refine ev_bipush (v := (23 : Int32)) dX12_init_226 (by decide) ?_
  refine ev_bipush (v := (32 : Int32)) dX12_init_228 (by decide) ?_
  refine ev_iastL (j := 23) (tlg (k := 11) ha rfl) (by decide) (vpl _ _ (by decide)) dX12_init_230 ?_
  refine ev_dup dX12_init_231 (by rfl) ?_
  refine ev_bipush (v := (24 : Int32)) dX12_init_232 (by decide) ?_
  refine ev_bipush (v := (97 : Int32)) dX12_init_234 (by decide) ?_
  refine ev_iastL (j := 24) (tlg (k := 11) ha rfl) (by decide) (vpl _ _ (by decide)) dX12_init_236 ?_
  refine ev_dup dX12_init_237 (by rfl) ?_
  refine ev_bipush (v := (25 : Int32)) dX12_init_238 (by decide) ?_
  refine ev_bipush (v := (110 : Int32)) dX12_init_240 (by decide) ?_
  refine ev_iastL (j := 25) (tlg (k := 11) ha rfl) (by decide) (vpl _ _ (by decide)) dX12_init_242 ?_
  refine ev_dup dX12_init_243 (by rfl) ?_
  refine ev_bipush (v := (26 : Int32)) dX12_init_244 (by decide) ?_
  refine ev_bipush (v := (100 : Int32)) dX12_init_246 (by decide) ?_
  refine ev_iastL (j := 26) (tlg (k := 11) ha rfl) (by decide) (vpl _ _ (by decide)) dX12_init_248 ?_
  refine ev_dup dX12_init_249 (by rfl) ?_
  refine ev_bipush (v := (27 : Int32)) dX12_init_250 (by decide) ?_
  refine ev_bipush (v := (32 : Int32)) dX12_init_252 (by decide) ?_
  refine ev_iastL (j := 27) (tlg (k := 11) ha rfl) (by decide) (vpl _ _ (by decide)) dX12_init_254 ?_
  refine ev_dup dX12_init_255 (by rfl) ?_
  refine ev_bipush (v := (28 : Int32)) dX12_init_256 (by decide) ?_
  refine ev_bipush (v := (110 : Int32)) dX12_init_258 (by decide) ?_
  refine ev_iastL (j := 28) (tlg (k := 11) ha rfl) (by decide) (vpl _ _ (by decide)) dX12_init_260 ?_
  refine ev_dup dX12_init_261 (by rfl) ?_
  refine ev_bipush (v := (29 : Int32)) dX12_init_262 (by decide) ?_
  refine ev_bipush (v := (111 : Int32)) dX12_init_264 (by decide) ?_
  refine ev_iastL (j := 29) (tlg (k := 11) ha rfl) (by decide) (vpl _ _ (by decide)) dX12_init_266 ?_
  refine ev_dup dX12_init_267 (by rfl) ?_
  refine ev_bipush (v := (30 : Int32)) dX12_init_268 (by decide) ?_
  refine ev_bipush (v := (116 : Int32)) dX12_init_270 (by decide) ?_
  refine ev_iastL (j := 30) (tlg (k := 11) ha rfl) (by decide) (vpl _ _ (by decide)) dX12_init_272 ?_
  refine ev_dup dX12_init_273 (by rfl) ?_
  refine ev_bipush (v := (31 : Int32)) dX12_init_274 (by decide) ?_
  refine ev_bipush (v := (32 : Int32)) dX12_init_276 (by decide) ?_
  refine ev_iastL (j := 31) (tlg (k := 11) ha rfl) (by decide) (vpl _ _ (by decide)) dX12_init_278 ?_
  refine ev_dup dX12_init_279 (by rfl) ?_
  refine ev_bipush (v := (32 : Int32)) dX12_init_280 (by decide) ?_
  refine ev_bipush (v := (115 : Int32)) dX12_init_282 (by decide) ?_
  refine ev_iastL (j := 32) (tlg (k := 11) ha rfl) (by decide) (vpl _ _ (by decide)) dX12_init_284 ?_
  refine ev_dup dX12_init_285 (by rfl) ?_
  refine ev_bipush (v := (33 : Int32)) dX12_init_286 (by decide) ?_
  refine ev_bipush (v := (116 : Int32)) dX12_init_288 (by decide) ?_
  refine ev_iastL (j := 33) (tlg (k := 11) ha rfl) (by decide) (vpl _ _ (by decide)) dX12_init_290 ?_
  refine ev_dup dX12_init_291 (by rfl) ?_
  refine ev_bipush (v := (34 : Int32)) dX12_init_292 (by decide) ?_
  refine ev_bipush (v := (101 : Int32)) dX12_init_294 (by decide) ?_
  refine ev_iastL (j := 34) (tlg (k := 11) ha rfl) (by decide) (vpl _ _ (by decide)) dX12_init_296 ?_
  refine ev_dup dX12_init_297 (by rfl) ?_
  refine ev_bipush (v := (35 : Int32)) dX12_init_298 (by decide) ?_
  refine ev_bipush (v := (112 : Int32)) dX12_init_300 (by decide) ?_
  refine ev_iastL (j := 35) (tlg (k := 11) ha rfl) (by decide) (vpl _ _ (by decide)) dX12_init_302 ?_
  refine ev_dup dX12_init_303 (by rfl) ?_
  refine ev_bipush (v := (36 : Int32)) dX12_init_304 (by decide) ?_
  refine ev_bipush (v := (32 : Int32)) dX12_init_306 (by decide) ?_
  refine ev_iastL (j := 36) (tlg (k := 11) ha rfl) (by decide) (vpl _ _ (by decide)) dX12_init_308 ?_
  refine ev_dup dX12_init_309 (by rfl) ?_
  refine ev_bipush (v := (37 : Int32)) dX12_init_310 (by decide) ?_
  refine ev_bipush (v := (104 : Int32)) dX12_init_312 (by decide) ?_
  refine ev_iastL (j := 37) (tlg (k := 11) ha rfl) (by decide) (vpl _ _ (by decide)) dX12_init_314 ?_
  refine ev_dup dX12_init_315 (by rfl) ?_
  refine ev_bipush (v := (38 : Int32)) dX12_init_316 (by decide) ?_
  refine ev_bipush (v := (101 : Int32)) dX12_init_318 (by decide) ?_
  refine ev_iastL (j := 38) (tlg (k := 11) ha rfl) (by decide) (vpl _ _ (by decide)) dX12_init_320 ?_
  refine ev_dup dX12_init_321 (by rfl) ?_
  refine ev_bipush (v := (39 : Int32)) dX12_init_322 (by decide) ?_
  refine ev_bipush (v := (97 : Int32)) dX12_init_324 (by decide) ?_
  refine ev_iastL (j := 39) (tlg (k := 11) ha rfl) (by decide) (vpl _ _ (by decide)) dX12_init_326 ?_
  refine ev_dup dX12_init_327 (by rfl) ?_
  refine ev_bipush (v := (40 : Int32)) dX12_init_328 (by decide) ?_
  refine ev_bipush (v := (114 : Int32)) dX12_init_330 (by decide) ?_
  refine ev_iastL (j := 40) (tlg (k := 11) ha rfl) (by decide) (vpl _ _ (by decide)) dX12_init_332 ?_
  refine ev_dup dX12_init_333 (by rfl) ?_
  refine ev_bipush (v := (41 : Int32)) dX12_init_334 (by decide) ?_
  refine ev_bipush (v := (116 : Int32)) dX12_init_336 (by decide) ?_
  refine ev_iastL (j := 41) (tlg (k := 11) ha rfl) (by decide) (vpl _ _ (by decide)) dX12_init_338 ?_
  refine ev_dup dX12_init_339 (by rfl) ?_
  refine ev_bipush (v := (42 : Int32)) dX12_init_340 (by decide) ?_
  refine ev_bipush (v := (32 : Int32)) dX12_init_342 (by decide) ?_
  refine ev_iastL (j := 42) (tlg (k := 11) ha rfl) (by decide) (vpl _ _ (by decide)) dX12_init_344 ?_
  refine ev_dup dX12_init_345 (by rfl) ?_
  refine ev_bipush (v := (43 : Int32)) dX12_init_346 (by decide) ?_
  refine ev_bipush (v := (114 : Int32)) dX12_init_348 (by decide) ?_
  refine ev_iastL (j := 43) (tlg (k := 11) ha rfl) (by decide) (vpl _ _ (by decide)) dX12_init_350 ?_
  refine ev_dup dX12_init_351 (by rfl) ?_
  refine ev_bipush (v := (44 : Int32)) dX12_init_352 (by decide) ?_
  refine ev_bipush (v := (111 : Int32)) dX12_init_354 (by decide) ?_
  refine ev_iastL (j := 44) (tlg (k := 11) ha rfl) (by decide) (vpl _ _ (by decide)) dX12_init_356 ?_
  refine ev_dup dX12_init_357 (by rfl) ?_
  refine ev_bipush (v := (45 : Int32)) dX12_init_358 (by decide) ?_
  refine ev_bipush (v := (116 : Int32)) dX12_init_360 (by decide) ?_
  refine ev_iastL (j := 45) (tlg (k := 11) ha rfl) (by decide) (vpl _ _ (by decide)) dX12_init_362 ?_
  refine ev_dup dX12_init_363 (by rfl) ?_
  refine ev_bipush (v := (46 : Int32)) dX12_init_364 (by decide) ?_
  refine ev_bipush (v := (101 : Int32)) dX12_init_366 (by decide) ?_
  refine ev_iastL (j := 46) (tlg (k := 11) ha rfl) (by decide) (vpl _ _ (by decide)) dX12_init_368 ?_
  refine ev_dup dX12_init_369 (by rfl) ?_
  refine ev_bipush (v := (47 : Int32)) dX12_init_370 (by decide) ?_
  refine ev_bipush (v := (32 : Int32)) dX12_init_372 (by decide) ?_
  refine ev_iastL (j := 47) (tlg (k := 11) ha rfl) (by decide) (vpl _ _ (by decide)) dX12_init_374 ?_
  refine ev_dup dX12_init_375 (by rfl) ?_
  refine ev_bipush (v := (48 : Int32)) dX12_init_376 (by decide) ?_
  refine ev_bipush (v := (115 : Int32)) dX12_init_378 (by decide) ?_
  refine ev_iastL (j := 48) (tlg (k := 11) ha rfl) (by decide) (vpl _ _ (by decide)) dX12_init_380 ?_
  refine ev_dup dX12_init_381 (by rfl) ?_
  refine ev_bipush (v := (49 : Int32)) dX12_init_382 (by decide) ?_
  refine ev_bipush (v := (104 : Int32)) dX12_init_384 (by decide) ?_
  refine ev_iastL (j := 49) (tlg (k := 11) ha rfl) (by decide) (vpl _ _ (by decide)) dX12_init_386 ?_
  refine ev_dup dX12_init_387 (by rfl) ?_
  refine ev_bipush (v := (50 : Int32)) dX12_init_388 (by decide) ?_
  refine ev_bipush (v := (101 : Int32)) dX12_init_390 (by decide) ?_
  refine ev_iastL (j := 50) (tlg (k := 11) ha rfl) (by decide) (vpl _ _ (by decide)) dX12_init_392 ?_
  refine ev_dup dX12_init_393 (by rfl) ?_
  refine ev_bipush (v := (51 : Int32)) dX12_init_394 (by decide) ?_
  refine ev_bipush (v := (32 : Int32)) dX12_init_396 (by decide) ?_
  refine ev_iastL (j := 51) (tlg (k := 11) ha rfl) (by decide) (vpl _ _ (by decide)) dX12_init_398 ?_
  refine ev_dup dX12_init_399 (by rfl) ?_
  refine ev_bipush (v := (52 : Int32)) dX12_init_400 (by decide) ?_
  refine ev_bipush (v := (115 : Int32)) dX12_init_402 (by decide) ?_
  refine ev_iastL (j := 52) (tlg (k := 11) ha rfl) (by decide) (vpl _ _ (by decide)) dX12_init_404 ?_
  refine ev_dup dX12_init_405 (by rfl) ?_
  refine ev_bipush (v := (53 : Int32)) dX12_init_406 (by decide) ?_
  refine ev_bipush (v := (97 : Int32)) dX12_init_408 (by decide) ?_
  refine ev_iastL (j := 53) (tlg (k := 11) ha rfl) (by decide) (vpl _ _ (by decide)) dX12_init_410 ?_
  refine ev_dup dX12_init_411 (by rfl) ?_
  refine ev_bipush (v := (54 : Int32)) dX12_init_412 (by decide) ?_
  refine ev_bipush (v := (105 : Int32)) dX12_init_414 (by decide) ?_
  refine ev_iastL (j := 54) (tlg (k := 11) ha rfl) (by decide) (vpl _ _ (by decide)) dX12_init_416 ?_
  refine ev_dup dX12_init_417 (by rfl) ?_
  refine ev_bipush (v := (55 : Int32)) dX12_init_418 (by decide) ?_
  refine ev_bipush (v := (100 : Int32)) dX12_init_420 (by decide) ?_
  refine ev_iastL (j := 55) (tlg (k := 11) ha rfl) (by decide) (vpl _ _ (by decide)) dX12_init_422 ?_
  refine ev_dup dX12_init_423 (by rfl) ?_
  refine ev_bipush (v := (56 : Int32)) dX12_init_424 (by decide) ?_
  refine ev_bipush (v := (32 : Int32)) dX12_init_426 (by decide) ?_
  refine ev_iastL (j := 56) (tlg (k := 11) ha rfl) (by decide) (vpl _ _ (by decide)) dX12_init_428 ?_
  refine ev_dup dX12_init_429 (by rfl) ?_
  refine ev_bipush (v := (57 : Int32)) dX12_init_430 (by decide) ?_
  refine ev_bipush (v := (113 : Int32)) dX12_init_432 (by decide) ?_
  refine ev_iastL (j := 57) (tlg (k := 11) ha rfl) (by decide) (vpl _ _ (by decide)) dX12_init_434 ?_
  refine ev_dup dX12_init_435 (by rfl) ?_
  refine ev_bipush (v := (58 : Int32)) dX12_init_436 (by decide) ?_
  refine ev_bipush (v := (117 : Int32)) dX12_init_438 (by decide) ?_
  refine ev_iastL (j := 58) (tlg (k := 11) ha rfl) (by decide) (vpl _ _ (by decide)) dX12_init_440 ?_
  refine ev_dup dX12_init_441 (by rfl) ?_
  refine ev_bipush (v := (59 : Int32)) dX12_init_442 (by decide) ?_
  refine ev_bipush (v := (101 : Int32)) dX12_init_444 (by decide) ?_
  refine ev_iastL (j := 59) (tlg (k := 11) ha rfl) (by decide) (vpl _ _ (by decide)) dX12_init_446 ?_
  refine ev_dup dX12_init_447 (by rfl) ?_
  refine ev_bipush (v := (60 : Int32)) dX12_init_448 (by decide) ?_
  refine ev_bipush (v := (115 : Int32)) dX12_init_450 (by decide) ?_
  refine ev_iastL (j := 60) (tlg (k := 11) ha rfl) (by decide) (vpl _ _ (by decide)) dX12_init_452 ?_
  refine ev_dup dX12_init_453 (by rfl) ?_
  refine ev_bipush (v := (61 : Int32)) dX12_init_454 (by decide) ?_
  refine ev_bipush (v := (116 : Int32)) dX12_init_456 (by decide) ?_
  refine ev_iastL (j := 61) (tlg (k := 11) ha rfl) (by decide) (vpl _ _ (by decide)) dX12_init_458 ?_
  refine ev_dup dX12_init_459 (by rfl) ?_
  refine ev_bipush (v := (62 : Int32)) dX12_init_460 (by decide) ?_
  refine ev_bipush (v := (105 : Int32)) dX12_init_462 (by decide) ?_
  refine ev_iastL (j := 62) (tlg (k := 11) ha rfl) (by decide) (vpl _ _ (by decide)) dX12_init_464 ?_
  refine ev_dup dX12_init_465 (by rfl) ?_
  refine ev_bipush (v := (63 : Int32)) dX12_init_466 (by decide) ?_
  refine ev_bipush (v := (111 : Int32)) dX12_init_468 (by decide) ?_
  refine ev_iastL (j := 63) (tlg (k := 11) ha rfl) (by decide) (vpl _ _ (by decide)) dX12_init_470 ?_
  refine ev_dup dX12_init_471 (by rfl) ?_
  refine ev_bipush (v := (64 : Int32)) dX12_init_472 (by decide) ?_
  refine ev_bipush (v := (110 : Int32)) dX12_init_474 (by decide) ?_
  refine ev_iastL (j := 64) (tlg (k := 11) ha rfl) (by decide) (vpl _ _ (by decide)) dX12_init_476 ?_
  refine ev_dup dX12_init_477 (by rfl) ?_
  refine ev_bipush (v := (65 : Int32)) dX12_init_478 (by decide) ?_
  refine ev_bipush (v := (32 : Int32)) dX12_init_480 (by decide) ?_
  refine ev_iastL (j := 65) (tlg (k := 11) ha rfl) (by decide) (vpl _ _ (by decide)) dX12_init_482 ?_
  refine ev_dup dX12_init_483 (by rfl) ?_
  refine ev_bipush (v := (66 : Int32)) dX12_init_484 (by decide) ?_
  refine ev_bipush (v := (112 : Int32)) dX12_init_486 (by decide) ?_
  refine ev_iastL (j := 66) (tlg (k := 11) ha rfl) (by decide) (vpl _ _ (by decide)) dX12_init_488 ?_
  refine ev_dup dX12_init_489 (by rfl) ?_
  refine ev_bipush (v := (67 : Int32)) dX12_init_490 (by decide) ?_
  refine ev_bipush (v := (108 : Int32)) dX12_init_492 (by decide) ?_
  refine ev_iastL (j := 67) (tlg (k := 11) ha rfl) (by decide) (vpl _ _ (by decide)) dX12_init_494 ?_
  refine ev_dup dX12_init_495 (by rfl) ?_
  refine ev_bipush (v := (68 : Int32)) dX12_init_496 (by decide) ?_
  refine ev_bipush (v := (97 : Int32)) dX12_init_498 (by decide) ?_
  refine ev_iastL (j := 68) (tlg (k := 11) ha rfl) (by decide) (vpl _ _ (by decide)) dX12_init_500 ?_
  refine ev_dup dX12_init_501 (by rfl) ?_
  refine ev_bipush (v := (69 : Int32)) dX12_init_502 (by decide) ?_
  refine ev_bipush (v := (99 : Int32)) dX12_init_504 (by decide) ?_
  refine ev_iastL (j := 69) (tlg (k := 11) ha rfl) (by decide) (vpl _ _ (by decide)) dX12_init_506 ?_
  refine ev_dup dX12_init_507 (by rfl) ?_
  refine ev_bipush (v := (70 : Int32)) dX12_init_508 (by decide) ?_
  refine ev_bipush (v := (101 : Int32)) dX12_init_510 (by decide) ?_
  refine ev_iastL (j := 70) (tlg (k := 11) ha rfl) (by decide) (vpl _ _ (by decide)) dX12_init_512 ?_
  refine ev_dup dX12_init_513 (by rfl) ?_
  refine ev_bipush (v := (71 : Int32)) dX12_init_514 (by decide) ?_
  refine ev_bipush (v := (32 : Int32)) dX12_init_516 (by decide) ?_
  refine ev_iastL (j := 71) (tlg (k := 11) ha rfl) (by decide) (vpl _ _ (by decide)) dX12_init_518 ?_
  refine ev_dup dX12_init_519 (by rfl) ?_
  refine ev_bipush (v := (72 : Int32)) dX12_init_520 (by decide) ?_
  refine ev_bipush (v := (110 : Int32)) dX12_init_522 (by decide) ?_
  refine ev_iastL (j := 72) (tlg (k := 11) ha rfl) (by decide) (vpl _ _ (by decide)) dX12_init_524 ?_
  refine ev_dup dX12_init_525 (by rfl) ?_
  refine ev_bipush (v := (73 : Int32)) dX12_init_526 (by decide) ?_
  refine ev_bipush (v := (101 : Int32)) dX12_init_528 (by decide) ?_
  refine ev_iastL (j := 73) (tlg (k := 11) ha rfl) (by decide) (vpl _ _ (by decide)) dX12_init_530 ?_
  refine ev_dup dX12_init_531 (by rfl) ?_
  refine ev_bipush (v := (74 : Int32)) dX12_init_532 (by decide) ?_
  refine ev_bipush (v := (114 : Int32)) dX12_init_534 (by decide) ?_
  refine ev_iastL (j := 74) (tlg (k := 11) ha rfl) (by decide) (vpl _ _ (by decide)) dX12_init_536 ?_
  refine ev_dup dX12_init_537 (by rfl) ?_
  refine ev_bipush (v := (75 : Int32)) dX12_init_538 (by decide) ?_
  refine ev_bipush (v := (118 : Int32)) dX12_init_540 (by decide) ?_
  refine ev_iastL (j := 75) (tlg (k := 11) ha rfl) (by decide) (vpl _ _ (by decide)) dX12_init_542 ?_
  refine ev_dup dX12_init_543 (by rfl) ?_
  refine ev_bipush (v := (76 : Int32)) dX12_init_544 (by decide) ?_
  refine ev_bipush (v := (101 : Int32)) dX12_init_546 (by decide) ?_
  refine ev_iastL (j := 76) (tlg (k := 11) ha rfl) (by decide) (vpl _ _ (by decide)) dX12_init_548 ?_
  refine ev_dup dX12_init_549 (by rfl) ?_
  refine ev_bipush (v := (77 : Int32)) dX12_init_550 (by decide) ?_
  refine ev_bipush (v := (32 : Int32)) dX12_init_552 (by decide) ?_
  refine ev_iastL (j := 77) (tlg (k := 11) ha rfl) (by decide) (vpl _ _ (by decide)) dX12_init_554 ?_
  refine ev_dup dX12_init_555 (by rfl) ?_
  refine ev_bipush (v := (78 : Int32)) dX12_init_556 (by decide) ?_
  refine ev_bipush (v := (121 : Int32)) dX12_init_558 (by decide) ?_
  refine ev_iastL (j := 78) (tlg (k := 11) ha rfl) (by decide) (vpl _ _ (by decide)) dX12_init_560 ?_
  refine ev_dup dX12_init_561 (by rfl) ?_
  refine ev_bipush (v := (79 : Int32)) dX12_init_562 (by decide) ?_
  refine ev_bipush (v := (101 : Int32)) dX12_init_564 (by decide) ?_
  refine ev_iastL (j := 79) (tlg (k := 11) ha rfl) (by decide) (vpl _ _ (by decide)) dX12_init_566 ?_
  refine ev_dup dX12_init_567 (by rfl) ?_
  refine ev_bipush (v := (80 : Int32)) dX12_init_568 (by decide) ?_
  refine ev_bipush (v := (97 : Int32)) dX12_init_570 (by decide) ?_
  refine ev_iastL (j := 80) (tlg (k := 11) ha rfl) (by decide) (vpl _ _ (by decide)) dX12_init_572 ?_
  refine ev_dup dX12_init_573 (by rfl) ?_
  refine ev_bipush (v := (81 : Int32)) dX12_init_574 (by decide) ?_
  refine ev_bipush (v := (114 : Int32)) dX12_init_576 (by decide) ?_
  refine ev_iastL (j := 81) (tlg (k := 11) ha rfl) (by decide) (vpl _ _ (by decide)) dX12_init_578 ?_
  refine ev_dup dX12_init_579 (by rfl) ?_
  refine ev_bipush (v := (82 : Int32)) dX12_init_580 (by decide) ?_
  refine ev_bipush (v := (32 : Int32)) dX12_init_582 (by decide) ?_
  refine ev_iastL (j := 82) (tlg (k := 11) ha rfl) (by decide) (vpl _ _ (by decide)) dX12_init_584 ?_
  refine ev_dup dX12_init_585 (by rfl) ?_
  refine ev_bipush (v := (83 : Int32)) dX12_init_586 (by decide) ?_
  refine ev_bipush (v := (99 : Int32)) dX12_init_588 (by decide) ?_
  refine ev_iastL (j := 83) (tlg (k := 11) ha rfl) (by decide) (vpl _ _ (by decide)) dX12_init_590 ?_
  refine ev_dup dX12_init_591 (by rfl) ?_
  refine ev_bipush (v := (84 : Int32)) dX12_init_592 (by decide) ?_
  refine ev_bipush (v := (104 : Int32)) dX12_init_594 (by decide) ?_
  refine ev_iastL (j := 84) (tlg (k := 11) ha rfl) (by decide) (vpl _ _ (by decide)) dX12_init_596 ?_
  refine ev_dup dX12_init_597 (by rfl) ?_
  refine ev_bipush (v := (85 : Int32)) dX12_init_598 (by decide) ?_
  refine ev_bipush (v := (105 : Int32)) dX12_init_600 (by decide) ?_
  refine ev_iastL (j := 85) (tlg (k := 11) ha rfl) (by decide) (vpl _ _ (by decide)) dX12_init_602 ?_
  refine ev_dup dX12_init_603 (by rfl) ?_
  refine ev_bipush (v := (86 : Int32)) dX12_init_604 (by decide) ?_
  refine ev_bipush (v := (108 : Int32)) dX12_init_606 (by decide) ?_
  refine ev_iastL (j := 86) (tlg (k := 11) ha rfl) (by decide) (vpl _ _ (by decide)) dX12_init_608 ?_
  refine ev_dup dX12_init_609 (by rfl) ?_
  refine ev_bipush (v := (87 : Int32)) dX12_init_610 (by decide) ?_
  refine ev_bipush (v := (100 : Int32)) dX12_init_612 (by decide) ?_
  refine ev_iastL (j := 87) (tlg (k := 11) ha rfl) (by decide) (vpl _ _ (by decide)) dX12_init_614 ?_
  refine ev_dup dX12_init_615 (by rfl) ?_
  refine ev_bipush (v := (88 : Int32)) dX12_init_616 (by decide) ?_
  refine ev_bipush (v := (114 : Int32)) dX12_init_618 (by decide) ?_
  refine ev_iastL (j := 88) (tlg (k := 11) ha rfl) (by decide) (vpl _ _ (by decide)) dX12_init_620 ?_
  refine ev_dup dX12_init_621 (by rfl) ?_
  refine ev_bipush (v := (89 : Int32)) dX12_init_622 (by decide) ?_
  refine ev_bipush (v := (101 : Int32)) dX12_init_624 (by decide) ?_
  refine ev_iastL (j := 89) (tlg (k := 11) ha rfl) (by decide) (vpl _ _ (by decide)) dX12_init_626 ?_
  refine ev_dup dX12_init_627 (by rfl) ?_
  refine ev_bipush (v := (90 : Int32)) dX12_init_628 (by decide) ?_
  refine ev_bipush (v := (110 : Int32)) dX12_init_630 (by decide) ?_
  refine ev_iastL (j := 90) (tlg (k := 11) ha rfl) (by decide) (vpl _ _ (by decide)) dX12_init_632 ?_
  refine ev_dup dX12_init_633 (by rfl) ?_
  refine ev_bipush (v := (91 : Int32)) dX12_init_634 (by decide) ?_
  refine ev_bipush (v := (32 : Int32)) dX12_init_636 (by decide) ?_
  refine ev_iastL (j := 91) (tlg (k := 11) ha rfl) (by decide) (vpl _ _ (by decide)) dX12_init_638 ?_
  refine ev_dup dX12_init_639 (by rfl) ?_
  refine ev_bipush (v := (92 : Int32)) dX12_init_640 (by decide) ?_
  refine ev_bipush (v := (103 : Int32)) dX12_init_642 (by decide) ?_
  refine ev_iastL (j := 92) (tlg (k := 11) ha rfl) (by decide) (vpl _ _ (by decide)) dX12_init_644 ?_
  refine ev_dup dX12_init_645 (by rfl) ?_
  refine ev_bipush (v := (93 : Int32)) dX12_init_646 (by decide) ?_
  refine ev_bipush (v := (108 : Int32)) dX12_init_648 (by decide) ?_
  refine ev_iastL (j := 93) (tlg (k := 11) ha rfl) (by decide) (vpl _ _ (by decide)) dX12_init_650 ?_
  refine ev_dup dX12_init_651 (by rfl) ?_
  refine ev_bipush (v := (94 : Int32)) dX12_init_652 (by decide) ?_
  refine ev_bipush (v := (97 : Int32)) dX12_init_654 (by decide) ?_
  refine ev_iastL (j := 94) (tlg (k := 11) ha rfl) (by decide) (vpl _ _ (by decide)) dX12_init_656 ?_
  refine ev_dup dX12_init_657 (by rfl) ?_
  refine ev_bipush (v := (95 : Int32)) dX12_init_658 (by decide) ?_
  refine ev_bipush (v := (100 : Int32)) dX12_init_660 (by decide) ?_
  refine ev_iastL (j := 95) (tlg (k := 11) ha rfl) (by decide) (vpl _ _ (by decide)) dX12_init_662 ?_
  refine ev_dup dX12_init_663 (by rfl) ?_
  refine ev_bipush (v := (96 : Int32)) dX12_init_664 (by decide) ?_
  refine ev_bipush (v := (32 : Int32)) dX12_init_666 (by decide) ?_
  refine ev_iastL (j := 96) (tlg (k := 11) ha rfl) (by decide) (vpl _ _ (by decide)) dX12_init_668 ?_
  refine ev_dup dX12_init_669 (by rfl) ?_
  refine ev_bipush (v := (97 : Int32)) dX12_init_670 (by decide) ?_
  refine ev_bipush (v := (97 : Int32)) dX12_init_672 (by decide) ?_
  refine ev_iastL (j := 97) (tlg (k := 11) ha rfl) (by decide) (vpl _ _ (by decide)) dX12_init_674 ?_
  refine ev_dup dX12_init_675 (by rfl) ?_
  refine ev_bipush (v := (98 : Int32)) dX12_init_676 (by decide) ?_
  refine ev_bipush (v := (115 : Int32)) dX12_init_678 (by decide) ?_
  refine ev_iastL (j := 98) (tlg (k := 11) ha rfl) (by decide) (vpl _ _ (by decide)) dX12_init_680 ?_
  refine ev_dup dX12_init_681 (by rfl) ?_
  refine ev_bipush (v := (99 : Int32)) dX12_init_682 (by decide) ?_
  refine ev_bipush (v := (107 : Int32)) dX12_init_684 (by decide) ?_
  refine ev_iastL (j := 99) (tlg (k := 11) ha rfl) (by decide) (vpl _ _ (by decide)) dX12_init_686 ?_
  refine ev_dup dX12_init_687 (by rfl) ?_
  refine ev_bipush (v := (100 : Int32)) dX12_init_688 (by decide) ?_
  refine ev_bipush (v := (32 : Int32)) dX12_init_690 (by decide) ?_
  refine ev_iastL (j := 100) (tlg (k := 11) ha rfl) (by decide) (vpl _ _ (by decide)) dX12_init_692 ?_
  refine ev_dup dX12_init_693 (by rfl) ?_
  refine ev_bipush (v := (101 : Int32)) dX12_init_694 (by decide) ?_
  refine ev_bipush (v := (105 : Int32)) dX12_init_696 (by decide) ?_
  refine ev_iastL (j := 101) (tlg (k := 11) ha rfl) (by decide) (vpl _ _ (by decide)) dX12_init_698 ?_
  refine ev_dup dX12_init_699 (by rfl) ?_
  refine ev_bipush (v := (102 : Int32)) dX12_init_700 (by decide) ?_
  refine ev_bipush (v := (110 : Int32)) dX12_init_702 (by decide) ?_
  refine ev_iastL (j := 102) (tlg (k := 11) ha rfl) (by decide) (vpl _ _ (by decide)) dX12_init_704 ?_
  refine ev_dup dX12_init_705 (by rfl) ?_
  refine ev_bipush (v := (103 : Int32)) dX12_init_706 (by decide) ?_
  refine ev_bipush (v := (32 : Int32)) dX12_init_708 (by decide) ?_
  refine ev_iastL (j := 103) (tlg (k := 11) ha rfl) (by decide) (vpl _ _ (by decide)) dX12_init_710 ?_
  refine ev_dup dX12_init_711 (by rfl) ?_
  refine ev_bipush (v := (104 : Int32)) dX12_init_712 (by decide) ?_
  refine ev_bipush (v := (119 : Int32)) dX12_init_714 (by decide) ?_
  refine ev_iastL (j := 104) (tlg (k := 11) ha rfl) (by decide) (vpl _ _ (by decide)) dX12_init_716 ?_
  refine ev_dup dX12_init_717 (by rfl) ?_
  refine ev_bipush (v := (105 : Int32)) dX12_init_718 (by decide) ?_
  refine ev_bipush (v := (101 : Int32)) dX12_init_720 (by decide) ?_
  refine ev_iastL (j := 105) (tlg (k := 11) ha rfl) (by decide) (vpl _ _ (by decide)) dX12_init_722 ?_
  refine ev_dup dX12_init_723 (by rfl) ?_
  refine ev_bipush (v := (106 : Int32)) dX12_init_724 (by decide) ?_
  refine ev_bipush (v := (100 : Int32)) dX12_init_726 (by decide) ?_
  refine ev_iastL (j := 106) (tlg (k := 11) ha rfl) (by decide) (vpl _ _ (by decide)) dX12_init_728 ?_
  refine ev_dup dX12_init_729 (by rfl) ?_
  refine ev_bipush (v := (107 : Int32)) dX12_init_730 (by decide) ?_
  refine ev_bipush (v := (32 : Int32)) dX12_init_732 (by decide) ?_
  refine ev_iastL (j := 107) (tlg (k := 11) ha rfl) (by decide) (vpl _ _ (by decide)) dX12_init_734 ?_
  refine ev_dup dX12_init_735 (by rfl) ?_
  refine ev_bipush (v := (108 : Int32)) dX12_init_736 (by decide) ?_
  refine ev_bipush (v := (99 : Int32)) dX12_init_738 (by decide) ?_
  refine ev_iastL (j := 108) (tlg (k := 11) ha rfl) (by decide) (vpl _ _ (by decide)) dX12_init_740 ?_
  refine ev_dup dX12_init_741 (by rfl) ?_
  refine ev_bipush (v := (109 : Int32)) dX12_init_742 (by decide) ?_
  refine ev_bipush (v := (111 : Int32)) dX12_init_744 (by decide) ?_
  refine ev_iastL (j := 109) (tlg (k := 11) ha rfl) (by decide) (vpl _ _ (by decide)) dX12_init_746 ?_
  refine ev_dup dX12_init_747 (by rfl) ?_
  refine ev_bipush (v := (110 : Int32)) dX12_init_748 (by decide) ?_
  refine ev_bipush (v := (117 : Int32)) dX12_init_750 (by decide) ?_
  refine ev_iastL (j := 110) (tlg (k := 11) ha rfl) (by decide) (vpl _ _ (by decide)) dX12_init_752 ?_
  refine ev_dup dX12_init_753 (by rfl) ?_
  refine ev_bipush (v := (111 : Int32)) dX12_init_754 (by decide) ?_
  refine ev_bipush (v := (103 : Int32)) dX12_init_756 (by decide) ?_
  refine ev_iastL (j := 111) (tlg (k := 11) ha rfl) (by decide) (vpl _ _ (by decide)) dX12_init_758 ?_
  refine ev_dup dX12_init_759 (by rfl) ?_
  refine ev_bipush (v := (112 : Int32)) dX12_init_760 (by decide) ?_
  refine ev_bipush (v := (104 : Int32)) dX12_init_762 (by decide) ?_
  refine ev_iastL (j := 112) (tlg (k := 11) ha rfl) (by decide) (vpl _ _ (by decide)) dX12_init_764 ?_
  refine ev_dup dX12_init_765 (by rfl) ?_
  refine ev_bipush (v := (113 : Int32)) dX12_init_766 (by decide) ?_
  refine ev_bipush (v := (32 : Int32)) dX12_init_768 (by decide) ?_
  refine ev_iastL (j := 113) (tlg (k := 11) ha rfl) (by decide) (vpl _ _ (by decide)) dX12_init_770 ?_
  refine ev_dup dX12_init_771 (by rfl) ?_
  refine ev_bipush (v := (114 : Int32)) dX12_init_772 (by decide) ?_
  refine ev_bipush (v := (112 : Int32)) dX12_init_774 (by decide) ?_
  refine ev_iastL (j := 114) (tlg (k := 11) ha rfl) (by decide) (vpl _ _ (by decide)) dX12_init_776 ?_
  refine ev_dup dX12_init_777 (by rfl) ?_
  refine ev_bipush (v := (115 : Int32)) dX12_init_778 (by decide) ?_
  refine ev_bipush (v := (97 : Int32)) dX12_init_780 (by decide) ?_
  refine ev_iastL (j := 115) (tlg (k := 11) ha rfl) (by decide) (vpl _ _ (by decide)) dX12_init_782 ?_
  refine ev_dup dX12_init_783 (by rfl) ?_
  refine ev_bipush (v := (116 : Int32)) dX12_init_784 (by decide) ?_
  refine ev_bipush (v := (114 : Int32)) dX12_init_786 (by decide) ?_
  refine ev_iastL (j := 116) (tlg (k := 11) ha rfl) (by decide) (vpl _ _ (by decide)) dX12_init_788 ?_
  refine ev_dup dX12_init_789 (by rfl) ?_
  refine ev_bipush (v := (117 : Int32)) dX12_init_790 (by decide) ?_
  refine ev_bipush (v := (116 : Int32)) dX12_init_792 (by decide) ?_
  refine ev_iastL (j := 117) (tlg (k := 11) ha rfl) (by decide) (vpl _ _ (by decide)) dX12_init_794 ?_
  refine ev_dup dX12_init_795 (by rfl) ?_
  refine ev_bipush (v := (118 : Int32)) dX12_init_796 (by decide) ?_
  refine ev_bipush (v := (32 : Int32)) dX12_init_798 (by decide) ?_
  refine ev_iastL (j := 118) (tlg (k := 11) ha rfl) (by decide) (vpl _ _ (by decide)) dX12_init_800 ?_
  refine ev_dup dX12_init_801 (by rfl) ?_
  refine ev_bipush (v := (119 : Int32)) dX12_init_802 (by decide) ?_
  refine ev_bipush (v := (119 : Int32)) dX12_init_804 (by decide) ?_
  refine ev_iastL (j := 119) (tlg (k := 11) ha rfl) (by decide) (vpl _ _ (by decide)) dX12_init_806 ?_
  refine ev_dup dX12_init_807 (by rfl) ?_
  refine ev_bipush (v := (120 : Int32)) dX12_init_808 (by decide) ?_
  refine ev_bipush (v := (111 : Int32)) dX12_init_810 (by decide) ?_
  refine ev_iastL (j := 120) (tlg (k := 11) ha rfl) (by decide) (vpl _ _ (by decide)) dX12_init_812 ?_
  refine ev_dup dX12_init_813 (by rfl) ?_
  refine ev_bipush (v := (121 : Int32)) dX12_init_814 (by decide) ?_
  refine ev_bipush (v := (109 : Int32)) dX12_init_816 (by decide) ?_
  refine ev_iastL (j := 121) (tlg (k := 11) ha rfl) (by decide) (vpl _ _ (by decide)) dX12_init_818 ?_
  refine ev_dup dX12_init_819 (by rfl) ?_
  refine ev_bipush (v := (122 : Int32)) dX12_init_820 (by decide) ?_
  refine ev_bipush (v := (97 : Int32)) dX12_init_822 (by decide) ?_
  refine ev_iastL (j := 122) (tlg (k := 11) ha rfl) (by decide) (vpl _ _ (by decide)) dX12_init_824 ?_
  refine ev_dup dX12_init_825 (by rfl) ?_
  refine ev_bipush (v := (123 : Int32)) dX12_init_826 (by decide) ?_
  refine ev_bipush (v := (110 : Int32)) dX12_init_828 (by decide) ?_
  refine ev_iastL (j := 123) (tlg (k := 11) ha rfl) (by decide) (vpl _ _ (by decide)) dX12_init_830 ?_
  refine ev_dup dX12_init_831 (by rfl) ?_
  refine ev_bipush (v := (124 : Int32)) dX12_init_832 (by decide) ?_
  refine ev_bipush (v := (32 : Int32)) dX12_init_834 (by decide) ?_
  refine ev_iastL (j := 124) (tlg (k := 11) ha rfl) (by decide) (vpl _ _ (by decide)) dX12_init_836 ?_
  refine ev_dup dX12_init_837 (by rfl) ?_
  refine ev_bipush (v := (125 : Int32)) dX12_init_838 (by decide) ?_
  refine ev_bipush (v := (115 : Int32)) dX12_init_840 (by decide) ?_
  refine ev_iastL (j := 125) (tlg (k := 11) ha rfl) (by decide) (vpl _ _ (by decide)) dX12_init_842 ?_
  refine ev_dup dX12_init_843 (by rfl) ?_
  refine ev_bipush (v := (126 : Int32)) dX12_init_844 (by decide) ?_
  refine ev_bipush (v := (105 : Int32)) dX12_init_846 (by decide) ?_
  refine ev_iastL (j := 126) (tlg (k := 11) ha rfl) (by decide) (vpl _ _ (by decide)) dX12_init_848 ?_
  refine ev_dup dX12_init_849 (by rfl) ?_
  refine ev_bipush (v := (127 : Int32)) dX12_init_850 (by decide) ?_
  refine ev_bipush (v := (115 : Int32)) dX12_init_852 (by decide) ?_
  refine ev_iastL (j := 127) (tlg (k := 11) ha rfl) (by decide) (vpl _ _ (by decide)) dX12_init_854 ?_
  refine ev_dup dX12_init_855 (by rfl) ?_
  refine ev_sipush (v := (128 : Int32)) dX12_init_856 (by decide) ?_
  refine ev_bipush (v := (116 : Int32)) dX12_init_859 (by decide) ?_
  refine ev_iastL (j := 128) (tlg (k := 11) ha rfl) (by decide) (vpl _ _ (by decide)) dX12_init_861 ?_
  refine ev_dup dX12_init_862 (by rfl) ?_
  refine ev_sipush (v := (129 : Int32)) dX12_init_863 (by decide) ?_
  refine ev_bipush (v := (101 : Int32)) dX12_init_866 (by decide) ?_
  refine ev_iastL (j := 129) (tlg (k := 11) ha rfl) (by decide) (vpl _ _ (by decide)) dX12_init_868 ?_
  refine ev_dup dX12_init_869 (by rfl) ?_
  refine ev_sipush (v := (130 : Int32)) dX12_init_870 (by decide) ?_
  refine ev_bipush (v := (114 : Int32)) dX12_init_873 (by decide) ?_
  refine ev_iastL (j := 130) (tlg (k := 11) ha rfl) (by decide) (vpl _ _ (by decide)) dX12_init_875 ?_
  refine ev_dup dX12_init_876 (by rfl) ?_
  refine ev_sipush (v := (131 : Int32)) dX12_init_877 (by decide) ?_
  refine ev_bipush (v := (32 : Int32)) dX12_init_880 (by decide) ?_
  refine ev_iastL (j := 131) (tlg (k := 11) ha rfl) (by decide) (vpl _ _ (by decide)) dX12_init_882 ?_
  refine ev_putRT (L' := [_, _, _, _, _, _, _, _, _, _, _, _]) (k := 0) fr_X12_40 rfl rfl dX12_init_883 ha rfl rfl (fun _ => rfl) (fun _ => rfl) (by simp only [List.length_cons, List.length_nil]; omega) rfl hw (fun hw => ?_)
  refine ev_aload_n dX12_init_886 rfl ?_
  refine ev_iconst (v := (2 : Int32)) dX12_init_887 (by decide) ?_
  refine ev_newaT (N := 2) (q := a + 12) (L' := [_, _, _, _, _, _, _, _, _, _, _, _, _]) dX12_init_888 (by decide) (by decide) (by decide) (by rw [ha]; rfl) rfl hw (okR_of (by simp only [okRl, List.length_cons, List.length_nil, and_true, Nat.lt_eq]; first | done | omega) (by simp only [okRs, List.length_cons, List.length_nil, and_true, Nat.lt_eq]; first | done | omega)) (Nat.le_of_ble_eq_true rfl) (Nat.le_of_ble_eq_true rfl) (fun hw => ?_)
  refine ev_putRT (L' := [_, _, _, _, _, _, _, _, _, _, _, _, _]) (k := 0) fr_X12_43 rfl rfl dX12_init_890 ha rfl rfl (fun _ => rfl) (fun _ => rfl) (by simp only [List.length_cons, List.length_nil]; omega) rfl hw (fun hw => ?_)
  refine ev_aload_n dX12_init_893 rfl ?_
  refine ev_bipush (v := (48 : Int32)) dX12_init_894 (by decide) ?_
  refine ev_newaT (N := 48) (q := a + 13) (L' := [_, _, _, _, _, _, _, _, _, _, _, _, _, _]) dX12_init_896 (by decide) (by decide) (by decide) (by rw [ha]; rfl) rfl hw (okR_of (by simp only [okRl, List.length_cons, List.length_nil, and_true, Nat.lt_eq]; first | done | omega) (by simp only [okRs, List.length_cons, List.length_nil, and_true, Nat.lt_eq]; first | done | omega)) (Nat.le_of_ble_eq_true rfl) (Nat.le_of_ble_eq_true rfl) (fun hw => ?_)
  refine ev_putRT (L' := [_, _, _, _, _, _, _, _, _, _, _, _, _, _]) (k := 0) fr_X12_46 rfl rfl dX12_init_898 ha rfl rfl (fun _ => rfl) (fun _ => rfl) (by simp only [List.length_cons, List.length_nil]; omega) rfl hw (fun hw => ?_)
  refine ev_aload_n dX12_init_901 rfl ?_
  refine ev_bipush (v := (48 : Int32)) dX12_init_902 (by decide) ?_
  refine ev_newaT (N := 48) (q := a + 14) (L' := [_, _, _, _, _, _, _, _, _, _, _, _, _, _, _]) dX12_init_904 (by decide) (by decide) (by decide) (by rw [ha]; rfl) rfl hw (okR_of (by simp only [okRl, List.length_cons, List.length_nil, and_true, Nat.lt_eq]; first | done | omega) (by simp only [okRs, List.length_cons, List.length_nil, and_true, Nat.lt_eq]; first | done | omega)) (Nat.le_of_ble_eq_true rfl) (Nat.le_of_ble_eq_true rfl) (fun hw => ?_)
  refine ev_putRT (L' := [_, _, _, _, _, _, _, _, _, _, _, _, _, _, _]) (k := 0) fr_X12_49 rfl rfl dX12_init_906 ha rfl rfl (fun _ => rfl) (fun _ => rfl) (by simp only [List.length_cons, List.length_nil]; omega) rfl hw (fun hw => ?_)
  refine ev_aload_n dX12_init_909 rfl ?_
  refine ev_bipush (v := (48 : Int32)) dX12_init_910 (by decide) ?_
  refine ev_newaT (N := 48) (q := a + 15) (L' := [_, _, _, _, _, _, _, _, _, _, _, _, _, _, _, _]) dX12_init_912 (by decide) (by decide) (by decide) (by rw [ha]; rfl) rfl hw (okR_of (by simp only [okRl, List.length_cons, List.length_nil, and_true, Nat.lt_eq]; first | done | omega) (by simp only [okRs, List.length_cons, List.length_nil, and_true, Nat.lt_eq]; first | done | omega)) (Nat.le_of_ble_eq_true rfl) (Nat.le_of_ble_eq_true rfl) (fun hw => ?_)
  refine ev_putRT (L' := [_, _, _, _, _, _, _, _, _, _, _, _, _, _, _, _]) (k := 0) fr_X12_52 rfl rfl dX12_init_914 ha rfl rfl (fun _ => rfl) (fun _ => rfl) (by simp only [List.length_cons, List.length_nil]; omega) rfl hw (fun hw => ?_)
  refine ev_aload_n dX12_init_917 rfl ?_
  refine ev_bipush (v := (48 : Int32)) dX12_init_918 (by decide) ?_
  refine ev_newaT (N := 48) (q := a + 16) (L' := [_, _, _, _, _, _, _, _, _, _, _, _, _, _, _, _, _]) dX12_init_920 (by decide) (by decide) (by decide) (by rw [ha]; rfl) rfl hw (okR_of (by simp only [okRl, List.length_cons, List.length_nil, and_true, Nat.lt_eq]; first | done | omega) (by simp only [okRs, List.length_cons, List.length_nil, and_true, Nat.lt_eq]; first | done | omega)) (Nat.le_of_ble_eq_true rfl) (Nat.le_of_ble_eq_true rfl) (fun hw => ?_)
  refine ev_putRT (L' := [_, _, _, _, _, _, _, _, _, _, _, _, _, _, _, _, _]) (k := 0) fr_X12_55 rfl rfl dX12_init_922 ha rfl rfl (fun _ => rfl) (fun _ => rfl) (by simp only [List.length_cons, List.length_nil]; omega) rfl hw (fun hw => ?_)
  refine ev_aload_n dX12_init_925 rfl ?_
  refine ev_sipush (v := (1200 : Int32)) dX12_init_926 (by decide) ?_
  refine ev_newaT (N := 1200) (q := a + 17) (L' := [_, _, _, _, _, _, _, _, _, _, _, _, _, _, _, _, _, _]) dX12_init_929 (by decide) (by decide) (by decide) (by rw [ha]; rfl) rfl hw (okR_of (by simp only [okRl, List.length_cons, List.length_nil, and_true, Nat.lt_eq]; first | done | omega) (by simp only [okRs, List.length_cons, List.length_nil, and_true, Nat.lt_eq]; first | done | omega)) (Nat.le_of_ble_eq_true rfl) (Nat.le_of_ble_eq_true rfl) (fun hw => ?_)
  refine ev_putRT (L' := [_, _, _, _, _, _, _, _, _, _, _, _, _, _, _, _, _, _]) (k := 0) fr_X12_58 rfl rfl dX12_init_931 ha rfl rfl (fun _ => rfl) (fun _ => rfl) (by simp only [List.length_cons, List.length_nil]; omega) rfl hw (fun hw => ?_)
  refine ev_aload_n dX12_init_934 rfl ?_
  refine ev_sipush (v := (1200 : Int32)) dX12_init_935 (by decide) ?_
  refine ev_newaT (N := 1200) (q := a + 18) (L' := [_, _, _, _, _, _, _, _, _, _, _, _, _, _, _, _, _, _, _]) dX12_init_938 (by decide) (by decide) (by decide) (by rw [ha]; rfl) rfl hw (okR_of (by simp only [okRl, List.length_cons, List.length_nil, and_true, Nat.lt_eq]; first | done | omega) (by simp only [okRs, List.length_cons, List.length_nil, and_true, Nat.lt_eq]; first | done | omega)) (Nat.le_of_ble_eq_true rfl) (Nat.le_of_ble_eq_true rfl) (fun hw => ?_)
  refine ev_putRT (L' := [_, _, _, _, _, _, _, _, _, _, _, _, _, _, _, _, _, _, _]) (k := 0) fr_X12_61 rfl rfl dX12_init_940 ha rfl rfl (fun _ => rfl) (fun _ => rfl) (by simp only [List.length_cons, List.length_nil]; omega) rfl hw (fun hw => ?_)
  refine ev_aload_n dX12_init_943 rfl ?_
  refine ev_bipush (v := (40 : Int32)) dX12_init_944 (by decide) ?_
  refine ev_newaT (N := 40) (q := a + 19) (L' := [_, _, _, _, _, _, _, _, _, _, _, _, _, _, _, _, _, _, _, _]) dX12_init_946 (by decide) (by decide) (by decide) (by rw [ha]; rfl) rfl hw (okR_of (by simp only [okRl, List.length_cons, List.length_nil, and_true, Nat.lt_eq]; first | done | omega) (by simp only [okRs, List.length_cons, List.length_nil, and_true, Nat.lt_eq]; first | done | omega)) (Nat.le_of_ble_eq_true rfl) (Nat.le_of_ble_eq_true rfl) (fun hw => ?_)
  refine ev_putRT (L' := [_, _, _, _, _, _, _, _, _, _, _, _, _, _, _, _, _, _, _, _]) (k := 0) fr_X12_64 rfl rfl dX12_init_948 ha rfl rfl (fun _ => rfl) (fun _ => rfl) (by simp only [List.length_cons, List.length_nil]; omega) rfl hw (fun hw => ?_)
  refine ev_aload_n dX12_init_951 rfl ?_
  refine ev_iconst (v := (-1 : Int32)) dX12_init_952 (by decide) ?_
  refine ev_putI fr_X12_67 (tlg (k := 0) ha rfl) rfl rfl rfl dX12_init_953 ?_
  refine ev_aload_n dX12_init_956 rfl ?_
  refine ev_bipush (v := (32 : Int32)) dX12_init_957 (by decide) ?_
  refine ev_newaT (N := 32) (q := a + 20) (L' := [_, _, _, _, _, _, _, _, _, _, _, _, _, _, _, _, _, _, _, _, _]) dX12_init_959 (by decide) (by decide) (by decide) (by rw [ha]; rfl) rfl hw (okR_of (by simp only [okRl, List.length_cons, List.length_nil, and_true, Nat.lt_eq]; first | done | omega) (by simp only [okRs, List.length_cons, List.length_nil, and_true, Nat.lt_eq]; first | done | omega)) (Nat.le_of_ble_eq_true rfl) (Nat.le_of_ble_eq_true rfl) (fun hw => ?_)
  refine ev_putRT (L' := [_, _, _, _, _, _, _, _, _, _, _, _, _, _, _, _, _, _, _, _, _]) (k := 0) fr_X12_71 rfl rfl dX12_init_961 ha rfl rfl (fun _ => rfl) (fun _ => rfl) (by simp only [List.length_cons, List.length_nil]; omega) rfl hw (fun hw => ?_)
  refine ev_aload_n dX12_init_964 rfl ?_
  refine ev_sipush (v := (192 : Int32)) dX12_init_965 (by decide) ?_
  refine ev_newaT (N := 192) (q := a + 21) (L' := [_, _, _, _, _, _, _, _, _, _, _, _, _, _, _, _, _, _, _, _, _, _]) dX12_init_968 (by decide) (by decide) (by decide) (by rw [ha]; rfl) rfl hw (okR_of (by simp only [okRl, List.length_cons, List.length_nil, and_true, Nat.lt_eq]; first | done | omega) (by simp only [okRs, List.length_cons, List.length_nil, and_true, Nat.lt_eq]; first | done | omega)) (Nat.le_of_ble_eq_true rfl) (Nat.le_of_ble_eq_true rfl) (fun hw => ?_)
  refine ev_putRT (L' := [_, _, _, _, _, _, _, _, _, _, _, _, _, _, _, _, _, _, _, _, _, _]) (k := 0) fr_X12_74 rfl rfl dX12_init_970 ha rfl rfl (fun _ => rfl) (fun _ => rfl) (by simp only [List.length_cons, List.length_nil]; omega) rfl hw (fun hw => ?_)
  refine ev_aload_n dX12_init_973 rfl ?_
  refine ev_bipush (v := (24 : Int32)) dX12_init_974 (by decide) ?_
  refine ev_newaT (N := 24) (q := a + 22) (L' := [_, _, _, _, _, _, _, _, _, _, _, _, _, _, _, _, _, _, _, _, _, _, _]) dX12_init_976 (by decide) (by decide) (by decide) (by rw [ha]; rfl) rfl hw (okR_of (by simp only [okRl, List.length_cons, List.length_nil, and_true, Nat.lt_eq]; first | done | omega) (by simp only [okRs, List.length_cons, List.length_nil, and_true, Nat.lt_eq]; first | done | omega)) (Nat.le_of_ble_eq_true rfl) (Nat.le_of_ble_eq_true rfl) (fun hw => ?_)
  refine ev_putRT (L' := [_, _, _, _, _, _, _, _, _, _, _, _, _, _, _, _, _, _, _, _, _, _, _]) (k := 0) fr_X12_77 rfl rfl dX12_init_978 ha rfl rfl (fun _ => rfl) (fun _ => rfl) (by simp only [List.length_cons, List.length_nil]; omega) rfl hw (fun hw => ?_)
  refine ev_aload_n dX12_init_981 rfl ?_
  refine ev_bipush (v := (11 : Int32)) dX12_init_982 (by decide) ?_
  refine ev_newaT (N := 11) (q := a + 23) (L' := [_, _, _, _, _, _, _, _, _, _, _, _, _, _, _, _, _, _, _, _, _, _, _, _]) dX12_init_984 (by decide) (by decide) (by decide) (by rw [ha]; rfl) rfl hw (okR_of (by simp only [okRl, List.length_cons, List.length_nil, and_true, Nat.lt_eq]; first | done | omega) (by simp only [okRs, List.length_cons, List.length_nil, and_true, Nat.lt_eq]; first | done | omega)) (Nat.le_of_ble_eq_true rfl) (Nat.le_of_ble_eq_true rfl) (fun hw => ?_)
  refine ev_putRT (L' := [_, _, _, _, _, _, _, _, _, _, _, _, _, _, _, _, _, _, _, _, _, _, _, _]) (k := 0) fr_X12_80 rfl rfl dX12_init_986 ha rfl rfl (fun _ => rfl) (fun _ => rfl) (by simp only [List.length_cons, List.length_nil]; omega) rfl hw (fun hw => ?_)
  refine ev_aload_n dX12_init_989 rfl ?_
  refine ev_sipush (v := (420 : Int32)) dX12_init_990 (by decide) ?_
  refine ev_newaT (N := 420) (q := a + 24) (L' := [_, _, _, _, _, _, _, _, _, _, _, _, _, _, _, _, _, _, _, _, _, _, _, _, _]) dX12_init_993 (by decide) (by decide) (by decide) (by rw [ha]; rfl) rfl hw (okR_of (by simp only [okRl, List.length_cons, List.length_nil, and_true, Nat.lt_eq]; first | done | omega) (by simp only [okRs, List.length_cons, List.length_nil, and_true, Nat.lt_eq]; first | done | omega)) (Nat.le_of_ble_eq_true rfl) (Nat.le_of_ble_eq_true rfl) (fun hw => ?_)
  refine ev_putRT (L' := [_, _, _, _, _, _, _, _, _, _, _, _, _, _, _, _, _, _, _, _, _, _, _, _, _]) (k := 0) fr_X12_83 rfl rfl dX12_init_995 ha rfl rfl (fun _ => rfl) (fun _ => rfl) (by simp only [List.length_cons, List.length_nil]; omega) rfl hw (fun hw => ?_)
  refine ev_aload_n dX12_init_998 rfl ?_
  refine ev_iconst (v := (3 : Int32)) dX12_init_999 (by decide) ?_
  refine ev_newaT (N := 3) (q := a + 25) (L' := [_, _, _, _, _, _, _, _, _, _, _, _, _, _, _, _, _, _, _, _, _, _, _, _, _, _]) dX12_init_1000 (by decide) (by decide) (by decide) (by rw [ha]; rfl) rfl hw (okR_of (by simp only [okRl, List.length_cons, List.length_nil, and_true, Nat.lt_eq]; first | done | omega) (by simp only [okRs, List.length_cons, List.length_nil, and_true, Nat.lt_eq]; first | done | omega)) (Nat.le_of_ble_eq_true rfl) (Nat.le_of_ble_eq_true rfl) (fun hw => ?_)
  refine ev_putRT (L' := [_, _, _, _, _, _, _, _, _, _, _, _, _, _, _, _, _, _, _, _, _, _, _, _, _, _]) (k := 0) fr_X12_86 rfl rfl dX12_init_1002 ha rfl rfl (fun _ => rfl) (fun _ => rfl) (by simp only [List.length_cons, List.length_nil]; omega) rfl hw (fun hw => ?_)
  refine ev_aload_n dX12_init_1005 rfl ?_
  refine ev_iconst (v := (3 : Int32)) dX12_init_1006 (by decide) ?_
  refine ev_newaT (N := 3) (q := a + 26) (L' := [_, _, _, _, _, _, _, _, _, _, _, _, _, _, _, _, _, _, _, _, _, _, _, _, _, _, _]) dX12_init_1007 (by decide) (by decide) (by decide) (by rw [ha]; rfl) rfl hw (okR_of (by simp only [okRl, List.length_cons, List.length_nil, and_true, Nat.lt_eq]; first | done | omega) (by simp only [okRs, List.length_cons, List.length_nil, and_true, Nat.lt_eq]; first | done | omega)) (Nat.le_of_ble_eq_true rfl) (Nat.le_of_ble_eq_true rfl) (fun hw => ?_)
  refine ev_putRT (L' := [_, _, _, _, _, _, _, _, _, _, _, _, _, _, _, _, _, _, _, _, _, _, _, _, _, _, _]) (k := 0) fr_X12_89 rfl rfl dX12_init_1009 ha rfl rfl (fun _ => rfl) (fun _ => rfl) (by simp only [List.length_cons, List.length_nil]; omega) rfl hw (fun hw => ?_)
  refine ev_aload_n dX12_init_1012 rfl ?_
  refine ev_bipush (v := (10 : Int32)) dX12_init_1013 (by decide) ?_
  refine ev_newaT (N := 10) (q := a + 27) (L' := [_, _, _, _, _, _, _, _, _, _, _, _, _, _, _, _, _, _, _, _, _, _, _, _, _, _, _, _]) dX12_init_1015 (by decide) (by decide) (by decide) (by rw [ha]; rfl) rfl hw (okR_of (by simp only [okRl, List.length_cons, List.length_nil, and_true, Nat.lt_eq]; first | done | omega) (by simp only [okRs, List.length_cons, List.length_nil, and_true, Nat.lt_eq]; first | done | omega)) (Nat.le_of_ble_eq_true rfl) (Nat.le_of_ble_eq_true rfl) (fun hw => ?_)
  refine ev_putRT (L' := [_, _, _, _, _, _, _, _, _, _, _, _, _, _, _, _, _, _, _, _, _, _, _, _, _, _, _, _]) (k := 0) fr_X12_92 rfl rfl dX12_init_1017 ha rfl rfl (fun _ => rfl) (fun _ => rfl) (by simp only [List.length_cons, List.length_nil]; omega) rfl hw (fun hw => ?_)
  refine ev_aload_n dX12_init_1020 rfl ?_
  refine ev_bipush (v := (10 : Int32)) dX12_init_1021 (by decide) ?_
  refine ev_newaT (N := 10) (q := a + 28) (L' := [_, _, _, _, _, _, _, _, _, _, _, _, _, _, _, _, _, _, _, _, _, _, _, _, _, _, _, _, _]) dX12_init_1023 (by decide) (by decide) (by decide) (by rw [ha]; rfl) rfl hw (okR_of (by simp only [okRl, List.length_cons, List.length_nil, and_true, Nat.lt_eq]; first | done | omega) (by simp only [okRs, List.length_cons, List.length_nil, and_true, Nat.lt_eq]; first | done | omega)) (Nat.le_of_ble_eq_true rfl) (Nat.le_of_ble_eq_true rfl) (fun hw => ?_)
  refine ev_putRT (L' := [_, _, _, _, _, _, _, _, _, _, _, _, _, _, _, _, _, _, _, _, _, _, _, _, _, _, _, _, _]) (k := 0) fr_X12_95 rfl rfl dX12_init_1025 ha rfl rfl (fun _ => rfl) (fun _ => rfl) (by simp only [List.length_cons, List.length_nil]; omega) rfl hw (fun hw => ?_)
  refine ev_aload_n dX12_init_1028 rfl ?_
  refine ev_bipush (v := (10 : Int32)) dX12_init_1029 (by decide) ?_
  refine ev_newaT (N := 10) (q := a + 29) (L' := [_, _, _, _, _, _, _, _, _, _, _, _, _, _, _, _, _, _, _, _, _, _, _, _, _, _, _, _, _, _]) dX12_init_1031 (by decide) (by decide) (by decide) (by rw [ha]; rfl) rfl hw (okR_of (by simp only [okRl, List.length_cons, List.length_nil, and_true, Nat.lt_eq]; first | done | omega) (by simp only [okRs, List.length_cons, List.length_nil, and_true, Nat.lt_eq]; first | done | omega)) (Nat.le_of_ble_eq_true rfl) (Nat.le_of_ble_eq_true rfl) (fun hw => ?_)
  refine ev_putRT (L' := [_, _, _, _, _, _, _, _, _, _, _, _, _, _, _, _, _, _, _, _, _, _, _, _, _, _, _, _, _, _]) (k := 0) fr_X12_98 rfl rfl dX12_init_1033 ha rfl rfl (fun _ => rfl) (fun _ => rfl) (by simp only [List.length_cons, List.length_nil]; omega) rfl hw (fun hw => ?_)
  refine ev_aload_n dX12_init_1036 rfl ?_
  refine ev_bipush (v := (8 : Int32)) dX12_init_1037 (by decide) ?_
  refine ev_newaT (N := 8) (q := a + 30) (L' := [_, _, _, _, _, _, _, _, _, _, _, _, _, _, _, _, _, _, _, _, _, _, _, _, _, _, _, _, _, _, _]) dX12_init_1039 (by decide) (by decide) (by decide) (by rw [ha]; rfl) rfl hw (okR_of (by simp only [okRl, List.length_cons, List.length_nil, and_true, Nat.lt_eq]; first | done | omega) (by simp only [okRs, List.length_cons, List.length_nil, and_true, Nat.lt_eq]; first | done | omega)) (Nat.le_of_ble_eq_true rfl) (Nat.le_of_ble_eq_true rfl) (fun hw => ?_)
  refine ev_putRT (L' := [_, _, _, _, _, _, _, _, _, _, _, _, _, _, _, _, _, _, _, _, _, _, _, _, _, _, _, _, _, _, _]) (k := 0) fr_X12_101 rfl rfl dX12_init_1041 ha rfl rfl (fun _ => rfl) (fun _ => rfl) (by simp only [List.length_cons, List.length_nil]; omega) rfl hw (fun hw => ?_)
  refine ev_aload_n dX12_init_1044 rfl ?_
  refine ev_bipush (v := (8 : Int32)) dX12_init_1045 (by decide) ?_
  refine ev_newaT (N := 8) (q := a + 31) (L' := [_, _, _, _, _, _, _, _, _, _, _, _, _, _, _, _, _, _, _, _, _, _, _, _, _, _, _, _, _, _, _, _]) dX12_init_1047 (by decide) (by decide) (by decide) (by rw [ha]; rfl) rfl hw (okR_of (by simp only [okRl, List.length_cons, List.length_nil, and_true, Nat.lt_eq]; first | done | omega) (by simp only [okRs, List.length_cons, List.length_nil, and_true, Nat.lt_eq]; first | done | omega)) (Nat.le_of_ble_eq_true rfl) (Nat.le_of_ble_eq_true rfl) (fun hw => ?_)
  refine ev_putRT (L' := [_, _, _, _, _, _, _, _, _, _, _, _, _, _, _, _, _, _, _, _, _, _, _, _, _, _, _, _, _, _, _, _]) (k := 0) fr_X12_104 rfl rfl dX12_init_1049 ha rfl rfl (fun _ => rfl) (fun _ => rfl) (by simp only [List.length_cons, List.length_nil]; omega) rfl hw (fun hw => ?_)
  refine ev_aload_n dX12_init_1052 rfl ?_
  refine ev_bipush (v := (16 : Int32)) dX12_init_1053 (by decide) ?_
  refine ev_newaT (N := 16) (q := a + 32) (L' := [_, _, _, _, _, _, _, _, _, _, _, _, _, _, _, _, _, _, _, _, _, _, _, _, _, _, _, _, _, _, _, _, _]) dX12_init_1055 (by decide) (by decide) (by decide) (by rw [ha]; rfl) rfl hw (okR_of (by simp only [okRl, List.length_cons, List.length_nil, and_true, Nat.lt_eq]; first | done | omega) (by simp only [okRs, List.length_cons, List.length_nil, and_true, Nat.lt_eq]; first | done | omega)) (Nat.le_of_ble_eq_true rfl) (Nat.le_of_ble_eq_true rfl) (fun hw => ?_)
  refine ev_putRT (L' := [_, _, _, _, _, _, _, _, _, _, _, _, _, _, _, _, _, _, _, _, _, _, _, _, _, _, _, _, _, _, _, _, _]) (k := 0) fr_X12_107 rfl rfl dX12_init_1057 ha rfl rfl (fun _ => rfl) (fun _ => rfl) (by simp only [List.length_cons, List.length_nil]; omega) rfl hw (fun hw => ?_)
  refine ev_aload_n dX12_init_1060 rfl ?_
  refine ev_sipush (v := (216 : Int32)) dX12_init_1061 (by decide) ?_
  refine ev_newaT (N := 216) (q := a + 33) (L' := [_, _, _, _, _, _, _, _, _, _, _, _, _, _, _, _, _, _, _, _, _, _, _, _, _, _, _, _, _, _, _, _, _, _]) dX12_init_1064 (by decide) (by decide) (by decide) (by rw [ha]; rfl) rfl hw (okR_of (by simp only [okRl, List.length_cons, List.length_nil, and_true, Nat.lt_eq]; first | done | omega) (by simp only [okRs, List.length_cons, List.length_nil, and_true, Nat.lt_eq]; first | done | omega)) (Nat.le_of_ble_eq_true rfl) (Nat.le_of_ble_eq_true rfl) (fun hw => ?_)
  refine ev_putRT (L' := [_, _, _, _, _, _, _, _, _, _, _, _, _, _, _, _, _, _, _, _, _, _, _, _, _, _, _, _, _, _, _, _, _, _]) (k := 0) fr_X12_110 rfl rfl dX12_init_1066 ha rfl rfl (fun _ => rfl) (fun _ => rfl) (by simp only [List.length_cons, List.length_nil]; omega) rfl hw (fun hw => ?_)
  refine ev_aload_n dX12_init_1069 rfl ?_
  refine ev_bipush (v := (6 : Int32)) dX12_init_1070 (by decide) ?_
  refine ev_newaT (N := 6) (q := a + 34) (L' := [_, _, _, _, _, _, _, _, _, _, _, _, _, _, _, _, _, _, _, _, _, _, _, _, _, _, _, _, _, _, _, _, _, _, _]) dX12_init_1072 (by decide) (by decide) (by decide) (by rw [ha]; rfl) rfl hw (okR_of (by simp only [okRl, List.length_cons, List.length_nil, and_true, Nat.lt_eq]; first | done | omega) (by simp only [okRs, List.length_cons, List.length_nil, and_true, Nat.lt_eq]; first | done | omega)) (Nat.le_of_ble_eq_true rfl) (Nat.le_of_ble_eq_true rfl) (fun hw => ?_)
  refine ev_putRT (L' := [_, _, _, _, _, _, _, _, _, _, _, _, _, _, _, _, _, _, _, _, _, _, _, _, _, _, _, _, _, _, _, _, _, _, _]) (k := 0) fr_X12_113 rfl rfl dX12_init_1074 ha rfl rfl (fun _ => rfl) (fun _ => rfl) (by simp only [List.length_cons, List.length_nil]; omega) rfl hw (fun hw => ?_)
  refine ev_aload_n dX12_init_1077 rfl ?_
  refine ev_bipush (v := (6 : Int32)) dX12_init_1078 (by decide) ?_
  refine ev_newaT (N := 6) (q := a + 35) (L' := [_, _, _, _, _, _, _, _, _, _, _, _, _, _, _, _, _, _, _, _, _, _, _, _, _, _, _, _, _, _, _, _, _, _, _, _]) dX12_init_1080 (by decide) (by decide) (by decide) (by rw [ha]; rfl) rfl hw (okR_of (by simp only [okRl, List.length_cons, List.length_nil, and_true, Nat.lt_eq]; first | done | omega) (by simp only [okRs, List.length_cons, List.length_nil, and_true, Nat.lt_eq]; first | done | omega)) (Nat.le_of_ble_eq_true rfl) (Nat.le_of_ble_eq_true rfl) (fun hw => ?_)
  refine ev_putRT (L' := [_, _, _, _, _, _, _, _, _, _, _, _, _, _, _, _, _, _, _, _, _, _, _, _, _, _, _, _, _, _, _, _, _, _, _, _]) (k := 0) fr_X12_116 rfl rfl dX12_init_1082 ha rfl rfl (fun _ => rfl) (fun _ => rfl) (by simp only [List.length_cons, List.length_nil]; omega) rfl hw (fun hw => ?_)
  refine ev_aload_n dX12_init_1085 rfl ?_
  refine ev_bipush (v := (10 : Int32)) dX12_init_1086 (by decide) ?_
  refine ev_newaT (N := 10) (q := a + 36) (L' := [_, _, _, _, _, _, _, _, _, _, _, _, _, _, _, _, _, _, _, _, _, _, _, _, _, _, _, _, _, _, _, _, _, _, _, _, _]) dX12_init_1088 (by decide) (by decide) (by decide) (by rw [ha]; rfl) rfl hw (okR_of (by simp only [okRl, List.length_cons, List.length_nil, and_true, Nat.lt_eq]; first | done | omega) (by simp only [okRs, List.length_cons, List.length_nil, and_true, Nat.lt_eq]; first | done | omega)) (Nat.le_of_ble_eq_true rfl) (Nat.le_of_ble_eq_true rfl) (fun hw => ?_)
  refine ev_putRT (L' := [_, _, _, _, _, _, _, _, _, _, _, _, _, _, _, _, _, _, _, _, _, _, _, _, _, _, _, _, _, _, _, _, _, _, _, _, _]) (k := 0) fr_X12_119 rfl rfl dX12_init_1090 ha rfl rfl (fun _ => rfl) (fun _ => rfl) (by simp only [List.length_cons, List.length_nil]; omega) rfl hw (fun hw => ?_)
  refine ev_aload_n dX12_init_1093 rfl ?_
  refine ev_sipush (v := (400 : Int32)) dX12_init_1094 (by decide) ?_
  refine ev_newaT (N := 400) (q := a + 37) (L' := [_, _, _, _, _, _, _, _, _, _, _, _, _, _, _, _, _, _, _, _, _, _, _, _, _, _, _, _, _, _, _, _, _, _, _, _, _, _]) dX12_init_1097 (by decide) (by decide) (by decide) (by rw [ha]; rfl) rfl hw (okR_of (by simp only [okRl, List.length_cons, List.length_nil, and_true, Nat.lt_eq]; first | done | omega) (by simp only [okRs, List.length_cons, List.length_nil, and_true, Nat.lt_eq]; first | done | omega)) (Nat.le_of_ble_eq_true rfl) (Nat.le_of_ble_eq_true rfl) (fun hw => ?_)
  refine ev_putRT (L' := [_, _, _, _, _, _, _, _, _, _, _, _, _, _, _, _, _, _, _, _, _, _, _, _, _, _, _, _, _, _, _, _, _, _, _, _, _, _]) (k := 0) fr_X12_122 rfl rfl dX12_init_1099 ha rfl rfl (fun _ => rfl) (fun _ => rfl) (by simp only [List.length_cons, List.length_nil]; omega) rfl hw (fun hw => ?_)
  refine ev_aload_n dX12_init_1102 rfl ?_
  refine ev_bipush (v := (20 : Int32)) dX12_init_1103 (by decide) ?_
  refine ev_newaT (N := 20) (q := a + 38) (L' := [_, _, _, _, _, _, _, _, _, _, _, _, _, _, _, _, _, _, _, _, _, _, _, _, _, _, _, _, _, _, _, _, _, _, _, _, _, _, _]) dX12_init_1105 (by decide) (by decide) (by decide) (by rw [ha]; rfl) rfl hw (okR_of (by simp only [okRl, List.length_cons, List.length_nil, and_true, Nat.lt_eq]; first | done | omega) (by simp only [okRs, List.length_cons, List.length_nil, and_true, Nat.lt_eq]; first | done | omega)) (Nat.le_of_ble_eq_true rfl) (Nat.le_of_ble_eq_true rfl) (fun hw => ?_)
  refine ev_putRT (L' := [_, _, _, _, _, _, _, _, _, _, _, _, _, _, _, _, _, _, _, _, _, _, _, _, _, _, _, _, _, _, _, _, _, _, _, _, _, _, _]) (k := 0) fr_X12_125 rfl rfl dX12_init_1107 ha rfl rfl (fun _ => rfl) (fun _ => rfl) (by simp only [List.length_cons, List.length_nil]; omega) rfl hw (fun hw => ?_)
  refine ev_aload_n dX12_init_1110 rfl ?_
  refine ev_bipush (v := (12 : Int32)) dX12_init_1111 (by decide) ?_
  refine ev_newaT (N := 12) (q := a + 39) (L' := [_, _, _, _, _, _, _, _, _, _, _, _, _, _, _, _, _, _, _, _, _, _, _, _, _, _, _, _, _, _, _, _, _, _, _, _, _, _, _, _]) dX12_init_1113 (by decide) (by decide) (by decide) (by rw [ha]; rfl) rfl hw (okR_of (by simp only [okRl, List.length_cons, List.length_nil, and_true, Nat.lt_eq]; first | done | omega) (by simp only [okRs, List.length_cons, List.length_nil, and_true, Nat.lt_eq]; first | done | omega)) (Nat.le_of_ble_eq_true rfl) (Nat.le_of_ble_eq_true rfl) (fun hw => ?_)
  refine ev_putRT (L' := [_, _, _, _, _, _, _, _, _, _, _, _, _, _, _, _, _, _, _, _, _, _, _, _, _, _, _, _, _, _, _, _, _, _, _, _, _, _, _, _]) (k := 0) fr_X12_128 rfl rfl dX12_init_1115 ha rfl rfl (fun _ => rfl) (fun _ => rfl) (by simp only [List.length_cons, List.length_nil]; omega) rfl hw (fun hw => ?_)
  refine ev_aload_n dX12_init_1118 rfl ?_
  refine ev_iconst (v := (3 : Int32)) dX12_init_1119 (by decide) ?_
  refine ev_newaT (N := 3) (q := a + 40) (L' := [_, _, _, _, _, _, _, _, _, _, _, _, _, _, _, _, _, _, _, _, _, _, _, _, _, _, _, _, _, _, _, _, _, _, _, _, _, _, _, _, _]) dX12_init_1120 (by decide) (by decide) (by decide) (by rw [ha]; rfl) rfl hw (okR_of (by simp only [okRl, List.length_cons, List.length_nil, and_true, Nat.lt_eq]; first | done | omega) (by simp only [okRs, List.length_cons, List.length_nil, and_true, Nat.lt_eq]; first | done | omega)) (Nat.le_of_ble_eq_true rfl) (Nat.le_of_ble_eq_true rfl) (fun hw => ?_)
  refine ev_putRT (L' := [_, _, _, _, _, _, _, _, _, _, _, _, _, _, _, _, _, _, _, _, _, _, _, _, _, _, _, _, _, _, _, _, _, _, _, _, _, _, _, _, _]) (k := 0) fr_X12_131 rfl rfl dX12_init_1122 ha rfl rfl (fun _ => rfl) (fun _ => rfl) (by simp only [List.length_cons, List.length_nil]; omega) rfl hw (fun hw => ?_)
  refine ev_aload_n dX12_init_1125 rfl ?_
  refine ev_iconst (v := (3 : Int32)) dX12_init_1126 (by decide) ?_
  refine ev_newaT (N := 3) (q := a + 41) (L' := [_, _, _, _, _, _, _, _, _, _, _, _, _, _, _, _, _, _, _, _, _, _, _, _, _, _, _, _, _, _, _, _, _, _, _, _, _, _, _, _, _, _]) dX12_init_1127 (by decide) (by decide) (by decide) (by rw [ha]; rfl) rfl hw (okR_of (by simp only [okRl, List.length_cons, List.length_nil, and_true, Nat.lt_eq]; first | done | omega) (by simp only [okRs, List.length_cons, List.length_nil, and_true, Nat.lt_eq]; first | done | omega)) (Nat.le_of_ble_eq_true rfl) (Nat.le_of_ble_eq_true rfl) (fun hw => ?_)
  refine ev_putRT (L' := [_, _, _, _, _, _, _, _, _, _, _, _, _, _, _, _, _, _, _, _, _, _, _, _, _, _, _, _, _, _, _, _, _, _, _, _, _, _, _, _, _, _]) (k := 0) fr_X12_134 rfl rfl dX12_init_1129 ha rfl rfl (fun _ => rfl) (fun _ => rfl) (by simp only [List.length_cons, List.length_nil]; omega) rfl hw (fun hw => ?_)
  refine ev_aload_n dX12_init_1132 rfl ?_
  refine ev_bipush (v := (7 : Int32)) dX12_init_1133 (by decide) ?_
  refine ev_newaT (N := 7) (q := a + 42) (L' := [_, _, _, _, _, _, _, _, _, _, _, _, _, _, _, _, _, _, _, _, _, _, _, _, _, _, _, _, _, _, _, _, _, _, _, _, _, _, _, _, _, _, _]) dX12_init_1135 (by decide) (by decide) (by decide) (by rw [ha]; rfl) rfl hw (okR_of (by simp only [okRl, List.length_cons, List.length_nil, and_true, Nat.lt_eq]; first | done | omega) (by simp only [okRs, List.length_cons, List.length_nil, and_true, Nat.lt_eq]; first | done | omega)) (Nat.le_of_ble_eq_true rfl) (Nat.le_of_ble_eq_true rfl) (fun hw => ?_)
  refine ev_putRT (L' := [_, _, _, _, _, _, _, _, _, _, _, _, _, _, _, _, _, _, _, _, _, _, _, _, _, _, _, _, _, _, _, _, _, _, _, _, _, _, _, _, _, _, _]) (k := 0) fr_X12_137 rfl rfl dX12_init_1137 ha rfl rfl (fun _ => rfl) (fun _ => rfl) (by simp only [List.length_cons, List.length_nil]; omega) rfl hw (fun hw => ?_)
  refine ev_aload_n dX12_init_1140 rfl ?_
  refine ev_bipush (v := (7 : Int32)) dX12_init_1141 (by decide) ?_
  refine ev_newaT (N := 7) (q := a + 43) (L' := [_, _, _, _, _, _, _, _, _, _, _, _, _, _, _, _, _, _, _, _, _, _, _, _, _, _, _, _, _, _, _, _, _, _, _, _, _, _, _, _, _, _, _, _]) dX12_init_1143 (by decide) (by decide) (by decide) (by rw [ha]; rfl) rfl hw (okR_of (by simp only [okRl, List.length_cons, List.length_nil, and_true, Nat.lt_eq]; first | done | omega) (by simp only [okRs, List.length_cons, List.length_nil, and_true, Nat.lt_eq]; first | done | omega)) (Nat.le_of_ble_eq_true rfl) (Nat.le_of_ble_eq_true rfl) (fun hw => ?_)
  refine ev_putRT (L' := [_, _, _, _, _, _, _, _, _, _, _, _, _, _, _, _, _, _, _, _, _, _, _, _, _, _, _, _, _, _, _, _, _, _, _, _, _, _, _, _, _, _, _, _]) (k := 0) fr_X12_140 rfl rfl dX12_init_1145 ha rfl rfl (fun _ => rfl) (fun _ => rfl) (by simp only [List.length_cons, List.length_nil]; omega) rfl hw (fun hw => ?_)
  refine ev_aload_n dX12_init_1148 rfl ?_
  refine ev_bipush (v := (7 : Int32)) dX12_init_1149 (by decide) ?_
  refine ev_newaT (N := 7) (q := a + 44) (L' := [_, _, _, _, _, _, _, _, _, _, _, _, _, _, _, _, _, _, _, _, _, _, _, _, _, _, _, _, _, _, _, _, _, _, _, _, _, _, _, _, _, _, _, _, _]) dX12_init_1151 (by decide) (by decide) (by decide) (by rw [ha]; rfl) rfl hw (okR_of (by simp only [okRl, List.length_cons, List.length_nil, and_true, Nat.lt_eq]; first | done | omega) (by simp only [okRs, List.length_cons, List.length_nil, and_true, Nat.lt_eq]; first | done | omega)) (Nat.le_of_ble_eq_true rfl) (Nat.le_of_ble_eq_true rfl) (fun hw => ?_)
  refine ev_putRT (L' := [_, _, _, _, _, _, _, _, _, _, _, _, _, _, _, _, _, _, _, _, _, _, _, _, _, _, _, _, _, _, _, _, _, _, _, _, _, _, _, _, _, _, _, _, _]) (k := 0) fr_X12_143 rfl rfl dX12_init_1153 ha rfl rfl (fun _ => rfl) (fun _ => rfl) (by simp only [List.length_cons, List.length_nil]; omega) rfl hw (fun hw => ?_)
  refine ev_aload_n dX12_init_1156 rfl ?_
  refine ev_sipush (v := (2300 : Int32)) dX12_init_1157 (by decide) ?_
  refine ev_newaT (N := 2300) (q := a + 45) (L' := [_, _, _, _, _, _, _, _, _, _, _, _, _, _, _, _, _, _, _, _, _, _, _, _, _, _, _, _, _, _, _, _, _, _, _, _, _, _, _, _, _, _, _, _, _, _]) dX12_init_1160 (by decide) (by decide) (by decide) (by rw [ha]; rfl) rfl hw (okR_of (by simp only [okRl, List.length_cons, List.length_nil, and_true, Nat.lt_eq]; first | done | omega) (by simp only [okRs, List.length_cons, List.length_nil, and_true, Nat.lt_eq]; first | done | omega)) (Nat.le_of_ble_eq_true rfl) (Nat.le_of_ble_eq_true rfl) (fun hw => ?_)
  refine ev_putRT (L' := [_, _, _, _, _, _, _, _, _, _, _, _, _, _, _, _, _, _, _, _, _, _, _, _, _, _, _, _, _, _, _, _, _, _, _, _, _, _, _, _, _, _, _, _, _, _]) (k := 0) fr_X12_146 rfl rfl dX12_init_1162 ha rfl rfl (fun _ => rfl) (fun _ => rfl) (by simp only [List.length_cons, List.length_nil]; omega) rfl hw (fun hw => ?_)
  exact ev_vret rfl (Nat.le_of_ble_eq_true rfl) (Nat.le_of_ble_eq_true rfl) dX12_init_1165 (ctP_i hw h)
end
