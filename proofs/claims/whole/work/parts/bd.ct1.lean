section
def full_X8 (a : Nat ) : List Shp := [.inr (.inr (7, [some (some (a + 1)), some (some (a + 2)), some (some (a + 3)), some (some (a + 4)), some (some (a + 5)), none, none, none, none])), .inl 12, .inl 8, .inl 8, .inl 8, .inl 8]
def f_X8_init (G : Nat) (a : Nat) (μ : Mem) : Option Mem :=
  (let m1 := zr μ (a + 1)
  (let m2 := zr m1 (a + 2)
  (let m3 := zr m2 (a + 3)
  (let m4 := zr m3 (a + 4)
  (let m5 := zr m4 (a + 5)
  bndV (f_J7_fill_53178 G (a + 1) 12 (-1 : Int32) m5) (fun m7 =>
  bndV (f_J7_fill_53178 G (a + 2) 8 (-1 : Int32) m7) (fun m9 =>
  some m9)))))))
set_option maxHeartbeats 8000000 in
set_option maxRecDepth 100000 in
theorem c_X8_init {pre : List Shp} {G : Nat} {a : Nat} {μ : Mem} {μr : Mem} (ha : pre.length = a) (hw : wfS (pre ++ [.inr (.inr (7, [some none, some none, some none, some none, some none, none, none, none, none]))])) (h : f_X8_init G a μ = some μr) : Cn yX8_init cX8_init 1 none 2 5 44 [.ref a] (pre ++ [.inr (.inr (7, [some none, some none, some none, some none, some none, none, none, none, none]))]) μ (ctP (pre ++ full_X8 a) μr) := by
  refine cn_of (own := RX8) (ini := true) (loc := [some (.ref a)]) rfl (by decide) (fun _ => rfl) (Nat.le_of_ble_eq_true rfl) (by rfl) rfl ?_
  unfold f_X8_init at h
  refine ev_aload_n dX8_init_0 rfl ?_
  refine ev_objInit ml_X8_3 w_oi1 w_oi2 dX8_init_1 (Nat.le_of_ble_eq_true rfl) (by rfl) (Nat.le_of_ble_eq_true rfl) ?_
  refine ev_aload_n dX8_init_4 rfl ?_
  refine ev_bipush (v := (12 : Int32)) dX8_init_5 (by decide) ?_
  refine ev_newaT (N := 12) (q := a + 1) (L' := [_, _]) dX8_init_7 (by decide) (by decide) (by decide) (by rw [ha]; rfl) rfl hw (okR_of (by simp only [okRl, List.length_cons, List.length_nil, and_true, Nat.lt_eq]; first | done | omega) (by simp only [okRs, List.length_cons, List.length_nil, and_true, Nat.lt_eq]; first | done | omega)) (Nat.le_of_ble_eq_true rfl) (Nat.le_of_ble_eq_true rfl) (fun hw => ?_)
  refine ev_putRT (L' := [_, _]) (k := 0) fr_X8_9 rfl rfl dX8_init_9 ha rfl rfl (fun _ => rfl) (fun _ => rfl) (by simp only [List.length_cons, List.length_nil]; omega) rfl hw (fun hw => ?_)
  refine ev_aload_n dX8_init_12 rfl ?_
  refine ev_bipush (v := (8 : Int32)) dX8_init_13 (by decide) ?_
  refine ev_newaT (N := 8) (q := a + 2) (L' := [_, _, _]) dX8_init_15 (by decide) (by decide) (by decide) (by rw [ha]; rfl) rfl hw (okR_of (by simp only [okRl, List.length_cons, List.length_nil, and_true, Nat.lt_eq]; first | done | omega) (by simp only [okRs, List.length_cons, List.length_nil, and_true, Nat.lt_eq]; first | done | omega)) (Nat.le_of_ble_eq_true rfl) (Nat.le_of_ble_eq_true rfl) (fun hw => ?_)
  refine ev_putRT (L' := [_, _, _]) (k := 0) fr_X8_15 rfl rfl dX8_init_17 ha rfl rfl (fun _ => rfl) (fun _ => rfl) (by simp only [List.length_cons, List.length_nil]; omega) rfl hw (fun hw => ?_)
  refine ev_aload_n dX8_init_20 rfl ?_
  refine ev_bipush (v := (8 : Int32)) dX8_init_21 (by decide) ?_
  refine ev_newaT (N := 8) (q := a + 3) (L' := [_, _, _, _]) dX8_init_23 (by decide) (by decide) (by decide) (by rw [ha]; rfl) rfl hw (okR_of (by simp only [okRl, List.length_cons, List.length_nil, and_true, Nat.lt_eq]; first | done | omega) (by simp only [okRs, List.length_cons, List.length_nil, and_true, Nat.lt_eq]; first | done | omega)) (Nat.le_of_ble_eq_true rfl) (Nat.le_of_ble_eq_true rfl) (fun hw => ?_)
  refine ev_putRT (L' := [_, _, _, _]) (k := 0) fr_X8_18 rfl rfl dX8_init_25 ha rfl rfl (fun _ => rfl) (fun _ => rfl) (by simp only [List.length_cons, List.length_nil]; omega) rfl hw (fun hw => ?_)
  refine ev_aload_n dX8_init_28 rfl ?_
  refine ev_bipush (v := (8 : Int32)) dX8_init_29 (by decide) ?_
  refine ev_newaT (N := 8) (q := a + 4) (L' := [_, _, _, _, _]) dX8_init_31 (by decide) (by decide) (by decide) (by rw [ha]; rfl) rfl hw (okR_of (by simp only [okRl, List.length_cons, List.length_nil, and_true, Nat.lt_eq]; first | done | omega) (by simp only [okRs, List.length_cons, List.length_nil, and_true, Nat.lt_eq]; first | done | omega)) (Nat.le_of_ble_eq_true rfl) (Nat.le_of_ble_eq_true rfl) (fun hw => ?_)
  refine ev_putRT (L' := [_, _, _, _, _]) (k := 0) fr_X8_21 rfl rfl dX8_init_33 ha rfl rfl (fun _ => rfl) (fun _ => rfl) (by simp only [List.length_cons, List.length_nil]; omega) rfl hw (fun hw => ?_)
  refine ev_aload_n dX8_init_36 rfl ?_
  refine ev_bipush (v := (8 : Int32)) dX8_init_37 (by decide) ?_
  refine ev_newaT (N := 8) (q := a + 5) (L' := [_, _, _, _, _, _]) dX8_init_39 (by decide) (by decide) (by decide) (by rw [ha]; rfl) rfl hw (okR_of (by simp only [okRl, List.length_cons, List.length_nil, and_true, Nat.lt_eq]; first | done | omega) (by simp only [okRs, List.length_cons, List.length_nil, and_true, Nat.lt_eq]; first | done | omega)) (Nat.le_of_ble_eq_true rfl) (Nat.le_of_ble_eq_true rfl) (fun hw => ?_)
  refine ev_putRT (L' := [_, _, _, _, _, _]) (k := 0) fr_X8_24 rfl rfl dX8_init_41 ha rfl rfl (fun _ => rfl) (fun _ => rfl) (by simp only [List.length_cons, List.length_nil]; omega) rfl hw (fun hw => ?_)
  refine ev_aload_n dX8_init_44 rfl ?_
  refine ev_getR fr_X8_9 (tlg (k := 0) ha rfl) rfl dX8_init_45 ?_
  refine ev_iconst (v := (-1 : Int32)) dX8_init_48 (by decide) ?_
  obtain ⟨m7, hq6, h⟩ := bndV_t h
  refine ev_cSv mv_X8_27 dX8_init_49 (c_J7_fill_53178 (tlg (k := 1) ha rfl) hq6) rfl rfl (Nat.le_of_ble_eq_true rfl) (by rfl) (Nat.le_of_ble_eq_true rfl) (Nat.le_of_ble_eq_true rfl) (Nat.le_of_ble_eq_true rfl) ?_
  refine ev_aload_n dX8_init_52 rfl ?_
  refine ev_getR fr_X8_15 (tlg (k := 0) ha rfl) rfl dX8_init_53 ?_
  refine ev_iconst (v := (-1 : Int32)) dX8_init_56 (by decide) ?_
  obtain ⟨m9, hq8, h⟩ := bndV_t h
  refine ev_cSv mv_X8_27 dX8_init_57 (c_J7_fill_53178 (tlg (k := 2) ha rfl) hq8) rfl rfl (Nat.le_of_ble_eq_true rfl) (by rfl) (Nat.le_of_ble_eq_true rfl) (Nat.le_of_ble_eq_true rfl) (Nat.le_of_ble_eq_true rfl) ?_
  exact ev_vret rfl (Nat.le_of_ble_eq_true rfl) (Nat.le_of_ble_eq_true rfl) dX8_init_60 (ctP_i hw h)
def full_X1 (a : Nat ) : List Shp := [.inr (.inr (1, [some (some (a + 1)), some (some (a + 2)), some (some (a + 3)), some (some (a + 4)), some (some (a + 5)), some (some (a + 6)), none, none])), .inl 400, .inl 16, .inl 16, .inl 16, .inl 16, .inl 40]
def f_X1_init (G : Nat) (a : Nat) (μ : Mem) : Option Mem :=
  (let m1 := zr μ (a + 1)
  (let m2 := zr m1 (a + 2)
  (let m3 := zr m2 (a + 3)
  (let m4 := zr m3 (a + 4)
  (let m5 := zr m4 (a + 5)
  (let m6 := zr m5 (a + 6)
  some m6))))))
set_option maxHeartbeats 8000000 in
set_option maxRecDepth 100000 in
theorem c_X1_init {pre : List Shp} {G : Nat} {a : Nat} {μ : Mem} {μr : Mem} (ha : pre.length = a) (hw : wfS (pre ++ [.inr (.inr (1, [some none, some none, some none, some none, some none, some none, none, none]))])) (h : f_X1_init G a μ = some μr) : Cn yX1_init cX1_init 1 none 2 6 504 [.ref a] (pre ++ [.inr (.inr (1, [some none, some none, some none, some none, some none, some none, none, none]))]) μ (ctP (pre ++ full_X1 a) μr) := by
  refine cn_of (own := RX1) (ini := true) (loc := [some (.ref a)]) rfl (by decide) (fun _ => rfl) (Nat.le_of_ble_eq_true rfl) (by rfl) rfl ?_
  unfold f_X1_init at h
  refine ev_aload_n dX1_init_0 rfl ?_
  refine ev_objInit ml_X1_3 w_oi1 w_oi2 dX1_init_1 (Nat.le_of_ble_eq_true rfl) (by rfl) (Nat.le_of_ble_eq_true rfl) ?_
  refine ev_aload_n dX1_init_4 rfl ?_
  refine ev_sipush (v := (400 : Int32)) dX1_init_5 (by decide) ?_
  refine ev_newaT (N := 400) (q := a + 1) (L' := [_, _]) dX1_init_8 (by decide) (by decide) (by decide) (by rw [ha]; rfl) rfl hw (okR_of (by simp only [okRl, List.length_cons, List.length_nil, and_true, Nat.lt_eq]; first | done | omega) (by simp only [okRs, List.length_cons, List.length_nil, and_true, Nat.lt_eq]; first | done | omega)) (Nat.le_of_ble_eq_true rfl) (Nat.le_of_ble_eq_true rfl) (fun hw => ?_)
  refine ev_putRT (L' := [_, _]) (k := 0) fr_X1_9 rfl rfl dX1_init_10 ha rfl rfl (fun _ => rfl) (fun _ => rfl) (by simp only [List.length_cons, List.length_nil]; omega) rfl hw (fun hw => ?_)
  refine ev_aload_n dX1_init_13 rfl ?_
  refine ev_bipush (v := (16 : Int32)) dX1_init_14 (by decide) ?_
  refine ev_newaT (N := 16) (q := a + 2) (L' := [_, _, _]) dX1_init_16 (by decide) (by decide) (by decide) (by rw [ha]; rfl) rfl hw (okR_of (by simp only [okRl, List.length_cons, List.length_nil, and_true, Nat.lt_eq]; first | done | omega) (by simp only [okRs, List.length_cons, List.length_nil, and_true, Nat.lt_eq]; first | done | omega)) (Nat.le_of_ble_eq_true rfl) (Nat.le_of_ble_eq_true rfl) (fun hw => ?_)
  refine ev_putRT (L' := [_, _, _]) (k := 0) fr_X1_15 rfl rfl dX1_init_18 ha rfl rfl (fun _ => rfl) (fun _ => rfl) (by simp only [List.length_cons, List.length_nil]; omega) rfl hw (fun hw => ?_)
  refine ev_aload_n dX1_init_21 rfl ?_
  refine ev_bipush (v := (16 : Int32)) dX1_init_22 (by decide) ?_
  refine ev_newaT (N := 16) (q := a + 3) (L' := [_, _, _, _]) dX1_init_24 (by decide) (by decide) (by decide) (by rw [ha]; rfl) rfl hw (okR_of (by simp only [okRl, List.length_cons, List.length_nil, and_true, Nat.lt_eq]; first | done | omega) (by simp only [okRs, List.length_cons, List.length_nil, and_true, Nat.lt_eq]; first | done | omega)) (Nat.le_of_ble_eq_true rfl) (Nat.le_of_ble_eq_true rfl) (fun hw => ?_)
  refine ev_putRT (L' := [_, _, _, _]) (k := 0) fr_X1_18 rfl rfl dX1_init_26 ha rfl rfl (fun _ => rfl) (fun _ => rfl) (by simp only [List.length_cons, List.length_nil]; omega) rfl hw (fun hw => ?_)
  refine ev_aload_n dX1_init_29 rfl ?_
  refine ev_bipush (v := (16 : Int32)) dX1_init_30 (by decide) ?_
  refine ev_newaT (N := 16) (q := a + 4) (L' := [_, _, _, _, _]) dX1_init_32 (by decide) (by decide) (by decide) (by rw [ha]; rfl) rfl hw (okR_of (by simp only [okRl, List.length_cons, List.length_nil, and_true, Nat.lt_eq]; first | done | omega) (by simp only [okRs, List.length_cons, List.length_nil, and_true, Nat.lt_eq]; first | done | omega)) (Nat.le_of_ble_eq_true rfl) (Nat.le_of_ble_eq_true rfl) (fun hw => ?_)
  refine ev_putRT (L' := [_, _, _, _, _]) (k := 0) fr_X1_21 rfl rfl dX1_init_34 ha rfl rfl (fun _ => rfl) (fun _ => rfl) (by simp only [List.length_cons, List.length_nil]; omega) rfl hw (fun hw => ?_)
  refine ev_aload_n dX1_init_37 rfl ?_
  refine ev_bipush (v := (16 : Int32)) dX1_init_38 (by decide) ?_
  refine ev_newaT (N := 16) (q := a + 5) (L' := [_, _, _, _, _, _]) dX1_init_40 (by decide) (by decide) (by decide) (by rw [ha]; rfl) rfl hw (okR_of (by simp only [okRl, List.length_cons, List.length_nil, and_true, Nat.lt_eq]; first | done | omega) (by simp only [okRs, List.length_cons, List.length_nil, and_true, Nat.lt_eq]; first | done | omega)) (Nat.le_of_ble_eq_true rfl) (Nat.le_of_ble_eq_true rfl) (fun hw => ?_)
  refine ev_putRT (L' := [_, _, _, _, _, _]) (k := 0) fr_X1_24 rfl rfl dX1_init_42 ha rfl rfl (fun _ => rfl) (fun _ => rfl) (by simp only [List.length_cons, List.length_nil]; omega) rfl hw (fun hw => ?_)
  refine ev_aload_n dX1_init_45 rfl ?_
  refine ev_bipush (v := (40 : Int32)) dX1_init_46 (by decide) ?_
  refine ev_newaT (N := 40) (q := a + 6) (L' := [_, _, _, _, _, _, _]) dX1_init_48 (by decide) (by decide) (by decide) (by rw [ha]; rfl) rfl hw (okR_of (by simp only [okRl, List.length_cons, List.length_nil, and_true, Nat.lt_eq]; first | done | omega) (by simp only [okRs, List.length_cons, List.length_nil, and_true, Nat.lt_eq]; first | done | omega)) (Nat.le_of_ble_eq_true rfl) (Nat.le_of_ble_eq_true rfl) (fun hw => ?_)
  refine ev_putRT (L' := [_, _, _, _, _, _, _]) (k := 0) fr_X1_27 rfl rfl dX1_init_50 ha rfl rfl (fun _ => rfl) (fun _ => rfl) (by simp only [List.length_cons, List.length_nil]; omega) rfl hw (fun hw => ?_)
  exact ev_vret rfl (Nat.le_of_ble_eq_true rfl) (Nat.le_of_ble_eq_true rfl) dX1_init_53 (ctP_i hw h)
def f_X2_init (G a : Nat) (p1 p2 : Int32) (μ : Mem) : Option Mem := some (wr (zr (wr (wr μ a 0 (imax 0 p1)) a 1 (imax 0 p2)) (a + 1)) a 3 0)
set_option maxHeartbeats 8000000 in
set_option maxRecDepth 100000 in
theorem c_X2_init {pre : List Shp} {G a N : Nat} {μ : Mem} {p1 p2 : Int32} {μr : Mem} (g1 : ¬ (imax 0 p1 * imax 0 p2) < 0) (g2 : ix (imax 0 p1 * imax 0 p2) = N) (g3 : N ≤ 100000) (ha : pre.length = a) (hw : wfS (pre ++ [.inr (.inr (2, [none, none, some none, none]))])) (h : f_X2_init G a p1 p2 μ = some μr) : Cn yX2_init cX2_init 3 none 2 1 N [.ref a, .int p1, .int p2] (pre ++ [.inr (.inr (2, [none, none, some none, none]))]) μ (ctP (pre ++ [.inr (.inr (2, [none, none, some (some (a + 1)), none])), .inl N]) μr) := by
  refine cn_of (own := RX2) (ini := true) (loc := [some (.ref a), some (.int p1), some (.int p2)]) rfl (by decide) (fun _ => rfl) (Nat.le_of_ble_eq_true rfl) (by rfl) rfl ?_
  unfold f_X2_init at h
  refine ev_aload_n dX2_init_0 rfl ?_
  refine ev_objInit ml_X2_3 w_oi1 w_oi2 dX2_init_1 (Nat.le_of_ble_eq_true rfl) (by rfl) (Nat.le_of_ble_eq_true rfl) ?_
  refine ev_aload_n dX2_init_4 rfl ?_
  refine ev_iconst (v := 0) dX2_init_5 (by decide) ?_
  refine ev_iload_n dX2_init_6 rfl ?_
  refine ev_max mm_X2_9 dX2_init_7 (Nat.le_of_ble_eq_true rfl) (by rfl) (Nat.le_of_ble_eq_true rfl) (Nat.le_of_ble_eq_true rfl) (Nat.zero_le _) ?_
  refine ev_putIF fr_X2_15 rfl rfl (tlg (k := 0) ha rfl) rfl rfl rfl dX2_init_10 ?_
  refine ev_aload_n dX2_init_13 rfl ?_
  refine ev_iconst (v := 0) dX2_init_14 (by decide) ?_
  refine ev_iload_n dX2_init_15 rfl ?_
  refine ev_max mm_X2_9 dX2_init_16 (Nat.le_of_ble_eq_true rfl) (by rfl) (Nat.le_of_ble_eq_true rfl) (Nat.le_of_ble_eq_true rfl) (Nat.zero_le _) ?_
  refine ev_putIF fr_X2_21 rfl rfl (tlg (k := 0) ha rfl) rfl rfl rfl dX2_init_19 ?_
  refine ev_aload_n dX2_init_22 rfl ?_
  refine ev_aload_n dX2_init_23 rfl ?_
  refine ev_getI fr_X2_15 (tlg (k := 0) ha rfl) rfl dX2_init_24 ?_
  refine ev_aload_n dX2_init_27 rfl ?_
  refine ev_getI fr_X2_21 (tlg (k := 0) ha rfl) rfl dX2_init_28 ?_
  refine ev_imul dX2_init_31 ?_
  have e1 : wr (wr μ a 0 (imax 0 p1)) a 1 (imax 0 p2) a 0 = imax 0 p1 := by simp [wr]
  have e2 : wr (wr μ a 0 (imax 0 p1)) a 1 (imax 0 p2) a 1 = imax 0 p2 := by simp [wr]
  refine ev_newaT (N := N) (q := a + 1) (L' := [_, _]) dX2_init_32 (by rw [e1, e2]; exact g1) (by rw [e1, e2]; exact g2) g3 (by rw [ha]; rfl) rfl hw (okR_of (by simp only [okRl, List.length_cons, List.length_nil, and_true, Nat.lt_eq]; first | done | omega) (by simp only [okRs, List.length_cons, List.length_nil, and_true, Nat.lt_eq]; first | done | omega)) (Nat.le_of_ble_eq_true rfl) (by omega) (fun hw => ?_)
  refine ev_putRT (L' := [_, _]) (k := 0) fr_X2_24 rfl rfl dX2_init_34 ha rfl rfl (fun _ => rfl) (fun _ => rfl) (by simp only [List.length_cons, List.length_nil]; omega) rfl hw (fun hw => ?_)
  refine ev_aload_n dX2_init_37 rfl ?_
  refine ev_iconst (v := 0) dX2_init_38 (by decide) ?_
  refine ev_putI fr_X2_28 (tlg (k := 0) ha rfl) rfl rfl rfl dX2_init_39 ?_
  exact ev_vret rfl (Nat.le_of_ble_eq_true rfl) (by omega) dX2_init_42 (ctP_i hw h)
end
