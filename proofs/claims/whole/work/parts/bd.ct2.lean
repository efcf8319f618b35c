section
def full_X0 (a : Nat ) : List Shp := [.inr (.inr (0, [some (some (a + 1)), some (some (a + 7)), some (some (a + 8)), some (some (a + 9)), some (some (a + 10)), some (some (a + 11)), none, none, some (some (a + 12)), some (some (a + 19)), some (some (a + 21)), some (some (a + 23)), some (some (a + 25)), some (some (a + 27)), some (some (a + 29)), some (some (a + 31)), some (some (a + 33)), some (some (a + 35)), some (some (a + 37)), some (some (a + 39))])), .inr (.inr (7, [some (some (a + 2)), some (some (a + 3)), some (some (a + 4)), some (some (a + 5)), some (some (a + 6)), none, none, none, none])), .inl 12, .inl 8, .inl 8, .inl 8, .inl 8, .inl 12, .inl 12, .inl 12, .inl 8, .inl 8, .inr (.inr (1, [some (some (a + 13)), some (some (a + 14)), some (some (a + 15)), some (some (a + 16)), some (some (a + 17)), some (some (a + 18)), none, none])), .inl 400, .inl 16, .inl 16, .inl 16, .inl 16, .inl 40, .inr (.inr (2, [none, none, some (some (a + 20)), none])), .inl 16, .inr (.inr (2, [none, none, some (some (a + 22)), none])), .inl 96, .inr (.inr (2, [none, none, some (some (a + 24)), none])), .inl 32, .inr (.inr (2, [none, none, some (some (a + 26)), none])), .inl 600, .inr (.inr (2, [none, none, some (some (a + 28)), none])), .inl 30, .inr (.inr (2, [none, none, some (some (a + 30)), none])), .inl 24, .inr (.inr (2, [none, none, some (some (a + 32)), none])), .inl 12, .inr (.inr (2, [none, none, some (some (a + 34)), none])), .inl 32, .inr (.inr (2, [none, none, some (some (a + 36)), none])), .inl 12, .inr (.inr (2, [none, none, some (some (a + 38)), none])), .inl 7, .inl 6]
def f_X0_init (G : Nat) (a : Nat) (μ : Mem) : Option Mem :=
  (let m1 := zr μ (a + 1)
  bndV (f_X8_init G (a + 1) m1) (fun m2 =>
  (let m4 := zr m2 (a + 7)
  (let m5 := zr m4 (a + 8)
  (let m6 := zr m5 (a + 9)
  (let m7 := zr m6 (a + 10)
  (let m8 := zr m7 (a + 11)
  (let m9 := zr m8 (a + 12)
  bndV (f_X1_init G (a + 12) m9) (fun m10 =>
  (let m12 := zr m10 (a + 19)
  bndV (f_X2_init G (a + 19) (16 : Int32) (1 : Int32) m12) (fun m13 =>
  (let m15 := zr m13 (a + 21)
  bndV (f_X2_init G (a + 21) (16 : Int32) (6 : Int32) m15) (fun m16 =>
  (let m18 := zr m16 (a + 23)
  bndV (f_X2_init G (a + 23) (16 : Int32) (2 : Int32) m18) (fun m19 =>
  (let m21 := zr m19 (a + 25)
  bndV (f_X2_init G (a + 25) (150 : Int32) (4 : Int32) m21) (fun m22 =>
  (let m24 := zr m22 (a + 27)
  bndV (f_X2_init G (a + 27) (10 : Int32) (3 : Int32) m24) (fun m25 =>
  (let m27 := zr m25 (a + 29)
  bndV (f_X2_init G (a + 29) (8 : Int32) (3 : Int32) m27) (fun m28 =>
  (let m30 := zr m28 (a + 31)
  bndV (f_X2_init G (a + 31) (6 : Int32) (2 : Int32) m30) (fun m31 =>
  (let m33 := zr m31 (a + 33)
  bndV (f_X2_init G (a + 33) (16 : Int32) (2 : Int32) m33) (fun m34 =>
  (let m36 := zr m34 (a + 35)
  bndV (f_X2_init G (a + 35) (12 : Int32) (1 : Int32) m36) (fun m37 =>
  (let m39 := zr m37 (a + 37)
  bndV (f_X2_init G (a + 37) (7 : Int32) (1 : Int32) m39) (fun m40 =>
  (let m42 := zr m40 (a + 39)
  (let m43 := wr m42 (a + 39) 0 (1 : Int32)
  (let m44 := wr m43 (a + 39) 1 (0 : Int32)
  (let m45 := wr m44 (a + 39) 2 (1 : Int32)
  (let m46 := wr m45 (a + 39) 3 (0 : Int32)
  (let m47 := wr m46 (a + 39) 4 (1 : Int32)
  (let m48 := wr m47 (a + 39) 5 (0 : Int32)
  some m48))))))))))))))))))))))))))))))))))))
set_option maxHeartbeats 8000000 in
set_option maxRecDepth 100000 in
theorem c_X0_init {pre : List Shp} {G : Nat} {a : Nat} {μ : Mem} {μr : Mem} (ha : pre.length = a) (hw : wfS (pre ++ [.inr (.inr (0, [some none, some none, some none, some none, some none, some none, none, none, some none, some none, some none, some none, some none, some none, some none, some none, some none, some none, some none, some none]))])) (h : f_X0_init G a μ = some μr) : Cn yX0_init cX0_init 1 none 3 39 1524 [.ref a] (pre ++ [.inr (.inr (0, [some none, some none, some none, some none, some none, some none, none, none, some none, some none, some none, some none, some none, some none, some none, some none, some none, some none, some none, some none]))]) μ (ctP (pre ++ full_X0 a) μr) := by
  refine cn_of (own := RX0) (ini := true) (loc := [some (.ref a)]) rfl (by decide) (fun _ => rfl) (Nat.le_of_ble_eq_true rfl) (by rfl) rfl ?_
  unfold f_X0_init at h
  refine ev_aload_n dX0_init_0 rfl ?_
  refine ev_objInit ml_X0_3 w_oi1 w_oi2 dX0_init_1 (Nat.le_of_ble_eq_true rfl) (by rfl) (Nat.le_of_ble_eq_true rfl) ?_
  refine ev_aload_n dX0_init_4 rfl ?_
  refine ev_newT (q := a + 1) (L' := [_, _]) cr_X0_9 dX0_init_5 (by rw [ha]; rfl) rfl hw (okR_of (by simp only [okRl, List.length_cons, List.length_nil, and_true, Nat.lt_eq]; first | done | omega) (by simp only [okRs, List.length_cons, List.length_nil, and_true, Nat.lt_eq]; first | done | omega)) (Nat.le_of_ble_eq_true rfl) (Nat.le_of_ble_eq_true rfl) (fun hw => ?_)
  refine ev_dup dX0_init_8 (by rfl) ?_
  obtain ⟨m2, hq3, h⟩ := bndV_t h
  refine ev_cI (L := [_]) (L' := [_, _, _, _, _, _, _]) mv_X0_11 dX0_init_9 (c_X8_init (by rw [List.length_append, ha]; rfl) (by rw [List.append_assoc]; exact hw) hq3) rfl rfl rfl rfl (Nat.le_of_ble_eq_true rfl) (by rfl) (Nat.le_of_ble_eq_true rfl) (Nat.le_of_ble_eq_true rfl) (Nat.le_of_ble_eq_true rfl) (okR_of (by simp only [okRl, List.length_cons, List.length_nil, and_true, Nat.lt_eq]; first | done | omega) (by simp only [okRs, List.length_cons, List.length_nil, and_true, Nat.lt_eq]; first | done | omega)) (fun hw => ?_)
  refine ev_putRT (L' := [_, _, _, _, _, _, _]) (k := 0) fr_X0_12 rfl rfl dX0_init_12 ha rfl rfl (fun _ => rfl) (fun _ => rfl) (by simp only [List.length_cons, List.length_nil]; omega) rfl hw (fun hw => ?_)
  refine ev_aload_n dX0_init_15 rfl ?_
  refine ev_bipush (v := (12 : Int32)) dX0_init_16 (by decide) ?_
  refine ev_newaT (N := 12) (q := a + 7) (L' := [_, _, _, _, _, _, _, _]) dX0_init_18 (by decide) (by decide) (by decide) (by rw [ha]; rfl) rfl hw (okR_of (by simp only [okRl, List.length_cons, List.length_nil, and_true, Nat.lt_eq]; first | done | omega) (by simp only [okRs, List.length_cons, List.length_nil, and_true, Nat.lt_eq]; first | done | omega)) (Nat.le_of_ble_eq_true rfl) (Nat.le_of_ble_eq_true rfl) (fun hw => ?_)
  refine ev_putRT (L' := [_, _, _, _, _, _, _, _]) (k := 0) fr_X0_18 rfl rfl dX0_init_20 ha rfl rfl (fun _ => rfl) (fun _ => rfl) (by simp only [List.length_cons, List.length_nil]; omega) rfl hw (fun hw => ?_)
  refine ev_aload_n dX0_init_23 rfl ?_
  refine ev_bipush (v := (12 : Int32)) dX0_init_24 (by decide) ?_
  refine ev_newaT (N := 12) (q := a + 8) (L' := [_, _, _, _, _, _, _, _, _]) dX0_init_26 (by decide) (by decide) (by decide) (by rw [ha]; rfl) rfl hw (okR_of (by simp only [okRl, List.length_cons, List.length_nil, and_true, Nat.lt_eq]; first | done | omega) (by simp only [okRs, List.length_cons, List.length_nil, and_true, Nat.lt_eq]; first | done | omega)) (Nat.le_of_ble_eq_true rfl) (Nat.le_of_ble_eq_true rfl) (fun hw => ?_)
  refine ev_putRT (L' := [_, _, _, _, _, _, _, _, _]) (k := 0) fr_X0_22 rfl rfl dX0_init_28 ha rfl rfl (fun _ => rfl) (fun _ => rfl) (by simp only [List.length_cons, List.length_nil]; omega) rfl hw (fun hw => ?_)
  refine ev_aload_n dX0_init_31 rfl ?_
  refine ev_bipush (v := (12 : Int32)) dX0_init_32 (by decide) ?_
  refine ev_newaT (N := 12) (q := a + 9) (L' := [_, _, _, _, _, _, _, _, _, _]) dX0_init_34 (by decide) (by decide) (by decide) (by rw [ha]; rfl) rfl hw (okR_of (by simp only [okRl, List.length_cons, List.length_nil, and_true, Nat.lt_eq]; first | done | omega) (by simp only [okRs, List.length_cons, List.length_nil, and_true, Nat.lt_eq]; first | done | omega)) (Nat.le_of_ble_eq_true rfl) (Nat.le_of_ble_eq_true rfl) (fun hw => ?_)
  refine ev_putRT (L' := [_, _, _, _, _, _, _, _, _, _]) (k := 0) fr_X0_25 rfl rfl dX0_init_36 ha rfl rfl (fun _ => rfl) (fun _ => rfl) (by simp only [List.length_cons, List.length_nil]; omega) rfl hw (fun hw => ?_)
  refine ev_aload_n dX0_init_39 rfl ?_
  refine ev_bipush (v := (8 : Int32)) dX0_init_40 (by decide) ?_
  refine ev_newaT (N := 8) (q := a + 10) (L' := [_, _, _, _, _, _, _, _, _, _, _]) dX0_init_42 (by decide) (by decide) (by decide) (by rw [ha]; rfl) rfl hw (okR_of (by simp only [okRl, List.length_cons, List.length_nil, and_true, Nat.lt_eq]; first | done | omega) (by simp only [okRs, List.length_cons, List.length_nil, and_true, Nat.lt_eq]; first | done | omega)) (Nat.le_of_ble_eq_true rfl) (Nat.le_of_ble_eq_true rfl) (fun hw => ?_)
  refine ev_putRT (L' := [_, _, _, _, _, _, _, _, _, _, _]) (k := 0) fr_X0_28 rfl rfl dX0_init_44 ha rfl rfl (fun _ => rfl) (fun _ => rfl) (by simp only [List.length_cons, List.length_nil]; omega) rfl hw (fun hw => ?_)
  refine ev_aload_n dX0_init_47 rfl ?_
  refine ev_bipush (v := (8 : Int32)) dX0_init_48 (by decide) ?_
  refine ev_newaT (N := 8) (q := a + 11) (L' := [_, _, _, _, _, _, _, _, _, _, _, _]) dX0_init_50 (by decide) (by decide) (by decide) (by rw [ha]; rfl) rfl hw (okR_of (by simp only [okRl, List.length_cons, List.length_nil, and_true, Nat.lt_eq]; first | done | omega) (by simp only [okRs, List.length_cons, List.length_nil, and_true, Nat.lt_eq]; first | done | omega)) (Nat.le_of_ble_eq_true rfl) (Nat.le_of_ble_eq_true rfl) (fun hw => ?_)
  refine ev_putRT (L' := [_, _, _, _, _, _, _, _, _, _, _, _]) (k := 0) fr_X0_31 rfl rfl dX0_init_52 ha rfl rfl (fun _ => rfl) (fun _ => rfl) (by simp only [List.length_cons, List.length_nil]; omega) rfl hw (fun hw => ?_)
  refine ev_aload_n dX0_init_55 rfl ?_
  refine ev_newT (q := a + 12) (L' := [_, _, _, _, _, _, _, _, _, _, _, _, _]) cr_X0_34 dX0_init_56 (by rw [ha]; rfl) rfl hw (okR_of (by simp only [okRl, List.length_cons, List.length_nil, and_true, Nat.lt_eq]; first | done | omega) (by simp only [okRs, List.length_cons, List.length_nil, and_true, Nat.lt_eq]; first | done | omega)) (Nat.le_of_ble_eq_true rfl) (Nat.le_of_ble_eq_true rfl) (fun hw => ?_)
  refine ev_dup dX0_init_59 (by rfl) ?_
  obtain ⟨m10, hq11, h⟩ := bndV_t h
  refine ev_cIN (L := [_, _, _, _, _, _, _, _, _, _, _, _]) (L' := [_, _, _, _, _, _, _, _, _, _, _, _, _, _, _, _, _, _, _]) mv_X0_36 dX0_init_60 (c_X1_init (by rw [List.length_append, ha]; rfl) (by rw [List.append_assoc]; exact hw) hq11) rfl rfl rfl rfl (Nat.le_of_ble_eq_true rfl) (by rfl) (Nat.le_of_ble_eq_true rfl) (Nat.le_of_ble_eq_true rfl) (Nat.le_of_ble_eq_true rfl) (okR_of (by simp only [okRl, List.length_cons, List.length_nil, and_true, Nat.lt_eq]; first | done | omega) (by simp only [okRs, List.length_cons, List.length_nil, and_true, Nat.lt_eq]; first | done | omega)) (fun hw => ?_)
  refine ev_putRT (L' := [_, _, _, _, _, _, _, _, _, _, _, _, _, _, _, _, _, _, _]) (k := 0) fr_X0_37 rfl rfl dX0_init_63 ha rfl rfl (fun _ => rfl) (fun _ => rfl) (by simp only [List.length_cons, List.length_nil]; omega) rfl hw (fun hw => ?_)
  refine ev_aload_n dX0_init_66 rfl ?_
  refine ev_newT (q := a + 19) (L' := [_, _, _, _, _, _, _, _, _, _, _, _, _, _, _, _, _, _, _, _]) cr_X0_41 dX0_init_67 (by rw [ha]; rfl) rfl hw (okR_of (by simp only [okRl, List.length_cons, List.length_nil, and_true, Nat.lt_eq]; first | done | omega) (by simp only [okRs, List.length_cons, List.length_nil, and_true, Nat.lt_eq]; first | done | omega)) (Nat.le_of_ble_eq_true rfl) (Nat.le_of_ble_eq_true rfl) (fun hw => ?_)
  refine ev_dup dX0_init_70 (by rfl) ?_
  refine ev_bipush (v := (16 : Int32)) dX0_init_71 (by decide) ?_
  refine ev_iconst (v := (1 : Int32)) dX0_init_73 (by decide) ?_
  obtain ⟨m13, hq14, h⟩ := bndV_t h
  refine ev_cI (L := [_, _, _, _, _, _, _, _, _, _, _, _, _, _, _, _, _, _, _]) (L' := [_, _, _, _, _, _, _, _, _, _, _, _, _, _, _, _, _, _, _, _, _]) mv_X0_43 dX0_init_74 (c_X2_init (N := 16) (by decide) (by decide) (by decide) (by rw [List.length_append, ha]; rfl) (by rw [List.append_assoc]; exact hw) hq14) rfl rfl rfl rfl (Nat.le_of_ble_eq_true rfl) (by rfl) (Nat.le_of_ble_eq_true rfl) (Nat.le_of_ble_eq_true rfl) (Nat.le_of_ble_eq_true rfl) (okR_of (by simp only [okRl, List.length_cons, List.length_nil, and_true, Nat.lt_eq]; first | done | omega) (by simp only [okRs, List.length_cons, List.length_nil, and_true, Nat.lt_eq]; first | done | omega)) (fun hw => ?_)
  refine ev_putRT (L' := [_, _, _, _, _, _, _, _, _, _, _, _, _, _, _, _, _, _, _, _, _]) (k := 0) fr_X0_46 rfl rfl dX0_init_77 ha rfl rfl (fun _ => rfl) (fun _ => rfl) (by simp only [List.length_cons, List.length_nil]; omega) rfl hw (fun hw => ?_)
  refine ev_aload_n dX0_init_80 rfl ?_
  refine ev_newT (q := a + 21) (L' := [_, _, _, _, _, _, _, _, _, _, _, _, _, _, _, _, _, _, _, _, _, _]) cr_X0_41 dX0_init_81 (by rw [ha]; rfl) rfl hw (okR_of (by simp only [okRl, List.length_cons, List.length_nil, and_true, Nat.lt_eq]; first | done | omega) (by simp only [okRs, List.length_cons, List.length_nil, and_true, Nat.lt_eq]; first | done | omega)) (Nat.le_of_ble_eq_true rfl) (Nat.le_of_ble_eq_true rfl) (fun hw => ?_)
  refine ev_dup dX0_init_84 (by rfl) ?_
  refine ev_bipush (v := (16 : Int32)) dX0_init_85 (by decide) ?_
  refine ev_bipush (v := (6 : Int32)) dX0_init_87 (by decide) ?_
  obtain ⟨m16, hq17, h⟩ := bndV_t h
  refine ev_cI (L := [_, _, _, _, _, _, _, _, _, _, _, _, _, _, _, _, _, _, _, _, _]) (L' := [_, _, _, _, _, _, _, _, _, _, _, _, _, _, _, _, _, _, _, _, _, _, _]) mv_X0_43 dX0_init_89 (c_X2_init (N := 96) (by decide) (by decide) (by decide) (by rw [List.length_append, ha]; rfl) (by rw [List.append_assoc]; exact hw) hq17) rfl rfl rfl rfl (Nat.le_of_ble_eq_true rfl) (by rfl) (Nat.le_of_ble_eq_true rfl) (Nat.le_of_ble_eq_true rfl) (Nat.le_of_ble_eq_true rfl) (okR_of (by simp only [okRl, List.length_cons, List.length_nil, and_true, Nat.lt_eq]; first | done | omega) (by simp only [okRs, List.length_cons, List.length_nil, and_true, Nat.lt_eq]; first | done | omega)) (fun hw => ?_)
  refine ev_putRT (L' := [_, _, _, _, _, _, _, _, _, _, _, _, _, _, _, _, _, _, _, _, _, _, _]) (k := 0) fr_X0_50 rfl rfl dX0_init_92 ha rfl rfl (fun _ => rfl) (fun _ => rfl) (by simp only [List.length_cons, List.length_nil]; omega) rfl hw (fun hw => ?_)
  refine ev_aload_n dX0_init_95 rfl ?_
  refine ev_newT (q := a + 23) (L' := [_, _, _, _, _, _, _, _, _, _, _, _, _, _, _, _, _, _, _, _, _, _, _, _]) cr_X0_41 dX0_init_96 (by rw [ha]; rfl) rfl hw (okR_of (by simp only [okRl, List.length_cons, List.length_nil, and_true, Nat.lt_eq]; first | done | omega) (by simp only [okRs, List.length_cons, List.length_nil, and_true, Nat.lt_eq]; first | done | omega)) (Nat.le_of_ble_eq_true rfl) (Nat.le_of_ble_eq_true rfl) (fun hw => ?_)
  refine ev_dup dX0_init_99 (by rfl) ?_
  refine ev_bipush (v := (16 : Int32)) dX0_init_100 (by decide) ?_
  refine ev_iconst (v := (2 : Int32)) dX0_init_102 (by decide) ?_
  obtain ⟨m19, hq20, h⟩ := bndV_t h
  refine ev_cI (L := [_, _, _, _, _, _, _, _, _, _, _, _, _, _, _, _, _, _, _, _, _, _, _]) (L' := [_, _, _, _, _, _, _, _, _, _, _, _, _, _, _, _, _, _, _, _, _, _, _, _, _]) mv_X0_43 dX0_init_103 (c_X2_init (N := 32) (by decide) (by decide) (by decide) (by rw [List.length_append, ha]; rfl) (by rw [List.append_assoc]; exact hw) hq20) rfl rfl rfl rfl (Nat.le_of_ble_eq_true rfl) (by rfl) (Nat.le_of_ble_eq_true rfl) (Nat.le_of_ble_eq_true rfl) (Nat.le_of_ble_eq_true rfl) (okR_of (by simp only [okRl, List.length_cons, List.length_nil, and_true, Nat.lt_eq]; first | done | omega) (by simp only [okRs, List.length_cons, List.length_nil, and_true, Nat.lt_eq]; first | done | omega)) (fun hw => ?_)
  refine ev_putRT (L' := [_, _, _, _, _, _, _, _, _, _, _, _, _, _, _, _, _, _, _, _, _, _, _, _, _]) (k := 0) fr_X0_53 rfl rfl dX0_init_106 ha rfl rfl (fun _ => rfl) (fun _ => rfl) (by simp only [List.length_cons, List.length_nil]; omega) rfl hw (fun hw => ?_)
  refine ev_aload_n dX0_init_109 rfl ?_
  refine ev_newT (q := a + 25) (L' := [_, _, _, _, _, _, _, _, _, _, _, _, _, _, _, _, _, _, _, _, _, _, _, _, _, _]) cr_X0_41 dX0_init_110 (by rw [ha]; rfl) rfl hw (okR_of (by simp only [okRl, List.length_cons, List.length_nil, and_true, Nat.lt_eq]; first | done | omega) (by simp only [okRs, List.length_cons, List.length_nil, and_true, Nat.lt_eq]; first | done | omega)) (Nat.le_of_ble_eq_true rfl) (Nat.le_of_ble_eq_true rfl) (fun hw => ?_)
  refine ev_dup dX0_init_113 (by rfl) ?_
  refine ev_sipush (v := (150 : Int32)) dX0_init_114 (by decide) ?_
  refine ev_iconst (v := (4 : Int32)) dX0_init_117 (by decide) ?_
  obtain ⟨m22, hq23, h⟩ := bndV_t h
  refine ev_cI (L := [_, _, _, _, _, _, _, _, _, _, _, _, _, _, _, _, _, _, _, _, _, _, _, _, _]) (L' := [_, _, _, _, _, _, _, _, _, _, _, _, _, _, _, _, _, _, _, _, _, _, _, _, _, _, _]) mv_X0_43 dX0_init_118 (c_X2_init (N := 600) (by decide) (by decide) (by decide) (by rw [List.length_append, ha]; rfl) (by rw [List.append_assoc]; exact hw) hq23) rfl rfl rfl rfl (Nat.le_of_ble_eq_true rfl) (by rfl) (Nat.le_of_ble_eq_true rfl) (Nat.le_of_ble_eq_true rfl) (Nat.le_of_ble_eq_true rfl) (okR_of (by simp only [okRl, List.length_cons, List.length_nil, and_true, Nat.lt_eq]; first | done | omega) (by simp only [okRs, List.length_cons, List.length_nil, and_true, Nat.lt_eq]; first | done | omega)) (fun hw => ?_)
  refine ev_putRT (L' := [_, _, _, _, _, _, _, _, _, _, _, _, _, _, _, _, _, _, _, _, _, _, _, _, _, _, _]) (k := 0) fr_X0_56 rfl rfl dX0_init_121 ha rfl rfl (fun _ => rfl) (fun _ => rfl) (by simp only [List.length_cons, List.length_nil]; omega) rfl hw (fun hw => ?_)
  refine ev_aload_n dX0_init_124 rfl ?_
  refine ev_newT (q := a + 27) (L' := [_, _, _, _, _, _, _, _, _, _, _, _, _, _, _, _, _, _, _, _, _, _, _, _, _, _, _, _]) cr_X0_41 dX0_init_125 (by rw [ha]; rfl) rfl hw (okR_of (by simp only [okRl, List.length_cons, List.length_nil, and_true, Nat.lt_eq]; first | done | omega) (by simp only [okRs, List.length_cons, List.length_nil, and_true, Nat.lt_eq]; first | done | omega)) (Nat.le_of_ble_eq_true rfl) (Nat.le_of_ble_eq_true rfl) (fun hw => ?_)
  refine ev_dup dX0_init_128 (by rfl) ?_
  refine ev_bipush (v := (10 : Int32)) dX0_init_129 (by decide) ?_
  refine ev_iconst (v := (3 : Int32)) dX0_init_131 (by decide) ?_
  obtain ⟨m25, hq26, h⟩ := bndV_t h
  refine ev_cI (L := [_, _, _, _, _, _, _, _, _, _, _, _, _, _, _, _, _, _, _, _, _, _, _, _, _, _, _]) (L' := [_, _, _, _, _, _, _, _, _, _, _, _, _, _, _, _, _, _, _, _, _, _, _, _, _, _, _, _, _]) mv_X0_43 dX0_init_132 (c_X2_init (N := 30) (by decide) (by decide) (by decide) (by rw [List.length_append, ha]; rfl) (by rw [List.append_assoc]; exact hw) hq26) rfl rfl rfl rfl (Nat.le_of_ble_eq_true rfl) (by rfl) (Nat.le_of_ble_eq_true rfl) (Nat.le_of_ble_eq_true rfl) (Nat.le_of_ble_eq_true rfl) (okR_of (by simp only [okRl, List.length_cons, List.length_nil, and_true, Nat.lt_eq]; first | done | omega) (by simp only [okRs, List.length_cons, List.length_nil, and_true, Nat.lt_eq]; first | done | omega)) (fun hw => ?_)
  refine ev_putRT (L' := [_, _, _, _, _, _, _, _, _, _, _, _, _, _, _, _, _, _, _, _, _, _, _, _, _, _, _, _, _]) (k := 0) fr_X0_59 rfl rfl dX0_init_135 ha rfl rfl (fun _ => rfl) (fun _ => rfl) (by simp only [List.length_cons, List.length_nil]; omega) rfl hw (fun hw => ?_)
  refine ev_aload_n dX0_init_138 rfl ?_
  refine ev_newT (q := a + 29) (L' := [_, _, _, _, _, _, _, _, _, _, _, _, _, _, _, _, _, _, _, _, _, _, _, _, _, _, _, _, _, _]) cr_X0_41 dX0_init_139 (by rw [ha]; rfl) rfl hw (okR_of (by simp only [okRl, List.length_cons, List.length_nil, and_true, Nat.lt_eq]; first | done | omega) (by simp only [okRs, List.length_cons, List.length_nil, and_true, Nat.lt_eq]; first | done | omega)) (Nat.le_of_ble_eq_true rfl) (Nat.le_of_ble_eq_true rfl) (fun hw => ?_)
  refine ev_dup dX0_init_142 (by rfl) ?_
  refine ev_bipush (v := (8 : Int32)) dX0_init_143 (by decide) ?_
  refine ev_iconst (v := (3 : Int32)) dX0_init_145 (by decide) ?_
  obtain ⟨m28, hq29, h⟩ := bndV_t h
  refine ev_cI (L := [_, _, _, _, _, _, _, _, _, _, _, _, _, _, _, _, _, _, _, _, _, _, _, _, _, _, _, _, _]) (L' := [_, _, _, _, _, _, _, _, _, _, _, _, _, _, _, _, _, _, _, _, _, _, _, _, _, _, _, _, _, _, _]) mv_X0_43 dX0_init_146 (c_X2_init (N := 24) (by decide) (by decide) (by decide) (by rw [List.length_append, ha]; rfl) (by rw [List.append_assoc]; exact hw) hq29) rfl rfl rfl rfl (Nat.le_of_ble_eq_true rfl) (by rfl) (Nat.le_of_ble_eq_true rfl) (Nat.le_of_ble_eq_true rfl) (Nat.le_of_ble_eq_true rfl) (okR_of (by simp only [okRl, List.length_cons, List.length_nil, and_true, Nat.lt_eq]; first | done | omega) (by simp only [okRs, List.length_cons, List.length_nil, and_true, Nat.lt_eq]; first | done | omega)) (fun hw => ?_)
  refine ev_putRT (L' := [_, _, _, _, _, _, _, _, _, _, _, _, _, _, _, _, _, _, _, _, _, _, _, _, _, _, _, _, _, _, _]) (k := 0) fr_X0_62 rfl rfl dX0_init_149 ha rfl rfl (fun _ => rfl) (fun _ => rfl) (by simp only [List.length_cons, List.length_nil]; omega) rfl hw (fun hw => ?_)
  refine ev_aload_n dX0_init_152 rfl ?_
  refine ev_newT (q := a + 31) (L' := [_, _, _, _, _, _, _, _, _, _, _, _, _, _, _, _, _, _, _, _, _, _, _, _, _, _, _, _, _, _, _, _]) cr_X0_41 dX0_init_153 (by rw [ha]; rfl) rfl hw (okR_of (by simp only [okRl, List.length_cons, List.length_nil, and_true, Nat.lt_eq]; first | done | omega) (by simp only [okRs, List.length_cons, List.length_nil, and_true, Nat.lt_eq]; first | done | omega)) (Nat.le_of_ble_eq_true rfl) (Nat.le_of_ble_eq_true rfl) (fun hw => ?_)
  refine ev_dup dX0_init_156 (by rfl) ?_
  refine ev_bipush (v := (6 : Int32)) dX0_init_157 (by decide) ?_
  refine ev_iconst (v := (2 : Int32)) dX0_init_159 (by decide) ?_
  obtain ⟨m31, hq32, h⟩ := bndV_t h
  refine ev_cI (L := [_, _, _, _, _, _, _, _, _, _, _, _, _, _, _, _, _, _, _, _, _, _, _, _, _, _, _, _, _, _, _]) (L' := [_, _, _, _, _, _, _, _, _, _, _, _, _, _, _, _, _, _, _, _, _, _, _, _, _, _, _, _, _, _, _, _, _]) mv_X0_43 dX0_init_160 (c_X2_init (N := 12) (by decide) (by decide) (by decide) (by rw [List.length_append, ha]; rfl) (by rw [List.append_assoc]; exact hw) hq32) rfl rfl rfl rfl (Nat.le_of_ble_eq_true rfl) (by rfl) (Nat.le_of_ble_eq_true rfl) (Nat.le_of_ble_eq_true rfl) (Nat.le_of_ble_eq_true rfl) (okR_of (by simp only [okRl, List.length_cons, List.length_nil, and_true, Nat.lt_eq]; first | done | omega) (by simp only [okRs, List.length_cons, List.length_nil, and_true, Nat.lt_eq]; first | done | omega)) (fun hw => ?_)
  refine ev_putRT (L' := [_, _, _, _, _, _, _, _, _, _, _, _, _, _, _, _, _, _, _, _, _, _, _, _, _, _, _, _, _, _, _, _, _]) (k := 0) fr_X0_65 rfl rfl dX0_init_163 ha rfl rfl (fun _ => rfl) (fun _ => rfl) (by simp only [List.length_cons, List.length_nil]; omega) rfl hw (fun hw => ?_)
  refine ev_aload_n dX0_init_166 rfl ?_
  refine ev_newT (q := a + 33) (L' := [_, _, _, _, _, _, _, _, _, _, _, _, _, _, _, _, _, _, _, _, _, _, _, _, _, _, _, _, _, _, _, _, _, _]) cr_X0_41 dX0_init_167 (by rw [ha]; rfl) rfl hw (okR_of (by simp only [okRl, List.length_cons, List.length_nil, and_true, Nat.lt_eq]; first | done | omega) (by simp only [okRs, List.length_cons, List.length_nil, and_true, Nat.lt_eq]; first | done | omega)) (Nat.le_of_ble_eq_true rfl) (Nat.le_of_ble_eq_true rfl) (fun hw => ?_)
  refine ev_dup dX0_init_170 (by rfl) ?_
  refine ev_bipush (v := (16 : Int32)) dX0_init_171 (by decide) ?_
  refine ev_iconst (v := (2 : Int32)) dX0_init_173 (by decide) ?_
  obtain ⟨m34, hq35, h⟩ := bndV_t h
  refine ev_cI (L := [_, _, _, _, _, _, _, _, _, _, _, _, _, _, _, _, _, _, _, _, _, _, _, _, _, _, _, _, _, _, _, _, _]) (L' := [_, _, _, _, _, _, _, _, _, _, _, _, _, _, _, _, _, _, _, _, _, _, _, _, _, _, _, _, _, _, _, _, _, _, _]) mv_X0_43 dX0_init_174 (c_X2_init (N := 32) (by decide) (by decide) (by decide) (by rw [List.length_append, ha]; rfl) (by rw [List.append_assoc]; exact hw) hq35) rfl rfl rfl rfl (Nat.le_of_ble_eq_true rfl) (by rfl) (Nat.le_of_ble_eq_true rfl) (Nat.le_of_ble_eq_true rfl) (Nat.le_of_ble_eq_true rfl) (okR_of (by simp only [okRl, List.length_cons, List.length_nil, and_true, Nat.lt_eq]; first | done | omega) (by simp only [okRs, List.length_cons, List.length_nil, and_true, Nat.lt_eq]; first | done | omega)) (fun hw => ?_)
  refine ev_putRT (L' := [_, _, _, _, _, _, _, _, _, _, _, _, _, _, _, _, _, _, _, _, _, _, _, _, _, _, _, _, _, _, _, _, _, _, _]) (k := 0) fr_X0_68 rfl rfl dX0_init_177 ha rfl rfl (fun _ => rfl) (fun _ => rfl) (by simp only [List.length_cons, List.length_nil]; omega) rfl hw (fun hw => ?_)
  refine ev_aload_n dX0_init_180 rfl ?_
  refine ev_newT (q := a + 35) (L' := [_, _, _, _, _, _, _, _, _, _, _, _, _, _, _, _, _, _, _, _, _, _, _, _, _, _, _, _, _, _, _, _, _, _, _, _]) cr_X0_41 dX0_init_181 (by rw [ha]; rfl) rfl hw (okR_of (by simp only [okRl, List.length_cons, List.length_nil, and_true, Nat.lt_eq]; first | done | omega) (by simp only [okRs, List.length_cons, List.length_nil, and_true, Nat.lt_eq]; first | done | omega)) (Nat.le_of_ble_eq_true rfl) (Nat.le_of_ble_eq_true rfl) (fun hw => ?_)
  refine ev_dup dX0_init_184 (by rfl) ?_
  refine ev_bipush (v := (12 : Int32)) dX0_init_185 (by decide) ?_
  refine ev_iconst (v := (1 : Int32)) dX0_init_187 (by decide) ?_
  obtain ⟨m37, hq38, h⟩ := bndV_t h
  refine ev_cI (L := [_, _, _, _, _, _, _, _, _, _, _, _, _, _, _, _, _, _, _, _, _, _, _, _, _, _, _, _, _, _, _, _, _, _, _]) (L' := [_, _, _, _, _, _, _, _, _, _, _, _, _, _, _, _, _, _, _, _, _, _, _, _, _, _, _, _, _, _, _, _, _, _, _, _, _]) mv_X0_43 dX0_init_188 (c_X2_init (N := 12) (by decide) (by decide) (by decide) (by rw [List.length_append, ha]; rfl) (by rw [List.append_assoc]; exact hw) hq38) rfl rfl rfl rfl (Nat.le_of_ble_eq_true rfl) (by rfl) (Nat.le_of_ble_eq_true rfl) (Nat.le_of_ble_eq_true rfl) (Nat.le_of_ble_eq_true rfl) (okR_of (by simp only [okRl, List.length_cons, List.length_nil, and_true, Nat.lt_eq]; first | done | omega) (by simp only [okRs, List.length_cons, List.length_nil, and_true, Nat.lt_eq]; first | done | omega)) (fun hw => ?_)
  refine ev_putRT (L' := [_, _, _, _, _, _, _, _, _, _, _, _, _, _, _, _, _, _, _, _, _, _, _, _, _, _, _, _, _, _, _, _, _, _, _, _, _]) (k := 0) fr_X0_71 rfl rfl dX0_init_191 ha rfl rfl (fun _ => rfl) (fun _ => rfl) (by simp only [List.length_cons, List.length_nil]; omega) rfl hw (fun hw => ?_)
  refine ev_aload_n dX0_init_194 rfl ?_
  refine ev_newT (q := a + 37) (L' := [_, _, _, _, _, _, _, _, _, _, _, _, _, _, _, _, _, _, _, _, _, _, _, _, _, _, _, _, _, _, _, _, _, _, _, _, _, _]) cr_X0_41 dX0_init_195 (by rw [ha]; rfl) rfl hw (okR_of (by simp only [okRl, List.length_cons, List.length_nil, and_true, Nat.lt_eq]; first | done | omega) (by simp only [okRs, List.length_cons, List.length_nil, and_true, Nat.lt_eq]; first | done | omega)) (Nat.le_of_ble_eq_true rfl) (Nat.le_of_ble_eq_true rfl) (fun hw => ?_)
  refine ev_dup dX0_init_198 (by rfl) ?_
  refine ev_bipush (v := (7 : Int32)) dX0_init_199 (by decide) ?_
  refine ev_iconst (v := (1 : Int32)) dX0_init_201 (by decide) ?_
  obtain ⟨m40, hq41, h⟩ := bndV_t h
  refine ev_cI (L := [_, _, _, _, _, _, _, _, _, _, _, _, _, _, _, _, _, _, _, _, _, _, _, _, _, _, _, _, _, _, _, _, _, _, _, _, _]) (L' := [_, _, _, _, _, _, _, _, _, _, _, _, _, _, _, _, _, _, _, _, _, _, _, _, _, _, _, _, _, _, _, _, _, _, _, _, _, _, _]) mv_X0_43 dX0_init_202 (c_X2_init (N := 7) (by decide) (by decide) (by decide) (by rw [List.length_append, ha]; rfl) (by rw [List.append_assoc]; exact hw) hq41) rfl rfl rfl rfl (Nat.le_of_ble_eq_true rfl) (by rfl) (Nat.le_of_ble_eq_true rfl) (Nat.le_of_ble_eq_true rfl) (Nat.le_of_ble_eq_true rfl) (okR_of (by simp only [okRl, List.length_cons, List.length_nil, and_true, Nat.lt_eq]; first | done | omega) (by simp only [okRs, List.length_cons, List.length_nil, and_true, Nat.lt_eq]; first | done | omega)) (fun hw => ?_)
  refine ev_putRT (L' := [_, _, _, _, _, _, _, _, _, _, _, _, _, _, _, _, _, _, _, _, _, _, _, _, _, _, _, _, _, _, _, _, _, _, _, _, _, _, _]) (k := 0) fr_X0_74 rfl rfl dX0_init_205 ha rfl rfl (fun _ => rfl) (fun _ => rfl) (by simp only [List.length_cons, List.length_nil]; omega) rfl hw (fun hw => ?_)
  refine ev_aload_n dX0_init_208 rfl ?_
  refine ev_bipush (v := (6 : Int32)) dX0_init_209 (by decide) ?_
  refine ev_newaT (N := 6) (q := a + 39) (L' := [_, _, _, _, _, _, _, _, _, _, _, _, _, _, _, _, _, _, _, _, _, _, _, _, _, _, _, _, _, _, _, _, _, _, _, _, _, _, _, _]) dX0_init_211 (by decide) (by decide) (by decide) (by rw [ha]; rfl) rfl hw (okR_of (by simp only [okRl, List.length_cons, List.length_nil, and_true, Nat.lt_eq]; first | done | omega) (by simp only [okRs, List.length_cons, List.length_nil, and_true, Nat.lt_eq]; first | done | omega)) (Nat.le_of_ble_eq_true rfl) (Nat.le_of_ble_eq_true rfl) (fun hw => ?_)
  refine ev_dup dX0_init_213 (by rfl) ?_
  refine ev_iconst (v := (0 : Int32)) dX0_init_214 (by decide) ?_
  refine ev_iconst (v := (1 : Int32)) dX0_init_215 (by decide) ?_
  refine ev_iastL (j := 0) (tlg (k := 39) ha rfl) (by decide) (vpl _ _ (by decide)) dX0_init_216 ?_
  refine ev_dup dX0_init_217 (by rfl) ?_
  refine ev_iconst (v := (1 : Int32)) dX0_init_218 (by decide) ?_
  refine ev_iconst (v := (0 : Int32)) dX0_init_219 (by decide) ?_
  refine ev_iastL (j := 1) (tlg (k := 39) ha rfl) (by decide) (vpl _ _ (by decide)) dX0_init_220 ?_
  refine ev_dup dX0_init_221 (by rfl) ?_
  refine ev_iconst (v := (2 : Int32)) dX0_init_222 (by decide) ?_
  refine ev_iconst (v := (1 : Int32)) dX0_init_223 (by decide) ?_
  refine ev_iastL (j := 2) (tlg (k := 39) ha rfl) (by decide) (vpl _ _ (by decide)) dX0_init_224 ?_
  refine ev_dup dX0_init_225 (by rfl) ?_
  refine ev_iconst (v := (3 : Int32)) dX0_init_226 (by decide) ?_
  refine ev_iconst (v := (0 : Int32)) dX0_init_227 (by decide) ?_
  refine ev_iastL (j := 3) (tlg (k := 39) ha rfl) (by decide) (vpl _ _ (by decide)) dX0_init_228 ?_
  refine ev_dup dX0_init_229 (by rfl) ?_
  refine ev_iconst (v := (4 : Int32)) dX0_init_230 (by decide) ?_
  refine ev_iconst (v := (1 : Int32)) dX0_init_231 (by decide) ?_
  refine ev_iastL (j := 4) (tlg (k := 39) ha rfl) (by decide) (vpl _ _ (by decide)) dX0_init_232 ?_
  refine ev_dup dX0_init_233 (by rfl) ?_
  refine ev_iconst (v := (5 : Int32)) dX0_init_234 (by decide) ?_
  refine ev_iconst (v := (0 : Int32)) dX0_init_235 (by decide) ?_
  refine ev_iastL (j := 5) (tlg (k := 39) ha rfl) (by decide) (vpl _ _ (by decide)) dX0_init_236 ?_
  refine ev_putRT (L' := [_, _, _, _, _, _, _, _, _, _, _, _, _, _, _, _, _, _, _, _, _, _, _, _, _, _, _, _, _, _, _, _, _, _, _, _, _, _, _, _]) (k := 0) fr_X0_77 rfl rfl dX0_init_237 ha rfl rfl (fun _ => rfl) (fun _ => rfl) (by simp only [List.length_cons, List.length_nil]; omega) rfl hw (fun hw => ?_)
  exact ev_vret rfl (Nat.le_of_ble_eq_true rfl) (Nat.le_of_ble_eq_true rfl) dX0_init_240 (ctP_i hw h)
end
