section
def full_X5 (a : Nat ) : List Shp := [.inr (.inr (5, [some (some (a + 1)), some (some (a + 2)), some (some (a + 3)), some (some (a + 4)), some (some (a + 11)), none, none, none, none, none, none, none, none])), .inl 400, .inl 401, .inl 401, .inr (.inr (1, [some (some (a + 5)), some (some (a + 6)), some (some (a + 7)), some (some (a + 8)), some (some (a + 9)), some (some (a + 10)), none, none])), .inl 400, .inl 16, .inl 16, .inl 16, .inl 16, .inl 40, .inr (.inr (2, [none, none, some (some (a + 12)), none])), .inl 96]
def f_X5_init (G : Nat) (a : Nat) (μ : Mem) : Option Mem :=
  (let m1 := zr μ (a + 1)
  (let m2 := zr m1 (a + 2)
  (let m3 := zr m2 (a + 3)
  (let m4 := zr m3 (a + 4)
  bndV (f_X1_init G (a + 4) m4) (fun m5 =>
  (let m7 := zr m5 (a + 11)
  bndV (f_X2_init G (a + 11) (16 : Int32) (6 : Int32) m7) (fun m8 =>
  (let m10 := wr m8 a 7 (-1 : Int32)
  some m10))))))))
set_option maxHeartbeats 8000000 in
set_option maxRecDepth 100000 in
theorem c_X5_init {pre : List Shp} {G : Nat} {a : Nat} {μ : Mem} {μr : Mem} (ha : pre.length = a) (hw : wfS (pre ++ [.inr (.inr (5, [some none, some none, some none, some none, some none, none, none, none, none, none, none, none, none]))])) (h : f_X5_init G a μ = some μr) : Cn yX5_init cX5_init 1 none 3 12 1814 [.ref a] (pre ++ [.inr (.inr (5, [some none, some none, some none, some none, some none, none, none, none, none, none, none, none, none]))]) μ (ctP (pre ++ full_X5 a) μr) := by
  refine cn_of (own := RX5) (ini := true) (loc := [some (.ref a)]) rfl (by decide) (fun _ => rfl) (Nat.le_of_ble_eq_true rfl) (by rfl) rfl ?_
  unfold f_X5_init at h
  refine ev_aload_n dX5_init_0 rfl ?_
  refine ev_objInit ml_X5_3 w_oi1 w_oi2 dX5_init_1 (Nat.le_of_ble_eq_true rfl) (by rfl) (Nat.le_of_ble_eq_true rfl) ?_
  refine ev_aload_n dX5_init_4 rfl ?_
  refine ev_sipush (v := (400 : Int32)) dX5_init_5 (by decide) ?_
  refine ev_newaT (N := 400) (q := a + 1) (L' := [_, _]) dX5_init_8 (by decide) (by decide) (by decide) (by rw [ha]; rfl) rfl hw (okR_of (by simp only [okRl, List.length_cons, List.length_nil, and_true, Nat.lt_eq]; first | done | omega) (by simp only [okRs, List.length_cons, List.length_nil, and_true, Nat.lt_eq]; first | done | omega)) (Nat.le_of_ble_eq_true rfl) (Nat.le_of_ble_eq_true rfl) (fun hw => ?_)
  refine ev_putRT (L' := [_, _]) (k := 0) fr_X5_9 rfl rfl dX5_init_10 ha rfl rfl (fun _ => rfl) (fun _ => rfl) (by simp only [List.length_cons, List.length_nil]; omega) rfl hw (fun hw => ?_)
  refine ev_aload_n dX5_init_13 rfl ?_
  refine ev_sipush (v := (401 : Int32)) dX5_init_14 (by decide) ?_
  refine ev_newaT (N := 401) (q := a + 2) (L' := [_, _, _]) dX5_init_17 (by decide) (by decide) (by decide) (by rw [ha]; rfl) rfl hw (okR_of (by simp only [okRl, List.length_cons, List.length_nil, and_true, Nat.lt_eq]; first | done | omega) (by simp only [okRs, List.length_cons, List.length_nil, and_true, Nat.lt_eq]; first | done | omega)) (Nat.le_of_ble_eq_true rfl) (Nat.le_of_ble_eq_true rfl) (fun hw => ?_)
  refine ev_putRT (L' := [_, _, _]) (k := 0) fr_X5_15 rfl rfl dX5_init_19 ha rfl rfl (fun _ => rfl) (fun _ => rfl) (by simp only [List.length_cons, List.length_nil]; omega) rfl hw (fun hw => ?_)
  refine ev_aload_n dX5_init_22 rfl ?_
  refine ev_sipush (v := (401 : Int32)) dX5_init_23 (by decide) ?_
  refine ev_newaT (N := 401) (q := a + 3) (L' := [_, _, _, _]) dX5_init_26 (by decide) (by decide) (by decide) (by rw [ha]; rfl) rfl hw (okR_of (by simp only [okRl, List.length_cons, List.length_nil, and_true, Nat.lt_eq]; first | done | omega) (by simp only [okRs, List.length_cons, List.length_nil, and_true, Nat.lt_eq]; first | done | omega)) (Nat.le_of_ble_eq_true rfl) (Nat.le_of_ble_eq_true rfl) (fun hw => ?_)
  refine ev_putRT (L' := [_, _, _, _]) (k := 0) fr_X5_18 rfl rfl dX5_init_28 ha rfl rfl (fun _ => rfl) (fun _ => rfl) (by simp only [List.length_cons, List.length_nil]; omega) rfl hw (fun hw => ?_)
  refine ev_aload_n dX5_init_31 rfl ?_
  refine ev_newT (q := a + 4) (L' := [_, _, _, _, _]) cr_X5_21 dX5_init_32 (by rw [ha]; rfl) rfl hw (okR_of (by simp only [okRl, List.length_cons, List.length_nil, and_true, Nat.lt_eq]; first | done | omega) (by simp only [okRs, List.length_cons, List.length_nil, and_true, Nat.lt_eq]; first | done | omega)) (Nat.le_of_ble_eq_true rfl) (Nat.le_of_ble_eq_true rfl) (fun hw => ?_)
  refine ev_dup dX5_init_35 (by rfl) ?_
  obtain ⟨m5, hq6, h⟩ := bndV_t h
  refine ev_cIN (L := [_, _, _, _]) (L' := [_, _, _, _, _, _, _, _, _, _, _]) mv_X5_23 dX5_init_36 (c_X1_init (by rw [List.length_append, ha]; rfl) (by rw [List.append_assoc]; exact hw) hq6) rfl rfl rfl rfl (Nat.le_of_ble_eq_true rfl) (by rfl) (Nat.le_of_ble_eq_true rfl) (Nat.le_of_ble_eq_true rfl) (Nat.le_of_ble_eq_true rfl) (okR_of (by simp only [okRl, List.length_cons, List.length_nil, and_true, Nat.lt_eq]; first | done | omega) (by simp only [okRs, List.length_cons, List.length_nil, and_true, Nat.lt_eq]; first | done | omega)) (fun hw => ?_)
  refine ev_putRT (L' := [_, _, _, _, _, _, _, _, _, _, _]) (k := 0) fr_X5_24 rfl rfl dX5_init_39 ha rfl rfl (fun _ => rfl) (fun _ => rfl) (by simp only [List.length_cons, List.length_nil]; omega) rfl hw (fun hw => ?_)
  refine ev_aload_n dX5_init_42 rfl ?_
  refine ev_newT (q := a + 11) (L' := [_, _, _, _, _, _, _, _, _, _, _, _]) cr_X5_28 dX5_init_43 (by rw [ha]; rfl) rfl hw (okR_of (by simp only [okRl, List.length_cons, List.length_nil, and_true, Nat.lt_eq]; first | done | omega) (by simp only [okRs, List.length_cons, List.length_nil, and_true, Nat.lt_eq]; first | done | omega)) (Nat.le_of_ble_eq_true rfl) (Nat.le_of_ble_eq_true rfl) (fun hw => ?_)
  refine ev_dup dX5_init_46 (by rfl) ?_
  refine ev_bipush (v := (16 : Int32)) dX5_init_47 (by decide) ?_
  refine ev_bipush (v := (6 : Int32)) dX5_init_49 (by decide) ?_
  obtain ⟨m8, hq9, h⟩ := bndV_t h
  refine ev_cI (L := [_, _, _, _, _, _, _, _, _, _, _]) (L' := [_, _, _, _, _, _, _, _, _, _, _, _, _]) mv_X5_30 dX5_init_51 (c_X2_init (N := 96) (by decide) (by decide) (by decide) (by rw [List.length_append, ha]; rfl) (by rw [List.append_assoc]; exact hw) hq9) rfl rfl rfl rfl (Nat.le_of_ble_eq_true rfl) (by rfl) (Nat.le_of_ble_eq_true rfl) (Nat.le_of_ble_eq_true rfl) (Nat.le_of_ble_eq_true rfl) (okR_of (by simp only [okRl, List.length_cons, List.length_nil, and_true, Nat.lt_eq]; first | done | omega) (by simp only [okRs, List.length_cons, List.length_nil, and_true, Nat.lt_eq]; first | done | omega)) (fun hw => ?_)
  refine ev_putRT (L' := [_, _, _, _, _, _, _, _, _, _, _, _, _]) (k := 0) fr_X5_33 rfl rfl dX5_init_54 ha rfl rfl (fun _ => rfl) (fun _ => rfl) (by simp only [List.length_cons, List.length_nil]; omega) rfl hw (fun hw => ?_)
  refine ev_aload_n dX5_init_57 rfl ?_
  refine ev_iconst (v := (-1 : Int32)) dX5_init_58 (by decide) ?_
  refine ev_putI fr_X5_37 (tlg (k := 0) ha rfl) rfl rfl rfl dX5_init_59 ?_
  exact ev_vret rfl (Nat.le_of_ble_eq_true rfl) (Nat.le_of_ble_eq_true rfl) dX5_init_62 (ctP_i hw h)
end
