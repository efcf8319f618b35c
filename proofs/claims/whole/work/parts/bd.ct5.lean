section
set_option maxHeartbeats 4000000 in
set_option maxRecDepth 100000 in
theorem c_X4_oneMoreS {sh : List Shp}  {μ : Mem} {p1 p2 : Int32}  : Cn yX4_oneMore cX4_oneMore 3 (some .int) 1 0 0 [.int p1, .int p2] sh μ (eqP (some (f_X4_oneMore p1 p2)) sh μ) := by
  obtain ⟨r, h⟩ : ∃ r, f_X4_oneMore p1 p2 = r := ⟨_, rfl⟩
  rw [h]
  refine cn_of (own := RX4) (ini := false) (loc := [some (.int p1), some (.int p2), none]) rfl (by decide) (fun q => by cases q) (Nat.le_of_ble_eq_true rfl) (by rfl) rfl ?_
  unfold f_X4_oneMore at h
  refine ev_iload_n dX4_oneMore_0 rfl ?_
  refine ev_iconst (v := (3 : Int32)) dX4_oneMore_1 (by decide) ?_
  refine ev_iload_n dX4_oneMore_2 rfl ?_
  refine ev_imul dX4_oneMore_3 ?_
  refine ev_ishr dX4_oneMore_4 ?_
  refine ev_bipush (v := (7 : Int32)) dX4_oneMore_5 (by decide) ?_
  refine ev_iand dX4_oneMore_7 ?_
  refine ev_istore_n (loc' := [_, _, _]) dX4_oneMore_8 rfl (by decide) (by rfl) ?_
  refine ev_iload_n dX4_oneMore_9 rfl ?_
  refine ev_iload_n dX4_oneMore_10 rfl ?_
  refine ev_iconst (v := (1 : Int32)) dX4_oneMore_11 (by decide) ?_
  refine ev_iadd dX4_oneMore_12 ?_
  refine ev_iconst (v := (3 : Int32)) dX4_oneMore_13 (by decide) ?_
  refine ev_iload_n dX4_oneMore_14 rfl ?_
  refine ev_imul dX4_oneMore_15 ?_
  refine ev_ishl dX4_oneMore_16 ?_
  refine ev_ior dX4_oneMore_17 ?_
  exact ev_iret rfl rfl (by decide) (by decide) dX4_oneMore_18 (eqP_P h)
def full_X7 (a : Nat) (b : Nat) : List Shp := [.inr (.inr (6, [some (some b), some (some (a + 1)), some (some (a + 2)), some (some (a + 3)), some (some (a + 4)), some (some (a + 5))])), .inl 11, .inl 3, .inl 3, .inl 12, .inl 12]
def f_X7_init (G : Nat) (a : Nat) (b : Nat) (μ : Mem) : Option Mem :=
  (let m1 := zr μ (a + 1)
  (let m2 := zr m1 (a + 2)
  (let m3 := zr m2 (a + 3)
  (let m4 := zr m3 (a + 4)
  (let m5 := zr m4 (a + 5)
  some m5)))))
set_option maxHeartbeats 8000000 in
set_option maxRecDepth 100000 in
theorem c_X7_init {pre : List Shp} {G : Nat} {a : Nat} {b : Nat} {μ : Mem} {μr : Mem} (ha : pre.length = a) (hw : wfS (pre ++ [.inr (.inr (6, [some none, some none, some none, some none, some none, some none]))])) (hb : b < a) (h : f_X7_init G a b μ = some μr) : Cn yX7_init cX7_init 2 none 2 5 41 [.ref a, .ref b] (pre ++ [.inr (.inr (6, [some none, some none, some none, some none, some none, some none]))]) μ (ctP (pre ++ full_X7 a b) μr) := by
  refine cn_of (own := RX7) (ini := true) (loc := [some (.ref a), some (.ref b)]) rfl (by decide) (fun _ => rfl) (Nat.le_of_ble_eq_true rfl) (by rfl) rfl ?_
  unfold f_X7_init at h
  refine ev_aload_n dX7_init_0 rfl ?_
  refine ev_objInit ml_X7_3 w_oi1 w_oi2 dX7_init_1 (Nat.le_of_ble_eq_true rfl) (by rfl) (Nat.le_of_ble_eq_true rfl) ?_
  refine ev_aload_n dX7_init_4 rfl ?_
  refine ev_bipush (v := (11 : Int32)) dX7_init_5 (by decide) ?_
  refine ev_newaT (N := 11) (q := a + 1) (L' := [_, _]) dX7_init_7 (by decide) (by decide) (by decide) (by rw [ha]; rfl) rfl hw (okR_of (by simp only [okRl, List.length_cons, List.length_nil, and_true, Nat.lt_eq]; first | done | omega) (by simp only [okRs, List.length_cons, List.length_nil, and_true, Nat.lt_eq]; first | done | omega)) (Nat.le_of_ble_eq_true rfl) (Nat.le_of_ble_eq_true rfl) (fun hw => ?_)
  refine ev_putRT (L' := [_, _]) (k := 0) fr_X7_11 rfl rfl dX7_init_9 ha rfl rfl (fun _ => rfl) (fun _ => rfl) (by simp only [List.length_cons, List.length_nil]; omega) rfl hw (fun hw => ?_)
  refine ev_aload_n dX7_init_12 rfl ?_
  refine ev_iconst (v := (3 : Int32)) dX7_init_13 (by decide) ?_
  refine ev_newaT (N := 3) (q := a + 2) (L' := [_, _, _]) dX7_init_14 (by decide) (by decide) (by decide) (by rw [ha]; rfl) rfl hw (okR_of (by simp only [okRl, List.length_cons, List.length_nil, and_true, Nat.lt_eq]; first | done | omega) (by simp only [okRs, List.length_cons, List.length_nil, and_true, Nat.lt_eq]; first | done | omega)) (Nat.le_of_ble_eq_true rfl) (Nat.le_of_ble_eq_true rfl) (fun hw => ?_)
  refine ev_putRT (L' := [_, _, _]) (k := 0) fr_X7_17 rfl rfl dX7_init_16 ha rfl rfl (fun _ => rfl) (fun _ => rfl) (by simp only [List.length_cons, List.length_nil]; omega) rfl hw (fun hw => ?_)
  refine ev_aload_n dX7_init_19 rfl ?_
  refine ev_iconst (v := (3 : Int32)) dX7_init_20 (by decide) ?_
  refine ev_newaT (N := 3) (q := a + 3) (L' := [_, _, _, _]) dX7_init_21 (by decide) (by decide) (by decide) (by rw [ha]; rfl) rfl hw (okR_of (by simp only [okRl, List.length_cons, List.length_nil, and_true, Nat.lt_eq]; first | done | omega) (by simp only [okRs, List.length_cons, List.length_nil, and_true, Nat.lt_eq]; first | done | omega)) (Nat.le_of_ble_eq_true rfl) (Nat.le_of_ble_eq_true rfl) (fun hw => ?_)
  refine ev_putRT (L' := [_, _, _, _]) (k := 0) fr_X7_20 rfl rfl dX7_init_23 ha rfl rfl (fun _ => rfl) (fun _ => rfl) (by simp only [List.length_cons, List.length_nil]; omega) rfl hw (fun hw => ?_)
  refine ev_aload_n dX7_init_26 rfl ?_
  refine ev_bipush (v := (12 : Int32)) dX7_init_27 (by decide) ?_
  refine ev_newaT (N := 12) (q := a + 4) (L' := [_, _, _, _, _]) dX7_init_29 (by decide) (by decide) (by decide) (by rw [ha]; rfl) rfl hw (okR_of (by simp only [okRl, List.length_cons, List.length_nil, and_true, Nat.lt_eq]; first | done | omega) (by simp only [okRs, List.length_cons, List.length_nil, and_true, Nat.lt_eq]; first | done | omega)) (Nat.le_of_ble_eq_true rfl) (Nat.le_of_ble_eq_true rfl) (fun hw => ?_)
  refine ev_putRT (L' := [_, _, _, _, _]) (k := 0) fr_X7_23 rfl rfl dX7_init_31 ha rfl rfl (fun _ => rfl) (fun _ => rfl) (by simp only [List.length_cons, List.length_nil]; omega) rfl hw (fun hw => ?_)
  refine ev_aload_n dX7_init_34 rfl ?_
  refine ev_bipush (v := (12 : Int32)) dX7_init_35 (by decide) ?_
  refine ev_newaT (N := 12) (q := a + 5) (L' := [_, _, _, _, _, _]) dX7_init_37 (by decide) (by decide) (by decide) (by rw [ha]; rfl) rfl hw (okR_of (by simp only [okRl, List.length_cons, List.length_nil, and_true, Nat.lt_eq]; first | done | omega) (by simp only [okRs, List.length_cons, List.length_nil, and_true, Nat.lt_eq]; first | done | omega)) (Nat.le_of_ble_eq_true rfl) (Nat.le_of_ble_eq_true rfl) (fun hw => ?_)
  refine ev_putRT (L' := [_, _, _, _, _, _]) (k := 0) fr_X7_26 rfl rfl dX7_init_39 ha rfl rfl (fun _ => rfl) (fun _ => rfl) (by simp only [List.length_cons, List.length_nil]; omega) rfl hw (fun hw => ?_)
  refine ev_aload_n dX7_init_42 rfl ?_
  refine ev_aload_n dX7_init_43 rfl ?_
  refine ev_putRT (L' := [_, _, _, _, _, _]) (k := 0) fr_X7_29 rfl rfl dX7_init_44 ha rfl rfl (fun _ => rfl) (fun _ => rfl) (by simp only [List.length_cons, List.length_nil]; omega) rfl hw (fun hw => ?_)
  exact ev_vret rfl (Nat.le_of_ble_eq_true rfl) (Nat.le_of_ble_eq_true rfl) dX7_init_47 (ctP_i hw h)
def full_X4 (a : Nat ) : List Shp := [.inr (.inr (4, [some (some (a + 1)), some (some (a + 2)), some (some (a + 3)), some (some (a + 4)), none, none])), .inl 216, .inl 216, .inl 216, .inl 16]
def f_X4_init_L41 (G : Nat) (a : Nat)  : Nat → Int32 → Mem → Option Mem
  | 0, _, _ => none
  | g + 1, v1, μ =>
  (if (216 : Int32) ≤ v1 then
  (let m6 := wr μ a 4 (-2 : Int32)
  (let m7 := wr m6 a 5 (-2 : Int32)
  some m7))
  else
  chk v1 216 (let m8 := wr μ (a + 1) (ix v1) (((sl (1 : Int32) (v1 / (36 : Int32))) ||| (sl (1 : Int32) ((6 : Int32) + (irm (v1 / (6 : Int32)) (6 : Int32))))) ||| (sl (1 : Int32) ((12 : Int32) + (irm v1 (6 : Int32)))))
  chk v1 216 (let m10 := wr m8 (a + 2) (ix v1) (f_X4_oneMore (f_X4_oneMore (f_X4_oneMore (0 : Int32) (v1 / (36 : Int32))) (irm (v1 / (6 : Int32)) (6 : Int32))) (irm v1 (6 : Int32)))
  (f_X4_init_L41 G a g) (v1 + (1 : Int32)) m10)))
set_option maxHeartbeats 8000000 in
set_option maxRecDepth 100000 in
theorem f_X4_init_L41_ok {pre : List Shp} {G : Nat} {a : Nat} {μr : Mem} (ha : pre.length = a) (hw : wfS (pre ++ [.inr (.inr (4, [some (some (a + 1)), some (some (a + 2)), some (some (a + 3)), some (some (a + 4)), none, none])), .inl 216, .inl 216, .inl 216, .inl 16]))   : ∀ (g : Nat) (v1 : Int32) (μ : Mem), f_X4_init_L41 G a g v1 μ = some μr → Ev RX4 cX4_init 5 none true 2 4 664 (ctP (pre ++ full_X4 a) μr) 41 [some (.ref a), some (.int v1), none, none, none] [] (pre ++ [.inr (.inr (4, [some (some (a + 1)), some (some (a + 2)), some (some (a + 3)), some (some (a + 4)), none, none])), .inl 216, .inl 216, .inl 216, .inl 16]) μ 4 664 := by
  intro g
  induction g with
  | zero =>
    intro v1 μ h
    cases h
  | succ g ih =>
    intro v1 μ h
    rw [f_X4_init_L41] at h
    refine ev_iload_n dX4_init_41 rfl ?_
    refine ev_sipush (v := (216 : Int32)) dX4_init_42 (by decide) ?_
    refine ev_icmp_ge (tgt := 117) dX4_init_45 (by decide) (fun hc5 => ?_) (fun hc5 => ?_)
    · replace h := ite_t hc5 h
      refine ev_aload_n dX4_init_117 rfl ?_
      refine ev_bipush (v := (-2 : Int32)) dX4_init_118 (by decide) ?_
      refine ev_putI fr_X4_28 (tlg (k := 0) ha rfl) rfl rfl rfl dX4_init_120 ?_
      refine ev_aload_n dX4_init_123 rfl ?_
      refine ev_bipush (v := (-2 : Int32)) dX4_init_124 (by decide) ?_
      refine ev_putI fr_X4_32 (tlg (k := 0) ha rfl) rfl rfl rfl dX4_init_126 ?_
      exact ev_vret rfl (Nat.le_of_ble_eq_true rfl) (Nat.le_of_ble_eq_true rfl) dX4_init_129 (ctP_i hw h)
    · replace h := ite_f hc5 h
      refine ev_iload_n dX4_init_48 rfl ?_
      refine ev_bipush (v := (36 : Int32)) dX4_init_49 (by decide) ?_
      refine ev_idiv dX4_init_51 (by decide) ?_
      refine ev_istore_n (loc' := [_, _, _, _, _]) dX4_init_52 rfl (by decide) (by rfl) ?_
      refine ev_iload_n dX4_init_53 rfl ?_
      refine ev_bipush (v := (6 : Int32)) dX4_init_54 (by decide) ?_
      refine ev_idiv dX4_init_56 (by decide) ?_
      refine ev_bipush (v := (6 : Int32)) dX4_init_57 (by decide) ?_
      refine ev_irem dX4_init_59 (by decide) ?_
      refine ev_istore_n (loc' := [_, _, _, _, _]) dX4_init_60 rfl (by decide) (by rfl) ?_
      refine ev_iload_n dX4_init_61 rfl ?_
      refine ev_bipush (v := (6 : Int32)) dX4_init_62 (by decide) ?_
      refine ev_irem dX4_init_64 (by decide) ?_
      refine ev_istore (loc' := [_, _, _, _, _]) dX4_init_65 rfl (by decide) (by rfl) ?_
      refine ev_aload_n dX4_init_67 rfl ?_
      refine ev_getR fr_X4_11 (tlg (k := 0) ha rfl) rfl dX4_init_68 ?_
      refine ev_iload_n dX4_init_71 rfl ?_
      refine ev_iconst (v := (1 : Int32)) dX4_init_72 (by decide) ?_
      refine ev_iload_n dX4_init_73 rfl ?_
      refine ev_ishl dX4_init_74 ?_
      refine ev_iconst (v := (1 : Int32)) dX4_init_75 (by decide) ?_
      refine ev_bipush (v := (6 : Int32)) dX4_init_76 (by decide) ?_
      refine ev_iload_n dX4_init_78 rfl ?_
      refine ev_iadd dX4_init_79 ?_
      refine ev_ishl dX4_init_80 ?_
      refine ev_ior dX4_init_81 ?_
      refine ev_iconst (v := (1 : Int32)) dX4_init_82 (by decide) ?_
      refine ev_bipush (v := (12 : Int32)) dX4_init_83 (by decide) ?_
      refine ev_iload dX4_init_85 rfl ?_
      refine ev_iadd dX4_init_87 ?_
      refine ev_ishl dX4_init_88 ?_
      refine ev_ior dX4_init_89 ?_
      obtain ⟨hi9, h⟩ := chk_t h
      refine ev_iast (tlg (k := 1) ha rfl) hi9 dX4_init_90 ?_
      refine ev_aload_n dX4_init_91 rfl ?_
      refine ev_getR fr_X4_15 (tlg (k := 0) ha rfl) rfl dX4_init_92 ?_
      refine ev_iload_n dX4_init_95 rfl ?_
      refine ev_iconst (v := (0 : Int32)) dX4_init_96 (by decide) ?_
      refine ev_iload_n dX4_init_97 rfl ?_
      refine ev_cSi mv_X4_24 dX4_init_98 c_X4_oneMoreS rfl rfl (Nat.le_of_ble_eq_true rfl) (by rfl) (Nat.le_of_ble_eq_true rfl) (Nat.le_of_ble_eq_true rfl) (Nat.le_of_ble_eq_true rfl) ?_
      refine ev_iload_n dX4_init_101 rfl ?_
      refine ev_cSi mv_X4_24 dX4_init_102 c_X4_oneMoreS rfl rfl (Nat.le_of_ble_eq_true rfl) (by rfl) (Nat.le_of_ble_eq_true rfl) (Nat.le_of_ble_eq_true rfl) (Nat.le_of_ble_eq_true rfl) ?_
      refine ev_iload dX4_init_105 rfl ?_
      refine ev_cSi mv_X4_24 dX4_init_107 c_X4_oneMoreS rfl rfl (Nat.le_of_ble_eq_true rfl) (by rfl) (Nat.le_of_ble_eq_true rfl) (Nat.le_of_ble_eq_true rfl) (Nat.le_of_ble_eq_true rfl) ?_
      obtain ⟨hi11, h⟩ := chk_t h
      refine ev_iast (tlg (k := 2) ha rfl) hi11 dX4_init_110 ?_
      refine ev_iinc (cq := (1 : Int32)) (loc' := [_, _, _, _, _]) dX4_init_111 rfl (by decide) rfl (by decide) (by rfl) ?_
      refine ev_goto (tgt := 41) dX4_init_114 (by decide) ?_
      exact ev_lt (ih _ _ h) ⟨rfl, ⟨rfl, trivial⟩⟩
def f_X4_init (G : Nat) (a : Nat) (μ : Mem) : Option Mem :=
  (let m1 := zr μ (a + 1)
  (let m2 := zr m1 (a + 2)
  (let m3 := zr m2 (a + 3)
  (let m4 := zr m3 (a + 4)
  f_X4_init_L41 G a G (0 : Int32) m4))))
set_option maxHeartbeats 8000000 in
set_option maxRecDepth 100000 in
theorem c_X4_init {pre : List Shp} {G : Nat} {a : Nat} {μ : Mem} {μr : Mem} (ha : pre.length = a) (hw : wfS (pre ++ [.inr (.inr (4, [some none, some none, some none, some none, none, none]))])) (h : f_X4_init G a μ = some μr) : Cn yX4_init cX4_init 5 none 2 4 664 [.ref a] (pre ++ [.inr (.inr (4, [some none, some none, some none, some none, none, none]))]) μ (ctP (pre ++ full_X4 a) μr) := by
  refine cn_of (own := RX4) (ini := true) (loc := [some (.ref a), none, none, none, none]) rfl (by decide) (fun _ => rfl) (Nat.le_of_ble_eq_true rfl) (by rfl) rfl ?_
  unfold f_X4_init at h
  refine ev_aload_n dX4_init_0 rfl ?_
  refine ev_objInit ml_X4_3 w_oi1 w_oi2 dX4_init_1 (Nat.le_of_ble_eq_true rfl) (by rfl) (Nat.le_of_ble_eq_true rfl) ?_
  refine ev_aload_n dX4_init_4 rfl ?_
  refine ev_sipush (v := (216 : Int32)) dX4_init_5 (by decide) ?_
  refine ev_newaT (N := 216) (q := a + 1) (L' := [_, _]) dX4_init_8 (by decide) (by decide) (by decide) (by rw [ha]; rfl) rfl hw (okR_of (by simp only [okRl, List.length_cons, List.length_nil, and_true, Nat.lt_eq]; first | done | omega) (by simp only [okRs, List.length_cons, List.length_nil, and_true, Nat.lt_eq]; first | done | omega)) (Nat.le_of_ble_eq_true rfl) (Nat.le_of_ble_eq_true rfl) (fun hw => ?_)
  refine ev_putRT (L' := [_, _]) (k := 0) fr_X4_11 rfl rfl dX4_init_10 ha rfl rfl (fun _ => rfl) (fun _ => rfl) (by simp only [List.length_cons, List.length_nil]; omega) rfl hw (fun hw => ?_)
  refine ev_aload_n dX4_init_13 rfl ?_
  refine ev_sipush (v := (216 : Int32)) dX4_init_14 (by decide) ?_
  refine ev_newaT (N := 216) (q := a + 2) (L' := [_, _, _]) dX4_init_17 (by decide) (by decide) (by decide) (by rw [ha]; rfl) rfl hw (okR_of (by simp only [okRl, List.length_cons, List.length_nil, and_true, Nat.lt_eq]; first | done | omega) (by simp only [okRs, List.length_cons, List.length_nil, and_true, Nat.lt_eq]; first | done | omega)) (Nat.le_of_ble_eq_true rfl) (Nat.le_of_ble_eq_true rfl) (fun hw => ?_)
  refine ev_putRT (L' := [_, _, _]) (k := 0) fr_X4_15 rfl rfl dX4_init_19 ha rfl rfl (fun _ => rfl) (fun _ => rfl) (by simp only [List.length_cons, List.length_nil]; omega) rfl hw (fun hw => ?_)
  refine ev_aload_n dX4_init_22 rfl ?_
  refine ev_sipush (v := (216 : Int32)) dX4_init_23 (by decide) ?_
  refine ev_newaT (N := 216) (q := a + 3) (L' := [_, _, _, _]) dX4_init_26 (by decide) (by decide) (by decide) (by rw [ha]; rfl) rfl hw (okR_of (by simp only [okRl, List.length_cons, List.length_nil, and_true, Nat.lt_eq]; first | done | omega) (by simp only [okRs, List.length_cons, List.length_nil, and_true, Nat.lt_eq]; first | done | omega)) (Nat.le_of_ble_eq_true rfl) (Nat.le_of_ble_eq_true rfl) (fun hw => ?_)
  refine ev_putRT (L' := [_, _, _, _]) (k := 0) fr_X4_18 rfl rfl dX4_init_28 ha rfl rfl (fun _ => rfl) (fun _ => rfl) (by simp only [List.length_cons, List.length_nil]; omega) rfl hw (fun hw => ?_)
  refine ev_aload_n dX4_init_31 rfl ?_
  refine ev_bipush (v := (16 : Int32)) dX4_init_32 (by decide) ?_
  refine ev_newaT (N := 16) (q := a + 4) (L' := [_, _, _, _, _]) dX4_init_34 (by decide) (by decide) (by decide) (by rw [ha]; rfl) rfl hw (okR_of (by simp only [okRl, List.length_cons, List.length_nil, and_true, Nat.lt_eq]; first | done | omega) (by simp only [okRs, List.length_cons, List.length_nil, and_true, Nat.lt_eq]; first | done | omega)) (Nat.le_of_ble_eq_true rfl) (Nat.le_of_ble_eq_true rfl) (fun hw => ?_)
  refine ev_putRT (L' := [_, _, _, _, _]) (k := 0) fr_X4_21 rfl rfl dX4_init_36 ha rfl rfl (fun _ => rfl) (fun _ => rfl) (by simp only [List.length_cons, List.length_nil]; omega) rfl hw (fun hw => ?_)
  refine ev_iconst (v := (0 : Int32)) dX4_init_39 (by decide) ?_
  refine ev_istore_n (loc' := [_, _, _, _, _]) dX4_init_40 rfl (by decide) (by rfl) ?_
  exact ev_lt (f_X4_init_L41_ok ha hw _ _ _ h) ⟨rfl, ⟨rfl, trivial⟩⟩
end
