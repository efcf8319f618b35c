section
def f_X11_isBelow  (p1 p2 : Int32) : Int32 :=
  (if p1 < (0 : Int32) then
  (0 : Int32)
  else
  (if p2 ≤ p1 then
  (0 : Int32)
  else
  (1 : Int32)))
set_option maxHeartbeats 4000000 in
set_option maxRecDepth 100000 in
theorem c_X11_isBelow {sh : List Shp}  {μ : Mem} {p1 p2 : Int32}  : Cn yX11_isBelow cX11_isBelow 2 (some .boolean) 1 0 0 [.int p1, .int p2] sh μ (eqP (some (f_X11_isBelow p1 p2)) sh μ) := by
  obtain ⟨r, h⟩ : ∃ r, f_X11_isBelow p1 p2 = r := ⟨_, rfl⟩
  rw [h]
  refine cn_of (own := RX11) (ini := false) (loc := [some (.int p1), some (.int p2)]) rfl (by decide) (fun q => by cases q) (Nat.le_of_ble_eq_true rfl) (by rfl) rfl ?_
  unfold f_X11_isBelow at h
  refine ev_iload_n dX11_isBelow_0 rfl ?_
  refine ev_if_lt (tgt := 13) dX11_isBelow_1 (by decide) (fun hc1 => ?_) (fun hc1 => ?_)
  · replace h := ite_t hc1 h
    refine ev_iconst (v := (0 : Int32)) dX11_isBelow_13 (by decide) ?_
    exact ev_iret rfl rfl (by decide) (by decide) dX11_isBelow_14 (eqP_P h)
  · replace h := ite_f hc1 h
    refine ev_iload_n dX11_isBelow_4 rfl ?_
    refine ev_iload_n dX11_isBelow_5 rfl ?_
    refine ev_icmp_ge (tgt := 13) dX11_isBelow_6 (by decide) (fun hc2 => ?_) (fun hc2 => ?_)
    · replace h := ite_t hc2 h
      refine ev_iconst (v := (0 : Int32)) dX11_isBelow_13 (by decide) ?_
      exact ev_iret rfl rfl (by decide) (by decide) dX11_isBelow_14 (eqP_P h)
    · replace h := ite_f hc2 h
      refine ev_iconst (v := (1 : Int32)) dX11_isBelow_9 (by decide) ?_
      refine ev_goto (tgt := 14) dX11_isBelow_10 (by decide) ?_
      exact ev_iret rfl rfl (by decide) (by decide) dX11_isBelow_14 (eqP_P h)
def f_X8_copyFrom (G : Nat) (a : Nat) (b : Nat) (μ : Mem) : Option Mem :=
  (let m1 := cpy μ (b + 1) (a + 1) (ix (0 : Int32)) (ix (0 : Int32)) (ix (12 : Int32))
  (let m2 := cpy m1 (b + 2) (a + 2) (ix (0 : Int32)) (ix (0 : Int32)) (ix (8 : Int32))
  (let m3 := cpy m2 (b + 3) (a + 3) (ix (0 : Int32)) (ix (0 : Int32)) (ix (8 : Int32))
  (let m4 := cpy m3 (b + 4) (a + 4) (ix (0 : Int32)) (ix (0 : Int32)) (ix (8 : Int32))
  (let m5 := cpy m4 (b + 5) (a + 5) (ix (0 : Int32)) (ix (0 : Int32)) (ix (8 : Int32))
  (let m6 := wr m5 a 5 (m5 b 5)
  (let m7 := wr m6 a 6 (m6 b 6)
  (let m8 := wr m7 a 7 (m7 b 7)
  (let m9 := wr m8 a 8 (m8 b 8)
  some m9)))))))))
set_option maxHeartbeats 4000000 in
set_option maxRecDepth 100000 in
theorem c_X8_copyFrom {sh : List Shp} {G : Nat} {a : Nat} {b : Nat} {μ : Mem} {μr : Mem} (ha : At_X8 sh a) (hb : At_X8 sh b) (h : f_X8_copyFrom G a b μ = some μr) : Cn yX8_copyFrom cX8_copyFrom 2 none 2 0 0 [.ref a, .ref b] sh μ (eqP none sh μr) := by
  refine cn_of (own := RX8) (ini := false) (loc := [some (.ref a), some (.ref b)]) rfl (by decide) (fun q => by cases q) (Nat.le_of_ble_eq_true rfl) (by rfl) rfl ?_
  unfold f_X8_copyFrom at h
  refine ev_aload_n dX8_copyFrom_0 rfl ?_
  refine ev_getR fr_X8_9 (hb.1) rfl dX8_copyFrom_1 ?_
  refine ev_iconst (v := (0 : Int32)) dX8_copyFrom_4 (by decide) ?_
  refine ev_aload_n dX8_copyFrom_5 rfl ?_
  refine ev_getR fr_X8_9 (ha.1) rfl dX8_copyFrom_6 ?_
  refine ev_iconst (v := (0 : Int32)) dX8_copyFrom_9 (by decide) ?_
  refine ev_bipush (v := (12 : Int32)) dX8_copyFrom_10 (by decide) ?_
  refine ev_cpy mc_X8_33 (hb.2.1) (ha.2.1) (by decide) (by decide) (by decide) (by decide) (by decide) dX8_copyFrom_12 (Nat.le_of_ble_eq_true rfl) (by rfl) (Nat.le_of_ble_eq_true rfl) ?_
  refine ev_aload_n dX8_copyFrom_15 rfl ?_
  refine ev_getR fr_X8_15 (hb.1) rfl dX8_copyFrom_16 ?_
  refine ev_iconst (v := (0 : Int32)) dX8_copyFrom_19 (by decide) ?_
  refine ev_aload_n dX8_copyFrom_20 rfl ?_
  refine ev_getR fr_X8_15 (ha.1) rfl dX8_copyFrom_21 ?_
  refine ev_iconst (v := (0 : Int32)) dX8_copyFrom_24 (by decide) ?_
  refine ev_bipush (v := (8 : Int32)) dX8_copyFrom_25 (by decide) ?_
  refine ev_cpy mc_X8_33 (hb.2.2.1) (ha.2.2.1) (by decide) (by decide) (by decide) (by decide) (by decide) dX8_copyFrom_27 (Nat.le_of_ble_eq_true rfl) (by rfl) (Nat.le_of_ble_eq_true rfl) ?_
  refine ev_aload_n dX8_copyFrom_30 rfl ?_
  refine ev_getR fr_X8_18 (hb.1) rfl dX8_copyFrom_31 ?_
  refine ev_iconst (v := (0 : Int32)) dX8_copyFrom_34 (by decide) ?_
  refine ev_aload_n dX8_copyFrom_35 rfl ?_
  refine ev_getR fr_X8_18 (ha.1) rfl dX8_copyFrom_36 ?_
  refine ev_iconst (v := (0 : Int32)) dX8_copyFrom_39 (by decide) ?_
  refine ev_bipush (v := (8 : Int32)) dX8_copyFrom_40 (by decide) ?_
  refine ev_cpy mc_X8_33 (hb.2.2.2.1) (ha.2.2.2.1) (by decide) (by decide) (by decide) (by decide) (by decide) dX8_copyFrom_42 (Nat.le_of_ble_eq_true rfl) (by rfl) (Nat.le_of_ble_eq_true rfl) ?_
  refine ev_aload_n dX8_copyFrom_45 rfl ?_
  refine ev_getR fr_X8_21 (hb.1) rfl dX8_copyFrom_46 ?_
  refine ev_iconst (v := (0 : Int32)) dX8_copyFrom_49 (by decide) ?_
  refine ev_aload_n dX8_copyFrom_50 rfl ?_
  refine ev_getR fr_X8_21 (ha.1) rfl dX8_copyFrom_51 ?_
  refine ev_iconst (v := (0 : Int32)) dX8_copyFrom_54 (by decide) ?_
  refine ev_bipush (v := (8 : Int32)) dX8_copyFrom_55 (by decide) ?_
  refine ev_cpy mc_X8_33 (hb.2.2.2.2.1) (ha.2.2.2.2.1) (by decide) (by decide) (by decide) (by decide) (by decide) dX8_copyFrom_57 (Nat.le_of_ble_eq_true rfl) (by rfl) (Nat.le_of_ble_eq_true rfl) ?_
  refine ev_aload_n dX8_copyFrom_60 rfl ?_
  refine ev_getR fr_X8_24 (hb.1) rfl dX8_copyFrom_61 ?_
  refine ev_iconst (v := (0 : Int32)) dX8_copyFrom_64 (by decide) ?_
  refine ev_aload_n dX8_copyFrom_65 rfl ?_
  refine ev_getR fr_X8_24 (ha.1) rfl dX8_copyFrom_66 ?_
  refine ev_iconst (v := (0 : Int32)) dX8_copyFrom_69 (by decide) ?_
  refine ev_bipush (v := (8 : Int32)) dX8_copyFrom_70 (by decide) ?_
  refine ev_cpy mc_X8_33 (hb.2.2.2.2.2) (ha.2.2.2.2.2) (by decide) (by decide) (by decide) (by decide) (by decide) dX8_copyFrom_72 (Nat.le_of_ble_eq_true rfl) (by rfl) (Nat.le_of_ble_eq_true rfl) ?_
  refine ev_aload_n dX8_copyFrom_75 rfl ?_
  refine ev_aload_n dX8_copyFrom_76 rfl ?_
  refine ev_getI fr_X8_39 (hb.1) rfl dX8_copyFrom_77 ?_
  refine ev_putI fr_X8_39 (ha.1) rfl rfl rfl dX8_copyFrom_80 ?_
  refine ev_aload_n dX8_copyFrom_83 rfl ?_
  refine ev_aload_n dX8_copyFrom_84 rfl ?_
  refine ev_getI fr_X8_43 (hb.1) rfl dX8_copyFrom_85 ?_
  refine ev_putI fr_X8_43 (ha.1) rfl rfl rfl dX8_copyFrom_88 ?_
  refine ev_aload_n dX8_copyFrom_91 rfl ?_
  refine ev_aload_n dX8_copyFrom_92 rfl ?_
  refine ev_getI fr_X8_46 (hb.1) rfl dX8_copyFrom_93 ?_
  refine ev_putI fr_X8_46 (ha.1) rfl rfl rfl dX8_copyFrom_96 ?_
  refine ev_aload_n dX8_copyFrom_99 rfl ?_
  refine ev_aload_n dX8_copyFrom_100 rfl ?_
  refine ev_getI fr_X8_49 (hb.1) rfl dX8_copyFrom_101 ?_
  refine ev_putI fr_X8_49 (ha.1) rfl rfl rfl dX8_copyFrom_104 ?_
  exact ev_vret rfl (by decide) (by decide) dX8_copyFrom_107 (eqP_V h)
def f_X3_keep (G : Nat) (μ : Mem) : Option Mem :=
  (if (f_X11_isBelow (μ 54 2) (6 : Int32)) = (0 : Int32) then
  some μ
  else
  chk (μ 54 2) 6 (bndV (f_X8_copyFrom G (57 + 6 * ix (μ 54 2)) 2 μ) (fun m4 =>
  chk (m4 54 2) 6 (let m5 := wr m4 56 (ix (m4 54 2)) (m4 26 3)
  (let m7 := wr m5 54 2 (irm ((m5 54 2) + (1 : Int32)) (6 : Int32))
  (let m8 := wr m7 54 3 (imin ((m7 54 3) + (1 : Int32)) (6 : Int32))
  some m8))))))
set_option maxHeartbeats 4000000 in
set_option maxRecDepth 100000 in
theorem c_X3_keep {bb : Bool} {G : Nat} {μ : Mem} {μr : Mem}  (h : f_X3_keep G μ = some μr) : Cn yX3_keep cX3_keep 3 none 3 0 0 [.ref 54, .ref 1] (shC bb) μ (eqP none (shC bb) μr) := by
  refine cn_of (own := RX3) (ini := false) (loc := [some (.ref 54), some (.ref 1), none]) rfl (by decide) (fun q => by cases q) (Nat.le_of_ble_eq_true rfl) (by rfl) rfl ?_
  unfold f_X3_keep at h
  refine ev_aload_n dX3_keep_0 rfl ?_
  refine ev_getI fr_X3_26 shC_54 rfl dX3_keep_1 ?_
  refine ev_bipush (v := (6 : Int32)) dX3_keep_4 (by decide) ?_
  refine ev_cNi mv_X3_29 dX3_keep_6 c_X11_isBelow rfl rfl (Nat.le_of_ble_eq_true rfl) (by rfl) (Nat.le_of_ble_eq_true rfl) (Nat.le_of_ble_eq_true rfl) (Nat.le_of_ble_eq_true rfl) ?_
  refine ev_if_eq (tgt := 24) dX3_keep_9 (by decide) (fun hc1 => ?_) (fun hc1 => ?_)
  · replace h := ite_t hc1 h
    refine ev_null dX3_keep_24 ?_
    refine ev_astore_nN (loc' := [_, _, _]) dX3_keep_25 rfl (by decide) (by rfl) ?_
    refine ev_aload_nN dX3_keep_26 rfl ?_
    refine ev_nonnullN dX3_keep_27 ?_
    exact ev_vret rfl (by decide) (by decide) dX3_keep_30 (eqP_V h)
  · replace h := ite_f hc1 h
    refine ev_aload_n dX3_keep_12 rfl ?_
    refine ev_getR fr_X3_11 shC_54 rfl dX3_keep_13 ?_
    refine ev_aload_n dX3_keep_16 rfl ?_
    refine ev_getI fr_X3_26 shC_54 rfl dX3_keep_17 ?_
    obtain ⟨hi2, h⟩ := chk_t h
    refine ev_aald shC_55 hi2 (pastF_at hi2) dX3_keep_20 ?_
    refine ev_goto (tgt := 25) dX3_keep_21 (by decide) ?_
    refine ev_astore_n (loc' := [_, _, _]) dX3_keep_25 rfl (by decide) (by rfl) ?_
    refine ev_aload_n dX3_keep_26 rfl ?_
    refine ev_nonnull (tgt := 31) dX3_keep_27 (by decide) ?_
    refine ev_aload_n dX3_keep_31 rfl ?_
    refine ev_aload_n dX3_keep_32 rfl ?_
    refine ev_getR fr_X3_33 shC_1 rfl dX3_keep_33 ?_
    obtain ⟨m4, hq3, h⟩ := bndV_t h
    refine ev_cVv mv_X3_39 dX3_keep_36 (c_X8_copyFrom (pastAt hi2) atC_2 hq3) rfl (pastAt hi2).1 rfl rfl (Nat.le_of_ble_eq_true rfl) (by rfl) (Nat.le_of_ble_eq_true rfl) (Nat.le_of_ble_eq_true rfl) (Nat.le_of_ble_eq_true rfl) ?_
    refine ev_aload_n dX3_keep_39 rfl ?_
    refine ev_getR fr_X3_17 shC_54 rfl dX3_keep_40 ?_
    refine ev_aload_n dX3_keep_43 rfl ?_
    refine ev_getI fr_X3_26 shC_54 rfl dX3_keep_44 ?_
    refine ev_aload_n dX3_keep_47 rfl ?_
    refine ev_getR fr_X3_43 shC_1 rfl dX3_keep_48 ?_
    refine ev_getI fr_X3_47 shC_26 rfl dX3_keep_51 ?_
    obtain ⟨hi6, h⟩ := chk_t h
    refine ev_iast shC_56 hi6 dX3_keep_54 ?_
    refine ev_aload_n dX3_keep_55 rfl ?_
    refine ev_aload_n dX3_keep_56 rfl ?_
    refine ev_getI fr_X3_26 shC_54 rfl dX3_keep_57 ?_
    refine ev_iconst (v := (1 : Int32)) dX3_keep_60 (by decide) ?_
    refine ev_iadd dX3_keep_61 ?_
    refine ev_bipush (v := (6 : Int32)) dX3_keep_62 (by decide) ?_
    refine ev_irem dX3_keep_64 (by decide) ?_
    refine ev_putI fr_X3_26 shC_54 rfl rfl rfl dX3_keep_65 ?_
    refine ev_aload_n dX3_keep_68 rfl ?_
    refine ev_aload_n dX3_keep_69 rfl ?_
    refine ev_getI fr_X3_22 shC_54 rfl dX3_keep_70 ?_
    refine ev_iconst (v := (1 : Int32)) dX3_keep_73 (by decide) ?_
    refine ev_iadd dX3_keep_74 ?_
    refine ev_bipush (v := (6 : Int32)) dX3_keep_75 (by decide) ?_
    refine ev_min mm_X3_50 dX3_keep_77 (Nat.le_of_ble_eq_true rfl) (by rfl) (Nat.le_of_ble_eq_true rfl) (Nat.le_of_ble_eq_true rfl) (Nat.le_of_ble_eq_true rfl) ?_
    refine ev_putI fr_X3_22 shC_54 rfl rfl rfl dX3_keep_80 ?_
    exact ev_vret rfl (by decide) (by decide) dX3_keep_83 (eqP_V h)
def f_X11_held  (p1 p2 p3 : Int32) : Int32 :=
  (imax p2 (imin p3 p1))
set_option maxHeartbeats 4000000 in
set_option maxRecDepth 100000 in
theorem c_X11_held {sh : List Shp}  {μ : Mem} {p1 p2 p3 : Int32}  : Cn yX11_held cX11_held 3 (some .int) 2 0 0 [.int p1, .int p2, .int p3] sh μ (eqP (some (f_X11_held p1 p2 p3)) sh μ) := by
  obtain ⟨r, h⟩ : ∃ r, f_X11_held p1 p2 p3 = r := ⟨_, rfl⟩
  rw [h]
  refine cn_of (own := RX11) (ini := false) (loc := [some (.int p1), some (.int p2), some (.int p3)]) rfl (by decide) (fun q => by cases q) (Nat.le_of_ble_eq_true rfl) (by rfl) rfl ?_
  unfold f_X11_held at h
  refine ev_iload_n dX11_held_0 rfl ?_
  refine ev_iload_n dX11_held_1 rfl ?_
  refine ev_iload_n dX11_held_2 rfl ?_
  refine ev_min mm_X11_378 dX11_held_3 (Nat.le_of_ble_eq_true rfl) (by rfl) (Nat.le_of_ble_eq_true rfl) (Nat.le_of_ble_eq_true rfl) (Nat.le_of_ble_eq_true rfl) ?_
  refine ev_max mm_X11_383 dX11_held_6 (Nat.le_of_ble_eq_true rfl) (by rfl) (Nat.le_of_ble_eq_true rfl) (Nat.le_of_ble_eq_true rfl) (Nat.le_of_ble_eq_true rfl) ?_
  exact ev_iret rfl rfl (by decide) (by decide) dX11_held_9 (eqP_P h)
def f_X2_cutTo (G : Nat) (a : Nat) (n_a : Nat) (p1 : Int32) (μ : Mem) : Option Mem :=
  (let m1 := wr μ a 3 (f_X11_held p1 (0 : Int32) (μ a 3))
  some m1)
set_option maxHeartbeats 4000000 in
set_option maxRecDepth 100000 in
theorem c_X2_cutTo {sh : List Shp} {G : Nat} {a : Nat} {n_a : Nat} {μ : Mem} {p1 : Int32} {μr : Mem} (ha : At_X2 sh a n_a) (h : f_X2_cutTo G a n_a p1 μ = some μr) : Cn yX2_cutTo cX2_cutTo 2 none 3 0 0 [.ref a, .int p1] sh μ (eqP none sh μr) := by
  refine cn_of (own := RX2) (ini := false) (loc := [some (.ref a), some (.int p1)]) rfl (by decide) (fun q => by cases q) (Nat.le_of_ble_eq_true rfl) (by rfl) rfl ?_
  unfold f_X2_cutTo at h
  refine ev_aload_n dX2_cutTo_0 rfl ?_
  refine ev_iload_n dX2_cutTo_1 rfl ?_
  refine ev_iconst (v := (0 : Int32)) dX2_cutTo_2 (by decide) ?_
  refine ev_aload_n dX2_cutTo_3 rfl ?_
  refine ev_getI fr_X2_28 (ha.1) rfl dX2_cutTo_4 ?_
  refine ev_cNi mv_X2_43 dX2_cutTo_7 c_X11_held rfl rfl (Nat.le_of_ble_eq_true rfl) (by rfl) (Nat.le_of_ble_eq_true rfl) (Nat.le_of_ble_eq_true rfl) (Nat.le_of_ble_eq_true rfl) ?_
  refine ev_putI fr_X2_28 (ha.1) rfl rfl rfl dX2_cutTo_10 ?_
  exact ev_vret rfl (by decide) (by decide) dX2_cutTo_13 (eqP_V h)
def f_X3_goBack (G : Nat) (μ : Mem) : Option (Int32 × Mem) :=
  (if (μ 54 3) = (0 : Int32) then
  some ((0 : Int32), μ)
  else
  (let m2 := wr μ 54 2 (irm (((μ 54 2) + (6 : Int32)) - (1 : Int32)) (6 : Int32))
  (if (f_X11_isBelow (m2 54 2) (6 : Int32)) = (0 : Int32) then
  some ((0 : Int32), m2)
  else
  chk (m2 54 2) 6 ((let m5 := wr m2 54 3 ((m2 54 3) - (1 : Int32))
  bndV (f_X8_copyFrom G 2 (57 + 6 * ix (m2 54 2)) m5) (fun m7 =>
  chk (m7 54 2) 6 (bndV (f_X2_cutTo G 26 600 (m7 56 (ix (m7 54 2))) m7) (fun m10 =>
  some ((1 : Int32), m10)))))))))
set_option maxHeartbeats 4000000 in
set_option maxRecDepth 100000 in
theorem c_X3_goBack {bb : Bool} {G : Nat} {μ : Mem} {r : Int32} {μr : Mem}  (h : f_X3_goBack G μ = some (r, μr)) : Cn yX3_goBack cX3_goBack 3 (some .boolean) 4 0 0 [.ref 54, .ref 1] (shC bb) μ (eqP (some r) (shC bb) μr) := by
  refine cn_of (own := RX3) (ini := false) (loc := [some (.ref 54), some (.ref 1), none]) rfl (by decide) (fun q => by cases q) (Nat.le_of_ble_eq_true rfl) (by rfl) rfl ?_
  unfold f_X3_goBack at h
  refine ev_aload_n dX3_goBack_0 rfl ?_
  refine ev_getI fr_X3_22 shC_54 rfl dX3_goBack_1 ?_
  refine ev_if_ne (tgt := 9) dX3_goBack_4 (by decide) (fun hc1 => ?_) (fun hc1 => ?_)
  · replace h := ite_f hc1 h
    refine ev_aload_n dX3_goBack_9 rfl ?_
    refine ev_aload_n dX3_goBack_10 rfl ?_
    refine ev_getI fr_X3_26 shC_54 rfl dX3_goBack_11 ?_
    refine ev_bipush (v := (6 : Int32)) dX3_goBack_14 (by decide) ?_
    refine ev_iadd dX3_goBack_16 ?_
    refine ev_iconst (v := (1 : Int32)) dX3_goBack_17 (by decide) ?_
    refine ev_isub dX3_goBack_18 ?_
    refine ev_bipush (v := (6 : Int32)) dX3_goBack_19 (by decide) ?_
    refine ev_irem dX3_goBack_21 (by decide) ?_
    refine ev_putI fr_X3_26 shC_54 rfl rfl rfl dX3_goBack_22 ?_
    refine ev_aload_n dX3_goBack_25 rfl ?_
    refine ev_getI fr_X3_26 shC_54 rfl dX3_goBack_26 ?_
    refine ev_bipush (v := (6 : Int32)) dX3_goBack_29 (by decide) ?_
    refine ev_cNi mv_X3_29 dX3_goBack_31 c_X11_isBelow rfl rfl (Nat.le_of_ble_eq_true rfl) (by rfl) (Nat.le_of_ble_eq_true rfl) (Nat.le_of_ble_eq_true rfl) (Nat.le_of_ble_eq_true rfl) ?_
    refine ev_if_eq (tgt := 49) dX3_goBack_34 (by decide) (fun hc3 => ?_) (fun hc3 => ?_)
    · replace h := ite_t hc3 h
      refine ev_null dX3_goBack_49 ?_
      refine ev_astore_nN (loc' := [_, _, _]) dX3_goBack_50 rfl (by decide) (by rfl) ?_
      refine ev_aload_nN dX3_goBack_51 rfl ?_
      refine ev_nonnullN dX3_goBack_52 ?_
      refine ev_iconst (v := (0 : Int32)) dX3_goBack_55 (by decide) ?_
      exact ev_iret rfl rfl (by decide) (by decide) dX3_goBack_56 (eqP_E h)
    · replace h := ite_f hc3 h
      refine ev_aload_n dX3_goBack_37 rfl ?_
      refine ev_getR fr_X3_11 shC_54 rfl dX3_goBack_38 ?_
      refine ev_aload_n dX3_goBack_41 rfl ?_
      refine ev_getI fr_X3_26 shC_54 rfl dX3_goBack_42 ?_
      obtain ⟨hi4, h⟩ := chk_t h
      refine ev_aald shC_55 hi4 (pastF_at hi4) dX3_goBack_45 ?_
      refine ev_goto (tgt := 50) dX3_goBack_46 (by decide) ?_
      refine ev_astore_n (loc' := [_, _, _]) dX3_goBack_50 rfl (by decide) (by rfl) ?_
      refine ev_aload_n dX3_goBack_51 rfl ?_
      refine ev_nonnull (tgt := 57) dX3_goBack_52 (by decide) ?_
      refine ev_aload_n dX3_goBack_57 rfl ?_
      refine ev_dup dX3_goBack_58 (by rfl) ?_
      refine ev_getI fr_X3_22 shC_54 rfl dX3_goBack_59 ?_
      refine ev_iconst (v := (1 : Int32)) dX3_goBack_62 (by decide) ?_
      refine ev_isub dX3_goBack_63 ?_
      refine ev_putI fr_X3_22 shC_54 rfl rfl rfl dX3_goBack_64 ?_
      refine ev_aload_n dX3_goBack_67 rfl ?_
      refine ev_getR fr_X3_33 shC_1 rfl dX3_goBack_68 ?_
      refine ev_aload_n dX3_goBack_71 rfl ?_
      obtain ⟨m7, hq6, h⟩ := bndV_t h
      refine ev_cVv mv_X3_39 dX3_goBack_72 (c_X8_copyFrom atC_2 (pastAt hi4) hq6) rfl shC_2 rfl rfl (Nat.le_of_ble_eq_true rfl) (by rfl) (Nat.le_of_ble_eq_true rfl) (Nat.le_of_ble_eq_true rfl) (Nat.le_of_ble_eq_true rfl) ?_
      refine ev_aload_n dX3_goBack_75 rfl ?_
      refine ev_getR fr_X3_43 shC_1 rfl dX3_goBack_76 ?_
      refine ev_aload_n dX3_goBack_79 rfl ?_
      refine ev_getR fr_X3_17 shC_54 rfl dX3_goBack_80 ?_
      refine ev_aload_n dX3_goBack_83 rfl ?_
      refine ev_getI fr_X3_26 shC_54 rfl dX3_goBack_84 ?_
      obtain ⟨hi8, h⟩ := chk_t h
      refine ev_iald shC_56 hi8 dX3_goBack_87 ?_
      obtain ⟨m10, hq9, h⟩ := bndV_t h
      refine ev_cVv mv_X3_56 dX3_goBack_88 (c_X2_cutTo atC_26 hq9) rfl shC_26 rfl rfl (Nat.le_of_ble_eq_true rfl) (by rfl) (Nat.le_of_ble_eq_true rfl) (Nat.le_of_ble_eq_true rfl) (Nat.le_of_ble_eq_true rfl) ?_
      refine ev_iconst (v := (1 : Int32)) dX3_goBack_91 (by decide) ?_
      exact ev_iret rfl rfl (by decide) (by decide) dX3_goBack_92 (eqP_E h)
  · replace h := ite_t hc1 h
    refine ev_iconst (v := (0 : Int32)) dX3_goBack_7 (by decide) ?_
    exact ev_iret rfl rfl (by decide) (by decide) dX3_goBack_8 (eqP_E h)
def f_X5_advance (G : Nat) (μ : Mem) : Option Mem :=
  (if (μ 41 8) ≤ ((μ 41 9) + (1 : Int32)) then
  some μ
  else
  (if (400 : Int32) ≤ (μ 41 9) then
  some μ
  else
  (let m3 := wr μ 41 9 ((μ 41 9) + (1 : Int32))
  chk (m3 41 9) 401 ((let m5 := wr m3 41 10 (m3 43 (ix (m3 41 9)))
  some m5)))))
set_option maxHeartbeats 4000000 in
set_option maxRecDepth 100000 in
theorem c_X5_advance {bb : Bool} {G : Nat} {μ : Mem} {μr : Mem}  (h : f_X5_advance G μ = some μr) : Cn yX5_advance cX5_advance 1 none 1 0 0 [.ref 41] (shC bb) μ (eqP none (shC bb) μr) := by
  refine cn_of (own := RX5) (ini := false) (loc := [some (.ref 41)]) rfl (by decide) (fun q => by cases q) (Nat.le_of_ble_eq_true rfl) (by rfl) rfl ?_
  unfold f_X5_advance at h
  refine ev_aload_n dX5_advance_0 rfl ?_
  refine ev_getI fr_X5_62 shC_41 rfl dX5_advance_1 ?_
  refine ev_iconst (v := (1 : Int32)) dX5_advance_4 (by decide) ?_
  refine ev_iadd dX5_advance_5 ?_
  refine ev_aload_n dX5_advance_6 rfl ?_
  refine ev_getI fr_X5_88 shC_41 rfl dX5_advance_7 ?_
  refine ev_icmp_ge (tgt := 46) dX5_advance_10 (by decide) (fun hc1 => ?_) (fun hc1 => ?_)
  · replace h := ite_t hc1 h
    exact ev_vret rfl (by decide) (by decide) dX5_advance_46 (eqP_V h)
  · replace h := ite_f hc1 h
    refine ev_aload_n dX5_advance_13 rfl ?_
    refine ev_getI fr_X5_62 shC_41 rfl dX5_advance_14 ?_
    refine ev_sipush (v := (400 : Int32)) dX5_advance_17 (by decide) ?_
    refine ev_icmp_ge (tgt := 46) dX5_advance_20 (by decide) (fun hc2 => ?_) (fun hc2 => ?_)
    · replace h := ite_t hc2 h
      exact ev_vret rfl (by decide) (by decide) dX5_advance_46 (eqP_V h)
    · replace h := ite_f hc2 h
      refine ev_aload_n dX5_advance_23 rfl ?_
      refine ev_dup dX5_advance_24 (by rfl) ?_
      refine ev_getI fr_X5_62 shC_41 rfl dX5_advance_25 ?_
      refine ev_iconst (v := (1 : Int32)) dX5_advance_28 (by decide) ?_
      refine ev_iadd dX5_advance_29 ?_
      refine ev_putI fr_X5_62 shC_41 rfl rfl rfl dX5_advance_30 ?_
      refine ev_aload_n dX5_advance_33 rfl ?_
      refine ev_aload_n dX5_advance_34 rfl ?_
      refine ev_getR fr_X5_15 shC_41 rfl dX5_advance_35 ?_
      refine ev_aload_n dX5_advance_38 rfl ?_
      refine ev_getI fr_X5_62 shC_41 rfl dX5_advance_39 ?_
      obtain ⟨hi4, h⟩ := chk_t h
      refine ev_iald shC_43 hi4 dX5_advance_42 ?_
      refine ev_putI fr_X5_65 shC_41 rfl rfl rfl dX5_advance_43 ?_
      exact ev_vret rfl (by decide) (by decide) dX5_advance_46 (eqP_V h)
def f_X5_fail (G : Nat) (p1 : Int32) (μ : Mem) : Option Mem :=
  (if (μ 41 6) = (0 : Int32) then
  (let m2 := wr μ 41 6 p1
  (if (m2 41 9) < (0 : Int32) then
  (let m4 := wr m2 41 7 (-1 : Int32)
  some m4)
  else
  (if (400 : Int32) < (m2 41 9) then
  (let m6 := wr m2 41 7 (-1 : Int32)
  some m6)
  else
  chk (m2 41 9) 401 ((let m8 := wr m2 41 7 (m2 44 (ix (m2 41 9)))
  some m8)))))
  else
  some μ)
set_option maxHeartbeats 4000000 in
set_option maxRecDepth 100000 in
theorem c_X5_fail {bb : Bool} {G : Nat} {μ : Mem} {p1 : Int32} {μr : Mem}  (h : f_X5_fail G p1 μ = some μr) : Cn yX5_fail cX5_fail 2 none 1 0 0 [.ref 41, .int p1] (shC bb) μ (eqP none (shC bb) μr) := by
  refine cn_of (own := RX5) (ini := false) (loc := [some (.ref 41), some (.int p1)]) rfl (by decide) (fun q => by cases q) (Nat.le_of_ble_eq_true rfl) (by rfl) rfl ?_
  unfold f_X5_fail at h
  refine ev_aload_n dX5_fail_0 rfl ?_
  refine ev_getI fr_X5_44 shC_41 rfl dX5_fail_1 ?_
  refine ev_if_ne (tgt := 46) dX5_fail_4 (by decide) (fun hc1 => ?_) (fun hc1 => ?_)
  · replace h := ite_f hc1 h
    exact ev_vret rfl (by decide) (by decide) dX5_fail_46 (eqP_V h)
  · replace h := ite_t hc1 h
    refine ev_aload_n dX5_fail_7 rfl ?_
    refine ev_iload_n dX5_fail_8 rfl ?_
    refine ev_putI fr_X5_44 shC_41 rfl rfl rfl dX5_fail_9 ?_
    refine ev_aload_n dX5_fail_12 rfl ?_
    refine ev_aload_n dX5_fail_13 rfl ?_
    refine ev_getI fr_X5_62 shC_41 rfl dX5_fail_14 ?_
    refine ev_if_lt (tgt := 42) dX5_fail_17 (by decide) (fun hc3 => ?_) (fun hc3 => ?_)
    · replace h := ite_t hc3 h
      refine ev_iconst (v := (-1 : Int32)) dX5_fail_42 (by decide) ?_
      refine ev_putI fr_X5_37 shC_41 rfl rfl rfl dX5_fail_43 ?_
      exact ev_vret rfl (by decide) (by decide) dX5_fail_46 (eqP_V h)
    · replace h := ite_f hc3 h
      refine ev_aload_n dX5_fail_20 rfl ?_
      refine ev_getI fr_X5_62 shC_41 rfl dX5_fail_21 ?_
      refine ev_sipush (v := (400 : Int32)) dX5_fail_24 (by decide) ?_
      refine ev_icmp_gt (tgt := 42) dX5_fail_27 (by decide) (fun hc5 => ?_) (fun hc5 => ?_)
      · replace h := ite_t hc5 h
        refine ev_iconst (v := (-1 : Int32)) dX5_fail_42 (by decide) ?_
        refine ev_putI fr_X5_37 shC_41 rfl rfl rfl dX5_fail_43 ?_
        exact ev_vret rfl (by decide) (by decide) dX5_fail_46 (eqP_V h)
      · replace h := ite_f hc5 h
        refine ev_aload_n dX5_fail_30 rfl ?_
        refine ev_getR fr_X5_18 shC_41 rfl dX5_fail_31 ?_
        refine ev_aload_n dX5_fail_34 rfl ?_
        refine ev_getI fr_X5_62 shC_41 rfl dX5_fail_35 ?_
        obtain ⟨hi7, h⟩ := chk_t h
        refine ev_iald shC_44 hi7 dX5_fail_38 ?_
        refine ev_goto (tgt := 43) dX5_fail_39 (by decide) ?_
        refine ev_putI fr_X5_37 shC_41 rfl rfl rfl dX5_fail_43 ?_
        exact ev_vret rfl (by decide) (by decide) dX5_fail_46 (eqP_V h)
def f_X5_expect_j20 (G : Nat)  (μ : Mem) : Option (Int32 × Mem) :=
  (if (μ 41 6) = (0 : Int32) then
  bndV (f_X5_advance G μ) (fun m4 =>
  some ((1 : Int32), m4))
  else
  some ((0 : Int32), μ))
set_option maxHeartbeats 4000000 in
set_option maxRecDepth 100000 in
theorem f_X5_expect_j20_ok {bb : Bool} {G : Nat} {r : Int32} {μr : Mem}    {μ : Mem} (h : f_X5_expect_j20 G μ = some (r, μr)) : Ev RX5 cX5_expect 2 (some .boolean) false 2 0 0 (eqP (some r) (shC bb) μr) 20 [some (.ref 41), none] [] (shC bb) μ 0 0 := by
  unfold f_X5_expect_j20 at h
  refine ev_aload_n dX5_expect_20 rfl ?_
  refine ev_getI fr_X5_44 shC_41 rfl dX5_expect_21 ?_
  refine ev_if_eq (tgt := 29) dX5_expect_24 (by decide) (fun hc2 => ?_) (fun hc2 => ?_)
  · replace h := ite_t hc2 h
    refine ev_aload_n dX5_expect_29 rfl ?_
    obtain ⟨m4, hq3, h⟩ := bndV_t h
    refine ev_cVv mv_X5_137 dX5_expect_30 (c_X5_advance hq3) rfl shC_41 rfl rfl (Nat.le_of_ble_eq_true rfl) (by rfl) (Nat.le_of_ble_eq_true rfl) (Nat.le_of_ble_eq_true rfl) (Nat.le_of_ble_eq_true rfl) ?_
    refine ev_iconst (v := (1 : Int32)) dX5_expect_33 (by decide) ?_
    exact ev_iret rfl rfl (by decide) (by decide) dX5_expect_34 (eqP_E h)
  · replace h := ite_f hc2 h
    refine ev_iconst (v := (0 : Int32)) dX5_expect_27 (by decide) ?_
    exact ev_iret rfl rfl (by decide) (by decide) dX5_expect_28 (eqP_E h)
def f_X5_expect (G : Nat) (p1 : Int32) (μ : Mem) : Option (Int32 × Mem) :=
  (if (μ 41 6) = (0 : Int32) then
  (if (μ 41 10) = p1 then
  f_X5_expect_j20 G  μ
  else
  bndV (f_X5_fail G (1 : Int32) μ) (fun m7 =>
  f_X5_expect_j20 G  m7))
  else
  f_X5_expect_j20 G  μ)
set_option maxHeartbeats 4000000 in
set_option maxRecDepth 100000 in
theorem c_X5_expect {bb : Bool} {G : Nat} {μ : Mem} {p1 : Int32} {r : Int32} {μr : Mem}  (h : f_X5_expect G p1 μ = some (r, μr)) : Cn yX5_expect cX5_expect 2 (some .boolean) 2 0 0 [.ref 41, .int p1] (shC bb) μ (eqP (some r) (shC bb) μr) := by
  refine cn_of (own := RX5) (ini := false) (loc := [some (.ref 41), some (.int p1)]) rfl (by decide) (fun q => by cases q) (Nat.le_of_ble_eq_true rfl) (by rfl) rfl ?_
  unfold f_X5_expect at h
  refine ev_aload_n dX5_expect_0 rfl ?_
  refine ev_getI fr_X5_44 shC_41 rfl dX5_expect_1 ?_
  refine ev_if_ne (tgt := 20) dX5_expect_4 (by decide) (fun hc1 => ?_) (fun hc1 => ?_)
  · replace h := ite_f hc1 h
    exact ev_lt (f_X5_expect_j20_ok h) ⟨rfl, trivial⟩
  · replace h := ite_t hc1 h
    refine ev_aload_n dX5_expect_7 rfl ?_
    refine ev_getI fr_X5_65 shC_41 rfl dX5_expect_8 ?_
    refine ev_iload_n dX5_expect_11 rfl ?_
    refine ev_icmp_eq (tgt := 20) dX5_expect_12 (by decide) (fun hc5 => ?_) (fun hc5 => ?_)
    · replace h := ite_t hc5 h
      exact ev_lt (f_X5_expect_j20_ok h) ⟨rfl, trivial⟩
    · replace h := ite_f hc5 h
      refine ev_aload_n dX5_expect_15 rfl ?_
      refine ev_iconst (v := (1 : Int32)) dX5_expect_16 (by decide) ?_
      obtain ⟨m7, hq6, h⟩ := bndV_t h
      refine ev_cVv mv_X5_133 dX5_expect_17 (c_X5_fail hq6) rfl shC_41 rfl rfl (Nat.le_of_ble_eq_true rfl) (by rfl) (Nat.le_of_ble_eq_true rfl) (Nat.le_of_ble_eq_true rfl) (Nat.le_of_ble_eq_true rfl) ?_
      exact ev_lt (f_X5_expect_j20_ok h) ⟨rfl, trivial⟩
def f_X5_opens (G : Nat) (p1 : Int32) (μ : Mem) : Option (Int32 × Mem) :=
  (if p1 < (8 : Int32) then
  bndE (f_X5_expect G (μ 41 10) μ) (fun w4 m3 =>
  bkk w4 (some (w4, m3)))
  else
  bndV (f_X5_fail G (3 : Int32) μ) (fun m7 =>
  bndE (f_X5_expect G (m7 41 10) m7) (fun w10 m9 =>
  bkk w10 (some (w10, m9)))))
set_option maxHeartbeats 4000000 in
set_option maxRecDepth 100000 in
theorem c_X5_opens {bb : Bool} {G : Nat} {μ : Mem} {p1 : Int32} {r : Int32} {μr : Mem}  (h : f_X5_opens G p1 μ = some (r, μr)) : Cn yX5_opens cX5_opens 2 (some .boolean) 3 0 0 [.ref 41, .int p1] (shC bb) μ (eqP (some r) (shC bb) μr) := by
  refine cn_of (own := RX5) (ini := false) (loc := [some (.ref 41), some (.int p1)]) rfl (by decide) (fun q => by cases q) (Nat.le_of_ble_eq_true rfl) (by rfl) rfl ?_
  unfold f_X5_opens at h
  refine ev_iload_n dX5_opens_0 rfl ?_
  refine ev_bipush (v := (8 : Int32)) dX5_opens_1 (by decide) ?_
  refine ev_icmp_lt (tgt := 11) dX5_opens_3 (by decide) (fun hc1 => ?_) (fun hc1 => ?_)
  · replace h := ite_t hc1 h
    refine ev_aload_n dX5_opens_11 rfl ?_
    refine ev_aload_n dX5_opens_12 rfl ?_
    refine ev_getI fr_X5_65 shC_41 rfl dX5_opens_13 ?_
    obtain ⟨w4, m3, hq2, h⟩ := bndE_t h
    refine ev_cVi mv_X5_140 dX5_opens_16 (c_X5_expect hq2) rfl shC_41 rfl rfl (Nat.le_of_ble_eq_true rfl) (by rfl) (Nat.le_of_ble_eq_true rfl) (Nat.le_of_ble_eq_true rfl) (Nat.le_of_ble_eq_true rfl) ?_
    obtain ⟨hz5, h⟩ := bkk_t h
    exact ev_iret rfl (nzb hz5) (by decide) (by decide) dX5_opens_19 (eqP_E h)
  · replace h := ite_f hc1 h
    refine ev_aload_n dX5_opens_6 rfl ?_
    refine ev_iconst (v := (3 : Int32)) dX5_opens_7 (by decide) ?_
    obtain ⟨m7, hq6, h⟩ := bndV_t h
    refine ev_cVv mv_X5_133 dX5_opens_8 (c_X5_fail hq6) rfl shC_41 rfl rfl (Nat.le_of_ble_eq_true rfl) (by rfl) (Nat.le_of_ble_eq_true rfl) (Nat.le_of_ble_eq_true rfl) (Nat.le_of_ble_eq_true rfl) ?_
    refine ev_aload_n dX5_opens_11 rfl ?_
    refine ev_aload_n dX5_opens_12 rfl ?_
    refine ev_getI fr_X5_65 shC_41 rfl dX5_opens_13 ?_
    obtain ⟨w10, m9, hq8, h⟩ := bndE_t h
    refine ev_cVi mv_X5_140 dX5_opens_16 (c_X5_expect hq8) rfl shC_41 rfl rfl (Nat.le_of_ble_eq_true rfl) (by rfl) (Nat.le_of_ble_eq_true rfl) (Nat.le_of_ble_eq_true rfl) (Nat.le_of_ble_eq_true rfl) ?_
    obtain ⟨hz11, h⟩ := bkk_t h
    exact ev_iret rfl (nzb hz11) (by decide) (by decide) dX5_opens_19 (eqP_E h)
def f_X1_put (G : Nat) (a : Nat) (p1 : Int32) (μ : Mem) : Option Mem :=
  (if (400 : Int32) ≤ (μ a 7) then
  some μ
  else
  chk (μ a 7) 400 (let m2 := wr μ (a + 1) (ix (μ a 7)) p1
  (let m4 := wr m2 a 7 ((m2 a 7) + (1 : Int32))
  some m4)))
set_option maxHeartbeats 4000000 in
set_option maxRecDepth 100000 in
theorem c_X1_put {sh : List Shp} {G : Nat} {a : Nat} {μ : Mem} {p1 : Int32} {μr : Mem} (ha : At_X1 sh a) (h : f_X1_put G a p1 μ = some μr) : Cn yX1_put cX1_put 2 none 1 0 0 [.ref a, .int p1] sh μ (eqP none sh μr) := by
  refine cn_of (own := RX1) (ini := false) (loc := [some (.ref a), some (.int p1)]) rfl (by decide) (fun q => by cases q) (Nat.le_of_ble_eq_true rfl) (by rfl) rfl ?_
  unfold f_X1_put at h
  refine ev_aload_n dX1_put_0 rfl ?_
  refine ev_getI fr_X1_34 (ha.1) rfl dX1_put_1 ?_
  refine ev_sipush (v := (400 : Int32)) dX1_put_4 (by decide) ?_
  refine ev_icmp_ge (tgt := 30) dX1_put_7 (by decide) (fun hc1 => ?_) (fun hc1 => ?_)
  · replace h := ite_t hc1 h
    exact ev_vret rfl (by decide) (by decide) dX1_put_30 (eqP_V h)
  · replace h := ite_f hc1 h
    refine ev_aload_n dX1_put_10 rfl ?_
    refine ev_getR fr_X1_9 (ha.1) rfl dX1_put_11 ?_
    refine ev_aload_n dX1_put_14 rfl ?_
    refine ev_getI fr_X1_34 (ha.1) rfl dX1_put_15 ?_
    refine ev_iload_n dX1_put_18 rfl ?_
    obtain ⟨hi3, h⟩ := chk_t h
    refine ev_iast (ha.2.1) hi3 dX1_put_19 ?_
    refine ev_aload_n dX1_put_20 rfl ?_
    refine ev_dup dX1_put_21 (by rfl) ?_
    refine ev_getI fr_X1_34 (ha.1) rfl dX1_put_22 ?_
    refine ev_iconst (v := (1 : Int32)) dX1_put_25 (by decide) ?_
    refine ev_iadd dX1_put_26 ?_
    refine ev_putI fr_X1_34 (ha.1) rfl rfl rfl dX1_put_27 ?_
    exact ev_vret rfl (by decide) (by decide) dX1_put_30 (eqP_V h)
def f_X10_isNumber  (p1 : Int32) : Int32 :=
  (if (10000 : Int32) ≤ p1 then
  (0 : Int32)
  else
  (1 : Int32))
set_option maxHeartbeats 4000000 in
set_option maxRecDepth 100000 in
theorem c_X10_isNumber {sh : List Shp}  {μ : Mem} {p1 : Int32}  : Cn yX10_isNumber cX10_isNumber 1 (some .boolean) 1 0 0 [.int p1] sh μ (eqP (some (f_X10_isNumber p1)) sh μ) := by
  obtain ⟨r, h⟩ : ∃ r, f_X10_isNumber p1 = r := ⟨_, rfl⟩
  rw [h]
  refine cn_of (own := RX10) (ini := false) (loc := [some (.int p1)]) rfl (by decide) (fun q => by cases q) (Nat.le_of_ble_eq_true rfl) (by rfl) rfl ?_
  unfold f_X10_isNumber at h
  refine ev_iload_n dX10_isNumber_0 rfl ?_
  refine ev_sipush (v := (10000 : Int32)) dX10_isNumber_1 (by decide) ?_
  refine ev_icmp_ge (tgt := 11) dX10_isNumber_4 (by decide) (fun hc1 => ?_) (fun hc1 => ?_)
  · replace h := ite_t hc1 h
    refine ev_iconst (v := (0 : Int32)) dX10_isNumber_11 (by decide) ?_
    exact ev_iret rfl rfl (by decide) (by decide) dX10_isNumber_12 (eqP_P h)
  · replace h := ite_f hc1 h
    refine ev_iconst (v := (1 : Int32)) dX10_isNumber_7 (by decide) ?_
    refine ev_goto (tgt := 12) dX10_isNumber_8 (by decide) ?_
    exact ev_iret rfl rfl (by decide) (by decide) dX10_isNumber_12 (eqP_P h)
def f_X10_isName  (p1 : Int32) : Int32 :=
  (if p1 < (10007 : Int32) then
  (0 : Int32)
  else
  (if (10018 : Int32) ≤ p1 then
  (0 : Int32)
  else
  (1 : Int32)))
set_option maxHeartbeats 4000000 in
set_option maxRecDepth 100000 in
theorem c_X10_isName {sh : List Shp}  {μ : Mem} {p1 : Int32}  : Cn yX10_isName cX10_isName 1 (some .boolean) 1 0 0 [.int p1] sh μ (eqP (some (f_X10_isName p1)) sh μ) := by
  obtain ⟨r, h⟩ : ∃ r, f_X10_isName p1 = r := ⟨_, rfl⟩
  rw [h]
  refine cn_of (own := RX10) (ini := false) (loc := [some (.int p1)]) rfl (by decide) (fun q => by cases q) (Nat.le_of_ble_eq_true rfl) (by rfl) rfl ?_
  unfold f_X10_isName at h
  refine ev_iload_n dX10_isName_0 rfl ?_
  refine ev_sipush (v := (10007 : Int32)) dX10_isName_1 (by decide) ?_
  refine ev_icmp_lt (tgt := 18) dX10_isName_4 (by decide) (fun hc1 => ?_) (fun hc1 => ?_)
  · replace h := ite_t hc1 h
    refine ev_iconst (v := (0 : Int32)) dX10_isName_18 (by decide) ?_
    exact ev_iret rfl rfl (by decide) (by decide) dX10_isName_19 (eqP_P h)
  · replace h := ite_f hc1 h
    refine ev_iload_n dX10_isName_7 rfl ?_
    refine ev_sipush (v := (10018 : Int32)) dX10_isName_8 (by decide) ?_
    refine ev_icmp_ge (tgt := 18) dX10_isName_11 (by decide) (fun hc2 => ?_) (fun hc2 => ?_)
    · replace h := ite_t hc2 h
      refine ev_iconst (v := (0 : Int32)) dX10_isName_18 (by decide) ?_
      exact ev_iret rfl rfl (by decide) (by decide) dX10_isName_19 (eqP_P h)
    · replace h := ite_f hc2 h
      refine ev_iconst (v := (1 : Int32)) dX10_isName_14 (by decide) ?_
      refine ev_goto (tgt := 19) dX10_isName_15 (by decide) ?_
      exact ev_iret rfl rfl (by decide) (by decide) dX10_isName_19 (eqP_P h)
def f_X5_unit_j32 (G : Nat)  (μ : Mem) : Option (Int32 × Mem) :=
  (if (μ 41 6) = (0 : Int32) then
  bndV (f_X1_put G 45 (μ 41 10) μ) (fun m4 =>
  bndV (f_X5_advance G m4) (fun m6 =>
  some ((1 : Int32), m6)))
  else
  some ((0 : Int32), μ))
set_option maxHeartbeats 4000000 in
set_option maxRecDepth 100000 in
theorem f_X5_unit_j32_ok {bb : Bool} {G : Nat} {r : Int32} {μr : Mem}    {μ : Mem} (h : f_X5_unit_j32 G μ = some (r, μr)) : Ev RX5 cX5_unit 1 (some .boolean) false 2 0 0 (eqP (some r) (shC bb) μr) 32 [some (.ref 41)] [] (shC bb) μ 0 0 := by
  unfold f_X5_unit_j32 at h
  refine ev_aload_n dX5_unit_32 rfl ?_
  refine ev_getI fr_X5_44 shC_41 rfl dX5_unit_33 ?_
  refine ev_if_eq (tgt := 41) dX5_unit_36 (by decide) (fun hc2 => ?_) (fun hc2 => ?_)
  · replace h := ite_t hc2 h
    refine ev_aload_n dX5_unit_41 rfl ?_
    refine ev_getR fr_X5_24 shC_41 rfl dX5_unit_42 ?_
    refine ev_aload_n dX5_unit_45 rfl ?_
    refine ev_getI fr_X5_65 shC_41 rfl dX5_unit_46 ?_
    obtain ⟨m4, hq3, h⟩ := bndV_t h
    refine ev_cVv mv_X5_180 dX5_unit_49 (c_X1_put atC_45 hq3) rfl shC_45 rfl rfl (Nat.le_of_ble_eq_true rfl) (by rfl) (Nat.le_of_ble_eq_true rfl) (Nat.le_of_ble_eq_true rfl) (Nat.le_of_ble_eq_true rfl) ?_
    refine ev_aload_n dX5_unit_52 rfl ?_
    obtain ⟨m6, hq5, h⟩ := bndV_t h
    refine ev_cVv mv_X5_137 dX5_unit_53 (c_X5_advance hq5) rfl shC_41 rfl rfl (Nat.le_of_ble_eq_true rfl) (by rfl) (Nat.le_of_ble_eq_true rfl) (Nat.le_of_ble_eq_true rfl) (Nat.le_of_ble_eq_true rfl) ?_
    refine ev_iconst (v := (1 : Int32)) dX5_unit_56 (by decide) ?_
    exact ev_iret rfl rfl (by decide) (by decide) dX5_unit_57 (eqP_E h)
  · replace h := ite_f hc2 h
    refine ev_iconst (v := (0 : Int32)) dX5_unit_39 (by decide) ?_
    exact ev_iret rfl rfl (by decide) (by decide) dX5_unit_40 (eqP_E h)
def f_X5_unit (G : Nat) (μ : Mem) : Option (Int32 × Mem) :=
  (if (μ 41 6) = (0 : Int32) then
  (if (f_X10_isNumber (μ 41 10)) = (0 : Int32) then
  (if (f_X10_isName (μ 41 10)) = (0 : Int32) then
  bndV (f_X5_fail G (1 : Int32) μ) (fun m10 =>
  f_X5_unit_j32 G  m10)
  else
  f_X5_unit_j32 G  μ)
  else
  f_X5_unit_j32 G  μ)
  else
  f_X5_unit_j32 G  μ)
set_option maxHeartbeats 4000000 in
set_option maxRecDepth 100000 in
theorem c_X5_unit {bb : Bool} {G : Nat} {μ : Mem} {r : Int32} {μr : Mem}  (h : f_X5_unit G μ = some (r, μr)) : Cn yX5_unit cX5_unit 1 (some .boolean) 2 0 0 [.ref 41] (shC bb) μ (eqP (some r) (shC bb) μr) := by
  refine cn_of (own := RX5) (ini := false) (loc := [some (.ref 41)]) rfl (by decide) (fun q => by cases q) (Nat.le_of_ble_eq_true rfl) (by rfl) rfl ?_
  unfold f_X5_unit at h
  refine ev_aload_n dX5_unit_0 rfl ?_
  refine ev_getI fr_X5_44 shC_41 rfl dX5_unit_1 ?_
  refine ev_if_ne (tgt := 32) dX5_unit_4 (by decide) (fun hc1 => ?_) (fun hc1 => ?_)
  · replace h := ite_f hc1 h
    exact ev_lt (f_X5_unit_j32_ok h) ⟨rfl, trivial⟩
  · replace h := ite_t hc1 h
    refine ev_aload_n dX5_unit_7 rfl ?_
    refine ev_getI fr_X5_65 shC_41 rfl dX5_unit_8 ?_
    refine ev_cSi mv_X5_147 dX5_unit_11 c_X10_isNumber rfl rfl (Nat.le_of_ble_eq_true rfl) (by rfl) (Nat.le_of_ble_eq_true rfl) (Nat.le_of_ble_eq_true rfl) (Nat.le_of_ble_eq_true rfl) ?_
    refine ev_if_ne (tgt := 32) dX5_unit_14 (by decide) (fun hc7 => ?_) (fun hc7 => ?_)
    · replace h := ite_f hc7 h
      exact ev_lt (f_X5_unit_j32_ok h) ⟨rfl, trivial⟩
    · replace h := ite_t hc7 h
      refine ev_aload_n dX5_unit_17 rfl ?_
      refine ev_getI fr_X5_65 shC_41 rfl dX5_unit_18 ?_
      refine ev_cSi mv_X5_185 dX5_unit_21 c_X10_isName rfl rfl (Nat.le_of_ble_eq_true rfl) (by rfl) (Nat.le_of_ble_eq_true rfl) (Nat.le_of_ble_eq_true rfl) (Nat.le_of_ble_eq_true rfl) ?_
      refine ev_if_ne (tgt := 32) dX5_unit_24 (by decide) (fun hc8 => ?_) (fun hc8 => ?_)
      · replace h := ite_f hc8 h
        exact ev_lt (f_X5_unit_j32_ok h) ⟨rfl, trivial⟩
      · replace h := ite_t hc8 h
        refine ev_aload_n dX5_unit_27 rfl ?_
        refine ev_iconst (v := (1 : Int32)) dX5_unit_28 (by decide) ?_
        obtain ⟨m10, hq9, h⟩ := bndV_t h
        refine ev_cVv mv_X5_133 dX5_unit_29 (c_X5_fail hq9) rfl shC_41 rfl rfl (Nat.le_of_ble_eq_true rfl) (by rfl) (Nat.le_of_ble_eq_true rfl) (Nat.le_of_ble_eq_true rfl) (Nat.le_of_ble_eq_true rfl) ?_
        exact ev_lt (f_X5_unit_j32_ok h) ⟨rfl, trivial⟩
def f_X5_partings_j88 (G : Nat) (r2 : Int32 → Mem → Option Mem) (v1 : Int32) (μ : Mem) : Option Mem :=
  r2 (v1 + (1 : Int32)) μ
set_option maxHeartbeats 4000000 in
set_option maxRecDepth 100000 in
theorem f_X5_partings_j88_ok {bb : Bool} {G : Nat} {μr : Mem}  {r2 : Int32 → Mem → Option Mem} (hr2 : ∀ (v1 : Int32) (m : Mem), r2 v1 m = some μr → Ev RX5 cX5_partings 2 none false 2 0 0 (eqP none (shC bb) μr) 2 [some (.ref 41), some (.int v1)] [] (shC bb) m 0 0) {v1 : Int32} {μ : Mem} (h : f_X5_partings_j88 G r2 v1 μ = some μr) : Ev RX5 cX5_partings 2 none false 2 0 0 (eqP none (shC bb) μr) 88 [some (.ref 41), some (.int v1)] [] (shC bb) μ 0 0 := by
  unfold f_X5_partings_j88 at h
  refine ev_iinc (cq := (1 : Int32)) (loc' := [_, _]) dX5_partings_88 rfl (by decide) rfl (by decide) (by rfl) ?_
  refine ev_goto (tgt := 2) dX5_partings_91 (by decide) ?_
  exact ev_lt (hr2 _ _ h) ⟨rfl, ⟨rfl, trivial⟩⟩
def f_X5_partings_L2 (G : Nat)  : Nat → Int32 → Mem → Option Mem
  | 0, _, _ => none
  | g + 1, v1, μ =>
  (if (400 : Int32) < v1 then
  some μ
  else
  (if (μ 41 6) = (0 : Int32) then
  (if (μ 41 10) = (20047 : Int32) then
  bndV (f_X5_advance G μ) (fun m5 =>
  (if (f_X10_isNumber (m5 41 10)) = (0 : Int32) then
  bndV (f_X5_fail G (1 : Int32) m5) (fun m17 =>
  f_X5_partings_j88 G (f_X5_partings_L2 G g) v1 m17)
  else
  (if (m5 41 10) = (0 : Int32) then
  bndV (f_X5_fail G (2 : Int32) m5) (fun m15 =>
  f_X5_partings_j88 G (f_X5_partings_L2 G g) v1 m15)
  else
  bndV (f_X1_put G 45 (m5 41 10) m5) (fun m9 =>
  bndV (f_X1_put G 45 (20047 : Int32) m9) (fun m11 =>
  bndV (f_X5_advance G m11) (fun m13 =>
  f_X5_partings_j88 G (f_X5_partings_L2 G g) v1 m13))))))
  else
  some μ)
  else
  some μ))
set_option maxHeartbeats 4000000 in
set_option maxRecDepth 100000 in
theorem f_X5_partings_L2_ok {bb : Bool} {G : Nat} {μr : Mem}    : ∀ (g : Nat) (v1 : Int32) (μ : Mem), f_X5_partings_L2 G g v1 μ = some μr → Ev RX5 cX5_partings 2 none false 2 0 0 (eqP none (shC bb) μr) 2 [some (.ref 41), some (.int v1)] [] (shC bb) μ 0 0 := by
  intro g
  induction g with
  | zero =>
    intro v1 μ h
    cases h
  | succ g ih =>
    intro v1 μ h
    rw [f_X5_partings_L2] at h
    refine ev_iload_n dX5_partings_2 rfl ?_
    refine ev_sipush (v := (400 : Int32)) dX5_partings_3 (by decide) ?_
    refine ev_icmp_gt (tgt := 94) dX5_partings_6 (by decide) (fun hc1 => ?_) (fun hc1 => ?_)
    · replace h := ite_t hc1 h
      exact ev_vret rfl (by decide) (by decide) dX5_partings_94 (eqP_V h)
    · replace h := ite_f hc1 h
      refine ev_aload_n dX5_partings_9 rfl ?_
      refine ev_getI fr_X5_44 shC_41 rfl dX5_partings_10 ?_
      refine ev_if_ne (tgt := 94) dX5_partings_13 (by decide) (fun hc2 => ?_) (fun hc2 => ?_)
      · replace h := ite_f hc2 h
        exact ev_vret rfl (by decide) (by decide) dX5_partings_94 (eqP_V h)
      · replace h := ite_t hc2 h
        refine ev_aload_n dX5_partings_16 rfl ?_
        refine ev_getI fr_X5_65 shC_41 rfl dX5_partings_17 ?_
        refine ev_sipush (v := (20047 : Int32)) dX5_partings_20 (by decide) ?_
        refine ev_icmp_ne (tgt := 94) dX5_partings_23 (by decide) (fun hc3 => ?_) (fun hc3 => ?_)
        · replace h := ite_f hc3 h
          exact ev_vret rfl (by decide) (by decide) dX5_partings_94 (eqP_V h)
        · replace h := ite_t hc3 h
          refine ev_aload_n dX5_partings_26 rfl ?_
          obtain ⟨m5, hq4, h⟩ := bndV_t h
          refine ev_cVv mv_X5_137 dX5_partings_27 (c_X5_advance hq4) rfl shC_41 rfl rfl (Nat.le_of_ble_eq_true rfl) (by rfl) (Nat.le_of_ble_eq_true rfl) (Nat.le_of_ble_eq_true rfl) (Nat.le_of_ble_eq_true rfl) ?_
          refine ev_aload_n dX5_partings_30 rfl ?_
          refine ev_getI fr_X5_65 shC_41 rfl dX5_partings_31 ?_
          refine ev_cSi mv_X5_147 dX5_partings_34 c_X10_isNumber rfl rfl (Nat.le_of_ble_eq_true rfl) (by rfl) (Nat.le_of_ble_eq_true rfl) (Nat.le_of_ble_eq_true rfl) (Nat.le_of_ble_eq_true rfl) ?_
          refine ev_if_ne (tgt := 48) dX5_partings_37 (by decide) (fun hc6 => ?_) (fun hc6 => ?_)
          · replace h := ite_f hc6 h
            refine ev_aload_n dX5_partings_48 rfl ?_
            refine ev_getI fr_X5_65 shC_41 rfl dX5_partings_49 ?_
            refine ev_if_ne (tgt := 63) dX5_partings_52 (by decide) (fun hc7 => ?_) (fun hc7 => ?_)
            · replace h := ite_f hc7 h
              refine ev_aload_n dX5_partings_63 rfl ?_
              refine ev_getR fr_X5_24 shC_41 rfl dX5_partings_64 ?_
              refine ev_aload_n dX5_partings_67 rfl ?_
              refine ev_getI fr_X5_65 shC_41 rfl dX5_partings_68 ?_
              obtain ⟨m9, hq8, h⟩ := bndV_t h
              refine ev_cVv mv_X5_180 dX5_partings_71 (c_X1_put atC_45 hq8) rfl shC_45 rfl rfl (Nat.le_of_ble_eq_true rfl) (by rfl) (Nat.le_of_ble_eq_true rfl) (Nat.le_of_ble_eq_true rfl) (Nat.le_of_ble_eq_true rfl) ?_
              refine ev_aload_n dX5_partings_74 rfl ?_
              refine ev_getR fr_X5_24 shC_41 rfl dX5_partings_75 ?_
              refine ev_sipush (v := (20047 : Int32)) dX5_partings_78 (by decide) ?_
              obtain ⟨m11, hq10, h⟩ := bndV_t h
              refine ev_cVv mv_X5_180 dX5_partings_81 (c_X1_put atC_45 hq10) rfl shC_45 rfl rfl (Nat.le_of_ble_eq_true rfl) (by rfl) (Nat.le_of_ble_eq_true rfl) (Nat.le_of_ble_eq_true rfl) (Nat.le_of_ble_eq_true rfl) ?_
              refine ev_aload_n dX5_partings_84 rfl ?_
              obtain ⟨m13, hq12, h⟩ := bndV_t h
              refine ev_cVv mv_X5_137 dX5_partings_85 (c_X5_advance hq12) rfl shC_41 rfl rfl (Nat.le_of_ble_eq_true rfl) (by rfl) (Nat.le_of_ble_eq_true rfl) (Nat.le_of_ble_eq_true rfl) (Nat.le_of_ble_eq_true rfl) ?_
              exact ev_lt (f_X5_partings_j88_ok ih h) ⟨rfl, ⟨rfl, trivial⟩⟩
            · replace h := ite_t hc7 h
              refine ev_aload_n dX5_partings_55 rfl ?_
              refine ev_iconst (v := (2 : Int32)) dX5_partings_56 (by decide) ?_
              obtain ⟨m15, hq14, h⟩ := bndV_t h
              refine ev_cVv mv_X5_133 dX5_partings_57 (c_X5_fail hq14) rfl shC_41 rfl rfl (Nat.le_of_ble_eq_true rfl) (by rfl) (Nat.le_of_ble_eq_true rfl) (Nat.le_of_ble_eq_true rfl) (Nat.le_of_ble_eq_true rfl) ?_
              refine ev_goto (tgt := 88) dX5_partings_60 (by decide) ?_
              exact ev_lt (f_X5_partings_j88_ok ih h) ⟨rfl, ⟨rfl, trivial⟩⟩
          · replace h := ite_t hc6 h
            refine ev_aload_n dX5_partings_40 rfl ?_
            refine ev_iconst (v := (1 : Int32)) dX5_partings_41 (by decide) ?_
            obtain ⟨m17, hq16, h⟩ := bndV_t h
            refine ev_cVv mv_X5_133 dX5_partings_42 (c_X5_fail hq16) rfl shC_41 rfl rfl (Nat.le_of_ble_eq_true rfl) (by rfl) (Nat.le_of_ble_eq_true rfl) (Nat.le_of_ble_eq_true rfl) (Nat.le_of_ble_eq_true rfl) ?_
            refine ev_goto (tgt := 88) dX5_partings_45 (by decide) ?_
            exact ev_lt (f_X5_partings_j88_ok ih h) ⟨rfl, ⟨rfl, trivial⟩⟩
def f_X5_partings (G : Nat) (μ : Mem) : Option Mem :=
  f_X5_partings_L2 G G (0 : Int32) μ
set_option maxHeartbeats 4000000 in
set_option maxRecDepth 100000 in
theorem c_X5_partings {bb : Bool} {G : Nat} {μ : Mem} {μr : Mem}  (h : f_X5_partings G μ = some μr) : Cn yX5_partings cX5_partings 2 none 2 0 0 [.ref 41] (shC bb) μ (eqP none (shC bb) μr) := by
  refine cn_of (own := RX5) (ini := false) (loc := [some (.ref 41), none]) rfl (by decide) (fun q => by cases q) (Nat.le_of_ble_eq_true rfl) (by rfl) rfl ?_
  unfold f_X5_partings at h
  refine ev_iconst (v := (0 : Int32)) dX5_partings_0 (by decide) ?_
  refine ev_istore_n (loc' := [_, _]) dX5_partings_1 rfl (by decide) (by rfl) ?_
  exact ev_lt (f_X5_partings_L2_ok _ _ _ h) ⟨rfl, ⟨rfl, trivial⟩⟩
def f_X5_expression_j101 (G : Nat) (r8 : Int32 → Int32 → Int32 → Mem → Option Mem) (v1 v2 v3 : Int32) (μ : Mem) : Option Mem :=
  bndV (f_X5_advance G μ) (fun m12 =>
  r8 v1 v2 (v3 + (1 : Int32)) m12)
set_option maxHeartbeats 4000000 in
set_option maxRecDepth 100000 in
theorem f_X5_expression_j101_ok {bb : Bool} {G : Nat} {μr : Mem}  {r8 : Int32 → Int32 → Int32 → Mem → Option Mem} (hr8 : ∀ (v1 : Int32) (v2 : Int32) (v3 : Int32) (m : Mem), r8 v1 v2 v3 m = some μr → Ev RX5 cX5_expression 4 none false 3 0 0 (eqP none (shC bb) μr) 8 [some (.ref 41), some (.int v1), some (.int v2), some (.int v3)] [] (shC bb) m 0 0) {v1 v2 v3 : Int32} {μ : Mem} (h : f_X5_expression_j101 G r8 v1 v2 v3 μ = some μr) : Ev RX5 cX5_expression 4 none false 3 0 0 (eqP none (shC bb) μr) 101 [some (.ref 41), some (.int v1), some (.int v2), some (.int v3)] [] (shC bb) μ 0 0 := by
  unfold f_X5_expression_j101 at h
  refine ev_aload_n dX5_expression_101 rfl ?_
  obtain ⟨m12, hq11, h⟩ := bndV_t h
  refine ev_cVv mv_X5_137 dX5_expression_102 (c_X5_advance hq11) rfl shC_41 rfl rfl (Nat.le_of_ble_eq_true rfl) (by rfl) (Nat.le_of_ble_eq_true rfl) (Nat.le_of_ble_eq_true rfl) (Nat.le_of_ble_eq_true rfl) ?_
  refine ev_iinc (cq := (1 : Int32)) (loc' := [_, _, _, _]) dX5_expression_105 rfl (by decide) rfl (by decide) (by rfl) ?_
  refine ev_goto (tgt := 8) dX5_expression_108 (by decide) ?_
  exact ev_lt (hr8 _ _ _ _ h) ⟨rfl, ⟨rfl, ⟨rfl, ⟨rfl, trivial⟩⟩⟩⟩
def f_X5_expression_j75 (G : Nat) (r8 : Int32 → Int32 → Int32 → Mem → Option Mem) (v2 v3 : Int32) (μ : Mem) : Option Mem :=
  (if (μ 41 10) = (20043 : Int32) then
  f_X5_expression_j101 G r8 (μ 41 10) v2 v3 μ
  else
  (if (μ 41 10) = (20045 : Int32) then
  f_X5_expression_j101 G r8 (μ 41 10) v2 v3 μ
  else
  some μ))
set_option maxHeartbeats 4000000 in
set_option maxRecDepth 100000 in
theorem f_X5_expression_j75_ok {bb : Bool} {G : Nat} {μr : Mem}  {r8 : Int32 → Int32 → Int32 → Mem → Option Mem} (hr8 : ∀ (v1 : Int32) (v2 : Int32) (v3 : Int32) (m : Mem), r8 v1 v2 v3 m = some μr → Ev RX5 cX5_expression 4 none false 3 0 0 (eqP none (shC bb) μr) 8 [some (.ref 41), some (.int v1), some (.int v2), some (.int v3)] [] (shC bb) m 0 0) {v2 v3 : Int32} {μ : Mem} (h : f_X5_expression_j75 G r8 v2 v3 μ = some μr) : Ev RX5 cX5_expression 4 none false 3 0 0 (eqP none (shC bb) μr) 75 [some (.ref 41), none, some (.int v2), some (.int v3)] [] (shC bb) μ 0 0 := by
  unfold f_X5_expression_j75 at h
  refine ev_aload_n dX5_expression_75 rfl ?_
  refine ev_getI fr_X5_65 shC_41 rfl dX5_expression_76 ?_
  refine ev_istore_n (loc' := [_, _, _, _]) dX5_expression_79 rfl (by decide) (by rfl) ?_
  refine ev_aload_n dX5_expression_80 rfl ?_
  refine ev_getI fr_X5_65 shC_41 rfl dX5_expression_81 ?_
  refine ev_sipush (v := (20043 : Int32)) dX5_expression_84 (by decide) ?_
  refine ev_icmp_eq (tgt := 101) dX5_expression_87 (by decide) (fun hc14 => ?_) (fun hc14 => ?_)
  · replace h := ite_t hc14 h
    exact ev_lt (f_X5_expression_j101_ok hr8 h) ⟨rfl, ⟨rfl, ⟨rfl, ⟨rfl, trivial⟩⟩⟩⟩
  · replace h := ite_f hc14 h
    refine ev_aload_n dX5_expression_90 rfl ?_
    refine ev_getI fr_X5_65 shC_41 rfl dX5_expression_91 ?_
    refine ev_sipush (v := (20045 : Int32)) dX5_expression_94 (by decide) ?_
    refine ev_icmp_eq (tgt := 101) dX5_expression_97 (by decide) (fun hc15 => ?_) (fun hc15 => ?_)
    · replace h := ite_t hc15 h
      exact ev_lt (f_X5_expression_j101_ok hr8 h) ⟨rfl, ⟨rfl, ⟨rfl, ⟨rfl, trivial⟩⟩⟩⟩
    · replace h := ite_f hc15 h
      exact ev_vret rfl (by decide) (by decide) dX5_expression_100 (eqP_V h)
def f_X5_expression_j55 (G : Nat) (r8 : Int32 → Int32 → Int32 → Mem → Option Mem) (v1 v3 s0 : Int32) (μ : Mem) : Option Mem :=
  (if s0 = (0 : Int32) then
  (if v1 = (30000 : Int32) then
  f_X5_expression_j75 G r8 s0 v3 μ
  else
  bndV (f_X1_put G 45 v1 μ) (fun m17 =>
  f_X5_expression_j75 G r8 s0 v3 m17))
  else
  f_X5_expression_j101 G r8 v1 s0 v3 μ)
set_option maxHeartbeats 4000000 in
set_option maxRecDepth 100000 in
theorem f_X5_expression_j55_ok {bb : Bool} {G : Nat} {μr : Mem}  {r8 : Int32 → Int32 → Int32 → Mem → Option Mem} (hr8 : ∀ (v1 : Int32) (v2 : Int32) (v3 : Int32) (m : Mem), r8 v1 v2 v3 m = some μr → Ev RX5 cX5_expression 4 none false 3 0 0 (eqP none (shC bb) μr) 8 [some (.ref 41), some (.int v1), some (.int v2), some (.int v3)] [] (shC bb) m 0 0) {v1 v3 s0 : Int32} {μ : Mem} (h : f_X5_expression_j55 G r8 v1 v3 s0 μ = some μr) : Ev RX5 cX5_expression 4 none false 3 0 0 (eqP none (shC bb) μr) 55 [some (.ref 41), some (.int v1), none, some (.int v3)] [.int s0] (shC bb) μ 0 0 := by
  unfold f_X5_expression_j55 at h
  refine ev_istore_n (loc' := [_, _, _, _]) dX5_expression_55 rfl (by decide) (by rfl) ?_
  refine ev_iload_n dX5_expression_56 rfl ?_
  refine ev_if_ne (tgt := 101) dX5_expression_57 (by decide) (fun hc10 => ?_) (fun hc10 => ?_)
  · replace h := ite_f hc10 h
    exact ev_lt (f_X5_expression_j101_ok hr8 h) ⟨rfl, ⟨rfl, ⟨rfl, ⟨rfl, trivial⟩⟩⟩⟩
  · replace h := ite_t hc10 h
    refine ev_iload_n dX5_expression_60 rfl ?_
    refine ev_sipush (v := (30000 : Int32)) dX5_expression_61 (by decide) ?_
    refine ev_icmp_eq (tgt := 75) dX5_expression_64 (by decide) (fun hc13 => ?_) (fun hc13 => ?_)
    · replace h := ite_t hc13 h
      exact ev_lt (f_X5_expression_j75_ok hr8 h) ⟨rfl, ⟨rfl, ⟨rfl, trivial⟩⟩⟩
    · replace h := ite_f hc13 h
      refine ev_aload_n dX5_expression_67 rfl ?_
      refine ev_getR fr_X5_24 shC_41 rfl dX5_expression_68 ?_
      refine ev_iload_n dX5_expression_71 rfl ?_
      obtain ⟨m17, hq16, h⟩ := bndV_t h
      refine ev_cVv mv_X5_180 dX5_expression_72 (c_X1_put atC_45 hq16) rfl shC_45 rfl rfl (Nat.le_of_ble_eq_true rfl) (by rfl) (Nat.le_of_ble_eq_true rfl) (Nat.le_of_ble_eq_true rfl) (Nat.le_of_ble_eq_true rfl) ?_
      exact ev_lt (f_X5_expression_j75_ok hr8 h) ⟨rfl, ⟨rfl, ⟨rfl, trivial⟩⟩⟩
def f_X5_expression_j36 (G : Nat) (r8 : Int32 → Int32 → Int32 → Mem → Option Mem) (v1 v3 : Int32) (μ : Mem) : Option Mem :=
  bndV (f_X5_partings G μ) (fun m8 =>
  (if (m8 41 10) = (20042 : Int32) then
  f_X5_expression_j55 G r8 v1 v3 (1 : Int32) m8
  else
  f_X5_expression_j55 G r8 v1 v3 (0 : Int32) m8))
set_option maxHeartbeats 4000000 in
set_option maxRecDepth 100000 in
theorem f_X5_expression_j36_ok {bb : Bool} {G : Nat} {μr : Mem}  {r8 : Int32 → Int32 → Int32 → Mem → Option Mem} (hr8 : ∀ (v1 : Int32) (v2 : Int32) (v3 : Int32) (m : Mem), r8 v1 v2 v3 m = some μr → Ev RX5 cX5_expression 4 none false 3 0 0 (eqP none (shC bb) μr) 8 [some (.ref 41), some (.int v1), some (.int v2), some (.int v3)] [] (shC bb) m 0 0) {v1 v3 : Int32} {μ : Mem} (h : f_X5_expression_j36 G r8 v1 v3 μ = some μr) : Ev RX5 cX5_expression 4 none false 3 0 0 (eqP none (shC bb) μr) 36 [some (.ref 41), some (.int v1), none, some (.int v3)] [] (shC bb) μ 0 0 := by
  unfold f_X5_expression_j36 at h
  refine ev_aload_n dX5_expression_36 rfl ?_
  obtain ⟨m8, hq7, h⟩ := bndV_t h
  refine ev_cVv mv_X5_182 dX5_expression_37 (c_X5_partings hq7) rfl shC_41 rfl rfl (Nat.le_of_ble_eq_true rfl) (by rfl) (Nat.le_of_ble_eq_true rfl) (Nat.le_of_ble_eq_true rfl) (Nat.le_of_ble_eq_true rfl) ?_
  refine ev_aload_n dX5_expression_40 rfl ?_
  refine ev_getI fr_X5_65 shC_41 rfl dX5_expression_41 ?_
  refine ev_sipush (v := (20042 : Int32)) dX5_expression_44 (by decide) ?_
  refine ev_icmp_ne (tgt := 54) dX5_expression_47 (by decide) (fun hc9 => ?_) (fun hc9 => ?_)
  · replace h := ite_f hc9 h
    refine ev_iconst (v := (0 : Int32)) dX5_expression_54 (by decide) ?_
    exact ev_lt (f_X5_expression_j55_ok hr8 h) ⟨rfl, ⟨rfl, ⟨rfl, trivial⟩⟩⟩
  · replace h := ite_t hc9 h
    refine ev_iconst (v := (1 : Int32)) dX5_expression_50 (by decide) ?_
    refine ev_goto (tgt := 55) dX5_expression_51 (by decide) ?_
    exact ev_lt (f_X5_expression_j55_ok hr8 h) ⟨rfl, ⟨rfl, ⟨rfl, trivial⟩⟩⟩
def f_X5_expression_L8 (G : Nat)  : Nat → Int32 → Int32 → Int32 → Mem → Option Mem
  | 0, _, _, _, _ => none
  | g + 1, v1, v2, v3, μ =>
  (if (400 : Int32) < v3 then
  some μ
  else
  bndE (f_X5_unit G μ) (fun w4 m3 =>
  (if w4 = (0 : Int32) then
  some m3
  else
  (if v2 = (0 : Int32) then
  f_X5_expression_j36 G (f_X5_expression_L8 G g) v1 v3 m3
  else
  bndV (f_X1_put G 45 (20042 : Int32) m3) (fun m19 =>
  f_X5_expression_j36 G (f_X5_expression_L8 G g) v1 v3 m19)))))
set_option maxHeartbeats 4000000 in
set_option maxRecDepth 100000 in
theorem f_X5_expression_L8_ok {bb : Bool} {G : Nat} {μr : Mem}    : ∀ (g : Nat) (v1 v2 v3 : Int32) (μ : Mem), f_X5_expression_L8 G g v1 v2 v3 μ = some μr → Ev RX5 cX5_expression 4 none false 3 0 0 (eqP none (shC bb) μr) 8 [some (.ref 41), some (.int v1), some (.int v2), some (.int v3)] [] (shC bb) μ 0 0 := by
  intro g
  induction g with
  | zero =>
    intro v1 v2 v3 μ h
    cases h
  | succ g ih =>
    intro v1 v2 v3 μ h
    rw [f_X5_expression_L8] at h
    refine ev_iload_n dX5_expression_8 rfl ?_
    refine ev_sipush (v := (400 : Int32)) dX5_expression_9 (by decide) ?_
    refine ev_icmp_gt (tgt := 111) dX5_expression_12 (by decide) (fun hc1 => ?_) (fun hc1 => ?_)
    · replace h := ite_t hc1 h
      exact ev_vret rfl (by decide) (by decide) dX5_expression_111 (eqP_V h)
    · replace h := ite_f hc1 h
      refine ev_aload_n dX5_expression_15 rfl ?_
      obtain ⟨w4, m3, hq2, h⟩ := bndE_t h
      refine ev_cVi mv_X5_176 dX5_expression_16 (c_X5_unit hq2) rfl shC_41 rfl rfl (Nat.le_of_ble_eq_true rfl) (by rfl) (Nat.le_of_ble_eq_true rfl) (Nat.le_of_ble_eq_true rfl) (Nat.le_of_ble_eq_true rfl) ?_
      refine ev_if_eq (tgt := 111) dX5_expression_19 (by decide) (fun hc5 => ?_) (fun hc5 => ?_)
      · replace h := ite_t hc5 h
        exact ev_vret rfl (by decide) (by decide) dX5_expression_111 (eqP_V h)
      · replace h := ite_f hc5 h
        refine ev_iload_n dX5_expression_22 rfl ?_
        refine ev_if_eq (tgt := 36) dX5_expression_23 (by decide) (fun hc6 => ?_) (fun hc6 => ?_)
        · replace h := ite_t hc6 h
          exact ev_lt (f_X5_expression_j36_ok ih h) ⟨rfl, ⟨rfl, ⟨rfl, trivial⟩⟩⟩
        · replace h := ite_f hc6 h
          refine ev_aload_n dX5_expression_26 rfl ?_
          refine ev_getR fr_X5_24 shC_41 rfl dX5_expression_27 ?_
          refine ev_sipush (v := (20042 : Int32)) dX5_expression_30 (by decide) ?_
          obtain ⟨m19, hq18, h⟩ := bndV_t h
          refine ev_cVv mv_X5_180 dX5_expression_33 (c_X1_put atC_45 hq18) rfl shC_45 rfl rfl (Nat.le_of_ble_eq_true rfl) (by rfl) (Nat.le_of_ble_eq_true rfl) (Nat.le_of_ble_eq_true rfl) (Nat.le_of_ble_eq_true rfl) ?_
          exact ev_lt (f_X5_expression_j36_ok ih h) ⟨rfl, ⟨rfl, ⟨rfl, trivial⟩⟩⟩
def f_X5_expression (G : Nat) (μ : Mem) : Option Mem :=
  f_X5_expression_L8 G G (30000 : Int32) (0 : Int32) (0 : Int32) μ
set_option maxHeartbeats 4000000 in
set_option maxRecDepth 100000 in
theorem c_X5_expression {bb : Bool} {G : Nat} {μ : Mem} {μr : Mem}  (h : f_X5_expression G μ = some μr) : Cn yX5_expression cX5_expression 4 none 3 0 0 [.ref 41] (shC bb) μ (eqP none (shC bb) μr) := by
  refine cn_of (own := RX5) (ini := false) (loc := [some (.ref 41), none, none, none]) rfl (by decide) (fun q => by cases q) (Nat.le_of_ble_eq_true rfl) (by rfl) rfl ?_
  unfold f_X5_expression at h
  refine ev_sipush (v := (30000 : Int32)) dX5_expression_0 (by decide) ?_
  refine ev_istore_n (loc' := [_, _, _, _]) dX5_expression_3 rfl (by decide) (by rfl) ?_
  refine ev_iconst (v := (0 : Int32)) dX5_expression_4 (by decide) ?_
  refine ev_istore_n (loc' := [_, _, _, _]) dX5_expression_5 rfl (by decide) (by rfl) ?_
  refine ev_iconst (v := (0 : Int32)) dX5_expression_6 (by decide) ?_
  refine ev_istore_n (loc' := [_, _, _, _]) dX5_expression_7 rfl (by decide) (by rfl) ?_
  exact ev_lt (f_X5_expression_L8_ok _ _ _ _ _ h) ⟨rfl, ⟨rfl, ⟨rfl, ⟨rfl, trivial⟩⟩⟩⟩
def f_X10_compares  (p1 : Int32) : Int32 :=
  (if p1 = (20060 : Int32) then
  (1 : Int32)
  else
  (if p1 = (20061 : Int32) then
  (1 : Int32)
  else
  (if p1 = (20062 : Int32) then
  (1 : Int32)
  else
  (0 : Int32))))
set_option maxHeartbeats 4000000 in
set_option maxRecDepth 100000 in
theorem c_X10_compares {sh : List Shp}  {μ : Mem} {p1 : Int32}  : Cn yX10_compares cX10_compares 1 (some .boolean) 1 0 0 [.int p1] sh μ (eqP (some (f_X10_compares p1)) sh μ) := by
  obtain ⟨r, h⟩ : ∃ r, f_X10_compares p1 = r := ⟨_, rfl⟩
  rw [h]
  refine cn_of (own := RX10) (ini := false) (loc := [some (.int p1)]) rfl (by decide) (fun q => by cases q) (Nat.le_of_ble_eq_true rfl) (by rfl) rfl ?_
  unfold f_X10_compares at h
  refine ev_iload_n dX10_compares_0 rfl ?_
  refine ev_sipush (v := (20060 : Int32)) dX10_compares_1 (by decide) ?_
  refine ev_icmp_eq (tgt := 21) dX10_compares_4 (by decide) (fun hc1 => ?_) (fun hc1 => ?_)
  · replace h := ite_t hc1 h
    refine ev_iconst (v := (1 : Int32)) dX10_compares_21 (by decide) ?_
    refine ev_goto (tgt := 26) dX10_compares_22 (by decide) ?_
    exact ev_iret rfl rfl (by decide) (by decide) dX10_compares_26 (eqP_P h)
  · replace h := ite_f hc1 h
    refine ev_iload_n dX10_compares_7 rfl ?_
    refine ev_sipush (v := (20061 : Int32)) dX10_compares_8 (by decide) ?_
    refine ev_icmp_eq (tgt := 21) dX10_compares_11 (by decide) (fun hc2 => ?_) (fun hc2 => ?_)
    · replace h := ite_t hc2 h
      refine ev_iconst (v := (1 : Int32)) dX10_compares_21 (by decide) ?_
      refine ev_goto (tgt := 26) dX10_compares_22 (by decide) ?_
      exact ev_iret rfl rfl (by decide) (by decide) dX10_compares_26 (eqP_P h)
    · replace h := ite_f hc2 h
      refine ev_iload_n dX10_compares_14 rfl ?_
      refine ev_sipush (v := (20062 : Int32)) dX10_compares_15 (by decide) ?_
      refine ev_icmp_ne (tgt := 25) dX10_compares_18 (by decide) (fun hc3 => ?_) (fun hc3 => ?_)
      · replace h := ite_f hc3 h
        refine ev_iconst (v := (0 : Int32)) dX10_compares_25 (by decide) ?_
        exact ev_iret rfl rfl (by decide) (by decide) dX10_compares_26 (eqP_P h)
      · replace h := ite_t hc3 h
        refine ev_iconst (v := (1 : Int32)) dX10_compares_21 (by decide) ?_
        refine ev_goto (tgt := 26) dX10_compares_22 (by decide) ?_
        exact ev_iret rfl rfl (by decide) (by decide) dX10_compares_26 (eqP_P h)
def f_X5_clause_L4 (G : Nat) (fq : Int32 → Mem → Option Mem) (k4_45 : Int32 → Int32 → Mem → Option Mem) : Nat → Int32 → Int32 → Int32 → Mem → Option Mem
  | 0, _, _, _, _ => none
  | g + 1, v1, v2, v3, μ =>
  (if (400 : Int32) < v3 then
  k4_45 v1 v2 μ
  else
  (if (μ 41 6) = (0 : Int32) then
  (if (μ 41 10) = (10006 : Int32) then
  bndE (f_X5_opens G (v1 + v2) μ) (fun w6 m5 =>
  (f_X5_clause_L4 G fq k4_45 g) v1 (v2 + (1 : Int32)) (v3 + (1 : Int32)) m5)
  else
  k4_45 v1 v2 μ)
  else
  k4_45 v1 v2 μ))
set_option maxHeartbeats 4000000 in
set_option maxRecDepth 100000 in
theorem f_X5_clause_L4_ok {bb : Bool} {G : Nat} {fq : Int32 → Mem → Option Mem} {μr : Mem} {dd : Nat} (hfq : ∀ (p : Int32) (μ μr : Mem), fq p μ = some μr → Cn yX5_condition cX5_condition 5 none dd 0 0 [.ref 41, .int p] (shC bb) μ (eqP none (shC bb) μr)) {k4_45 : Int32 → Int32 → Mem → Option Mem} (hk4_45 : ∀ (v1 : Int32) (v2 : Int32) (m : Mem), k4_45 v1 v2 m = some μr → Ev RX5 cX5_clause 4 none false (4 + dd) 0 0 (eqP none (shC bb) μr) 45 [some (.ref 41), some (.int v1), some (.int v2), none] [] (shC bb) m 0 0) : ∀ (g : Nat) (v1 v2 v3 : Int32) (μ : Mem), f_X5_clause_L4 G fq k4_45 g v1 v2 v3 μ = some μr → Ev RX5 cX5_clause 4 none false (4 + dd) 0 0 (eqP none (shC bb) μr) 4 [some (.ref 41), some (.int v1), some (.int v2), some (.int v3)] [] (shC bb) μ 0 0 := by
  intro g
  induction g with
  | zero =>
    intro v1 v2 v3 μ h
    cases h
  | succ g ih =>
    intro v1 v2 v3 μ h
    rw [f_X5_clause_L4] at h
    refine ev_iload_n dX5_clause_4 rfl ?_
    refine ev_sipush (v := (400 : Int32)) dX5_clause_5 (by decide) ?_
    refine ev_icmp_gt (tgt := 45) dX5_clause_8 (by decide) (fun hc1 => ?_) (fun hc1 => ?_)
    · replace h := ite_t hc1 h
      exact ev_lt (hk4_45 _ _ _ h) ⟨rfl, ⟨rfl, ⟨rfl, trivial⟩⟩⟩
    · replace h := ite_f hc1 h
      refine ev_aload_n dX5_clause_11 rfl ?_
      refine ev_getI fr_X5_44 shC_41 rfl dX5_clause_12 ?_
      refine ev_if_ne (tgt := 45) dX5_clause_15 (by decide) (fun hc2 => ?_) (fun hc2 => ?_)
      · replace h := ite_f hc2 h
        exact ev_lt (hk4_45 _ _ _ h) ⟨rfl, ⟨rfl, ⟨rfl, trivial⟩⟩⟩
      · replace h := ite_t hc2 h
        refine ev_aload_n dX5_clause_18 rfl ?_
        refine ev_getI fr_X5_65 shC_41 rfl dX5_clause_19 ?_
        refine ev_sipush (v := (10006 : Int32)) dX5_clause_22 (by decide) ?_
        refine ev_icmp_ne (tgt := 45) dX5_clause_25 (by decide) (fun hc3 => ?_) (fun hc3 => ?_)
        · replace h := ite_f hc3 h
          exact ev_lt (hk4_45 _ _ _ h) ⟨rfl, ⟨rfl, ⟨rfl, trivial⟩⟩⟩
        · replace h := ite_t hc3 h
          refine ev_aload_n dX5_clause_28 rfl ?_
          refine ev_iload_n dX5_clause_29 rfl ?_
          refine ev_iload_n dX5_clause_30 rfl ?_
          refine ev_iadd dX5_clause_31 ?_
          obtain ⟨w6, m5, hq4, h⟩ := bndE_t h
          refine ev_cVi mv_X5_191 dX5_clause_32 (c_X5_opens hq4) rfl shC_41 rfl rfl (Nat.le_of_ble_eq_true rfl) (by rfl) (by omega) (Nat.le_of_ble_eq_true rfl) (Nat.le_of_ble_eq_true rfl) ?_
          refine ev_pop dX5_clause_35 (by rfl) ?_
          refine ev_iinc (cq := (1 : Int32)) (loc' := [_, _, _, _]) dX5_clause_36 rfl (by decide) rfl (by decide) (by rfl) ?_
          refine ev_iinc (cq := (1 : Int32)) (loc' := [_, _, _, _]) dX5_clause_39 rfl (by decide) rfl (by decide) (by rfl) ?_
          refine ev_goto (tgt := 4) dX5_clause_42 (by decide) ?_
          exact ev_lt (ih _ _ _ _ h) ⟨rfl, ⟨rfl, ⟨rfl, ⟨rfl, trivial⟩⟩⟩⟩
def f_X5_clause_L129 (G : Nat) (fq : Int32 → Mem → Option Mem)  : Nat → Int32 → Int32 → Mem → Option Mem
  | 0, _, _, _ => none
  | g + 1, v2, v3, μ =>
  (if v2 ≤ v3 then
  some μ
  else
  (if (8 : Int32) < v3 then
  some μ
  else
  bndV (f_X1_put G 45 (10006 : Int32) μ) (fun m18 =>
  (f_X5_clause_L129 G fq g) v2 (v3 + (1 : Int32)) m18)))
set_option maxHeartbeats 4000000 in
set_option maxRecDepth 100000 in
theorem f_X5_clause_L129_ok {bb : Bool} {G : Nat} {fq : Int32 → Mem → Option Mem} {μr : Mem} {dd : Nat} (hfq : ∀ (p : Int32) (μ μr : Mem), fq p μ = some μr → Cn yX5_condition cX5_condition 5 none dd 0 0 [.ref 41, .int p] (shC bb) μ (eqP none (shC bb) μr))   : ∀ (g : Nat) (v2 v3 : Int32) (μ : Mem), f_X5_clause_L129 G fq g v2 v3 μ = some μr → Ev RX5 cX5_clause 4 none false (4 + dd) 0 0 (eqP none (shC bb) μr) 129 [some (.ref 41), none, some (.int v2), some (.int v3)] [] (shC bb) μ 0 0 := by
  intro g
  induction g with
  | zero =>
    intro v2 v3 μ h
    cases h
  | succ g ih =>
    intro v2 v3 μ h
    rw [f_X5_clause_L129] at h
    refine ev_iload_n dX5_clause_129 rfl ?_
    refine ev_iload_n dX5_clause_130 rfl ?_
    refine ev_icmp_ge (tgt := 156) dX5_clause_131 (by decide) (fun hc15 => ?_) (fun hc15 => ?_)
    · replace h := ite_t hc15 h
      exact ev_vret rfl (by decide) (by decide) dX5_clause_156 (eqP_V h)
    · replace h := ite_f hc15 h
      refine ev_iload_n dX5_clause_134 rfl ?_
      refine ev_bipush (v := (8 : Int32)) dX5_clause_135 (by decide) ?_
      refine ev_icmp_gt (tgt := 156) dX5_clause_137 (by decide) (fun hc16 => ?_) (fun hc16 => ?_)
      · replace h := ite_t hc16 h
        exact ev_vret rfl (by decide) (by decide) dX5_clause_156 (eqP_V h)
      · replace h := ite_f hc16 h
        refine ev_aload_n dX5_clause_140 rfl ?_
        refine ev_getR fr_X5_24 shC_41 rfl dX5_clause_141 ?_
        refine ev_sipush (v := (10006 : Int32)) dX5_clause_144 (by decide) ?_
        obtain ⟨m18, hq17, h⟩ := bndV_t h
        refine ev_cVv mv_X5_180 dX5_clause_147 (c_X1_put atC_45 hq17) rfl shC_45 rfl rfl (Nat.le_of_ble_eq_true rfl) (by rfl) (by omega) (Nat.le_of_ble_eq_true rfl) (Nat.le_of_ble_eq_true rfl) ?_
        refine ev_iinc (cq := (1 : Int32)) (loc' := [_, _, _, _]) dX5_clause_150 rfl (by decide) rfl (by decide) (by rfl) ?_
        refine ev_goto (tgt := 129) dX5_clause_153 (by decide) ?_
        exact ev_lt (ih _ _ _ h) ⟨rfl, ⟨rfl, ⟨rfl, trivial⟩⟩⟩
def f_X5_clause_j127 (G : Nat) (fq : Int32 → Mem → Option Mem)  (v2 : Int32) (μ : Mem) : Option Mem :=
  f_X5_clause_L129 G fq G v2 (0 : Int32) μ
set_option maxHeartbeats 4000000 in
set_option maxRecDepth 100000 in
theorem f_X5_clause_j127_ok {bb : Bool} {G : Nat} {fq : Int32 → Mem → Option Mem} {μr : Mem} {dd : Nat} (hfq : ∀ (p : Int32) (μ μr : Mem), fq p μ = some μr → Cn yX5_condition cX5_condition 5 none dd 0 0 [.ref 41, .int p] (shC bb) μ (eqP none (shC bb) μr))   {v2 : Int32} {μ : Mem} (h : f_X5_clause_j127 G fq v2 μ = some μr) : Ev RX5 cX5_clause 4 none false (4 + dd) 0 0 (eqP none (shC bb) μr) 127 [some (.ref 41), none, some (.int v2), none] [] (shC bb) μ 0 0 := by
  unfold f_X5_clause_j127 at h
  refine ev_iconst (v := (0 : Int32)) dX5_clause_127 (by decide) ?_
  refine ev_istore_n (loc' := [_, _, _, _]) dX5_clause_128 rfl (by decide) (by rfl) ?_
  exact ev_lt (f_X5_clause_L129_ok hfq _ _ _ _ h) ⟨rfl, ⟨rfl, ⟨rfl, trivial⟩⟩⟩
def f_X5_clause_j109 (G : Nat) (fq : Int32 → Mem → Option Mem)  (v2 v3 s0 : Int32) (μ : Mem) : Option Mem :=
  bndE (f_X5_expect G s0 μ) (fun w13 m12 =>
  (if w13 = (0 : Int32) then
  f_X5_clause_j127 G fq v2 m12
  else
  bndV (f_X5_expression G m12) (fun m20 =>
  bndV (f_X1_put G 45 v3 m20) (fun m22 =>
  f_X5_clause_j127 G fq v2 m22))))
set_option maxHeartbeats 4000000 in
set_option maxRecDepth 100000 in
theorem f_X5_clause_j109_ok {bb : Bool} {G : Nat} {fq : Int32 → Mem → Option Mem} {μr : Mem} {dd : Nat} (hfq : ∀ (p : Int32) (μ μr : Mem), fq p μ = some μr → Cn yX5_condition cX5_condition 5 none dd 0 0 [.ref 41, .int p] (shC bb) μ (eqP none (shC bb) μr))   {v2 v3 s0 : Int32} {μ : Mem} (h : f_X5_clause_j109 G fq v2 v3 s0 μ = some μr) : Ev RX5 cX5_clause 4 none false (4 + dd) 0 0 (eqP none (shC bb) μr) 109 [some (.ref 41), none, some (.int v2), some (.int v3)] [.int s0, .ref 41] (shC bb) μ 0 0 := by
  unfold f_X5_clause_j109 at h
  obtain ⟨w13, m12, hq11, h⟩ := bndE_t h
  refine ev_cVi mv_X5_140 dX5_clause_109 (c_X5_expect hq11) rfl shC_41 rfl rfl (Nat.le_of_ble_eq_true rfl) (by rfl) (by omega) (Nat.le_of_ble_eq_true rfl) (Nat.le_of_ble_eq_true rfl) ?_
  refine ev_if_eq (tgt := 127) dX5_clause_112 (by decide) (fun hc14 => ?_) (fun hc14 => ?_)
  · replace h := ite_t hc14 h
    exact ev_lt (f_X5_clause_j127_ok hfq h) ⟨rfl, ⟨rfl, trivial⟩⟩
  · replace h := ite_f hc14 h
    refine ev_aload_n dX5_clause_115 rfl ?_
    obtain ⟨m20, hq19, h⟩ := bndV_t h
    refine ev_cVv mv_X5_166 dX5_clause_116 (c_X5_expression hq19) rfl shC_41 rfl rfl (Nat.le_of_ble_eq_true rfl) (by rfl) (by omega) (Nat.le_of_ble_eq_true rfl) (Nat.le_of_ble_eq_true rfl) ?_
    refine ev_aload_n dX5_clause_119 rfl ?_
    refine ev_getR fr_X5_24 shC_41 rfl dX5_clause_120 ?_
    refine ev_iload_n dX5_clause_123 rfl ?_
    obtain ⟨m22, hq21, h⟩ := bndV_t h
    refine ev_cVv mv_X5_180 dX5_clause_124 (c_X1_put atC_45 hq21) rfl shC_45 rfl rfl (Nat.le_of_ble_eq_true rfl) (by rfl) (by omega) (Nat.le_of_ble_eq_true rfl) (Nat.le_of_ble_eq_true rfl) ?_
    exact ev_lt (f_X5_clause_j127_ok hfq h) ⟨rfl, ⟨rfl, trivial⟩⟩
def f_X5_clause_j85 (G : Nat) (fq : Int32 → Mem → Option Mem)  (v2 : Int32) (μ : Mem) : Option Mem :=
  bndV (f_X5_expression G μ) (fun m9 =>
  (if (f_X10_compares (m9 41 10)) = (0 : Int32) then
  f_X5_clause_j109 G fq v2 (m9 41 10) (20060 : Int32) m9
  else
  f_X5_clause_j109 G fq v2 (m9 41 10) (m9 41 10) m9))
set_option maxHeartbeats 4000000 in
set_option maxRecDepth 100000 in
theorem f_X5_clause_j85_ok {bb : Bool} {G : Nat} {fq : Int32 → Mem → Option Mem} {μr : Mem} {dd : Nat} (hfq : ∀ (p : Int32) (μ μr : Mem), fq p μ = some μr → Cn yX5_condition cX5_condition 5 none dd 0 0 [.ref 41, .int p] (shC bb) μ (eqP none (shC bb) μr))   {v2 : Int32} {μ : Mem} (h : f_X5_clause_j85 G fq v2 μ = some μr) : Ev RX5 cX5_clause 4 none false (4 + dd) 0 0 (eqP none (shC bb) μr) 85 [some (.ref 41), none, some (.int v2), none] [] (shC bb) μ 0 0 := by
  unfold f_X5_clause_j85 at h
  refine ev_aload_n dX5_clause_85 rfl ?_
  obtain ⟨m9, hq8, h⟩ := bndV_t h
  refine ev_cVv mv_X5_166 dX5_clause_86 (c_X5_expression hq8) rfl shC_41 rfl rfl (Nat.le_of_ble_eq_true rfl) (by rfl) (by omega) (Nat.le_of_ble_eq_true rfl) (Nat.le_of_ble_eq_true rfl) ?_
  refine ev_aload_n dX5_clause_89 rfl ?_
  refine ev_getI fr_X5_65 shC_41 rfl dX5_clause_90 ?_
  refine ev_istore_n (loc' := [_, _, _, _]) dX5_clause_93 rfl (by decide) (by rfl) ?_
  refine ev_aload_n dX5_clause_94 rfl ?_
  refine ev_iload_n dX5_clause_95 rfl ?_
  refine ev_cSi mv_X5_194 dX5_clause_96 c_X10_compares rfl rfl (Nat.le_of_ble_eq_true rfl) (by rfl) (by omega) (Nat.le_of_ble_eq_true rfl) (Nat.le_of_ble_eq_true rfl) ?_
  refine ev_if_eq (tgt := 106) dX5_clause_99 (by decide) (fun hc10 => ?_) (fun hc10 => ?_)
  · replace h := ite_t hc10 h
    refine ev_sipush (v := (20060 : Int32)) dX5_clause_106 (by decide) ?_
    exact ev_lt (f_X5_clause_j109_ok hfq h) ⟨rfl, ⟨rfl, ⟨rfl, trivial⟩⟩⟩
  · replace h := ite_f hc10 h
    refine ev_iload_n dX5_clause_102 rfl ?_
    refine ev_goto (tgt := 109) dX5_clause_103 (by decide) ?_
    exact ev_lt (f_X5_clause_j109_ok hfq h) ⟨rfl, ⟨rfl, ⟨rfl, trivial⟩⟩⟩
def f_X5_clause_j45 (G : Nat) (fq : Int32 → Mem → Option Mem)  (v1 v2 : Int32) (μ : Mem) : Option Mem :=
  (if (μ 41 10) = (20040 : Int32) then
  bndE (f_X5_opens G (v1 + v2) μ) (fun w25 m24 =>
  (if w25 = (0 : Int32) then
  f_X5_clause_j85 G fq v2 m24
  else
  bndV (fq ((v1 + v2) + (1 : Int32)) m24) (fun m27 =>
  bndE (f_X5_expect G (20041 : Int32) m27) (fun w31 m30 =>
  f_X5_clause_j127 G fq v2 m30))))
  else
  f_X5_clause_j85 G fq v2 μ)
set_option maxHeartbeats 4000000 in
set_option maxRecDepth 100000 in
theorem f_X5_clause_j45_ok {bb : Bool} {G : Nat} {fq : Int32 → Mem → Option Mem} {μr : Mem} {dd : Nat} (hfq : ∀ (p : Int32) (μ μr : Mem), fq p μ = some μr → Cn yX5_condition cX5_condition 5 none dd 0 0 [.ref 41, .int p] (shC bb) μ (eqP none (shC bb) μr))   {v1 v2 : Int32} {μ : Mem} (h : f_X5_clause_j45 G fq v1 v2 μ = some μr) : Ev RX5 cX5_clause 4 none false (4 + dd) 0 0 (eqP none (shC bb) μr) 45 [some (.ref 41), some (.int v1), some (.int v2), none] [] (shC bb) μ 0 0 := by
  unfold f_X5_clause_j45 at h
  refine ev_aload_n dX5_clause_45 rfl ?_
  refine ev_getI fr_X5_65 shC_41 rfl dX5_clause_46 ?_
  refine ev_sipush (v := (20040 : Int32)) dX5_clause_49 (by decide) ?_
  refine ev_icmp_ne (tgt := 85) dX5_clause_52 (by decide) (fun hc7 => ?_) (fun hc7 => ?_)
  · replace h := ite_f hc7 h
    exact ev_lt (f_X5_clause_j85_ok hfq h) ⟨rfl, ⟨rfl, trivial⟩⟩
  · replace h := ite_t hc7 h
    refine ev_aload_n dX5_clause_55 rfl ?_
    refine ev_iload_n dX5_clause_56 rfl ?_
    refine ev_iload_n dX5_clause_57 rfl ?_
    refine ev_iadd dX5_clause_58 ?_
    obtain ⟨w25, m24, hq23, h⟩ := bndE_t h
    refine ev_cVi mv_X5_191 dX5_clause_59 (c_X5_opens hq23) rfl shC_41 rfl rfl (Nat.le_of_ble_eq_true rfl) (by rfl) (by omega) (Nat.le_of_ble_eq_true rfl) (Nat.le_of_ble_eq_true rfl) ?_
    refine ev_if_eq (tgt := 85) dX5_clause_62 (by decide) (fun hc26 => ?_) (fun hc26 => ?_)
    · replace h := ite_t hc26 h
      exact ev_lt (f_X5_clause_j85_ok hfq h) ⟨rfl, ⟨rfl, trivial⟩⟩
    · replace h := ite_f hc26 h
      refine ev_aload_n dX5_clause_65 rfl ?_
      refine ev_iload_n dX5_clause_66 rfl ?_
      refine ev_iload_n dX5_clause_67 rfl ?_
      refine ev_iadd dX5_clause_68 ?_
      refine ev_iconst (v := (1 : Int32)) dX5_clause_69 (by decide) ?_
      refine ev_iadd dX5_clause_70 ?_
      obtain ⟨m27, hq28, h⟩ := bndV_t h
      refine ev_cVv mv_X5_169 dX5_clause_71 (hfq _ _ _ hq28) rfl shC_41 rfl rfl (Nat.le_of_ble_eq_true rfl) (by rfl) (by omega) (Nat.le_of_ble_eq_true rfl) (Nat.le_of_ble_eq_true rfl) ?_
      refine ev_aload_n dX5_clause_74 rfl ?_
      refine ev_sipush (v := (20041 : Int32)) dX5_clause_75 (by decide) ?_
      obtain ⟨w31, m30, hq29, h⟩ := bndE_t h
      refine ev_cVi mv_X5_140 dX5_clause_78 (c_X5_expect hq29) rfl shC_41 rfl rfl (Nat.le_of_ble_eq_true rfl) (by rfl) (by omega) (Nat.le_of_ble_eq_true rfl) (Nat.le_of_ble_eq_true rfl) ?_
      refine ev_pop dX5_clause_81 (by rfl) ?_
      refine ev_goto (tgt := 127) dX5_clause_82 (by decide) ?_
      exact ev_lt (f_X5_clause_j127_ok hfq h) ⟨rfl, ⟨rfl, trivial⟩⟩
def f_X5_clause (G : Nat) (fq : Int32 → Mem → Option Mem) (p1 : Int32) (μ : Mem) : Option Mem :=
  f_X5_clause_L4 G fq (f_X5_clause_j45 G fq) G p1 (0 : Int32) (0 : Int32) μ
set_option maxHeartbeats 4000000 in
set_option maxRecDepth 100000 in
theorem c_X5_clause {bb : Bool} {G : Nat} {fq : Int32 → Mem → Option Mem} {μ : Mem} {p1 : Int32} {μr : Mem} {dd : Nat} (hfq : ∀ (p : Int32) (μ μr : Mem), fq p μ = some μr → Cn yX5_condition cX5_condition 5 none dd 0 0 [.ref 41, .int p] (shC bb) μ (eqP none (shC bb) μr)) (h : f_X5_clause G fq p1 μ = some μr) : Cn yX5_clause cX5_clause 4 none (4 + dd) 0 0 [.ref 41, .int p1] (shC bb) μ (eqP none (shC bb) μr) := by
  refine cn_of (own := RX5) (ini := false) (loc := [some (.ref 41), some (.int p1), none, none]) rfl (by decide) (fun q => by cases q) (Nat.le_of_ble_eq_true rfl) (by rfl) rfl ?_
  unfold f_X5_clause at h
  refine ev_iconst (v := (0 : Int32)) dX5_clause_0 (by decide) ?_
  refine ev_istore_n (loc' := [_, _, _, _]) dX5_clause_1 rfl (by decide) (by rfl) ?_
  refine ev_iconst (v := (0 : Int32)) dX5_clause_2 (by decide) ?_
  refine ev_istore_n (loc' := [_, _, _, _]) dX5_clause_3 rfl (by decide) (by rfl) ?_
  exact ev_lt (f_X5_clause_L4_ok hfq (fun _ _ _ hh => f_X5_clause_j45_ok hfq hh) _ _ _ _ _ h) ⟨rfl, ⟨rfl, ⟨rfl, ⟨rfl, trivial⟩⟩⟩⟩
def f_X5_condition_j96 (G : Nat) (fq : Int32 → Mem → Option Mem) (r7 : Int32 → Int32 → Int32 → Int32 → Mem → Option Mem) (v1 v2 v3 v4 : Int32) (μ : Mem) : Option Mem :=
  bndV (f_X5_advance G μ) (fun m9 =>
  r7 v1 v2 v3 (v4 + (1 : Int32)) m9)
set_option maxHeartbeats 4000000 in
set_option maxRecDepth 100000 in
theorem f_X5_condition_j96_ok {bb : Bool} {G : Nat} {fq : Int32 → Mem → Option Mem} {μr : Mem} {dd : Nat} (hfq : ∀ (p : Int32) (μ μr : Mem), fq p μ = some μr → Cn yX5_clause cX5_clause 4 none dd 0 0 [.ref 41, .int p] (shC bb) μ (eqP none (shC bb) μr)) {r7 : Int32 → Int32 → Int32 → Int32 → Mem → Option Mem} (hr7 : ∀ (v1 : Int32) (v2 : Int32) (v3 : Int32) (v4 : Int32) (m : Mem), r7 v1 v2 v3 v4 m = some μr → Ev RX5 cX5_condition 5 none false (2 + dd) 0 0 (eqP none (shC bb) μr) 7 [some (.ref 41), some (.int v1), some (.int v2), some (.int v3), some (.int v4)] [] (shC bb) m 0 0) {v1 v2 v3 v4 : Int32} {μ : Mem} (h : f_X5_condition_j96 G fq r7 v1 v2 v3 v4 μ = some μr) : Ev RX5 cX5_condition 5 none false (2 + dd) 0 0 (eqP none (shC bb) μr) 96 [some (.ref 41), some (.int v1), some (.int v2), some (.int v3), some (.int v4)] [] (shC bb) μ 0 0 := by
  unfold f_X5_condition_j96 at h
  refine ev_aload_n dX5_condition_96 rfl ?_
  obtain ⟨m9, hq8, h⟩ := bndV_t h
  refine ev_cVv mv_X5_137 dX5_condition_97 (c_X5_advance hq8) rfl shC_41 rfl rfl (Nat.le_of_ble_eq_true rfl) (by rfl) (by omega) (Nat.le_of_ble_eq_true rfl) (Nat.le_of_ble_eq_true rfl) ?_
  refine ev_iinc (cq := (1 : Int32)) (loc' := [_, _, _, _, _]) dX5_condition_100 rfl (by decide) rfl (by decide) (by rfl) ?_
  refine ev_goto (tgt := 7) dX5_condition_103 (by decide) ?_
  exact ev_lt (hr7 _ _ _ _ _ h) ⟨rfl, ⟨rfl, ⟨rfl, ⟨rfl, ⟨rfl, trivial⟩⟩⟩⟩⟩
def f_X5_condition_j90 (G : Nat) (fq : Int32 → Mem → Option Mem) (r7 : Int32 → Int32 → Int32 → Int32 → Mem → Option Mem) (v1 v2 v4 s0 : Int32) (μ : Mem) : Option Mem :=
  (if s0 = (0 : Int32) then
  some μ
  else
  f_X5_condition_j96 G fq r7 v1 v2 s0 v4 μ)
set_option maxHeartbeats 4000000 in
set_option maxRecDepth 100000 in
theorem f_X5_condition_j90_ok {bb : Bool} {G : Nat} {fq : Int32 → Mem → Option Mem} {μr : Mem} {dd : Nat} (hfq : ∀ (p : Int32) (μ μr : Mem), fq p μ = some μr → Cn yX5_clause cX5_clause 4 none dd 0 0 [.ref 41, .int p] (shC bb) μ (eqP none (shC bb) μr)) {r7 : Int32 → Int32 → Int32 → Int32 → Mem → Option Mem} (hr7 : ∀ (v1 : Int32) (v2 : Int32) (v3 : Int32) (v4 : Int32) (m : Mem), r7 v1 v2 v3 v4 m = some μr → Ev RX5 cX5_condition 5 none false (2 + dd) 0 0 (eqP none (shC bb) μr) 7 [some (.ref 41), some (.int v1), some (.int v2), some (.int v3), some (.int v4)] [] (shC bb) m 0 0) {v1 v2 v4 s0 : Int32} {μ : Mem} (h : f_X5_condition_j90 G fq r7 v1 v2 v4 s0 μ = some μr) : Ev RX5 cX5_condition 5 none false (2 + dd) 0 0 (eqP none (shC bb) μr) 90 [some (.ref 41), some (.int v1), some (.int v2), none, some (.int v4)] [.int s0] (shC bb) μ 0 0 := by
  unfold f_X5_condition_j90 at h
  refine ev_istore_n (loc' := [_, _, _, _, _]) dX5_condition_90 rfl (by decide) (by rfl) ?_
  refine ev_iload_n dX5_condition_91 rfl ?_
  refine ev_if_ne (tgt := 96) dX5_condition_92 (by decide) (fun hc12 => ?_) (fun hc12 => ?_)
  · replace h := ite_f hc12 h
    exact ev_lt (f_X5_condition_j96_ok hfq hr7 h) ⟨rfl, ⟨rfl, ⟨rfl, ⟨rfl, ⟨rfl, trivial⟩⟩⟩⟩⟩
  · replace h := ite_t hc12 h
    exact ev_vret rfl (by decide) (by decide) dX5_condition_95 (eqP_V h)
def f_X5_condition_j75 (G : Nat) (fq : Int32 → Mem → Option Mem) (r7 : Int32 → Int32 → Int32 → Int32 → Mem → Option Mem) (v1 v2 v4 : Int32) (μ : Mem) : Option Mem :=
  (if (μ 41 10) = (10004 : Int32) then
  f_X5_condition_j90 G fq r7 v1 v2 v4 (1 : Int32) μ
  else
  f_X5_condition_j90 G fq r7 v1 v2 v4 (0 : Int32) μ)
set_option maxHeartbeats 4000000 in
set_option maxRecDepth 100000 in
theorem f_X5_condition_j75_ok {bb : Bool} {G : Nat} {fq : Int32 → Mem → Option Mem} {μr : Mem} {dd : Nat} (hfq : ∀ (p : Int32) (μ μr : Mem), fq p μ = some μr → Cn yX5_clause cX5_clause 4 none dd 0 0 [.ref 41, .int p] (shC bb) μ (eqP none (shC bb) μr)) {r7 : Int32 → Int32 → Int32 → Int32 → Mem → Option Mem} (hr7 : ∀ (v1 : Int32) (v2 : Int32) (v3 : Int32) (v4 : Int32) (m : Mem), r7 v1 v2 v3 v4 m = some μr → Ev RX5 cX5_condition 5 none false (2 + dd) 0 0 (eqP none (shC bb) μr) 7 [some (.ref 41), some (.int v1), some (.int v2), some (.int v3), some (.int v4)] [] (shC bb) m 0 0) {v1 v2 v4 : Int32} {μ : Mem} (h : f_X5_condition_j75 G fq r7 v1 v2 v4 μ = some μr) : Ev RX5 cX5_condition 5 none false (2 + dd) 0 0 (eqP none (shC bb) μr) 75 [some (.ref 41), some (.int v1), some (.int v2), none, some (.int v4)] [] (shC bb) μ 0 0 := by
  unfold f_X5_condition_j75 at h
  refine ev_aload_n dX5_condition_75 rfl ?_
  refine ev_getI fr_X5_65 shC_41 rfl dX5_condition_76 ?_
  refine ev_sipush (v := (10004 : Int32)) dX5_condition_79 (by decide) ?_
  refine ev_icmp_ne (tgt := 89) dX5_condition_82 (by decide) (fun hc11 => ?_) (fun hc11 => ?_)
  · replace h := ite_f hc11 h
    refine ev_iconst (v := (0 : Int32)) dX5_condition_89 (by decide) ?_
    exact ev_lt (f_X5_condition_j90_ok hfq hr7 h) ⟨rfl, ⟨rfl, ⟨rfl, ⟨rfl, trivial⟩⟩⟩⟩
  · replace h := ite_t hc11 h
    refine ev_iconst (v := (1 : Int32)) dX5_condition_85 (by decide) ?_
    refine ev_goto (tgt := 90) dX5_condition_86 (by decide) ?_
    exact ev_lt (f_X5_condition_j90_ok hfq hr7 h) ⟨rfl, ⟨rfl, ⟨rfl, ⟨rfl, trivial⟩⟩⟩⟩
def f_X5_condition_j56 (G : Nat) (fq : Int32 → Mem → Option Mem) (r7 : Int32 → Int32 → Int32 → Int32 → Mem → Option Mem) (v1 v3 v4 s0 : Int32) (μ : Mem) : Option Mem :=
  (if s0 = (0 : Int32) then
  (if v3 = (0 : Int32) then
  f_X5_condition_j75 G fq r7 v1 s0 v4 μ
  else
  bndV (f_X1_put G 45 (10004 : Int32) μ) (fun m14 =>
  f_X5_condition_j75 G fq r7 v1 s0 v4 m14))
  else
  f_X5_condition_j96 G fq r7 v1 s0 v3 v4 μ)
set_option maxHeartbeats 4000000 in
set_option maxRecDepth 100000 in
theorem f_X5_condition_j56_ok {bb : Bool} {G : Nat} {fq : Int32 → Mem → Option Mem} {μr : Mem} {dd : Nat} (hfq : ∀ (p : Int32) (μ μr : Mem), fq p μ = some μr → Cn yX5_clause cX5_clause 4 none dd 0 0 [.ref 41, .int p] (shC bb) μ (eqP none (shC bb) μr)) {r7 : Int32 → Int32 → Int32 → Int32 → Mem → Option Mem} (hr7 : ∀ (v1 : Int32) (v2 : Int32) (v3 : Int32) (v4 : Int32) (m : Mem), r7 v1 v2 v3 v4 m = some μr → Ev RX5 cX5_condition 5 none false (2 + dd) 0 0 (eqP none (shC bb) μr) 7 [some (.ref 41), some (.int v1), some (.int v2), some (.int v3), some (.int v4)] [] (shC bb) m 0 0) {v1 v3 v4 s0 : Int32} {μ : Mem} (h : f_X5_condition_j56 G fq r7 v1 v3 v4 s0 μ = some μr) : Ev RX5 cX5_condition 5 none false (2 + dd) 0 0 (eqP none (shC bb) μr) 56 [some (.ref 41), some (.int v1), none, some (.int v3), some (.int v4)] [.int s0] (shC bb) μ 0 0 := by
  unfold f_X5_condition_j56 at h
  refine ev_istore_n (loc' := [_, _, _, _, _]) dX5_condition_56 rfl (by decide) (by rfl) ?_
  refine ev_iload_n dX5_condition_57 rfl ?_
  refine ev_if_ne (tgt := 96) dX5_condition_58 (by decide) (fun hc7 => ?_) (fun hc7 => ?_)
  · replace h := ite_f hc7 h
    exact ev_lt (f_X5_condition_j96_ok hfq hr7 h) ⟨rfl, ⟨rfl, ⟨rfl, ⟨rfl, ⟨rfl, trivial⟩⟩⟩⟩⟩
  · replace h := ite_t hc7 h
    refine ev_iload_n dX5_condition_61 rfl ?_
    refine ev_if_eq (tgt := 75) dX5_condition_62 (by decide) (fun hc10 => ?_) (fun hc10 => ?_)
    · replace h := ite_t hc10 h
      exact ev_lt (f_X5_condition_j75_ok hfq hr7 h) ⟨rfl, ⟨rfl, ⟨rfl, ⟨rfl, trivial⟩⟩⟩⟩
    · replace h := ite_f hc10 h
      refine ev_aload_n dX5_condition_65 rfl ?_
      refine ev_getR fr_X5_24 shC_41 rfl dX5_condition_66 ?_
      refine ev_sipush (v := (10004 : Int32)) dX5_condition_69 (by decide) ?_
      obtain ⟨m14, hq13, h⟩ := bndV_t h
      refine ev_cVv mv_X5_180 dX5_condition_72 (c_X1_put atC_45 hq13) rfl shC_45 rfl rfl (Nat.le_of_ble_eq_true rfl) (by rfl) (by omega) (Nat.le_of_ble_eq_true rfl) (Nat.le_of_ble_eq_true rfl) ?_
      exact ev_lt (f_X5_condition_j75_ok hfq hr7 h) ⟨rfl, ⟨rfl, ⟨rfl, ⟨rfl, trivial⟩⟩⟩⟩
def f_X5_condition_j41 (G : Nat) (fq : Int32 → Mem → Option Mem) (r7 : Int32 → Int32 → Int32 → Int32 → Mem → Option Mem) (v1 v3 v4 : Int32) (μ : Mem) : Option Mem :=
  (if (μ 41 10) = (10005 : Int32) then
  f_X5_condition_j56 G fq r7 v1 v3 v4 (1 : Int32) μ
  else
  f_X5_condition_j56 G fq r7 v1 v3 v4 (0 : Int32) μ)
set_option maxHeartbeats 4000000 in
set_option maxRecDepth 100000 in
theorem f_X5_condition_j41_ok {bb : Bool} {G : Nat} {fq : Int32 → Mem → Option Mem} {μr : Mem} {dd : Nat} (hfq : ∀ (p : Int32) (μ μr : Mem), fq p μ = some μr → Cn yX5_clause cX5_clause 4 none dd 0 0 [.ref 41, .int p] (shC bb) μ (eqP none (shC bb) μr)) {r7 : Int32 → Int32 → Int32 → Int32 → Mem → Option Mem} (hr7 : ∀ (v1 : Int32) (v2 : Int32) (v3 : Int32) (v4 : Int32) (m : Mem), r7 v1 v2 v3 v4 m = some μr → Ev RX5 cX5_condition 5 none false (2 + dd) 0 0 (eqP none (shC bb) μr) 7 [some (.ref 41), some (.int v1), some (.int v2), some (.int v3), some (.int v4)] [] (shC bb) m 0 0) {v1 v3 v4 : Int32} {μ : Mem} (h : f_X5_condition_j41 G fq r7 v1 v3 v4 μ = some μr) : Ev RX5 cX5_condition 5 none false (2 + dd) 0 0 (eqP none (shC bb) μr) 41 [some (.ref 41), some (.int v1), none, some (.int v3), some (.int v4)] [] (shC bb) μ 0 0 := by
  unfold f_X5_condition_j41 at h
  refine ev_aload_n dX5_condition_41 rfl ?_
  refine ev_getI fr_X5_65 shC_41 rfl dX5_condition_42 ?_
  refine ev_sipush (v := (10005 : Int32)) dX5_condition_45 (by decide) ?_
  refine ev_icmp_ne (tgt := 55) dX5_condition_48 (by decide) (fun hc6 => ?_) (fun hc6 => ?_)
  · replace h := ite_f hc6 h
    refine ev_iconst (v := (0 : Int32)) dX5_condition_55 (by decide) ?_
    exact ev_lt (f_X5_condition_j56_ok hfq hr7 h) ⟨rfl, ⟨rfl, ⟨rfl, ⟨rfl, trivial⟩⟩⟩⟩
  · replace h := ite_t hc6 h
    refine ev_iconst (v := (1 : Int32)) dX5_condition_51 (by decide) ?_
    refine ev_goto (tgt := 56) dX5_condition_52 (by decide) ?_
    exact ev_lt (f_X5_condition_j56_ok hfq hr7 h) ⟨rfl, ⟨rfl, ⟨rfl, ⟨rfl, trivial⟩⟩⟩⟩
def f_X5_condition_L7 (G : Nat) (fq : Int32 → Mem → Option Mem)  : Nat → Int32 → Int32 → Int32 → Int32 → Mem → Option Mem
  | 0, _, _, _, _, _ => none
  | g + 1, v1, v2, v3, v4, μ =>
  (if (400 : Int32) < v4 then
  some μ
  else
  (if (μ 41 6) = (0 : Int32) then
  bndV (fq v1 μ) (fun m3 =>
  (if v2 = (0 : Int32) then
  f_X5_condition_j41 G fq (f_X5_condition_L7 G fq g) v1 v3 v4 m3
  else
  bndV (f_X1_put G 45 (10005 : Int32) m3) (fun m16 =>
  f_X5_condition_j41 G fq (f_X5_condition_L7 G fq g) v1 v3 v4 m16)))
  else
  some μ))
set_option maxHeartbeats 4000000 in
set_option maxRecDepth 100000 in
theorem f_X5_condition_L7_ok {bb : Bool} {G : Nat} {fq : Int32 → Mem → Option Mem} {μr : Mem} {dd : Nat} (hfq : ∀ (p : Int32) (μ μr : Mem), fq p μ = some μr → Cn yX5_clause cX5_clause 4 none dd 0 0 [.ref 41, .int p] (shC bb) μ (eqP none (shC bb) μr))   : ∀ (g : Nat) (v1 v2 v3 v4 : Int32) (μ : Mem), f_X5_condition_L7 G fq g v1 v2 v3 v4 μ = some μr → Ev RX5 cX5_condition 5 none false (2 + dd) 0 0 (eqP none (shC bb) μr) 7 [some (.ref 41), some (.int v1), some (.int v2), some (.int v3), some (.int v4)] [] (shC bb) μ 0 0 := by
  intro g
  induction g with
  | zero =>
    intro v1 v2 v3 v4 μ h
    cases h
  | succ g ih =>
    intro v1 v2 v3 v4 μ h
    rw [f_X5_condition_L7] at h
    refine ev_iload dX5_condition_7 rfl ?_
    refine ev_sipush (v := (400 : Int32)) dX5_condition_9 (by decide) ?_
    refine ev_icmp_gt (tgt := 106) dX5_condition_12 (by decide) (fun hc1 => ?_) (fun hc1 => ?_)
    · replace h := ite_t hc1 h
      exact ev_vret rfl (by decide) (by decide) dX5_condition_106 (eqP_V h)
    · replace h := ite_f hc1 h
      refine ev_aload_n dX5_condition_15 rfl ?_
      refine ev_getI fr_X5_44 shC_41 rfl dX5_condition_16 ?_
      refine ev_if_ne (tgt := 106) dX5_condition_19 (by decide) (fun hc2 => ?_) (fun hc2 => ?_)
      · replace h := ite_f hc2 h
        exact ev_vret rfl (by decide) (by decide) dX5_condition_106 (eqP_V h)
      · replace h := ite_t hc2 h
        refine ev_aload_n dX5_condition_22 rfl ?_
        refine ev_iload_n dX5_condition_23 rfl ?_
        obtain ⟨m3, hq4, h⟩ := bndV_t h
        refine ev_cVv mv_X5_188 dX5_condition_24 (hfq _ _ _ hq4) rfl shC_41 rfl rfl (Nat.le_of_ble_eq_true rfl) (by rfl) (by omega) (Nat.le_of_ble_eq_true rfl) (Nat.le_of_ble_eq_true rfl) ?_
        refine ev_iload_n dX5_condition_27 rfl ?_
        refine ev_if_eq (tgt := 41) dX5_condition_28 (by decide) (fun hc5 => ?_) (fun hc5 => ?_)
        · replace h := ite_t hc5 h
          exact ev_lt (f_X5_condition_j41_ok hfq ih h) ⟨rfl, ⟨rfl, ⟨rfl, ⟨rfl, trivial⟩⟩⟩⟩
        · replace h := ite_f hc5 h
          refine ev_aload_n dX5_condition_31 rfl ?_
          refine ev_getR fr_X5_24 shC_41 rfl dX5_condition_32 ?_
          refine ev_sipush (v := (10005 : Int32)) dX5_condition_35 (by decide) ?_
          obtain ⟨m16, hq15, h⟩ := bndV_t h
          refine ev_cVv mv_X5_180 dX5_condition_38 (c_X1_put atC_45 hq15) rfl shC_45 rfl rfl (Nat.le_of_ble_eq_true rfl) (by rfl) (by omega) (Nat.le_of_ble_eq_true rfl) (Nat.le_of_ble_eq_true rfl) ?_
          exact ev_lt (f_X5_condition_j41_ok hfq ih h) ⟨rfl, ⟨rfl, ⟨rfl, ⟨rfl, trivial⟩⟩⟩⟩
def f_X5_condition (G : Nat) (fq : Int32 → Mem → Option Mem) (p1 : Int32) (μ : Mem) : Option Mem :=
  f_X5_condition_L7 G fq G p1 (0 : Int32) (0 : Int32) (0 : Int32) μ
set_option maxHeartbeats 4000000 in
set_option maxRecDepth 100000 in
theorem c_X5_condition {bb : Bool} {G : Nat} {fq : Int32 → Mem → Option Mem} {μ : Mem} {p1 : Int32} {μr : Mem} {dd : Nat} (hfq : ∀ (p : Int32) (μ μr : Mem), fq p μ = some μr → Cn yX5_clause cX5_clause 4 none dd 0 0 [.ref 41, .int p] (shC bb) μ (eqP none (shC bb) μr)) (h : f_X5_condition G fq p1 μ = some μr) : Cn yX5_condition cX5_condition 5 none (2 + dd) 0 0 [.ref 41, .int p1] (shC bb) μ (eqP none (shC bb) μr) := by
  refine cn_of (own := RX5) (ini := false) (loc := [some (.ref 41), some (.int p1), none, none, none]) rfl (by decide) (fun q => by cases q) (Nat.le_of_ble_eq_true rfl) (by rfl) rfl ?_
  unfold f_X5_condition at h
  refine ev_iconst (v := (0 : Int32)) dX5_condition_0 (by decide) ?_
  refine ev_istore_n (loc' := [_, _, _, _, _]) dX5_condition_1 rfl (by decide) (by rfl) ?_
  refine ev_iconst (v := (0 : Int32)) dX5_condition_2 (by decide) ?_
  refine ev_istore_n (loc' := [_, _, _, _, _]) dX5_condition_3 rfl (by decide) (by rfl) ?_
  refine ev_iconst (v := (0 : Int32)) dX5_condition_4 (by decide) ?_
  refine ev_istore (loc' := [_, _, _, _, _]) dX5_condition_5 rfl (by decide) (by rfl) ?_
  exact ev_lt (f_X5_condition_L7_ok hfq _ _ _ _ _ _ h) ⟨rfl, ⟨rfl, ⟨rfl, ⟨rfl, ⟨rfl, trivial⟩⟩⟩⟩⟩
def f_cond (G : Nat) : Nat → Int32 → Mem → Option Mem
  | 0, _, _ => none
  | n + 1, p, μ => f_X5_condition G (fun q m => f_X5_clause G (f_cond G n) q m) p μ
set_option maxHeartbeats 4000000 in
set_option maxRecDepth 100000 in
theorem c_cond {bb : Bool} {G : Nat} : ∀ (n : Nat) (p : Int32) (μ μr : Mem), f_cond G n p μ = some μr → Cn yX5_condition cX5_condition 5 none (6 * n) 0 0 [.ref 41, .int p] (shC bb) μ (eqP none (shC bb) μr) := by
  intro n
  induction n with
  | zero =>
    intro p μ μr h
    cases h
  | succ n ih =>
    intro p μ μr h
    rw [f_cond] at h
    have h2 := c_X5_condition (bb := bb) (dd := 4 + 6 * n) (fun p μ μr h => c_X5_clause (bb := bb) (dd := 6 * n) (fun p μ μr h => ih p μ μr h) h) h
    rw [show 6 * (n + 1) = 2 + (4 + 6 * n) by omega]
    exact h2
def f_X1_copyFrom (G : Nat) (a : Nat) (b : Nat) (μ : Mem) : Option Mem :=
  (let m1 := cpy μ (b + 1) (a + 1) (ix (0 : Int32)) (ix (0 : Int32)) (ix (400 : Int32))
  (let m2 := cpy m1 (b + 2) (a + 2) (ix (0 : Int32)) (ix (0 : Int32)) (ix (16 : Int32))
  (let m3 := cpy m2 (b + 3) (a + 3) (ix (0 : Int32)) (ix (0 : Int32)) (ix (16 : Int32))
  (let m4 := cpy m3 (b + 4) (a + 4) (ix (0 : Int32)) (ix (0 : Int32)) (ix (16 : Int32))
  (let m5 := cpy m4 (b + 5) (a + 5) (ix (0 : Int32)) (ix (0 : Int32)) (ix (16 : Int32))
  (let m6 := wr m5 a 6 (m5 b 6)
  (let m7 := wr m6 a 7 (m6 b 7)
  some m7)))))))
set_option maxHeartbeats 4000000 in
set_option maxRecDepth 100000 in
theorem c_X1_copyFrom {sh : List Shp} {G : Nat} {a : Nat} {b : Nat} {μ : Mem} {μr : Mem} (ha : At_X1 sh a) (hb : At_X1 sh b) (h : f_X1_copyFrom G a b μ = some μr) : Cn yX1_copyFrom cX1_copyFrom 2 none 2 0 0 [.ref a, .ref b] sh μ (eqP none sh μr) := by
  refine cn_of (own := RX1) (ini := false) (loc := [some (.ref a), some (.ref b)]) rfl (by decide) (fun q => by cases q) (Nat.le_of_ble_eq_true rfl) (by rfl) rfl ?_
  unfold f_X1_copyFrom at h
  refine ev_aload_n dX1_copyFrom_0 rfl ?_
  refine ev_getR fr_X1_9 (hb.1) rfl dX1_copyFrom_1 ?_
  refine ev_iconst (v := (0 : Int32)) dX1_copyFrom_4 (by decide) ?_
  refine ev_aload_n dX1_copyFrom_5 rfl ?_
  refine ev_getR fr_X1_9 (ha.1) rfl dX1_copyFrom_6 ?_
  refine ev_iconst (v := (0 : Int32)) dX1_copyFrom_9 (by decide) ?_
  refine ev_sipush (v := (400 : Int32)) dX1_copyFrom_10 (by decide) ?_
  refine ev_cpy mc_X1_37 (hb.2.1) (ha.2.1) (by decide) (by decide) (by decide) (by decide) (by decide) dX1_copyFrom_13 (Nat.le_of_ble_eq_true rfl) (by rfl) (Nat.le_of_ble_eq_true rfl) ?_
  refine ev_aload_n dX1_copyFrom_16 rfl ?_
  refine ev_getR fr_X1_15 (hb.1) rfl dX1_copyFrom_17 ?_
  refine ev_iconst (v := (0 : Int32)) dX1_copyFrom_20 (by decide) ?_
  refine ev_aload_n dX1_copyFrom_21 rfl ?_
  refine ev_getR fr_X1_15 (ha.1) rfl dX1_copyFrom_22 ?_
  refine ev_iconst (v := (0 : Int32)) dX1_copyFrom_25 (by decide) ?_
  refine ev_bipush (v := (16 : Int32)) dX1_copyFrom_26 (by decide) ?_
  refine ev_cpy mc_X1_37 (hb.2.2.1) (ha.2.2.1) (by decide) (by decide) (by decide) (by decide) (by decide) dX1_copyFrom_28 (Nat.le_of_ble_eq_true rfl) (by rfl) (Nat.le_of_ble_eq_true rfl) ?_
  refine ev_aload_n dX1_copyFrom_31 rfl ?_
  refine ev_getR fr_X1_18 (hb.1) rfl dX1_copyFrom_32 ?_
  refine ev_iconst (v := (0 : Int32)) dX1_copyFrom_35 (by decide) ?_
  refine ev_aload_n dX1_copyFrom_36 rfl ?_
  refine ev_getR fr_X1_18 (ha.1) rfl dX1_copyFrom_37 ?_
  refine ev_iconst (v := (0 : Int32)) dX1_copyFrom_40 (by decide) ?_
  refine ev_bipush (v := (16 : Int32)) dX1_copyFrom_41 (by decide) ?_
  refine ev_cpy mc_X1_37 (hb.2.2.2.1) (ha.2.2.2.1) (by decide) (by decide) (by decide) (by decide) (by decide) dX1_copyFrom_43 (Nat.le_of_ble_eq_true rfl) (by rfl) (Nat.le_of_ble_eq_true rfl) ?_
  refine ev_aload_n dX1_copyFrom_46 rfl ?_
  refine ev_getR fr_X1_21 (hb.1) rfl dX1_copyFrom_47 ?_
  refine ev_iconst (v := (0 : Int32)) dX1_copyFrom_50 (by decide) ?_
  refine ev_aload_n dX1_copyFrom_51 rfl ?_
  refine ev_getR fr_X1_21 (ha.1) rfl dX1_copyFrom_52 ?_
  refine ev_iconst (v := (0 : Int32)) dX1_copyFrom_55 (by decide) ?_
  refine ev_bipush (v := (16 : Int32)) dX1_copyFrom_56 (by decide) ?_
  refine ev_cpy mc_X1_37 (hb.2.2.2.2.1) (ha.2.2.2.2.1) (by decide) (by decide) (by decide) (by decide) (by decide) dX1_copyFrom_58 (Nat.le_of_ble_eq_true rfl) (by rfl) (Nat.le_of_ble_eq_true rfl) ?_
  refine ev_aload_n dX1_copyFrom_61 rfl ?_
  refine ev_getR fr_X1_24 (hb.1) rfl dX1_copyFrom_62 ?_
  refine ev_iconst (v := (0 : Int32)) dX1_copyFrom_65 (by decide) ?_
  refine ev_aload_n dX1_copyFrom_66 rfl ?_
  refine ev_getR fr_X1_24 (ha.1) rfl dX1_copyFrom_67 ?_
  refine ev_iconst (v := (0 : Int32)) dX1_copyFrom_70 (by decide) ?_
  refine ev_bipush (v := (16 : Int32)) dX1_copyFrom_71 (by decide) ?_
  refine ev_cpy mc_X1_37 (hb.2.2.2.2.2.1) (ha.2.2.2.2.2.1) (by decide) (by decide) (by decide) (by decide) (by decide) dX1_copyFrom_73 (Nat.le_of_ble_eq_true rfl) (by rfl) (Nat.le_of_ble_eq_true rfl) ?_
  refine ev_aload_n dX1_copyFrom_76 rfl ?_
  refine ev_aload_n dX1_copyFrom_77 rfl ?_
  refine ev_getI fr_X1_30 (hb.1) rfl dX1_copyFrom_78 ?_
  refine ev_putI fr_X1_30 (ha.1) rfl rfl rfl dX1_copyFrom_81 ?_
  refine ev_aload_n dX1_copyFrom_84 rfl ?_
  refine ev_aload_n dX1_copyFrom_85 rfl ?_
  refine ev_getI fr_X1_34 (hb.1) rfl dX1_copyFrom_86 ?_
  refine ev_putI fr_X1_34 (ha.1) rfl rfl rfl dX1_copyFrom_89 ?_
  exact ev_vret rfl (by decide) (by decide) dX1_copyFrom_92 (eqP_V h)
def f_X2_clear (G : Nat) (a : Nat) (n_a : Nat) (μ : Mem) : Option (Int32 × Mem) :=
  (let m1 := wr μ a 3 (0 : Int32)
  some ((0 : Int32), m1))
set_option maxHeartbeats 4000000 in
set_option maxRecDepth 100000 in
theorem c_X2_clear {sh : List Shp} {G : Nat} {a : Nat} {n_a : Nat} {μ : Mem} {r : Int32} {μr : Mem} (ha : At_X2 sh a n_a) (h : f_X2_clear G a n_a μ = some (r, μr)) : Cn yX2_clear cX2_clear 1 (some .int) 1 0 0 [.ref a] sh μ (eqP (some r) sh μr) := by
  refine cn_of (own := RX2) (ini := false) (loc := [some (.ref a)]) rfl (by decide) (fun q => by cases q) (Nat.le_of_ble_eq_true rfl) (by rfl) rfl ?_
  unfold f_X2_clear at h
  refine ev_aload_n dX2_clear_0 rfl ?_
  refine ev_iconst (v := (0 : Int32)) dX2_clear_1 (by decide) ?_
  refine ev_putI fr_X2_28 (ha.1) rfl rfl rfl dX2_clear_2 ?_
  refine ev_iconst (v := (0 : Int32)) dX2_clear_5 (by decide) ?_
  exact ev_iret rfl rfl (by decide) (by decide) dX2_clear_6 (eqP_E h)
def f_X2_begin_L22 (G : Nat) (a : Nat) (n_a : Nat)  : Nat → Int32 → Mem → Option (Int32 × Mem)
  | 0, _, _ => none
  | g + 1, v1, μ =>
  (if (μ a 1) ≤ v1 then
  (let m4 := wr μ a 3 ((μ a 3) + (1 : Int32))
  some ((1 : Int32), m4))
  else
  chk (((μ a 3) * (μ a 1)) + v1) n_a (let m5 := wr μ (a + 1) (ix (((μ a 3) * (μ a 1)) + v1)) (0 : Int32)
  (f_X2_begin_L22 G a n_a g) (v1 + (1 : Int32)) m5))
set_option maxHeartbeats 4000000 in
set_option maxRecDepth 100000 in
theorem f_X2_begin_L22_ok {sh : List Shp} {G : Nat} {a : Nat} {n_a : Nat} {r : Int32} {μr : Mem} (ha : At_X2 sh a n_a)   : ∀ (g : Nat) (v1 : Int32) (μ : Mem), f_X2_begin_L22 G a n_a g v1 μ = some (r, μr) → Ev RX2 cX2_begin 2 (some .boolean) false 1 0 0 (eqP (some r) sh μr) 22 [some (.ref a), some (.int v1)] [] sh μ 0 0 := by
  intro g
  induction g with
  | zero =>
    intro v1 μ h
    cases h
  | succ g ih =>
    intro v1 μ h
    rw [f_X2_begin_L22] at h
    refine ev_iload_n dX2_begin_22 rfl ?_
    refine ev_aload_n dX2_begin_23 rfl ?_
    refine ev_getI fr_X2_21 (ha.1) rfl dX2_begin_24 ?_
    refine ev_icmp_ge (tgt := 53) dX2_begin_27 (by decide) (fun hc3 => ?_) (fun hc3 => ?_)
    · replace h := ite_t hc3 h
      refine ev_aload_n dX2_begin_53 rfl ?_
      refine ev_dup dX2_begin_54 (by rfl) ?_
      refine ev_getI fr_X2_28 (ha.1) rfl dX2_begin_55 ?_
      refine ev_iconst (v := (1 : Int32)) dX2_begin_58 (by decide) ?_
      refine ev_iadd dX2_begin_59 ?_
      refine ev_putI fr_X2_28 (ha.1) rfl rfl rfl dX2_begin_60 ?_
      refine ev_iconst (v := (1 : Int32)) dX2_begin_63 (by decide) ?_
      exact ev_iret rfl rfl (by decide) (by decide) dX2_begin_64 (eqP_E h)
    · replace h := ite_f hc3 h
      refine ev_aload_n dX2_begin_30 rfl ?_
      refine ev_getR fr_X2_24 (ha.1) rfl dX2_begin_31 ?_
      refine ev_aload_n dX2_begin_34 rfl ?_
      refine ev_getI fr_X2_28 (ha.1) rfl dX2_begin_35 ?_
      refine ev_aload_n dX2_begin_38 rfl ?_
      refine ev_getI fr_X2_21 (ha.1) rfl dX2_begin_39 ?_
      refine ev_imul dX2_begin_42 ?_
      refine ev_iload_n dX2_begin_43 rfl ?_
      refine ev_iadd dX2_begin_44 ?_
      refine ev_iconst (v := (0 : Int32)) dX2_begin_45 (by decide) ?_
      obtain ⟨hi6, h⟩ := chk_t h
      refine ev_iast (ha.2) hi6 dX2_begin_46 ?_
      refine ev_iinc (cq := (1 : Int32)) (loc' := [_, _]) dX2_begin_47 rfl (by decide) rfl (by decide) (by rfl) ?_
      refine ev_goto (tgt := 22) dX2_begin_50 (by decide) ?_
      exact ev_lt (ih _ _ h) ⟨rfl, ⟨rfl, trivial⟩⟩
def f_X2_begin (G : Nat) (a : Nat) (n_a : Nat) (μ : Mem) : Option (Int32 × Mem) :=
  (if (μ a 3) < (0 : Int32) then
  some ((0 : Int32), μ)
  else
  (if (μ a 3) < (μ a 0) then
  f_X2_begin_L22 G a n_a G (0 : Int32) μ
  else
  some ((0 : Int32), μ)))
set_option maxHeartbeats 4000000 in
set_option maxRecDepth 100000 in
theorem c_X2_begin {sh : List Shp} {G : Nat} {a : Nat} {n_a : Nat} {μ : Mem} {r : Int32} {μr : Mem} (ha : At_X2 sh a n_a) (h : f_X2_begin G a n_a μ = some (r, μr)) : Cn yX2_begin cX2_begin 2 (some .boolean) 1 0 0 [.ref a] sh μ (eqP (some r) sh μr) := by
  refine cn_of (own := RX2) (ini := false) (loc := [some (.ref a), none]) rfl (by decide) (fun q => by cases q) (Nat.le_of_ble_eq_true rfl) (by rfl) rfl ?_
  unfold f_X2_begin at h
  refine ev_aload_n dX2_begin_0 rfl ?_
  refine ev_getI fr_X2_28 (ha.1) rfl dX2_begin_1 ?_
  refine ev_if_lt (tgt := 18) dX2_begin_4 (by decide) (fun hc1 => ?_) (fun hc1 => ?_)
  · replace h := ite_t hc1 h
    refine ev_iconst (v := (0 : Int32)) dX2_begin_18 (by decide) ?_
    exact ev_iret rfl rfl (by decide) (by decide) dX2_begin_19 (eqP_E h)
  · replace h := ite_f hc1 h
    refine ev_aload_n dX2_begin_7 rfl ?_
    refine ev_getI fr_X2_28 (ha.1) rfl dX2_begin_8 ?_
    refine ev_aload_n dX2_begin_11 rfl ?_
    refine ev_getI fr_X2_15 (ha.1) rfl dX2_begin_12 ?_
    refine ev_icmp_lt (tgt := 20) dX2_begin_15 (by decide) (fun hc2 => ?_) (fun hc2 => ?_)
    · replace h := ite_t hc2 h
      refine ev_iconst (v := (0 : Int32)) dX2_begin_20 (by decide) ?_
      refine ev_istore_n (loc' := [_, _]) dX2_begin_21 rfl (by decide) (by rfl) ?_
      exact ev_lt (f_X2_begin_L22_ok ha _ _ _ h) ⟨rfl, ⟨rfl, trivial⟩⟩
    · replace h := ite_f hc2 h
      refine ev_iconst (v := (0 : Int32)) dX2_begin_18 (by decide) ?_
      exact ev_iret rfl rfl (by decide) (by decide) dX2_begin_19 (eqP_E h)
def f_X2_at (G : Nat) (a : Nat) (n_a : Nat) (μ : Mem) (p1 p2 : Int32) : Option Int32 :=
  (if (f_X11_isBelow p1 (μ a 3)) = (0 : Int32) then
  some (0 : Int32)
  else
  (if (f_X11_isBelow p2 (μ a 1)) = (0 : Int32) then
  some (0 : Int32)
  else
  chk ((p1 * (μ a 1)) + p2) n_a (some (μ (a + 1) (ix ((p1 * (μ a 1)) + p2))))))
set_option maxHeartbeats 4000000 in
set_option maxRecDepth 100000 in
theorem c_X2_at {sh : List Shp} {G : Nat} {a : Nat} {n_a : Nat} {μ : Mem}  {p1 p2 : Int32} {r : Int32} (ha : At_X2 sh a n_a) (h : f_X2_at G a n_a μ p1 p2 = some r) : Cn yX2_at cX2_at 3 (some .int) 2 0 0 [.ref a, .int p1, .int p2] sh μ (eqP (some r) sh μ) := by
  refine cn_of (own := RX2) (ini := false) (loc := [some (.ref a), some (.int p1), some (.int p2)]) rfl (by decide) (fun q => by cases q) (Nat.le_of_ble_eq_true rfl) (by rfl) rfl ?_
  unfold f_X2_at at h
  refine ev_iload_n dX2_at_0 rfl ?_
  refine ev_aload_n dX2_at_1 rfl ?_
  refine ev_getI fr_X2_28 (ha.1) rfl dX2_at_2 ?_
  refine ev_cNi mv_X2_31 dX2_at_5 c_X11_isBelow rfl rfl (Nat.le_of_ble_eq_true rfl) (by rfl) (Nat.le_of_ble_eq_true rfl) (Nat.le_of_ble_eq_true rfl) (Nat.le_of_ble_eq_true rfl) ?_
  refine ev_if_eq (tgt := 22) dX2_at_8 (by decide) (fun hc1 => ?_) (fun hc1 => ?_)
  · replace h := ite_t hc1 h
    refine ev_iconst (v := (0 : Int32)) dX2_at_22 (by decide) ?_
    exact ev_iret rfl rfl (by decide) (by decide) dX2_at_23 (eqP_O h)
  · replace h := ite_f hc1 h
    refine ev_iload_n dX2_at_11 rfl ?_
    refine ev_aload_n dX2_at_12 rfl ?_
    refine ev_getI fr_X2_21 (ha.1) rfl dX2_at_13 ?_
    refine ev_cNi mv_X2_31 dX2_at_16 c_X11_isBelow rfl rfl (Nat.le_of_ble_eq_true rfl) (by rfl) (Nat.le_of_ble_eq_true rfl) (Nat.le_of_ble_eq_true rfl) (Nat.le_of_ble_eq_true rfl) ?_
    refine ev_if_ne (tgt := 24) dX2_at_19 (by decide) (fun hc2 => ?_) (fun hc2 => ?_)
    · replace h := ite_f hc2 h
      refine ev_aload_n dX2_at_24 rfl ?_
      refine ev_getR fr_X2_24 (ha.1) rfl dX2_at_25 ?_
      refine ev_iload_n dX2_at_28 rfl ?_
      refine ev_aload_n dX2_at_29 rfl ?_
      refine ev_getI fr_X2_21 (ha.1) rfl dX2_at_30 ?_
      refine ev_imul dX2_at_33 ?_
      refine ev_iload_n dX2_at_34 rfl ?_
      refine ev_iadd dX2_at_35 ?_
      obtain ⟨hi3, h⟩ := chk_t h
      refine ev_iald (ha.2) hi3 dX2_at_36 ?_
      exact ev_iret rfl rfl (by decide) (by decide) dX2_at_37 (eqP_O h)
    · replace h := ite_t hc2 h
      refine ev_iconst (v := (0 : Int32)) dX2_at_22 (by decide) ?_
      exact ev_iret rfl rfl (by decide) (by decide) dX2_at_23 (eqP_O h)
def f_X2_put (G : Nat) (a : Nat) (n_a : Nat) (p1 p2 : Int32) (μ : Mem) : Option Mem :=
  (if (μ a 3) ≤ (0 : Int32) then
  some μ
  else
  (if (f_X11_isBelow p1 (μ a 1)) = (0 : Int32) then
  some μ
  else
  chk ((((μ a 3) - (1 : Int32)) * (μ a 1)) + p1) n_a (let m3 := wr μ (a + 1) (ix ((((μ a 3) - (1 : Int32)) * (μ a 1)) + p1)) p2
  some m3)))
set_option maxHeartbeats 4000000 in
set_option maxRecDepth 100000 in
theorem c_X2_put {sh : List Shp} {G : Nat} {a : Nat} {n_a : Nat} {μ : Mem} {p1 p2 : Int32} {μr : Mem} (ha : At_X2 sh a n_a) (h : f_X2_put G a n_a p1 p2 μ = some μr) : Cn yX2_put cX2_put 3 none 2 0 0 [.ref a, .int p1, .int p2] sh μ (eqP none sh μr) := by
  refine cn_of (own := RX2) (ini := false) (loc := [some (.ref a), some (.int p1), some (.int p2)]) rfl (by decide) (fun q => by cases q) (Nat.le_of_ble_eq_true rfl) (by rfl) rfl ?_
  unfold f_X2_put at h
  refine ev_aload_n dX2_put_0 rfl ?_
  refine ev_getI fr_X2_28 (ha.1) rfl dX2_put_1 ?_
  refine ev_if_le (tgt := 37) dX2_put_4 (by decide) (fun hc1 => ?_) (fun hc1 => ?_)
  · replace h := ite_t hc1 h
    exact ev_vret rfl (by decide) (by decide) dX2_put_37 (eqP_V h)
  · replace h := ite_f hc1 h
    refine ev_iload_n dX2_put_7 rfl ?_
    refine ev_aload_n dX2_put_8 rfl ?_
    refine ev_getI fr_X2_21 (ha.1) rfl dX2_put_9 ?_
    refine ev_cNi mv_X2_31 dX2_put_12 c_X11_isBelow rfl rfl (Nat.le_of_ble_eq_true rfl) (by rfl) (Nat.le_of_ble_eq_true rfl) (Nat.le_of_ble_eq_true rfl) (Nat.le_of_ble_eq_true rfl) ?_
    refine ev_if_eq (tgt := 37) dX2_put_15 (by decide) (fun hc2 => ?_) (fun hc2 => ?_)
    · replace h := ite_t hc2 h
      exact ev_vret rfl (by decide) (by decide) dX2_put_37 (eqP_V h)
    · replace h := ite_f hc2 h
      refine ev_aload_n dX2_put_18 rfl ?_
      refine ev_getR fr_X2_24 (ha.1) rfl dX2_put_19 ?_
      refine ev_aload_n dX2_put_22 rfl ?_
      refine ev_getI fr_X2_28 (ha.1) rfl dX2_put_23 ?_
      refine ev_iconst (v := (1 : Int32)) dX2_put_26 (by decide) ?_
      refine ev_isub dX2_put_27 ?_
      refine ev_aload_n dX2_put_28 rfl ?_
      refine ev_getI fr_X2_21 (ha.1) rfl dX2_put_29 ?_
      refine ev_imul dX2_put_32 ?_
      refine ev_iload_n dX2_put_33 rfl ?_
      refine ev_iadd dX2_put_34 ?_
      refine ev_iload_n dX2_put_35 rfl ?_
      obtain ⟨hi4, h⟩ := chk_t h
      refine ev_iast (ha.2) hi4 dX2_put_36 ?_
      exact ev_vret rfl (by decide) (by decide) dX2_put_37 (eqP_V h)
def f_X2_copyFrom_L24 (G : Nat) (a : Nat) (n_a : Nat) (b : Nat) (n_b : Nat) (r7 : Int32 → Mem → Option Mem) (k24_49 : Int32 → Mem → Option Mem) : Nat → Int32 → Int32 → Mem → Option Mem
  | 0, _, _, _ => none
  | g + 1, v2, v3, μ =>
  (if (μ a 1) ≤ v3 then
  k24_49 v2 μ
  else
  bndO (f_X2_at G b n_b μ v2 v3) (fun w11 =>
  bndV (f_X2_put G a n_a v3 w11 μ) (fun m13 =>
  (f_X2_copyFrom_L24 G a n_a b n_b r7 k24_49 g) v2 (v3 + (1 : Int32)) m13)))
set_option maxHeartbeats 4000000 in
set_option maxRecDepth 100000 in
theorem f_X2_copyFrom_L24_ok {sh : List Shp} {G : Nat} {a : Nat} {n_a : Nat} {b : Nat} {n_b : Nat} {μr : Mem} (ha : At_X2 sh a n_a) (hb : At_X2 sh b n_b) {r7 : Int32 → Mem → Option Mem} {k24_49 : Int32 → Mem → Option Mem} (hr7 : ∀ (v2 : Int32) (m : Mem), r7 v2 m = some μr → Ev RX2 cX2_copyFrom 4 none false 3 0 0 (eqP none sh μr) 7 [some (.ref a), some (.ref b), some (.int v2), none] [] sh m 0 0) (hk24_49 : ∀ (v2 : Int32) (m : Mem), k24_49 v2 m = some μr → Ev RX2 cX2_copyFrom 4 none false 3 0 0 (eqP none sh μr) 49 [some (.ref a), some (.ref b), some (.int v2), none] [] sh m 0 0) : ∀ (g : Nat) (v2 v3 : Int32) (μ : Mem), f_X2_copyFrom_L24 G a n_a b n_b r7 k24_49 g v2 v3 μ = some μr → Ev RX2 cX2_copyFrom 4 none false 3 0 0 (eqP none sh μr) 24 [some (.ref a), some (.ref b), some (.int v2), some (.int v3)] [] sh μ 0 0 := by
  intro g
  induction g with
  | zero =>
    intro v2 v3 μ h
    cases h
  | succ g ih =>
    intro v2 v3 μ h
    rw [f_X2_copyFrom_L24] at h
    refine ev_iload_n dX2_copyFrom_24 rfl ?_
    refine ev_aload_n dX2_copyFrom_25 rfl ?_
    refine ev_getI fr_X2_21 (ha.1) rfl dX2_copyFrom_26 ?_
    refine ev_icmp_ge (tgt := 49) dX2_copyFrom_29 (by decide) (fun hc9 => ?_) (fun hc9 => ?_)
    · replace h := ite_t hc9 h
      exact ev_lt (hk24_49 _ _ h) ⟨rfl, ⟨rfl, ⟨rfl, trivial⟩⟩⟩
    · replace h := ite_f hc9 h
      refine ev_aload_n dX2_copyFrom_32 rfl ?_
      refine ev_iload_n dX2_copyFrom_33 rfl ?_
      refine ev_aload_n dX2_copyFrom_34 rfl ?_
      refine ev_iload_n dX2_copyFrom_35 rfl ?_
      refine ev_iload_n dX2_copyFrom_36 rfl ?_
      obtain ⟨w11, hq10, h⟩ := bndO_t h
      refine ev_cVi mv_X2_51 dX2_copyFrom_37 (c_X2_at hb hq10) rfl (hb.1) rfl rfl (Nat.le_of_ble_eq_true rfl) (by rfl) (Nat.le_of_ble_eq_true rfl) (Nat.le_of_ble_eq_true rfl) (Nat.le_of_ble_eq_true rfl) ?_
      obtain ⟨m13, hq12, h⟩ := bndV_t h
      refine ev_cVv mv_X2_39 dX2_copyFrom_40 (c_X2_put ha hq12) rfl (ha.1) rfl rfl (Nat.le_of_ble_eq_true rfl) (by rfl) (Nat.le_of_ble_eq_true rfl) (Nat.le_of_ble_eq_true rfl) (Nat.le_of_ble_eq_true rfl) ?_
      refine ev_iinc (cq := (1 : Int32)) (loc' := [_, _, _, _]) dX2_copyFrom_43 rfl (by decide) rfl (by decide) (by rfl) ?_
      refine ev_goto (tgt := 24) dX2_copyFrom_46 (by decide) ?_
      exact ev_lt (ih _ _ _ h) ⟨rfl, ⟨rfl, ⟨rfl, ⟨rfl, trivial⟩⟩⟩⟩
def f_X2_copyFrom_j49 (G : Nat) (a : Nat) (n_a : Nat) (b : Nat) (n_b : Nat) (r7 : Int32 → Mem → Option Mem) (v2 : Int32) (μ : Mem) : Option Mem :=
  r7 (v2 + (1 : Int32)) μ
set_option maxHeartbeats 4000000 in
set_option maxRecDepth 100000 in
theorem f_X2_copyFrom_j49_ok {sh : List Shp} {G : Nat} {a : Nat} {n_a : Nat} {b : Nat} {n_b : Nat} {μr : Mem} (ha : At_X2 sh a n_a) (hb : At_X2 sh b n_b) {r7 : Int32 → Mem → Option Mem} (hr7 : ∀ (v2 : Int32) (m : Mem), r7 v2 m = some μr → Ev RX2 cX2_copyFrom 4 none false 3 0 0 (eqP none sh μr) 7 [some (.ref a), some (.ref b), some (.int v2), none] [] sh m 0 0) {v2 : Int32} {μ : Mem} (h : f_X2_copyFrom_j49 G a n_a b n_b r7 v2 μ = some μr) : Ev RX2 cX2_copyFrom 4 none false 3 0 0 (eqP none sh μr) 49 [some (.ref a), some (.ref b), some (.int v2), none] [] sh μ 0 0 := by
  unfold f_X2_copyFrom_j49 at h
  refine ev_iinc (cq := (1 : Int32)) (loc' := [_, _, _, _]) dX2_copyFrom_49 rfl (by decide) rfl (by decide) (by rfl) ?_
  refine ev_goto (tgt := 7) dX2_copyFrom_52 (by decide) ?_
  exact ev_lt (hr7 _ _ h) ⟨rfl, ⟨rfl, ⟨rfl, trivial⟩⟩⟩
def f_X2_copyFrom_L7 (G : Nat) (a : Nat) (n_a : Nat) (b : Nat) (n_b : Nat)  : Nat → Int32 → Mem → Option Mem
  | 0, _, _ => none
  | g + 1, v2, μ =>
  (if (μ b 3) ≤ v2 then
  some μ
  else
  bndE (f_X2_begin G a n_a μ) (fun w7 m6 =>
  (if w7 = (0 : Int32) then
  some m6
  else
  f_X2_copyFrom_L24 G a n_a b n_b (f_X2_copyFrom_L7 G a n_a b n_b g) (f_X2_copyFrom_j49 G a n_a b n_b (f_X2_copyFrom_L7 G a n_a b n_b g)) G v2 (0 : Int32) m6)))
set_option maxHeartbeats 4000000 in
set_option maxRecDepth 100000 in
theorem f_X2_copyFrom_L7_ok {sh : List Shp} {G : Nat} {a : Nat} {n_a : Nat} {b : Nat} {n_b : Nat} {μr : Mem} (ha : At_X2 sh a n_a) (hb : At_X2 sh b n_b)   : ∀ (g : Nat) (v2 : Int32) (μ : Mem), f_X2_copyFrom_L7 G a n_a b n_b g v2 μ = some μr → Ev RX2 cX2_copyFrom 4 none false 3 0 0 (eqP none sh μr) 7 [some (.ref a), some (.ref b), some (.int v2), none] [] sh μ 0 0 := by
  intro g
  induction g with
  | zero =>
    intro v2 μ h
    cases h
  | succ g ih =>
    intro v2 μ h
    rw [f_X2_copyFrom_L7] at h
    refine ev_iload_n dX2_copyFrom_7 rfl ?_
    refine ev_aload_n dX2_copyFrom_8 rfl ?_
    refine ev_getI fr_X2_28 (hb.1) rfl dX2_copyFrom_9 ?_
    refine ev_icmp_ge (tgt := 55) dX2_copyFrom_12 (by decide) (fun hc4 => ?_) (fun hc4 => ?_)
    · replace h := ite_t hc4 h
      exact ev_vret rfl (by decide) (by decide) dX2_copyFrom_55 (eqP_V h)
    · replace h := ite_f hc4 h
      refine ev_aload_n dX2_copyFrom_15 rfl ?_
      obtain ⟨w7, m6, hq5, h⟩ := bndE_t h
      refine ev_cVi mv_X2_35 dX2_copyFrom_16 (c_X2_begin ha hq5) rfl (ha.1) rfl rfl (Nat.le_of_ble_eq_true rfl) (by rfl) (Nat.le_of_ble_eq_true rfl) (Nat.le_of_ble_eq_true rfl) (Nat.le_of_ble_eq_true rfl) ?_
      refine ev_if_eq (tgt := 55) dX2_copyFrom_19 (by decide) (fun hc8 => ?_) (fun hc8 => ?_)
      · replace h := ite_t hc8 h
        exact ev_vret rfl (by decide) (by decide) dX2_copyFrom_55 (eqP_V h)
      · replace h := ite_f hc8 h
        refine ev_iconst (v := (0 : Int32)) dX2_copyFrom_22 (by decide) ?_
        refine ev_istore_n (loc' := [_, _, _, _]) dX2_copyFrom_23 rfl (by decide) (by rfl) ?_
        exact ev_lt (f_X2_copyFrom_L24_ok ha hb ih (fun _ _ hh => f_X2_copyFrom_j49_ok ha hb ih hh) _ _ _ _ h) ⟨rfl, ⟨rfl, ⟨rfl, ⟨rfl, trivial⟩⟩⟩⟩
def f_X2_copyFrom (G : Nat) (a : Nat) (n_a : Nat) (b : Nat) (n_b : Nat) (μ : Mem) : Option Mem :=
  bndE (f_X2_clear G a n_a μ) (fun w3 m2 =>
  f_X2_copyFrom_L7 G a n_a b n_b G (0 : Int32) m2)
set_option maxHeartbeats 4000000 in
set_option maxRecDepth 100000 in
theorem c_X2_copyFrom {sh : List Shp} {G : Nat} {a : Nat} {n_a : Nat} {b : Nat} {n_b : Nat} {μ : Mem} {μr : Mem} (ha : At_X2 sh a n_a) (hb : At_X2 sh b n_b) (h : f_X2_copyFrom G a n_a b n_b μ = some μr) : Cn yX2_copyFrom cX2_copyFrom 4 none 3 0 0 [.ref a, .ref b] sh μ (eqP none sh μr) := by
  refine cn_of (own := RX2) (ini := false) (loc := [some (.ref a), some (.ref b), none, none]) rfl (by decide) (fun q => by cases q) (Nat.le_of_ble_eq_true rfl) (by rfl) rfl ?_
  unfold f_X2_copyFrom at h
  refine ev_aload_n dX2_copyFrom_0 rfl ?_
  obtain ⟨w3, m2, hq1, h⟩ := bndE_t h
  refine ev_cVi mv_X2_47 dX2_copyFrom_1 (c_X2_clear ha hq1) rfl (ha.1) rfl rfl (Nat.le_of_ble_eq_true rfl) (by rfl) (Nat.le_of_ble_eq_true rfl) (Nat.le_of_ble_eq_true rfl) (Nat.le_of_ble_eq_true rfl) ?_
  refine ev_pop dX2_copyFrom_4 (by rfl) ?_
  refine ev_iconst (v := (0 : Int32)) dX2_copyFrom_5 (by decide) ?_
  refine ev_istore_n (loc' := [_, _, _, _]) dX2_copyFrom_6 rfl (by decide) (by rfl) ?_
  exact ev_lt (f_X2_copyFrom_L7_ok ha hb _ _ _ h) ⟨rfl, ⟨rfl, ⟨rfl, trivial⟩⟩⟩
def f_X0_copyFrom (G : Nat) (a : Nat) (b : Nat) (μ : Mem) : Option Mem :=
  bndV (f_X8_copyFrom G (a + 1) (b + 1) μ) (fun m2 =>
  (let m3 := cpy m2 (b + 7) (a + 7) (ix (0 : Int32)) (ix (0 : Int32)) (ix (12 : Int32))
  (let m4 := cpy m3 (b + 8) (a + 8) (ix (0 : Int32)) (ix (0 : Int32)) (ix (12 : Int32))
  (let m5 := cpy m4 (b + 9) (a + 9) (ix (0 : Int32)) (ix (0 : Int32)) (ix (12 : Int32))
  (let m6 := cpy m5 (b + 10) (a + 10) (ix (0 : Int32)) (ix (0 : Int32)) (ix (8 : Int32))
  (let m7 := cpy m6 (b + 11) (a + 11) (ix (0 : Int32)) (ix (0 : Int32)) (ix (8 : Int32))
  (let m8 := wr m7 a 6 (m7 b 6)
  (let m9 := wr m8 a 7 (m8 b 7)
  bndV (f_X1_copyFrom G (a + 12) (b + 12) m9) (fun m11 =>
  bndV (f_X2_copyFrom G (a + 19) 16 (b + 19) 16 m11) (fun m13 =>
  bndV (f_X2_copyFrom G (a + 21) 96 (b + 21) 96 m13) (fun m15 =>
  bndV (f_X2_copyFrom G (a + 23) 32 (b + 23) 32 m15) (fun m17 =>
  bndV (f_X2_copyFrom G (a + 25) 600 (b + 25) 600 m17) (fun m19 =>
  bndV (f_X2_copyFrom G (a + 27) 30 (b + 27) 30 m19) (fun m21 =>
  bndV (f_X2_copyFrom G (a + 29) 24 (b + 29) 24 m21) (fun m23 =>
  bndV (f_X2_copyFrom G (a + 31) 12 (b + 31) 12 m23) (fun m25 =>
  bndV (f_X2_copyFrom G (a + 33) 32 (b + 33) 32 m25) (fun m27 =>
  bndV (f_X2_copyFrom G (a + 35) 12 (b + 35) 12 m27) (fun m29 =>
  bndV (f_X2_copyFrom G (a + 37) 7 (b + 37) 7 m29) (fun m31 =>
  (let m32 := cpy m31 (b + 39) (a + 39) (ix (0 : Int32)) (ix (0 : Int32)) (ix (6 : Int32))
  some m32))))))))))))))))))))
set_option maxHeartbeats 4000000 in
set_option maxRecDepth 100000 in
theorem c_X0_copyFrom {sh : List Shp} {G : Nat} {a : Nat} {b : Nat} {μ : Mem} {μr : Mem} (ha : At_X0 sh a) (hb : At_X0 sh b) (h : f_X0_copyFrom G a b μ = some μr) : Cn yX0_copyFrom cX0_copyFrom 2 none 4 0 0 [.ref a, .ref b] sh μ (eqP none sh μr) := by
  refine cn_of (own := RX0) (ini := false) (loc := [some (.ref a), some (.ref b)]) rfl (by decide) (fun q => by cases q) (Nat.le_of_ble_eq_true rfl) (by rfl) rfl ?_
  unfold f_X0_copyFrom at h
  refine ev_aload_n dX0_copyFrom_0 rfl ?_
  refine ev_getR fr_X0_12 (ha.1) rfl dX0_copyFrom_1 ?_
  refine ev_aload_n dX0_copyFrom_4 rfl ?_
  refine ev_getR fr_X0_12 (hb.1) rfl dX0_copyFrom_5 ?_
  obtain ⟨m2, hq1, h⟩ := bndV_t h
  refine ev_cVv mv_X0_80 dX0_copyFrom_8 (c_X8_copyFrom (ha.2.1) (hb.2.1) hq1) rfl (ha.2.1.1) rfl rfl (Nat.le_of_ble_eq_true rfl) (by rfl) (Nat.le_of_ble_eq_true rfl) (Nat.le_of_ble_eq_true rfl) (Nat.le_of_ble_eq_true rfl) ?_
  refine ev_aload_n dX0_copyFrom_11 rfl ?_
  refine ev_getR fr_X0_18 (hb.1) rfl dX0_copyFrom_12 ?_
  refine ev_iconst (v := (0 : Int32)) dX0_copyFrom_15 (by decide) ?_
  refine ev_aload_n dX0_copyFrom_16 rfl ?_
  refine ev_getR fr_X0_18 (ha.1) rfl dX0_copyFrom_17 ?_
  refine ev_iconst (v := (0 : Int32)) dX0_copyFrom_20 (by decide) ?_
  refine ev_bipush (v := (12 : Int32)) dX0_copyFrom_21 (by decide) ?_
  refine ev_cpy mc_X0_84 (hb.2.2.1) (ha.2.2.1) (by decide) (by decide) (by decide) (by decide) (by decide) dX0_copyFrom_23 (Nat.le_of_ble_eq_true rfl) (by rfl) (Nat.le_of_ble_eq_true rfl) ?_
  refine ev_aload_n dX0_copyFrom_26 rfl ?_
  refine ev_getR fr_X0_22 (hb.1) rfl dX0_copyFrom_27 ?_
  refine ev_iconst (v := (0 : Int32)) dX0_copyFrom_30 (by decide) ?_
  refine ev_aload_n dX0_copyFrom_31 rfl ?_
  refine ev_getR fr_X0_22 (ha.1) rfl dX0_copyFrom_32 ?_
  refine ev_iconst (v := (0 : Int32)) dX0_copyFrom_35 (by decide) ?_
  refine ev_bipush (v := (12 : Int32)) dX0_copyFrom_36 (by decide) ?_
  refine ev_cpy mc_X0_84 (hb.2.2.2.1) (ha.2.2.2.1) (by decide) (by decide) (by decide) (by decide) (by decide) dX0_copyFrom_38 (Nat.le_of_ble_eq_true rfl) (by rfl) (Nat.le_of_ble_eq_true rfl) ?_
  refine ev_aload_n dX0_copyFrom_41 rfl ?_
  refine ev_getR fr_X0_25 (hb.1) rfl dX0_copyFrom_42 ?_
  refine ev_iconst (v := (0 : Int32)) dX0_copyFrom_45 (by decide) ?_
  refine ev_aload_n dX0_copyFrom_46 rfl ?_
  refine ev_getR fr_X0_25 (ha.1) rfl dX0_copyFrom_47 ?_
  refine ev_iconst (v := (0 : Int32)) dX0_copyFrom_50 (by decide) ?_
  refine ev_bipush (v := (12 : Int32)) dX0_copyFrom_51 (by decide) ?_
  refine ev_cpy mc_X0_84 (hb.2.2.2.2.1) (ha.2.2.2.2.1) (by decide) (by decide) (by decide) (by decide) (by decide) dX0_copyFrom_53 (Nat.le_of_ble_eq_true rfl) (by rfl) (Nat.le_of_ble_eq_true rfl) ?_
  refine ev_aload_n dX0_copyFrom_56 rfl ?_
  refine ev_getR fr_X0_28 (hb.1) rfl dX0_copyFrom_57 ?_
  refine ev_iconst (v := (0 : Int32)) dX0_copyFrom_60 (by decide) ?_
  refine ev_aload_n dX0_copyFrom_61 rfl ?_
  refine ev_getR fr_X0_28 (ha.1) rfl dX0_copyFrom_62 ?_
  refine ev_iconst (v := (0 : Int32)) dX0_copyFrom_65 (by decide) ?_
  refine ev_bipush (v := (8 : Int32)) dX0_copyFrom_66 (by decide) ?_
  refine ev_cpy mc_X0_84 (hb.2.2.2.2.2.1) (ha.2.2.2.2.2.1) (by decide) (by decide) (by decide) (by decide) (by decide) dX0_copyFrom_68 (Nat.le_of_ble_eq_true rfl) (by rfl) (Nat.le_of_ble_eq_true rfl) ?_
  refine ev_aload_n dX0_copyFrom_71 rfl ?_
  refine ev_getR fr_X0_31 (hb.1) rfl dX0_copyFrom_72 ?_
  refine ev_iconst (v := (0 : Int32)) dX0_copyFrom_75 (by decide) ?_
  refine ev_aload_n dX0_copyFrom_76 rfl ?_
  refine ev_getR fr_X0_31 (ha.1) rfl dX0_copyFrom_77 ?_
  refine ev_iconst (v := (0 : Int32)) dX0_copyFrom_80 (by decide) ?_
  refine ev_bipush (v := (8 : Int32)) dX0_copyFrom_81 (by decide) ?_
  refine ev_cpy mc_X0_84 (hb.2.2.2.2.2.2.1) (ha.2.2.2.2.2.2.1) (by decide) (by decide) (by decide) (by decide) (by decide) dX0_copyFrom_83 (Nat.le_of_ble_eq_true rfl) (by rfl) (Nat.le_of_ble_eq_true rfl) ?_
  refine ev_aload_n dX0_copyFrom_86 rfl ?_
  refine ev_aload_n dX0_copyFrom_87 rfl ?_
  refine ev_getI fr_X0_90 (hb.1) rfl dX0_copyFrom_88 ?_
  refine ev_putI fr_X0_90 (ha.1) rfl rfl rfl dX0_copyFrom_91 ?_
  refine ev_aload_n dX0_copyFrom_94 rfl ?_
  refine ev_aload_n dX0_copyFrom_95 rfl ?_
  refine ev_getI fr_X0_94 (hb.1) rfl dX0_copyFrom_96 ?_
  refine ev_putI fr_X0_94 (ha.1) rfl rfl rfl dX0_copyFrom_99 ?_
  refine ev_aload_n dX0_copyFrom_102 rfl ?_
  refine ev_getR fr_X0_37 (ha.1) rfl dX0_copyFrom_103 ?_
  refine ev_aload_n dX0_copyFrom_106 rfl ?_
  refine ev_getR fr_X0_37 (hb.1) rfl dX0_copyFrom_107 ?_
  obtain ⟨m11, hq10, h⟩ := bndV_t h
  refine ev_cVv mv_X0_97 dX0_copyFrom_110 (c_X1_copyFrom (ha.2.2.2.2.2.2.2.1) (hb.2.2.2.2.2.2.2.1) hq10) rfl (ha.2.2.2.2.2.2.2.1.1) rfl rfl (Nat.le_of_ble_eq_true rfl) (by rfl) (Nat.le_of_ble_eq_true rfl) (Nat.le_of_ble_eq_true rfl) (Nat.le_of_ble_eq_true rfl) ?_
  refine ev_aload_n dX0_copyFrom_113 rfl ?_
  refine ev_getR fr_X0_46 (ha.1) rfl dX0_copyFrom_114 ?_
  refine ev_aload_n dX0_copyFrom_117 rfl ?_
  refine ev_getR fr_X0_46 (hb.1) rfl dX0_copyFrom_118 ?_
  obtain ⟨m13, hq12, h⟩ := bndV_t h
  refine ev_cVv mv_X0_100 dX0_copyFrom_121 (c_X2_copyFrom (ha.2.2.2.2.2.2.2.2.1) (hb.2.2.2.2.2.2.2.2.1) hq12) rfl (ha.2.2.2.2.2.2.2.2.1.1) rfl rfl (Nat.le_of_ble_eq_true rfl) (by rfl) (Nat.le_of_ble_eq_true rfl) (Nat.le_of_ble_eq_true rfl) (Nat.le_of_ble_eq_true rfl) ?_
  refine ev_aload_n dX0_copyFrom_124 rfl ?_
  refine ev_getR fr_X0_50 (ha.1) rfl dX0_copyFrom_125 ?_
  refine ev_aload_n dX0_copyFrom_128 rfl ?_
  refine ev_getR fr_X0_50 (hb.1) rfl dX0_copyFrom_129 ?_
  obtain ⟨m15, hq14, h⟩ := bndV_t h
  refine ev_cVv mv_X0_100 dX0_copyFrom_132 (c_X2_copyFrom (ha.2.2.2.2.2.2.2.2.2.1) (hb.2.2.2.2.2.2.2.2.2.1) hq14) rfl (ha.2.2.2.2.2.2.2.2.2.1.1) rfl rfl (Nat.le_of_ble_eq_true rfl) (by rfl) (Nat.le_of_ble_eq_true rfl) (Nat.le_of_ble_eq_true rfl) (Nat.le_of_ble_eq_true rfl) ?_
  refine ev_aload_n dX0_copyFrom_135 rfl ?_
  refine ev_getR fr_X0_53 (ha.1) rfl dX0_copyFrom_136 ?_
  refine ev_aload_n dX0_copyFrom_139 rfl ?_
  refine ev_getR fr_X0_53 (hb.1) rfl dX0_copyFrom_140 ?_
  obtain ⟨m17, hq16, h⟩ := bndV_t h
  refine ev_cVv mv_X0_100 dX0_copyFrom_143 (c_X2_copyFrom (ha.2.2.2.2.2.2.2.2.2.2.1) (hb.2.2.2.2.2.2.2.2.2.2.1) hq16) rfl (ha.2.2.2.2.2.2.2.2.2.2.1.1) rfl rfl (Nat.le_of_ble_eq_true rfl) (by rfl) (Nat.le_of_ble_eq_true rfl) (Nat.le_of_ble_eq_true rfl) (Nat.le_of_ble_eq_true rfl) ?_
  refine ev_aload_n dX0_copyFrom_146 rfl ?_
  refine ev_getR fr_X0_56 (ha.1) rfl dX0_copyFrom_147 ?_
  refine ev_aload_n dX0_copyFrom_150 rfl ?_
  refine ev_getR fr_X0_56 (hb.1) rfl dX0_copyFrom_151 ?_
  obtain ⟨m19, hq18, h⟩ := bndV_t h
  refine ev_cVv mv_X0_100 dX0_copyFrom_154 (c_X2_copyFrom (ha.2.2.2.2.2.2.2.2.2.2.2.1) (hb.2.2.2.2.2.2.2.2.2.2.2.1) hq18) rfl (ha.2.2.2.2.2.2.2.2.2.2.2.1.1) rfl rfl (Nat.le_of_ble_eq_true rfl) (by rfl) (Nat.le_of_ble_eq_true rfl) (Nat.le_of_ble_eq_true rfl) (Nat.le_of_ble_eq_true rfl) ?_
  refine ev_aload_n dX0_copyFrom_157 rfl ?_
  refine ev_getR fr_X0_59 (ha.1) rfl dX0_copyFrom_158 ?_
  refine ev_aload_n dX0_copyFrom_161 rfl ?_
  refine ev_getR fr_X0_59 (hb.1) rfl dX0_copyFrom_162 ?_
  obtain ⟨m21, hq20, h⟩ := bndV_t h
  refine ev_cVv mv_X0_100 dX0_copyFrom_165 (c_X2_copyFrom (ha.2.2.2.2.2.2.2.2.2.2.2.2.1) (hb.2.2.2.2.2.2.2.2.2.2.2.2.1) hq20) rfl (ha.2.2.2.2.2.2.2.2.2.2.2.2.1.1) rfl rfl (Nat.le_of_ble_eq_true rfl) (by rfl) (Nat.le_of_ble_eq_true rfl) (Nat.le_of_ble_eq_true rfl) (Nat.le_of_ble_eq_true rfl) ?_
  refine ev_aload_n dX0_copyFrom_168 rfl ?_
  refine ev_getR fr_X0_62 (ha.1) rfl dX0_copyFrom_169 ?_
  refine ev_aload_n dX0_copyFrom_172 rfl ?_
  refine ev_getR fr_X0_62 (hb.1) rfl dX0_copyFrom_173 ?_
  obtain ⟨m23, hq22, h⟩ := bndV_t h
  refine ev_cVv mv_X0_100 dX0_copyFrom_176 (c_X2_copyFrom (ha.2.2.2.2.2.2.2.2.2.2.2.2.2.1) (hb.2.2.2.2.2.2.2.2.2.2.2.2.2.1) hq22) rfl (ha.2.2.2.2.2.2.2.2.2.2.2.2.2.1.1) rfl rfl (Nat.le_of_ble_eq_true rfl) (by rfl) (Nat.le_of_ble_eq_true rfl) (Nat.le_of_ble_eq_true rfl) (Nat.le_of_ble_eq_true rfl) ?_
  refine ev_aload_n dX0_copyFrom_179 rfl ?_
  refine ev_getR fr_X0_65 (ha.1) rfl dX0_copyFrom_180 ?_
  refine ev_aload_n dX0_copyFrom_183 rfl ?_
  refine ev_getR fr_X0_65 (hb.1) rfl dX0_copyFrom_184 ?_
  obtain ⟨m25, hq24, h⟩ := bndV_t h
  refine ev_cVv mv_X0_100 dX0_copyFrom_187 (c_X2_copyFrom (ha.2.2.2.2.2.2.2.2.2.2.2.2.2.2.1) (hb.2.2.2.2.2.2.2.2.2.2.2.2.2.2.1) hq24) rfl (ha.2.2.2.2.2.2.2.2.2.2.2.2.2.2.1.1) rfl rfl (Nat.le_of_ble_eq_true rfl) (by rfl) (Nat.le_of_ble_eq_true rfl) (Nat.le_of_ble_eq_true rfl) (Nat.le_of_ble_eq_true rfl) ?_
  refine ev_aload_n dX0_copyFrom_190 rfl ?_
  refine ev_getR fr_X0_68 (ha.1) rfl dX0_copyFrom_191 ?_
  refine ev_aload_n dX0_copyFrom_194 rfl ?_
  refine ev_getR fr_X0_68 (hb.1) rfl dX0_copyFrom_195 ?_
  obtain ⟨m27, hq26, h⟩ := bndV_t h
  refine ev_cVv mv_X0_100 dX0_copyFrom_198 (c_X2_copyFrom (ha.2.2.2.2.2.2.2.2.2.2.2.2.2.2.2.1) (hb.2.2.2.2.2.2.2.2.2.2.2.2.2.2.2.1) hq26) rfl (ha.2.2.2.2.2.2.2.2.2.2.2.2.2.2.2.1.1) rfl rfl (Nat.le_of_ble_eq_true rfl) (by rfl) (Nat.le_of_ble_eq_true rfl) (Nat.le_of_ble_eq_true rfl) (Nat.le_of_ble_eq_true rfl) ?_
  refine ev_aload_n dX0_copyFrom_201 rfl ?_
  refine ev_getR fr_X0_71 (ha.1) rfl dX0_copyFrom_202 ?_
  refine ev_aload_n dX0_copyFrom_205 rfl ?_
  refine ev_getR fr_X0_71 (hb.1) rfl dX0_copyFrom_206 ?_
  obtain ⟨m29, hq28, h⟩ := bndV_t h
  refine ev_cVv mv_X0_100 dX0_copyFrom_209 (c_X2_copyFrom (ha.2.2.2.2.2.2.2.2.2.2.2.2.2.2.2.2.1) (hb.2.2.2.2.2.2.2.2.2.2.2.2.2.2.2.2.1) hq28) rfl (ha.2.2.2.2.2.2.2.2.2.2.2.2.2.2.2.2.1.1) rfl rfl (Nat.le_of_ble_eq_true rfl) (by rfl) (Nat.le_of_ble_eq_true rfl) (Nat.le_of_ble_eq_true rfl) (Nat.le_of_ble_eq_true rfl) ?_
  refine ev_aload_n dX0_copyFrom_212 rfl ?_
  refine ev_getR fr_X0_74 (ha.1) rfl dX0_copyFrom_213 ?_
  refine ev_aload_n dX0_copyFrom_216 rfl ?_
  refine ev_getR fr_X0_74 (hb.1) rfl dX0_copyFrom_217 ?_
  obtain ⟨m31, hq30, h⟩ := bndV_t h
  refine ev_cVv mv_X0_100 dX0_copyFrom_220 (c_X2_copyFrom (ha.2.2.2.2.2.2.2.2.2.2.2.2.2.2.2.2.2.1) (hb.2.2.2.2.2.2.2.2.2.2.2.2.2.2.2.2.2.1) hq30) rfl (ha.2.2.2.2.2.2.2.2.2.2.2.2.2.2.2.2.2.1.1) rfl rfl (Nat.le_of_ble_eq_true rfl) (by rfl) (Nat.le_of_ble_eq_true rfl) (Nat.le_of_ble_eq_true rfl) (Nat.le_of_ble_eq_true rfl) ?_
  refine ev_aload_n dX0_copyFrom_223 rfl ?_
  refine ev_getR fr_X0_77 (hb.1) rfl dX0_copyFrom_224 ?_
  refine ev_iconst (v := (0 : Int32)) dX0_copyFrom_227 (by decide) ?_
  refine ev_aload_n dX0_copyFrom_228 rfl ?_
  refine ev_getR fr_X0_77 (ha.1) rfl dX0_copyFrom_229 ?_
  refine ev_iconst (v := (0 : Int32)) dX0_copyFrom_232 (by decide) ?_
  refine ev_bipush (v := (6 : Int32)) dX0_copyFrom_233 (by decide) ?_
  refine ev_cpy mc_X0_84 (hb.2.2.2.2.2.2.2.2.2.2.2.2.2.2.2.2.2.2) (ha.2.2.2.2.2.2.2.2.2.2.2.2.2.2.2.2.2.2) (by decide) (by decide) (by decide) (by decide) (by decide) dX0_copyFrom_235 (Nat.le_of_ble_eq_true rfl) (by rfl) (Nat.le_of_ble_eq_true rfl) ?_
  exact ev_vret rfl (by decide) (by decide) dX0_copyFrom_238 (eqP_V h)
def f_X0_isWoman (μ : Mem) (p1 : Int32) : Int32 :=
  (if (f_X11_isBelow p1 (μ 1 6)) = (0 : Int32) then
  (0 : Int32)
  else
  (if (12 : Int32) ≤ p1 then
  (0 : Int32)
  else
  (1 : Int32)))
set_option maxHeartbeats 4000000 in
set_option maxRecDepth 100000 in
theorem c_X0_isWoman {bb : Bool} {μ : Mem}  {p1 : Int32}  : Cn yX0_isWoman cX0_isWoman 2 (some .boolean) 2 0 0 [.ref 1, .int p1] (shC bb) μ (eqP (some (f_X0_isWoman μ p1)) (shC bb) μ) := by
  obtain ⟨r, h⟩ : ∃ r, f_X0_isWoman μ p1 = r := ⟨_, rfl⟩
  rw [h]
  refine cn_of (own := RX0) (ini := false) (loc := [some (.ref 1), some (.int p1)]) rfl (by decide) (fun q => by cases q) (Nat.le_of_ble_eq_true rfl) (by rfl) rfl ?_
  unfold f_X0_isWoman at h
  refine ev_iload_n dX0_isWoman_0 rfl ?_
  refine ev_aload_n dX0_isWoman_1 rfl ?_
  refine ev_getI fr_X0_90 shC_1 rfl dX0_isWoman_2 ?_
  refine ev_cNi mv_X0_103 dX0_isWoman_5 c_X11_isBelow rfl rfl (Nat.le_of_ble_eq_true rfl) (by rfl) (Nat.le_of_ble_eq_true rfl) (Nat.le_of_ble_eq_true rfl) (Nat.le_of_ble_eq_true rfl) ?_
  refine ev_if_eq (tgt := 21) dX0_isWoman_8 (by decide) (fun hc1 => ?_) (fun hc1 => ?_)
  · replace h := ite_t hc1 h
    refine ev_iconst (v := (0 : Int32)) dX0_isWoman_21 (by decide) ?_
    exact ev_iret rfl rfl (by decide) (by decide) dX0_isWoman_22 (eqP_P h)
  · replace h := ite_f hc1 h
    refine ev_iload_n dX0_isWoman_11 rfl ?_
    refine ev_bipush (v := (12 : Int32)) dX0_isWoman_12 (by decide) ?_
    refine ev_icmp_ge (tgt := 21) dX0_isWoman_14 (by decide) (fun hc2 => ?_) (fun hc2 => ?_)
    · replace h := ite_t hc2 h
      refine ev_iconst (v := (0 : Int32)) dX0_isWoman_21 (by decide) ?_
      exact ev_iret rfl rfl (by decide) (by decide) dX0_isWoman_22 (eqP_P h)
    · replace h := ite_f hc2 h
      refine ev_iconst (v := (1 : Int32)) dX0_isWoman_17 (by decide) ?_
      refine ev_goto (tgt := 22) dX0_isWoman_18 (by decide) ?_
      exact ev_iret rfl rfl (by decide) (by decide) dX0_isWoman_22 (eqP_P h)
def f_X0_isGroom (μ : Mem) (p1 : Int32) : Int32 :=
  (if (f_X11_isBelow p1 (μ 1 7)) = (0 : Int32) then
  (0 : Int32)
  else
  (if (8 : Int32) ≤ p1 then
  (0 : Int32)
  else
  (1 : Int32)))
set_option maxHeartbeats 4000000 in
set_option maxRecDepth 100000 in
theorem c_X0_isGroom {bb : Bool} {μ : Mem}  {p1 : Int32}  : Cn yX0_isGroom cX0_isGroom 2 (some .boolean) 2 0 0 [.ref 1, .int p1] (shC bb) μ (eqP (some (f_X0_isGroom μ p1)) (shC bb) μ) := by
  obtain ⟨r, h⟩ : ∃ r, f_X0_isGroom μ p1 = r := ⟨_, rfl⟩
  rw [h]
  refine cn_of (own := RX0) (ini := false) (loc := [some (.ref 1), some (.int p1)]) rfl (by decide) (fun q => by cases q) (Nat.le_of_ble_eq_true rfl) (by rfl) rfl ?_
  unfold f_X0_isGroom at h
  refine ev_iload_n dX0_isGroom_0 rfl ?_
  refine ev_aload_n dX0_isGroom_1 rfl ?_
  refine ev_getI fr_X0_94 shC_1 rfl dX0_isGroom_2 ?_
  refine ev_cNi mv_X0_103 dX0_isGroom_5 c_X11_isBelow rfl rfl (Nat.le_of_ble_eq_true rfl) (by rfl) (Nat.le_of_ble_eq_true rfl) (Nat.le_of_ble_eq_true rfl) (Nat.le_of_ble_eq_true rfl) ?_
  refine ev_if_eq (tgt := 21) dX0_isGroom_8 (by decide) (fun hc1 => ?_) (fun hc1 => ?_)
  · replace h := ite_t hc1 h
    refine ev_iconst (v := (0 : Int32)) dX0_isGroom_21 (by decide) ?_
    exact ev_iret rfl rfl (by decide) (by decide) dX0_isGroom_22 (eqP_P h)
  · replace h := ite_f hc1 h
    refine ev_iload_n dX0_isGroom_11 rfl ?_
    refine ev_bipush (v := (8 : Int32)) dX0_isGroom_12 (by decide) ?_
    refine ev_icmp_ge (tgt := 21) dX0_isGroom_14 (by decide) (fun hc2 => ?_) (fun hc2 => ?_)
    · replace h := ite_t hc2 h
      refine ev_iconst (v := (0 : Int32)) dX0_isGroom_21 (by decide) ?_
      exact ev_iret rfl rfl (by decide) (by decide) dX0_isGroom_22 (eqP_P h)
    · replace h := ite_f hc2 h
      refine ev_iconst (v := (1 : Int32)) dX0_isGroom_17 (by decide) ?_
      refine ev_goto (tgt := 22) dX0_isGroom_18 (by decide) ?_
      exact ev_iret rfl rfl (by decide) (by decide) dX0_isGroom_22 (eqP_P h)
def f_X0_areThree (μ : Mem) (p1 p2 p3 : Int32) : Int32 :=
  (if (f_X0_isWoman μ p1) = (0 : Int32) then
  (0 : Int32)
  else
  (if (f_X0_isWoman μ p2) = (0 : Int32) then
  (0 : Int32)
  else
  (if (f_X0_isWoman μ p3) = (0 : Int32) then
  (0 : Int32)
  else
  (if p1 = p2 then
  (0 : Int32)
  else
  (if p2 = p3 then
  (0 : Int32)
  else
  (if p1 = p3 then
  (0 : Int32)
  else
  (1 : Int32)))))))
set_option maxHeartbeats 4000000 in
set_option maxRecDepth 100000 in
theorem c_X0_areThree {bb : Bool} {μ : Mem}  {p1 p2 p3 : Int32}  : Cn yX0_areThree cX0_areThree 4 (some .boolean) 3 0 0 [.ref 1, .int p1, .int p2, .int p3] (shC bb) μ (eqP (some (f_X0_areThree μ p1 p2 p3)) (shC bb) μ) := by
  obtain ⟨r, h⟩ : ∃ r, f_X0_areThree μ p1 p2 p3 = r := ⟨_, rfl⟩
  rw [h]
  refine cn_of (own := RX0) (ini := false) (loc := [some (.ref 1), some (.int p1), some (.int p2), some (.int p3)]) rfl (by decide) (fun q => by cases q) (Nat.le_of_ble_eq_true rfl) (by rfl) rfl ?_
  unfold f_X0_areThree at h
  refine ev_aload_n dX0_areThree_0 rfl ?_
  refine ev_iload_n dX0_areThree_1 rfl ?_
  refine ev_cVi mv_X0_107 dX0_areThree_2 c_X0_isWoman rfl shC_1 rfl rfl (Nat.le_of_ble_eq_true rfl) (by rfl) (Nat.le_of_ble_eq_true rfl) (Nat.le_of_ble_eq_true rfl) (Nat.le_of_ble_eq_true rfl) ?_
  refine ev_if_eq (tgt := 43) dX0_areThree_5 (by decide) (fun hc1 => ?_) (fun hc1 => ?_)
  · replace h := ite_t hc1 h
    refine ev_iconst (v := (0 : Int32)) dX0_areThree_43 (by decide) ?_
    exact ev_iret rfl rfl (by decide) (by decide) dX0_areThree_44 (eqP_P h)
  · replace h := ite_f hc1 h
    refine ev_aload_n dX0_areThree_8 rfl ?_
    refine ev_iload_n dX0_areThree_9 rfl ?_
    refine ev_cVi mv_X0_107 dX0_areThree_10 c_X0_isWoman rfl shC_1 rfl rfl (Nat.le_of_ble_eq_true rfl) (by rfl) (Nat.le_of_ble_eq_true rfl) (Nat.le_of_ble_eq_true rfl) (Nat.le_of_ble_eq_true rfl) ?_
    refine ev_if_eq (tgt := 43) dX0_areThree_13 (by decide) (fun hc2 => ?_) (fun hc2 => ?_)
    · replace h := ite_t hc2 h
      refine ev_iconst (v := (0 : Int32)) dX0_areThree_43 (by decide) ?_
      exact ev_iret rfl rfl (by decide) (by decide) dX0_areThree_44 (eqP_P h)
    · replace h := ite_f hc2 h
      refine ev_aload_n dX0_areThree_16 rfl ?_
      refine ev_iload_n dX0_areThree_17 rfl ?_
      refine ev_cVi mv_X0_107 dX0_areThree_18 c_X0_isWoman rfl shC_1 rfl rfl (Nat.le_of_ble_eq_true rfl) (by rfl) (Nat.le_of_ble_eq_true rfl) (Nat.le_of_ble_eq_true rfl) (Nat.le_of_ble_eq_true rfl) ?_
      refine ev_if_eq (tgt := 43) dX0_areThree_21 (by decide) (fun hc3 => ?_) (fun hc3 => ?_)
      · replace h := ite_t hc3 h
        refine ev_iconst (v := (0 : Int32)) dX0_areThree_43 (by decide) ?_
        exact ev_iret rfl rfl (by decide) (by decide) dX0_areThree_44 (eqP_P h)
      · replace h := ite_f hc3 h
        refine ev_iload_n dX0_areThree_24 rfl ?_
        refine ev_iload_n dX0_areThree_25 rfl ?_
        refine ev_icmp_eq (tgt := 43) dX0_areThree_26 (by decide) (fun hc4 => ?_) (fun hc4 => ?_)
        · replace h := ite_t hc4 h
          refine ev_iconst (v := (0 : Int32)) dX0_areThree_43 (by decide) ?_
          exact ev_iret rfl rfl (by decide) (by decide) dX0_areThree_44 (eqP_P h)
        · replace h := ite_f hc4 h
          refine ev_iload_n dX0_areThree_29 rfl ?_
          refine ev_iload_n dX0_areThree_30 rfl ?_
          refine ev_icmp_eq (tgt := 43) dX0_areThree_31 (by decide) (fun hc5 => ?_) (fun hc5 => ?_)
          · replace h := ite_t hc5 h
            refine ev_iconst (v := (0 : Int32)) dX0_areThree_43 (by decide) ?_
            exact ev_iret rfl rfl (by decide) (by decide) dX0_areThree_44 (eqP_P h)
          · replace h := ite_f hc5 h
            refine ev_iload_n dX0_areThree_34 rfl ?_
            refine ev_iload_n dX0_areThree_35 rfl ?_
            refine ev_icmp_eq (tgt := 43) dX0_areThree_36 (by decide) (fun hc6 => ?_) (fun hc6 => ?_)
            · replace h := ite_t hc6 h
              refine ev_iconst (v := (0 : Int32)) dX0_areThree_43 (by decide) ?_
              exact ev_iret rfl rfl (by decide) (by decide) dX0_areThree_44 (eqP_P h)
            · replace h := ite_f hc6 h
              refine ev_iconst (v := (1 : Int32)) dX0_areThree_39 (by decide) ?_
              refine ev_goto (tgt := 44) dX0_areThree_40 (by decide) ?_
              exact ev_iret rfl rfl (by decide) (by decide) dX0_areThree_44 (eqP_P h)
def f_X0_addWoman (G : Nat) (p1 p2 p3 : Int32) (μ : Mem) : Option (Int32 × Mem) :=
  (if (μ 1 6) < (12 : Int32) then
  chk (μ 1 6) 12 (let m2 := wr μ 8 (ix (μ 1 6)) p1
  chk (m2 1 6) 12 (let m4 := wr m2 9 (ix (m2 1 6)) p2
  chk (m4 1 6) 12 (let m6 := wr m4 10 (ix (m4 1 6)) p3
  (let m8 := wr m6 1 6 ((m6 1 6) + (1 : Int32))
  some (((m8 1 6) - (1 : Int32)), m8)))))
  else
  some ((-1 : Int32), μ))
set_option maxHeartbeats 4000000 in
set_option maxRecDepth 100000 in
theorem c_X0_addWoman {bb : Bool} {G : Nat} {μ : Mem} {p1 p2 p3 : Int32} {r : Int32} {μr : Mem}  (h : f_X0_addWoman G p1 p2 p3 μ = some (r, μr)) : Cn yX0_addWoman cX0_addWoman 4 (some .int) 1 0 0 [.ref 1, .int p1, .int p2, .int p3] (shC bb) μ (eqP (some r) (shC bb) μr) := by
  refine cn_of (own := RX0) (ini := false) (loc := [some (.ref 1), some (.int p1), some (.int p2), some (.int p3)]) rfl (by decide) (fun q => by cases q) (Nat.le_of_ble_eq_true rfl) (by rfl) rfl ?_
  unfold f_X0_addWoman at h
  refine ev_aload_n dX0_addWoman_0 rfl ?_
  refine ev_getI fr_X0_90 shC_1 rfl dX0_addWoman_1 ?_
  refine ev_bipush (v := (12 : Int32)) dX0_addWoman_4 (by decide) ?_
  refine ev_icmp_lt (tgt := 11) dX0_addWoman_6 (by decide) (fun hc1 => ?_) (fun hc1 => ?_)
  · replace h := ite_t hc1 h
    refine ev_aload_n dX0_addWoman_11 rfl ?_
    refine ev_getR fr_X0_18 shC_1 rfl dX0_addWoman_12 ?_
    refine ev_aload_n dX0_addWoman_15 rfl ?_
    refine ev_getI fr_X0_90 shC_1 rfl dX0_addWoman_16 ?_
    refine ev_iload_n dX0_addWoman_19 rfl ?_
    obtain ⟨hi3, h⟩ := chk_t h
    refine ev_iast shC_8 hi3 dX0_addWoman_20 ?_
    refine ev_aload_n dX0_addWoman_21 rfl ?_
    refine ev_getR fr_X0_22 shC_1 rfl dX0_addWoman_22 ?_
    refine ev_aload_n dX0_addWoman_25 rfl ?_
    refine ev_getI fr_X0_90 shC_1 rfl dX0_addWoman_26 ?_
    refine ev_iload_n dX0_addWoman_29 rfl ?_
    obtain ⟨hi5, h⟩ := chk_t h
    refine ev_iast shC_9 hi5 dX0_addWoman_30 ?_
    refine ev_aload_n dX0_addWoman_31 rfl ?_
    refine ev_getR fr_X0_25 shC_1 rfl dX0_addWoman_32 ?_
    refine ev_aload_n dX0_addWoman_35 rfl ?_
    refine ev_getI fr_X0_90 shC_1 rfl dX0_addWoman_36 ?_
    refine ev_iload_n dX0_addWoman_39 rfl ?_
    obtain ⟨hi7, h⟩ := chk_t h
    refine ev_iast shC_10 hi7 dX0_addWoman_40 ?_
    refine ev_aload_n dX0_addWoman_41 rfl ?_
    refine ev_dup dX0_addWoman_42 (by rfl) ?_
    refine ev_getI fr_X0_90 shC_1 rfl dX0_addWoman_43 ?_
    refine ev_iconst (v := (1 : Int32)) dX0_addWoman_46 (by decide) ?_
    refine ev_iadd dX0_addWoman_47 ?_
    refine ev_putI fr_X0_90 shC_1 rfl rfl rfl dX0_addWoman_48 ?_
    refine ev_aload_n dX0_addWoman_51 rfl ?_
    refine ev_getI fr_X0_90 shC_1 rfl dX0_addWoman_52 ?_
    refine ev_iconst (v := (1 : Int32)) dX0_addWoman_55 (by decide) ?_
    refine ev_isub dX0_addWoman_56 ?_
    exact ev_iret rfl rfl (by decide) (by decide) dX0_addWoman_57 (eqP_E h)
  · replace h := ite_f hc1 h
    refine ev_iconst (v := (-1 : Int32)) dX0_addWoman_9 (by decide) ?_
    exact ev_iret rfl rfl (by decide) (by decide) dX0_addWoman_10 (eqP_E h)
def f_X0_addGroom (G : Nat) (p1 p2 : Int32) (μ : Mem) : Option (Int32 × Mem) :=
  (if (μ 1 7) < (8 : Int32) then
  chk (μ 1 7) 8 (let m2 := wr μ 11 (ix (μ 1 7)) p1
  chk (m2 1 7) 8 (let m4 := wr m2 12 (ix (m2 1 7)) p2
  (let m6 := wr m4 1 7 ((m4 1 7) + (1 : Int32))
  some (((m6 1 7) - (1 : Int32)), m6))))
  else
  some ((-1 : Int32), μ))
set_option maxHeartbeats 4000000 in
set_option maxRecDepth 100000 in
theorem c_X0_addGroom {bb : Bool} {G : Nat} {μ : Mem} {p1 p2 : Int32} {r : Int32} {μr : Mem}  (h : f_X0_addGroom G p1 p2 μ = some (r, μr)) : Cn yX0_addGroom cX0_addGroom 3 (some .int) 1 0 0 [.ref 1, .int p1, .int p2] (shC bb) μ (eqP (some r) (shC bb) μr) := by
  refine cn_of (own := RX0) (ini := false) (loc := [some (.ref 1), some (.int p1), some (.int p2)]) rfl (by decide) (fun q => by cases q) (Nat.le_of_ble_eq_true rfl) (by rfl) rfl ?_
  unfold f_X0_addGroom at h
  refine ev_aload_n dX0_addGroom_0 rfl ?_
  refine ev_getI fr_X0_94 shC_1 rfl dX0_addGroom_1 ?_
  refine ev_bipush (v := (8 : Int32)) dX0_addGroom_4 (by decide) ?_
  refine ev_icmp_lt (tgt := 11) dX0_addGroom_6 (by decide) (fun hc1 => ?_) (fun hc1 => ?_)
  · replace h := ite_t hc1 h
    refine ev_aload_n dX0_addGroom_11 rfl ?_
    refine ev_getR fr_X0_28 shC_1 rfl dX0_addGroom_12 ?_
    refine ev_aload_n dX0_addGroom_15 rfl ?_
    refine ev_getI fr_X0_94 shC_1 rfl dX0_addGroom_16 ?_
    refine ev_iload_n dX0_addGroom_19 rfl ?_
    obtain ⟨hi3, h⟩ := chk_t h
    refine ev_iast shC_11 hi3 dX0_addGroom_20 ?_
    refine ev_aload_n dX0_addGroom_21 rfl ?_
    refine ev_getR fr_X0_31 shC_1 rfl dX0_addGroom_22 ?_
    refine ev_aload_n dX0_addGroom_25 rfl ?_
    refine ev_getI fr_X0_94 shC_1 rfl dX0_addGroom_26 ?_
    refine ev_iload_n dX0_addGroom_29 rfl ?_
    obtain ⟨hi5, h⟩ := chk_t h
    refine ev_iast shC_12 hi5 dX0_addGroom_30 ?_
    refine ev_aload_n dX0_addGroom_31 rfl ?_
    refine ev_dup dX0_addGroom_32 (by rfl) ?_
    refine ev_getI fr_X0_94 shC_1 rfl dX0_addGroom_33 ?_
    refine ev_iconst (v := (1 : Int32)) dX0_addGroom_36 (by decide) ?_
    refine ev_iadd dX0_addGroom_37 ?_
    refine ev_putI fr_X0_94 shC_1 rfl rfl rfl dX0_addGroom_38 ?_
    refine ev_aload_n dX0_addGroom_41 rfl ?_
    refine ev_getI fr_X0_94 shC_1 rfl dX0_addGroom_42 ?_
    refine ev_iconst (v := (1 : Int32)) dX0_addGroom_45 (by decide) ?_
    refine ev_isub dX0_addGroom_46 ?_
    exact ev_iret rfl rfl (by decide) (by decide) dX0_addGroom_47 (eqP_E h)
  · replace h := ite_f hc1 h
    refine ev_iconst (v := (-1 : Int32)) dX0_addGroom_9 (by decide) ?_
    exact ev_iret rfl rfl (by decide) (by decide) dX0_addGroom_10 (eqP_E h)
def f_X11_isDigit  (p1 : Int32) : Int32 :=
  (if p1 < (0 : Int32) then
  (0 : Int32)
  else
  (if (9 : Int32) < p1 then
  (0 : Int32)
  else
  (1 : Int32)))
set_option maxHeartbeats 4000000 in
set_option maxRecDepth 100000 in
theorem c_X11_isDigit {sh : List Shp}  {μ : Mem} {p1 : Int32}  : Cn yX11_isDigit cX11_isDigit 1 (some .boolean) 1 0 0 [.int p1] sh μ (eqP (some (f_X11_isDigit p1)) sh μ) := by
  obtain ⟨r, h⟩ : ∃ r, f_X11_isDigit p1 = r := ⟨_, rfl⟩
  rw [h]
  refine cn_of (own := RX11) (ini := false) (loc := [some (.int p1)]) rfl (by decide) (fun q => by cases q) (Nat.le_of_ble_eq_true rfl) (by rfl) rfl ?_
  unfold f_X11_isDigit at h
  refine ev_iload_n dX11_isDigit_0 rfl ?_
  refine ev_if_lt (tgt := 14) dX11_isDigit_1 (by decide) (fun hc1 => ?_) (fun hc1 => ?_)
  · replace h := ite_t hc1 h
    refine ev_iconst (v := (0 : Int32)) dX11_isDigit_14 (by decide) ?_
    exact ev_iret rfl rfl (by decide) (by decide) dX11_isDigit_15 (eqP_P h)
  · replace h := ite_f hc1 h
    refine ev_iload_n dX11_isDigit_4 rfl ?_
    refine ev_bipush (v := (9 : Int32)) dX11_isDigit_5 (by decide) ?_
    refine ev_icmp_gt (tgt := 14) dX11_isDigit_7 (by decide) (fun hc2 => ?_) (fun hc2 => ?_)
    · replace h := ite_t hc2 h
      refine ev_iconst (v := (0 : Int32)) dX11_isDigit_14 (by decide) ?_
      exact ev_iret rfl rfl (by decide) (by decide) dX11_isDigit_15 (eqP_P h)
    · replace h := ite_f hc2 h
      refine ev_iconst (v := (1 : Int32)) dX11_isDigit_10 (by decide) ?_
      refine ev_goto (tgt := 15) dX11_isDigit_11 (by decide) ?_
      exact ev_iret rfl rfl (by decide) (by decide) dX11_isDigit_15 (eqP_P h)
def f_X0_change_j149 (G : Nat)  (v1 v2 v3 v4 : Int32) (μ : Mem) : Option (Int32 × Mem) :=
  (if v4 = (0 : Int32) then
  some ((0 : Int32), μ)
  else
  (if v1 = (0 : Int32) then
  chk v2 12 (let m5 := wr μ 8 (ix v2) v3
  some ((1 : Int32), m5))
  else
  (if v1 = (1 : Int32) then
  chk v2 12 (let m8 := wr μ 9 (ix v2) v3
  some ((1 : Int32), m8))
  else
  (if v1 = (2 : Int32) then
  chk v2 12 (let m11 := wr μ 10 (ix v2) v3
  some ((1 : Int32), m11))
  else
  (if v1 = (3 : Int32) then
  chk v2 8 (let m14 := wr μ 11 (ix v2) v3
  some ((1 : Int32), m14))
  else
  (if v1 = (4 : Int32) then
  chk v2 8 (let m17 := wr μ 12 (ix v2) v3
  some ((1 : Int32), m17))
  else
  chk v2 8 (let m19 := wr μ 5 (ix v2) v3
  some ((1 : Int32), m19))))))))
set_option maxHeartbeats 4000000 in
set_option maxRecDepth 100000 in
theorem f_X0_change_j149_ok {bb : Bool} {G : Nat} {r : Int32} {μr : Mem}    {v1 v2 v3 v4 : Int32} {μ : Mem} (h : f_X0_change_j149 G v1 v2 v3 v4 μ = some (r, μr)) : Ev RX0 cX0_change 5 (some .boolean) false 3 0 0 (eqP (some r) (shC bb) μr) 149 [some (.ref 1), some (.int v1), some (.int v2), some (.int v3), some (.int v4)] [] (shC bb) μ 0 0 := by
  unfold f_X0_change_j149 at h
  refine ev_iload dX0_change_149 rfl ?_
  refine ev_if_ne (tgt := 156) dX0_change_151 (by decide) (fun hc3 => ?_) (fun hc3 => ?_)
  · replace h := ite_f hc3 h
    refine ev_iload_n dX0_change_156 rfl ?_
    refine ev_em (v := (0 : Int32)) (fun hc4 => ?_) (fun hc4 => ?_)
    · replace h := ite_t hc4 h
      refine ev_tsC (v := (0 : Int32)) (off := 35) (tgt := 192) dX0_change_157 (by decide) hc4 (by decide) (by decide) ?_
      refine ev_aload_n dX0_change_192 rfl ?_
      refine ev_getR fr_X0_18 shC_1 rfl dX0_change_193 ?_
      refine ev_iload_n dX0_change_196 rfl ?_
      refine ev_iload_n dX0_change_197 rfl ?_
      obtain ⟨hi6, h⟩ := chk_t h
      refine ev_iast shC_8 hi6 dX0_change_198 ?_
      refine ev_goto (tgt := 252) dX0_change_199 (by decide) ?_
      refine ev_iconst (v := (1 : Int32)) dX0_change_252 (by decide) ?_
      exact ev_iret rfl rfl (by decide) (by decide) dX0_change_253 (eqP_E h)
    · replace h := ite_f hc4 h
      refine ev_em (v := (1 : Int32)) (fun hc7 => ?_) (fun hc7 => ?_)
      · replace h := ite_t hc7 h
        refine ev_tsC (v := (1 : Int32)) (off := 45) (tgt := 202) dX0_change_157 (by decide) hc7 (by decide) (by decide) ?_
        refine ev_aload_n dX0_change_202 rfl ?_
        refine ev_getR fr_X0_22 shC_1 rfl dX0_change_203 ?_
        refine ev_iload_n dX0_change_206 rfl ?_
        refine ev_iload_n dX0_change_207 rfl ?_
        obtain ⟨hi9, h⟩ := chk_t h
        refine ev_iast shC_9 hi9 dX0_change_208 ?_
        refine ev_goto (tgt := 252) dX0_change_209 (by decide) ?_
        refine ev_iconst (v := (1 : Int32)) dX0_change_252 (by decide) ?_
        exact ev_iret rfl rfl (by decide) (by decide) dX0_change_253 (eqP_E h)
      · replace h := ite_f hc7 h
        refine ev_em (v := (2 : Int32)) (fun hc10 => ?_) (fun hc10 => ?_)
        · replace h := ite_t hc10 h
          refine ev_tsC (v := (2 : Int32)) (off := 55) (tgt := 212) dX0_change_157 (by decide) hc10 (by decide) (by decide) ?_
          refine ev_aload_n dX0_change_212 rfl ?_
          refine ev_getR fr_X0_25 shC_1 rfl dX0_change_213 ?_
          refine ev_iload_n dX0_change_216 rfl ?_
          refine ev_iload_n dX0_change_217 rfl ?_
          obtain ⟨hi12, h⟩ := chk_t h
          refine ev_iast shC_10 hi12 dX0_change_218 ?_
          refine ev_goto (tgt := 252) dX0_change_219 (by decide) ?_
          refine ev_iconst (v := (1 : Int32)) dX0_change_252 (by decide) ?_
          exact ev_iret rfl rfl (by decide) (by decide) dX0_change_253 (eqP_E h)
        · replace h := ite_f hc10 h
          refine ev_em (v := (3 : Int32)) (fun hc13 => ?_) (fun hc13 => ?_)
          · replace h := ite_t hc13 h
            refine ev_tsC (v := (3 : Int32)) (off := 65) (tgt := 222) dX0_change_157 (by decide) hc13 (by decide) (by decide) ?_
            refine ev_aload_n dX0_change_222 rfl ?_
            refine ev_getR fr_X0_28 shC_1 rfl dX0_change_223 ?_
            refine ev_iload_n dX0_change_226 rfl ?_
            refine ev_iload_n dX0_change_227 rfl ?_
            obtain ⟨hi15, h⟩ := chk_t h
            refine ev_iast shC_11 hi15 dX0_change_228 ?_
            refine ev_goto (tgt := 252) dX0_change_229 (by decide) ?_
            refine ev_iconst (v := (1 : Int32)) dX0_change_252 (by decide) ?_
            exact ev_iret rfl rfl (by decide) (by decide) dX0_change_253 (eqP_E h)
          · replace h := ite_f hc13 h
            refine ev_em (v := (4 : Int32)) (fun hc16 => ?_) (fun hc16 => ?_)
            · replace h := ite_t hc16 h
              refine ev_tsC (v := (4 : Int32)) (off := 75) (tgt := 232) dX0_change_157 (by decide) hc16 (by decide) (by decide) ?_
              refine ev_aload_n dX0_change_232 rfl ?_
              refine ev_getR fr_X0_31 shC_1 rfl dX0_change_233 ?_
              refine ev_iload_n dX0_change_236 rfl ?_
              refine ev_iload_n dX0_change_237 rfl ?_
              obtain ⟨hi18, h⟩ := chk_t h
              refine ev_iast shC_12 hi18 dX0_change_238 ?_
              refine ev_goto (tgt := 252) dX0_change_239 (by decide) ?_
              refine ev_iconst (v := (1 : Int32)) dX0_change_252 (by decide) ?_
              exact ev_iret rfl rfl (by decide) (by decide) dX0_change_253 (eqP_E h)
            · replace h := ite_f hc16 h
              refine ev_tsE (tgt := 242) dX0_change_157 (by decide) ⟨Or.inr hc4, ⟨Or.inr hc7, ⟨Or.inr hc10, ⟨Or.inr hc13, ⟨Or.inr hc16, trivial⟩⟩⟩⟩⟩ (by decide) ?_
              refine ev_aload_n dX0_change_242 rfl ?_
              refine ev_getR fr_X0_12 shC_1 rfl dX0_change_243 ?_
              refine ev_getR fr_X0_117 shC_2 rfl dX0_change_246 ?_
              refine ev_iload_n dX0_change_249 rfl ?_
              refine ev_iload_n dX0_change_250 rfl ?_
              obtain ⟨hi20, h⟩ := chk_t h
              refine ev_iast shC_5 hi20 dX0_change_251 ?_
              refine ev_iconst (v := (1 : Int32)) dX0_change_252 (by decide) ?_
              exact ev_iret rfl rfl (by decide) (by decide) dX0_change_253 (eqP_E h)
  · replace h := ite_t hc3 h
    refine ev_iconst (v := (0 : Int32)) dX0_change_154 (by decide) ?_
    exact ev_iret rfl rfl (by decide) (by decide) dX0_change_155 (eqP_E h)
def f_X0_change_j60 (G : Nat)  (v1 v2 v3 s0 : Int32) (μ : Mem) : Option (Int32 × Mem) :=
  f_X0_change_j149 G v1 v2 v3 s0 μ
set_option maxHeartbeats 4000000 in
set_option maxRecDepth 100000 in
theorem f_X0_change_j60_ok {bb : Bool} {G : Nat} {r : Int32} {μr : Mem}    {v1 v2 v3 s0 : Int32} {μ : Mem} (h : f_X0_change_j60 G v1 v2 v3 s0 μ = some (r, μr)) : Ev RX0 cX0_change 5 (some .boolean) false 3 0 0 (eqP (some r) (shC bb) μr) 60 [some (.ref 1), some (.int v1), some (.int v2), some (.int v3), none] [.int s0] (shC bb) μ 0 0 := by
  unfold f_X0_change_j60 at h
  refine ev_istore (loc' := [_, _, _, _, _]) dX0_change_60 rfl (by decide) (by rfl) ?_
  refine ev_goto (tgt := 149) dX0_change_62 (by decide) ?_
  exact ev_lt (f_X0_change_j149_ok h) ⟨rfl, ⟨rfl, ⟨rfl, ⟨rfl, ⟨rfl, trivial⟩⟩⟩⟩⟩
def f_X0_change_j59 (G : Nat)  (v1 v2 v3 : Int32) (μ : Mem) : Option (Int32 × Mem) :=
  f_X0_change_j60 G v1 v2 v3 (0 : Int32) μ
set_option maxHeartbeats 4000000 in
set_option maxRecDepth 100000 in
theorem f_X0_change_j59_ok {bb : Bool} {G : Nat} {r : Int32} {μr : Mem}    {v1 v2 v3 : Int32} {μ : Mem} (h : f_X0_change_j59 G v1 v2 v3 μ = some (r, μr)) : Ev RX0 cX0_change 5 (some .boolean) false 3 0 0 (eqP (some r) (shC bb) μr) 59 [some (.ref 1), some (.int v1), some (.int v2), some (.int v3), none] [] (shC bb) μ 0 0 := by
  unfold f_X0_change_j59 at h
  refine ev_iconst (v := (0 : Int32)) dX0_change_59 (by decide) ?_
  exact ev_lt (f_X0_change_j60_ok h) ⟨rfl, ⟨rfl, ⟨rfl, ⟨rfl, trivial⟩⟩⟩⟩
def f_X0_change_j40 (G : Nat)  (v1 v2 v3 : Int32) (μ : Mem) : Option (Int32 × Mem) :=
  (if (f_X0_isWoman μ v2) = (0 : Int32) then
  f_X0_change_j59 G v1 v2 v3 μ
  else
  (if (f_X11_isDigit v3) = (0 : Int32) then
  f_X0_change_j59 G v1 v2 v3 μ
  else
  f_X0_change_j60 G v1 v2 v3 (1 : Int32) μ))
set_option maxHeartbeats 4000000 in
set_option maxRecDepth 100000 in
theorem f_X0_change_j40_ok {bb : Bool} {G : Nat} {r : Int32} {μr : Mem}    {v1 v2 v3 : Int32} {μ : Mem} (h : f_X0_change_j40 G v1 v2 v3 μ = some (r, μr)) : Ev RX0 cX0_change 5 (some .boolean) false 3 0 0 (eqP (some r) (shC bb) μr) 40 [some (.ref 1), some (.int v1), some (.int v2), some (.int v3), none] [] (shC bb) μ 0 0 := by
  unfold f_X0_change_j40 at h
  refine ev_aload_n dX0_change_40 rfl ?_
  refine ev_iload_n dX0_change_41 rfl ?_
  refine ev_cVi mv_X0_107 dX0_change_42 c_X0_isWoman rfl shC_1 rfl rfl (Nat.le_of_ble_eq_true rfl) (by rfl) (Nat.le_of_ble_eq_true rfl) (Nat.le_of_ble_eq_true rfl) (Nat.le_of_ble_eq_true rfl) ?_
  refine ev_if_eq (tgt := 59) dX0_change_45 (by decide) (fun hc2 => ?_) (fun hc2 => ?_)
  · replace h := ite_t hc2 h
    exact ev_lt (f_X0_change_j59_ok h) ⟨rfl, ⟨rfl, ⟨rfl, ⟨rfl, trivial⟩⟩⟩⟩
  · replace h := ite_f hc2 h
    refine ev_iload_n dX0_change_48 rfl ?_
    refine ev_cNi mv_X0_111 dX0_change_49 c_X11_isDigit rfl rfl (Nat.le_of_ble_eq_true rfl) (by rfl) (Nat.le_of_ble_eq_true rfl) (Nat.le_of_ble_eq_true rfl) (Nat.le_of_ble_eq_true rfl) ?_
    refine ev_if_eq (tgt := 59) dX0_change_52 (by decide) (fun hc21 => ?_) (fun hc21 => ?_)
    · replace h := ite_t hc21 h
      exact ev_lt (f_X0_change_j59_ok h) ⟨rfl, ⟨rfl, ⟨rfl, ⟨rfl, trivial⟩⟩⟩⟩
    · replace h := ite_f hc21 h
      refine ev_iconst (v := (1 : Int32)) dX0_change_55 (by decide) ?_
      refine ev_goto (tgt := 60) dX0_change_56 (by decide) ?_
      exact ev_lt (f_X0_change_j60_ok h) ⟨rfl, ⟨rfl, ⟨rfl, ⟨rfl, trivial⟩⟩⟩⟩
def f_X0_change_j85 (G : Nat)  (v1 v2 v3 s0 : Int32) (μ : Mem) : Option (Int32 × Mem) :=
  f_X0_change_j149 G v1 v2 v3 s0 μ
set_option maxHeartbeats 4000000 in
set_option maxRecDepth 100000 in
theorem f_X0_change_j85_ok {bb : Bool} {G : Nat} {r : Int32} {μr : Mem}    {v1 v2 v3 s0 : Int32} {μ : Mem} (h : f_X0_change_j85 G v1 v2 v3 s0 μ = some (r, μr)) : Ev RX0 cX0_change 5 (some .boolean) false 3 0 0 (eqP (some r) (shC bb) μr) 85 [some (.ref 1), some (.int v1), some (.int v2), some (.int v3), none] [.int s0] (shC bb) μ 0 0 := by
  unfold f_X0_change_j85 at h
  refine ev_istore (loc' := [_, _, _, _, _]) dX0_change_85 rfl (by decide) (by rfl) ?_
  refine ev_goto (tgt := 149) dX0_change_87 (by decide) ?_
  exact ev_lt (f_X0_change_j149_ok h) ⟨rfl, ⟨rfl, ⟨rfl, ⟨rfl, ⟨rfl, trivial⟩⟩⟩⟩⟩
def f_X0_change_j84 (G : Nat)  (v1 v2 v3 : Int32) (μ : Mem) : Option (Int32 × Mem) :=
  f_X0_change_j85 G v1 v2 v3 (0 : Int32) μ
set_option maxHeartbeats 4000000 in
set_option maxRecDepth 100000 in
theorem f_X0_change_j84_ok {bb : Bool} {G : Nat} {r : Int32} {μr : Mem}    {v1 v2 v3 : Int32} {μ : Mem} (h : f_X0_change_j84 G v1 v2 v3 μ = some (r, μr)) : Ev RX0 cX0_change 5 (some .boolean) false 3 0 0 (eqP (some r) (shC bb) μr) 84 [some (.ref 1), some (.int v1), some (.int v2), some (.int v3), none] [] (shC bb) μ 0 0 := by
  unfold f_X0_change_j84 at h
  refine ev_iconst (v := (0 : Int32)) dX0_change_84 (by decide) ?_
  exact ev_lt (f_X0_change_j85_ok h) ⟨rfl, ⟨rfl, ⟨rfl, ⟨rfl, trivial⟩⟩⟩⟩
def f_X0_change_j111 (G : Nat)  (v1 v2 v3 s0 : Int32) (μ : Mem) : Option (Int32 × Mem) :=
  f_X0_change_j149 G v1 v2 v3 s0 μ
set_option maxHeartbeats 4000000 in
set_option maxRecDepth 100000 in
theorem f_X0_change_j111_ok {bb : Bool} {G : Nat} {r : Int32} {μr : Mem}    {v1 v2 v3 s0 : Int32} {μ : Mem} (h : f_X0_change_j111 G v1 v2 v3 s0 μ = some (r, μr)) : Ev RX0 cX0_change 5 (some .boolean) false 3 0 0 (eqP (some r) (shC bb) μr) 111 [some (.ref 1), some (.int v1), some (.int v2), some (.int v3), none] [.int s0] (shC bb) μ 0 0 := by
  unfold f_X0_change_j111 at h
  refine ev_istore (loc' := [_, _, _, _, _]) dX0_change_111 rfl (by decide) (by rfl) ?_
  refine ev_goto (tgt := 149) dX0_change_113 (by decide) ?_
  exact ev_lt (f_X0_change_j149_ok h) ⟨rfl, ⟨rfl, ⟨rfl, ⟨rfl, ⟨rfl, trivial⟩⟩⟩⟩⟩
def f_X0_change_j110 (G : Nat)  (v1 v2 v3 : Int32) (μ : Mem) : Option (Int32 × Mem) :=
  f_X0_change_j111 G v1 v2 v3 (0 : Int32) μ
set_option maxHeartbeats 4000000 in
set_option maxRecDepth 100000 in
theorem f_X0_change_j110_ok {bb : Bool} {G : Nat} {r : Int32} {μr : Mem}    {v1 v2 v3 : Int32} {μ : Mem} (h : f_X0_change_j110 G v1 v2 v3 μ = some (r, μr)) : Ev RX0 cX0_change 5 (some .boolean) false 3 0 0 (eqP (some r) (shC bb) μr) 110 [some (.ref 1), some (.int v1), some (.int v2), some (.int v3), none] [] (shC bb) μ 0 0 := by
  unfold f_X0_change_j110 at h
  refine ev_iconst (v := (0 : Int32)) dX0_change_110 (by decide) ?_
  exact ev_lt (f_X0_change_j111_ok h) ⟨rfl, ⟨rfl, ⟨rfl, ⟨rfl, trivial⟩⟩⟩⟩
def f_X0_change_j141 (G : Nat)  (v1 v2 v3 s0 : Int32) (μ : Mem) : Option (Int32 × Mem) :=
  f_X0_change_j149 G v1 v2 v3 s0 μ
set_option maxHeartbeats 4000000 in
set_option maxRecDepth 100000 in
theorem f_X0_change_j141_ok {bb : Bool} {G : Nat} {r : Int32} {μr : Mem}    {v1 v2 v3 s0 : Int32} {μ : Mem} (h : f_X0_change_j141 G v1 v2 v3 s0 μ = some (r, μr)) : Ev RX0 cX0_change 5 (some .boolean) false 3 0 0 (eqP (some r) (shC bb) μr) 141 [some (.ref 1), some (.int v1), some (.int v2), some (.int v3), none] [.int s0] (shC bb) μ 0 0 := by
  unfold f_X0_change_j141 at h
  refine ev_istore (loc' := [_, _, _, _, _]) dX0_change_141 rfl (by decide) (by rfl) ?_
  refine ev_goto (tgt := 149) dX0_change_143 (by decide) ?_
  exact ev_lt (f_X0_change_j149_ok h) ⟨rfl, ⟨rfl, ⟨rfl, ⟨rfl, ⟨rfl, trivial⟩⟩⟩⟩⟩
def f_X0_change_j140 (G : Nat)  (v1 v2 v3 : Int32) (μ : Mem) : Option (Int32 × Mem) :=
  f_X0_change_j141 G v1 v2 v3 (0 : Int32) μ
set_option maxHeartbeats 4000000 in
set_option maxRecDepth 100000 in
theorem f_X0_change_j140_ok {bb : Bool} {G : Nat} {r : Int32} {μr : Mem}    {v1 v2 v3 : Int32} {μ : Mem} (h : f_X0_change_j140 G v1 v2 v3 μ = some (r, μr)) : Ev RX0 cX0_change 5 (some .boolean) false 3 0 0 (eqP (some r) (shC bb) μr) 140 [some (.ref 1), some (.int v1), some (.int v2), some (.int v3), none] [] (shC bb) μ 0 0 := by
  unfold f_X0_change_j140 at h
  refine ev_iconst (v := (0 : Int32)) dX0_change_140 (by decide) ?_
  exact ev_lt (f_X0_change_j141_ok h) ⟨rfl, ⟨rfl, ⟨rfl, ⟨rfl, trivial⟩⟩⟩⟩
def f_X0_change (G : Nat) (p1 p2 p3 : Int32) (μ : Mem) : Option (Int32 × Mem) :=
  (if p1 = (0 : Int32) then
  f_X0_change_j40 G p1 p2 p3 μ
  else
  (if p1 = (1 : Int32) then
  f_X0_change_j40 G p1 p2 p3 μ
  else
  (if p1 = (2 : Int32) then
  f_X0_change_j40 G p1 p2 p3 μ
  else
  (if p1 = (3 : Int32) then
  (if (f_X0_isGroom μ p2) = (0 : Int32) then
  f_X0_change_j84 G p1 p2 p3 μ
  else
  (if (f_X11_isDigit p3) = (0 : Int32) then
  f_X0_change_j84 G p1 p2 p3 μ
  else
  f_X0_change_j85 G p1 p2 p3 (1 : Int32) μ))
  else
  (if p1 = (4 : Int32) then
  (if (f_X0_isGroom μ p2) = (0 : Int32) then
  f_X0_change_j110 G p1 p2 p3 μ
  else
  (if (f_X0_isWoman μ p3) = (0 : Int32) then
  f_X0_change_j110 G p1 p2 p3 μ
  else
  f_X0_change_j111 G p1 p2 p3 (1 : Int32) μ))
  else
  (if p1 = (5 : Int32) then
  (if (f_X0_isGroom μ p2) = (0 : Int32) then
  f_X0_change_j140 G p1 p2 p3 μ
  else
  (if p3 < (-99 : Int32) then
  f_X0_change_j140 G p1 p2 p3 μ
  else
  (if (99 : Int32) < p3 then
  f_X0_change_j140 G p1 p2 p3 μ
  else
  f_X0_change_j141 G p1 p2 p3 (1 : Int32) μ)))
  else
  f_X0_change_j149 G p1 p2 p3 (0 : Int32) μ))))))
set_option maxHeartbeats 4000000 in
set_option maxRecDepth 100000 in
theorem c_X0_change {bb : Bool} {G : Nat} {μ : Mem} {p1 p2 p3 : Int32} {r : Int32} {μr : Mem}  (h : f_X0_change G p1 p2 p3 μ = some (r, μr)) : Cn yX0_change cX0_change 5 (some .boolean) 3 0 0 [.ref 1, .int p1, .int p2, .int p3] (shC bb) μ (eqP (some r) (shC bb) μr) := by
  refine cn_of (own := RX0) (ini := false) (loc := [some (.ref 1), some (.int p1), some (.int p2), some (.int p3), none]) rfl (by decide) (fun q => by cases q) (Nat.le_of_ble_eq_true rfl) (by rfl) rfl ?_
  unfold f_X0_change at h
  refine ev_iload_n dX0_change_0 rfl ?_
  refine ev_em (v := (0 : Int32)) (fun hc1 => ?_) (fun hc1 => ?_)
  · replace h := ite_t hc1 h
    refine ev_tsC (v := (0 : Int32)) (off := 39) (tgt := 40) dX0_change_1 (by decide) hc1 (by decide) (by decide) ?_
    exact ev_lt (f_X0_change_j40_ok h) ⟨rfl, ⟨rfl, ⟨rfl, ⟨rfl, trivial⟩⟩⟩⟩
  · replace h := ite_f hc1 h
    refine ev_em (v := (1 : Int32)) (fun hc22 => ?_) (fun hc22 => ?_)
    · replace h := ite_t hc22 h
      refine ev_tsC (v := (1 : Int32)) (off := 39) (tgt := 40) dX0_change_1 (by decide) hc22 (by decide) (by decide) ?_
      exact ev_lt (f_X0_change_j40_ok h) ⟨rfl, ⟨rfl, ⟨rfl, ⟨rfl, trivial⟩⟩⟩⟩
    · replace h := ite_f hc22 h
      refine ev_em (v := (2 : Int32)) (fun hc23 => ?_) (fun hc23 => ?_)
      · replace h := ite_t hc23 h
        refine ev_tsC (v := (2 : Int32)) (off := 39) (tgt := 40) dX0_change_1 (by decide) hc23 (by decide) (by decide) ?_
        exact ev_lt (f_X0_change_j40_ok h) ⟨rfl, ⟨rfl, ⟨rfl, ⟨rfl, trivial⟩⟩⟩⟩
      · replace h := ite_f hc23 h
        refine ev_em (v := (3 : Int32)) (fun hc24 => ?_) (fun hc24 => ?_)
        · replace h := ite_t hc24 h
          refine ev_tsC (v := (3 : Int32)) (off := 64) (tgt := 65) dX0_change_1 (by decide) hc24 (by decide) (by decide) ?_
          refine ev_aload_n dX0_change_65 rfl ?_
          refine ev_iload_n dX0_change_66 rfl ?_
          refine ev_cVi mv_X0_114 dX0_change_67 c_X0_isGroom rfl shC_1 rfl rfl (Nat.le_of_ble_eq_true rfl) (by rfl) (Nat.le_of_ble_eq_true rfl) (Nat.le_of_ble_eq_true rfl) (Nat.le_of_ble_eq_true rfl) ?_
          refine ev_if_eq (tgt := 84) dX0_change_70 (by decide) (fun hc25 => ?_) (fun hc25 => ?_)
          · replace h := ite_t hc25 h
            exact ev_lt (f_X0_change_j84_ok h) ⟨rfl, ⟨rfl, ⟨rfl, ⟨rfl, trivial⟩⟩⟩⟩
          · replace h := ite_f hc25 h
            refine ev_iload_n dX0_change_73 rfl ?_
            refine ev_cNi mv_X0_111 dX0_change_74 c_X11_isDigit rfl rfl (Nat.le_of_ble_eq_true rfl) (by rfl) (Nat.le_of_ble_eq_true rfl) (Nat.le_of_ble_eq_true rfl) (Nat.le_of_ble_eq_true rfl) ?_
            refine ev_if_eq (tgt := 84) dX0_change_77 (by decide) (fun hc26 => ?_) (fun hc26 => ?_)
            · replace h := ite_t hc26 h
              exact ev_lt (f_X0_change_j84_ok h) ⟨rfl, ⟨rfl, ⟨rfl, ⟨rfl, trivial⟩⟩⟩⟩
            · replace h := ite_f hc26 h
              refine ev_iconst (v := (1 : Int32)) dX0_change_80 (by decide) ?_
              refine ev_goto (tgt := 85) dX0_change_81 (by decide) ?_
              exact ev_lt (f_X0_change_j85_ok h) ⟨rfl, ⟨rfl, ⟨rfl, ⟨rfl, trivial⟩⟩⟩⟩
        · replace h := ite_f hc24 h
          refine ev_em (v := (4 : Int32)) (fun hc27 => ?_) (fun hc27 => ?_)
          · replace h := ite_t hc27 h
            refine ev_tsC (v := (4 : Int32)) (off := 89) (tgt := 90) dX0_change_1 (by decide) hc27 (by decide) (by decide) ?_
            refine ev_aload_n dX0_change_90 rfl ?_
            refine ev_iload_n dX0_change_91 rfl ?_
            refine ev_cVi mv_X0_114 dX0_change_92 c_X0_isGroom rfl shC_1 rfl rfl (Nat.le_of_ble_eq_true rfl) (by rfl) (Nat.le_of_ble_eq_true rfl) (Nat.le_of_ble_eq_true rfl) (Nat.le_of_ble_eq_true rfl) ?_
            refine ev_if_eq (tgt := 110) dX0_change_95 (by decide) (fun hc28 => ?_) (fun hc28 => ?_)
            · replace h := ite_t hc28 h
              exact ev_lt (f_X0_change_j110_ok h) ⟨rfl, ⟨rfl, ⟨rfl, ⟨rfl, trivial⟩⟩⟩⟩
            · replace h := ite_f hc28 h
              refine ev_aload_n dX0_change_98 rfl ?_
              refine ev_iload_n dX0_change_99 rfl ?_
              refine ev_cVi mv_X0_107 dX0_change_100 c_X0_isWoman rfl shC_1 rfl rfl (Nat.le_of_ble_eq_true rfl) (by rfl) (Nat.le_of_ble_eq_true rfl) (Nat.le_of_ble_eq_true rfl) (Nat.le_of_ble_eq_true rfl) ?_
              refine ev_if_eq (tgt := 110) dX0_change_103 (by decide) (fun hc29 => ?_) (fun hc29 => ?_)
              · replace h := ite_t hc29 h
                exact ev_lt (f_X0_change_j110_ok h) ⟨rfl, ⟨rfl, ⟨rfl, ⟨rfl, trivial⟩⟩⟩⟩
              · replace h := ite_f hc29 h
                refine ev_iconst (v := (1 : Int32)) dX0_change_106 (by decide) ?_
                refine ev_goto (tgt := 111) dX0_change_107 (by decide) ?_
                exact ev_lt (f_X0_change_j111_ok h) ⟨rfl, ⟨rfl, ⟨rfl, ⟨rfl, trivial⟩⟩⟩⟩
          · replace h := ite_f hc27 h
            refine ev_em (v := (5 : Int32)) (fun hc30 => ?_) (fun hc30 => ?_)
            · replace h := ite_t hc30 h
              refine ev_tsC (v := (5 : Int32)) (off := 115) (tgt := 116) dX0_change_1 (by decide) hc30 (by decide) (by decide) ?_
              refine ev_aload_n dX0_change_116 rfl ?_
              refine ev_iload_n dX0_change_117 rfl ?_
              refine ev_cVi mv_X0_114 dX0_change_118 c_X0_isGroom rfl shC_1 rfl rfl (Nat.le_of_ble_eq_true rfl) (by rfl) (Nat.le_of_ble_eq_true rfl) (Nat.le_of_ble_eq_true rfl) (Nat.le_of_ble_eq_true rfl) ?_
              refine ev_if_eq (tgt := 140) dX0_change_121 (by decide) (fun hc31 => ?_) (fun hc31 => ?_)
              · replace h := ite_t hc31 h
                exact ev_lt (f_X0_change_j140_ok h) ⟨rfl, ⟨rfl, ⟨rfl, ⟨rfl, trivial⟩⟩⟩⟩
              · replace h := ite_f hc31 h
                refine ev_iload_n dX0_change_124 rfl ?_
                refine ev_bipush (v := (-99 : Int32)) dX0_change_125 (by decide) ?_
                refine ev_icmp_lt (tgt := 140) dX0_change_127 (by decide) (fun hc32 => ?_) (fun hc32 => ?_)
                · replace h := ite_t hc32 h
                  exact ev_lt (f_X0_change_j140_ok h) ⟨rfl, ⟨rfl, ⟨rfl, ⟨rfl, trivial⟩⟩⟩⟩
                · replace h := ite_f hc32 h
                  refine ev_iload_n dX0_change_130 rfl ?_
                  refine ev_bipush (v := (99 : Int32)) dX0_change_131 (by decide) ?_
                  refine ev_icmp_gt (tgt := 140) dX0_change_133 (by decide) (fun hc33 => ?_) (fun hc33 => ?_)
                  · replace h := ite_t hc33 h
                    exact ev_lt (f_X0_change_j140_ok h) ⟨rfl, ⟨rfl, ⟨rfl, ⟨rfl, trivial⟩⟩⟩⟩
                  · replace h := ite_f hc33 h
                    refine ev_iconst (v := (1 : Int32)) dX0_change_136 (by decide) ?_
                    refine ev_goto (tgt := 141) dX0_change_137 (by decide) ?_
                    exact ev_lt (f_X0_change_j141_ok h) ⟨rfl, ⟨rfl, ⟨rfl, ⟨rfl, trivial⟩⟩⟩⟩
            · replace h := ite_f hc30 h
              refine ev_tsE (tgt := 146) dX0_change_1 (by decide) ⟨Or.inr hc1, ⟨Or.inr hc22, ⟨Or.inr hc23, ⟨Or.inr hc24, ⟨Or.inr hc27, ⟨Or.inr hc30, trivial⟩⟩⟩⟩⟩⟩ (by decide) ?_
              refine ev_iconst (v := (0 : Int32)) dX0_change_146 (by decide) ?_
              refine ev_istore (loc' := [_, _, _, _, _]) dX0_change_147 rfl (by decide) (by rfl) ?_
              exact ev_lt (f_X0_change_j149_ok h) ⟨rfl, ⟨rfl, ⟨rfl, ⟨rfl, ⟨rfl, trivial⟩⟩⟩⟩⟩
def f_X0_allWomen (μ : Mem) : Int32 :=
  ((sl (1 : Int32) (μ 1 6)) - (1 : Int32))
set_option maxHeartbeats 4000000 in
set_option maxRecDepth 100000 in
theorem c_X0_allWomen {bb : Bool} {μ : Mem}   : Cn yX0_allWomen cX0_allWomen 1 (some .int) 1 0 0 [.ref 1] (shC bb) μ (eqP (some (f_X0_allWomen μ)) (shC bb) μ) := by
  obtain ⟨r, h⟩ : ∃ r, f_X0_allWomen μ = r := ⟨_, rfl⟩
  rw [h]
  refine cn_of (own := RX0) (ini := false) (loc := [some (.ref 1)]) rfl (by decide) (fun q => by cases q) (Nat.le_of_ble_eq_true rfl) (by rfl) rfl ?_
  unfold f_X0_allWomen at h
  refine ev_iconst (v := (1 : Int32)) dX0_allWomen_0 (by decide) ?_
  refine ev_aload_n dX0_allWomen_1 rfl ?_
  refine ev_getI fr_X0_90 shC_1 rfl dX0_allWomen_2 ?_
  refine ev_ishl dX0_allWomen_5 ?_
  refine ev_iconst (v := (1 : Int32)) dX0_allWomen_6 (by decide) ?_
  refine ev_isub dX0_allWomen_7 ?_
  exact ev_iret rfl rfl (by decide) (by decide) dX0_allWomen_8 (eqP_P h)
def f_X0_freeWomen_j37 (G : Nat) (μ : Mem) (r4 : Int32 → Int32 → Option Int32) (v1 v2 : Int32) : Option Int32 :=
  r4 v1 (v2 + (1 : Int32))
set_option maxHeartbeats 4000000 in
set_option maxRecDepth 100000 in
theorem f_X0_freeWomen_j37_ok {bb : Bool} {G : Nat} {μ : Mem} {r : Int32}  {r4 : Int32 → Int32 → Option Int32} (hr4 : ∀ (v1 : Int32) (v2 : Int32), r4 v1 v2 = some r → Ev RX0 cX0_freeWomen 3 (some .int) false 1 0 0 (eqP (some r) (shC bb) μ) 4 [some (.ref 1), some (.int v1), some (.int v2)] [] (shC bb) μ 0 0) {v1 v2 : Int32}  (h : f_X0_freeWomen_j37 G μ r4 v1 v2 = some r) : Ev RX0 cX0_freeWomen 3 (some .int) false 1 0 0 (eqP (some r) (shC bb) μ) 37 [some (.ref 1), some (.int v1), some (.int v2)] [] (shC bb) μ 0 0 := by
  unfold f_X0_freeWomen_j37 at h
  refine ev_iinc (cq := (1 : Int32)) (loc' := [_, _, _]) dX0_freeWomen_37 rfl (by decide) rfl (by decide) (by rfl) ?_
  refine ev_goto (tgt := 4) dX0_freeWomen_40 (by decide) ?_
  exact ev_lt (hr4 _ _ h) ⟨rfl, ⟨rfl, ⟨rfl, trivial⟩⟩⟩
def f_X0_freeWomen_L4 (G : Nat) (μ : Mem)  : Nat → Int32 → Int32 → Option Int32
  | 0, _, _ => none
  | g + 1, v1, v2 =>
  (if (μ 1 6) ≤ v2 then
  some v1
  else
  (if (12 : Int32) ≤ v2 then
  some v1
  else
  chk v2 12 ((if (μ 3 (ix v2)) = (-1 : Int32) then
  f_X0_freeWomen_j37 G μ (f_X0_freeWomen_L4 G μ g) (v1 ||| (sl (1 : Int32) v2)) v2
  else
  f_X0_freeWomen_j37 G μ (f_X0_freeWomen_L4 G μ g) v1 v2))))
set_option maxHeartbeats 4000000 in
set_option maxRecDepth 100000 in
theorem f_X0_freeWomen_L4_ok {bb : Bool} {G : Nat} {μ : Mem} {r : Int32}    : ∀ (g : Nat) (v1 v2 : Int32), f_X0_freeWomen_L4 G μ g v1 v2 = some r → Ev RX0 cX0_freeWomen 3 (some .int) false 1 0 0 (eqP (some r) (shC bb) μ) 4 [some (.ref 1), some (.int v1), some (.int v2)] [] (shC bb) μ 0 0 := by
  intro g
  induction g with
  | zero =>
    intro v1 v2 h
    cases h
  | succ g ih =>
    intro v1 v2 h
    rw [f_X0_freeWomen_L4] at h
    refine ev_iload_n dX0_freeWomen_4 rfl ?_
    refine ev_aload_n dX0_freeWomen_5 rfl ?_
    refine ev_getI fr_X0_90 shC_1 rfl dX0_freeWomen_6 ?_
    refine ev_icmp_ge (tgt := 43) dX0_freeWomen_9 (by decide) (fun hc1 => ?_) (fun hc1 => ?_)
    · replace h := ite_t hc1 h
      refine ev_iload_n dX0_freeWomen_43 rfl ?_
      exact ev_iret rfl rfl (by decide) (by decide) dX0_freeWomen_44 (eqP_O h)
    · replace h := ite_f hc1 h
      refine ev_iload_n dX0_freeWomen_12 rfl ?_
      refine ev_bipush (v := (12 : Int32)) dX0_freeWomen_13 (by decide) ?_
      refine ev_icmp_ge (tgt := 43) dX0_freeWomen_15 (by decide) (fun hc2 => ?_) (fun hc2 => ?_)
      · replace h := ite_t hc2 h
        refine ev_iload_n dX0_freeWomen_43 rfl ?_
        exact ev_iret rfl rfl (by decide) (by decide) dX0_freeWomen_44 (eqP_O h)
      · replace h := ite_f hc2 h
        refine ev_aload_n dX0_freeWomen_18 rfl ?_
        refine ev_getR fr_X0_12 shC_1 rfl dX0_freeWomen_19 ?_
        refine ev_getR fr_X0_120 shC_2 rfl dX0_freeWomen_22 ?_
        refine ev_iload_n dX0_freeWomen_25 rfl ?_
        obtain ⟨hi3, h⟩ := chk_t h
        refine ev_iald shC_3 hi3 dX0_freeWomen_26 ?_
        refine ev_iconst (v := (-1 : Int32)) dX0_freeWomen_27 (by decide) ?_
        refine ev_icmp_ne (tgt := 37) dX0_freeWomen_28 (by decide) (fun hc4 => ?_) (fun hc4 => ?_)
        · replace h := ite_f hc4 h
          exact ev_lt (f_X0_freeWomen_j37_ok ih h) ⟨rfl, ⟨rfl, ⟨rfl, trivial⟩⟩⟩
        · replace h := ite_t hc4 h
          refine ev_iload_n dX0_freeWomen_31 rfl ?_
          refine ev_iconst (v := (1 : Int32)) dX0_freeWomen_32 (by decide) ?_
          refine ev_iload_n dX0_freeWomen_33 rfl ?_
          refine ev_ishl dX0_freeWomen_34 ?_
          refine ev_ior dX0_freeWomen_35 ?_
          refine ev_istore_n (loc' := [_, _, _]) dX0_freeWomen_36 rfl (by decide) (by rfl) ?_
          exact ev_lt (f_X0_freeWomen_j37_ok ih h) ⟨rfl, ⟨rfl, ⟨rfl, trivial⟩⟩⟩
def f_X0_freeWomen (G : Nat) (μ : Mem) : Option Int32 :=
  f_X0_freeWomen_L4 G μ G (0 : Int32) (0 : Int32)
set_option maxHeartbeats 4000000 in
set_option maxRecDepth 100000 in
theorem c_X0_freeWomen {bb : Bool} {G : Nat} {μ : Mem}  {r : Int32}  (h : f_X0_freeWomen G μ = some r) : Cn yX0_freeWomen cX0_freeWomen 3 (some .int) 1 0 0 [.ref 1] (shC bb) μ (eqP (some r) (shC bb) μ) := by
  refine cn_of (own := RX0) (ini := false) (loc := [some (.ref 1), none, none]) rfl (by decide) (fun q => by cases q) (Nat.le_of_ble_eq_true rfl) (by rfl) rfl ?_
  unfold f_X0_freeWomen at h
  refine ev_iconst (v := (0 : Int32)) dX0_freeWomen_0 (by decide) ?_
  refine ev_istore_n (loc' := [_, _, _]) dX0_freeWomen_1 rfl (by decide) (by rfl) ?_
  refine ev_iconst (v := (0 : Int32)) dX0_freeWomen_2 (by decide) ?_
  refine ev_istore_n (loc' := [_, _, _]) dX0_freeWomen_3 rfl (by decide) (by rfl) ?_
  exact ev_lt (f_X0_freeWomen_L4_ok _ _ _ h) ⟨rfl, ⟨rfl, ⟨rfl, trivial⟩⟩⟩
def f_X11_has  (p1 p2 : Int32) : Int32 :=
  (if ((sr p1 p2) &&& (1 : Int32)) = (0 : Int32) then
  (0 : Int32)
  else
  (1 : Int32))
set_option maxHeartbeats 4000000 in
set_option maxRecDepth 100000 in
theorem c_X11_has {sh : List Shp}  {μ : Mem} {p1 p2 : Int32}  : Cn yX11_has cX11_has 2 (some .boolean) 1 0 0 [.int p1, .int p2] sh μ (eqP (some (f_X11_has p1 p2)) sh μ) := by
  obtain ⟨r, h⟩ : ∃ r, f_X11_has p1 p2 = r := ⟨_, rfl⟩
  rw [h]
  refine cn_of (own := RX11) (ini := false) (loc := [some (.int p1), some (.int p2)]) rfl (by decide) (fun q => by cases q) (Nat.le_of_ble_eq_true rfl) (by rfl) rfl ?_
  unfold f_X11_has at h
  refine ev_iload_n dX11_has_0 rfl ?_
  refine ev_iload_n dX11_has_1 rfl ?_
  refine ev_ishr dX11_has_2 ?_
  refine ev_iconst (v := (1 : Int32)) dX11_has_3 (by decide) ?_
  refine ev_iand dX11_has_4 ?_
  refine ev_if_eq (tgt := 12) dX11_has_5 (by decide) (fun hc1 => ?_) (fun hc1 => ?_)
  · replace h := ite_t hc1 h
    refine ev_iconst (v := (0 : Int32)) dX11_has_12 (by decide) ?_
    exact ev_iret rfl rfl (by decide) (by decide) dX11_has_13 (eqP_P h)
  · replace h := ite_f hc1 h
    refine ev_iconst (v := (1 : Int32)) dX11_has_8 (by decide) ?_
    refine ev_goto (tgt := 13) dX11_has_9 (by decide) ?_
    exact ev_iret rfl rfl (by decide) (by decide) dX11_has_13 (eqP_P h)
def f_X0_sistersOf_j69 (G : Nat) (μ : Mem) (r4 : Int32 → Int32 → Int32 → Option Int32) (v1 v2 v3 : Int32) : Option Int32 :=
  r4 v1 v2 (v3 + (1 : Int32))
set_option maxHeartbeats 4000000 in
set_option maxRecDepth 100000 in
theorem f_X0_sistersOf_j69_ok {bb : Bool} {G : Nat} {μ : Mem} {r : Int32}  {r4 : Int32 → Int32 → Int32 → Option Int32} (hr4 : ∀ (v1 : Int32) (v2 : Int32) (v3 : Int32), r4 v1 v2 v3 = some r → Ev RX0 cX0_sistersOf 6 (some .int) false 3 0 0 (eqP (some r) (shC bb) μ) 4 [some (.ref 1), some (.int v1), some (.int v2), some (.int v3), none, none] [] (shC bb) μ 0 0) {v1 v2 v3 : Int32}  (h : f_X0_sistersOf_j69 G μ r4 v1 v2 v3 = some r) : Ev RX0 cX0_sistersOf 6 (some .int) false 3 0 0 (eqP (some r) (shC bb) μ) 69 [some (.ref 1), some (.int v1), some (.int v2), some (.int v3), none, none] [] (shC bb) μ 0 0 := by
  unfold f_X0_sistersOf_j69 at h
  refine ev_iinc (cq := (1 : Int32)) (loc' := [_, _, _, _, _, _]) dX0_sistersOf_69 rfl (by decide) rfl (by decide) (by rfl) ?_
  refine ev_goto (tgt := 4) dX0_sistersOf_72 (by decide) ?_
  exact ev_lt (hr4 _ _ _ h) ⟨rfl, ⟨rfl, ⟨rfl, ⟨rfl, trivial⟩⟩⟩⟩
def f_X0_sistersOf_j53 (G : Nat) (μ : Mem) (r4 : Int32 → Int32 → Int32 → Option Int32) (v1 v2 v3 v4 v5 : Int32) : Option Int32 :=
  (if (f_X11_has v1 v5) = (0 : Int32) then
  f_X0_sistersOf_j69 G μ r4 v1 v2 v3
  else
  f_X0_sistersOf_j69 G μ r4 v1 (v2 ||| (sl (1 : Int32) v4)) v3)
set_option maxHeartbeats 4000000 in
set_option maxRecDepth 100000 in
theorem f_X0_sistersOf_j53_ok {bb : Bool} {G : Nat} {μ : Mem} {r : Int32}  {r4 : Int32 → Int32 → Int32 → Option Int32} (hr4 : ∀ (v1 : Int32) (v2 : Int32) (v3 : Int32), r4 v1 v2 v3 = some r → Ev RX0 cX0_sistersOf 6 (some .int) false 3 0 0 (eqP (some r) (shC bb) μ) 4 [some (.ref 1), some (.int v1), some (.int v2), some (.int v3), none, none] [] (shC bb) μ 0 0) {v1 v2 v3 v4 v5 : Int32}  (h : f_X0_sistersOf_j53 G μ r4 v1 v2 v3 v4 v5 = some r) : Ev RX0 cX0_sistersOf 6 (some .int) false 3 0 0 (eqP (some r) (shC bb) μ) 53 [some (.ref 1), some (.int v1), some (.int v2), some (.int v3), some (.int v4), some (.int v5)] [] (shC bb) μ 0 0 := by
  unfold f_X0_sistersOf_j53 at h
  refine ev_iload_n dX0_sistersOf_53 rfl ?_
  refine ev_iload dX0_sistersOf_54 rfl ?_
  refine ev_cNi mv_X0_130 dX0_sistersOf_56 c_X11_has rfl rfl (Nat.le_of_ble_eq_true rfl) (by rfl) (Nat.le_of_ble_eq_true rfl) (Nat.le_of_ble_eq_true rfl) (Nat.le_of_ble_eq_true rfl) ?_
  refine ev_if_eq (tgt := 69) dX0_sistersOf_59 (by decide) (fun hc7 => ?_) (fun hc7 => ?_)
  · replace h := ite_t hc7 h
    exact ev_lt (f_X0_sistersOf_j69_ok hr4 h) ⟨rfl, ⟨rfl, ⟨rfl, ⟨rfl, trivial⟩⟩⟩⟩
  · replace h := ite_f hc7 h
    refine ev_iload_n dX0_sistersOf_62 rfl ?_
    refine ev_iconst (v := (1 : Int32)) dX0_sistersOf_63 (by decide) ?_
    refine ev_iload dX0_sistersOf_64 rfl ?_
    refine ev_ishl dX0_sistersOf_66 ?_
    refine ev_ior dX0_sistersOf_67 ?_
    refine ev_istore_n (loc' := [_, _, _, _, _, _]) dX0_sistersOf_68 rfl (by decide) (by rfl) ?_
    exact ev_lt (f_X0_sistersOf_j69_ok hr4 h) ⟨rfl, ⟨rfl, ⟨rfl, ⟨rfl, trivial⟩⟩⟩⟩
def f_X0_sistersOf_L4 (G : Nat) (μ : Mem)  : Nat → Int32 → Int32 → Int32 → Option Int32
  | 0, _, _, _ => none
  | g + 1, v1, v2, v3 =>
  (if (μ 24 3) ≤ v3 then
  some v2
  else
  bndO (f_X2_at G 24 32 μ v3 (0 : Int32)) (fun w3 =>
  bndO (f_X2_at G 24 32 μ v3 (1 : Int32)) (fun w5 =>
  (if (f_X11_has v1 w3) = (0 : Int32) then
  f_X0_sistersOf_j53 G μ (f_X0_sistersOf_L4 G μ g) v1 v2 v3 w3 w5
  else
  f_X0_sistersOf_j53 G μ (f_X0_sistersOf_L4 G μ g) v1 (v2 ||| (sl (1 : Int32) w5)) v3 w3 w5))))
set_option maxHeartbeats 4000000 in
set_option maxRecDepth 100000 in
theorem f_X0_sistersOf_L4_ok {bb : Bool} {G : Nat} {μ : Mem} {r : Int32}    : ∀ (g : Nat) (v1 v2 v3 : Int32), f_X0_sistersOf_L4 G μ g v1 v2 v3 = some r → Ev RX0 cX0_sistersOf 6 (some .int) false 3 0 0 (eqP (some r) (shC bb) μ) 4 [some (.ref 1), some (.int v1), some (.int v2), some (.int v3), none, none] [] (shC bb) μ 0 0 := by
  intro g
  induction g with
  | zero =>
    intro v1 v2 v3 h
    cases h
  | succ g ih =>
    intro v1 v2 v3 h
    rw [f_X0_sistersOf_L4] at h
    refine ev_iload_n dX0_sistersOf_4 rfl ?_
    refine ev_aload_n dX0_sistersOf_5 rfl ?_
    refine ev_getR fr_X0_53 shC_1 rfl dX0_sistersOf_6 ?_
    refine ev_getI fr_X0_123 shC_24 rfl dX0_sistersOf_9 ?_
    refine ev_icmp_ge (tgt := 75) dX0_sistersOf_12 (by decide) (fun hc1 => ?_) (fun hc1 => ?_)
    · replace h := ite_t hc1 h
      refine ev_iload_n dX0_sistersOf_75 rfl ?_
      exact ev_iret rfl rfl (by decide) (by decide) dX0_sistersOf_76 (eqP_O h)
    · replace h := ite_f hc1 h
      refine ev_aload_n dX0_sistersOf_15 rfl ?_
      refine ev_getR fr_X0_53 shC_1 rfl dX0_sistersOf_16 ?_
      refine ev_iload_n dX0_sistersOf_19 rfl ?_
      refine ev_iconst (v := (0 : Int32)) dX0_sistersOf_20 (by decide) ?_
      obtain ⟨w3, hq2, h⟩ := bndO_t h
      refine ev_cVi mv_X0_126 dX0_sistersOf_21 (c_X2_at atC_24 hq2) rfl shC_24 rfl rfl (Nat.le_of_ble_eq_true rfl) (by rfl) (Nat.le_of_ble_eq_true rfl) (Nat.le_of_ble_eq_true rfl) (Nat.le_of_ble_eq_true rfl) ?_
      refine ev_istore (loc' := [_, _, _, _, _, _]) dX0_sistersOf_24 rfl (by decide) (by rfl) ?_
      refine ev_aload_n dX0_sistersOf_26 rfl ?_
      refine ev_getR fr_X0_53 shC_1 rfl dX0_sistersOf_27 ?_
      refine ev_iload_n dX0_sistersOf_30 rfl ?_
      refine ev_iconst (v := (1 : Int32)) dX0_sistersOf_31 (by decide) ?_
      obtain ⟨w5, hq4, h⟩ := bndO_t h
      refine ev_cVi mv_X0_126 dX0_sistersOf_32 (c_X2_at atC_24 hq4) rfl shC_24 rfl rfl (Nat.le_of_ble_eq_true rfl) (by rfl) (Nat.le_of_ble_eq_true rfl) (Nat.le_of_ble_eq_true rfl) (Nat.le_of_ble_eq_true rfl) ?_
      refine ev_istore (loc' := [_, _, _, _, _, _]) dX0_sistersOf_35 rfl (by decide) (by rfl) ?_
      refine ev_iload_n dX0_sistersOf_37 rfl ?_
      refine ev_iload dX0_sistersOf_38 rfl ?_
      refine ev_cNi mv_X0_130 dX0_sistersOf_40 c_X11_has rfl rfl (Nat.le_of_ble_eq_true rfl) (by rfl) (Nat.le_of_ble_eq_true rfl) (Nat.le_of_ble_eq_true rfl) (Nat.le_of_ble_eq_true rfl) ?_
      refine ev_if_eq (tgt := 53) dX0_sistersOf_43 (by decide) (fun hc6 => ?_) (fun hc6 => ?_)
      · replace h := ite_t hc6 h
        exact ev_lt (f_X0_sistersOf_j53_ok ih h) ⟨rfl, ⟨rfl, ⟨rfl, ⟨rfl, ⟨rfl, ⟨rfl, trivial⟩⟩⟩⟩⟩⟩
      · replace h := ite_f hc6 h
        refine ev_iload_n dX0_sistersOf_46 rfl ?_
        refine ev_iconst (v := (1 : Int32)) dX0_sistersOf_47 (by decide) ?_
        refine ev_iload dX0_sistersOf_48 rfl ?_
        refine ev_ishl dX0_sistersOf_50 ?_
        refine ev_ior dX0_sistersOf_51 ?_
        refine ev_istore_n (loc' := [_, _, _, _, _, _]) dX0_sistersOf_52 rfl (by decide) (by rfl) ?_
        exact ev_lt (f_X0_sistersOf_j53_ok ih h) ⟨rfl, ⟨rfl, ⟨rfl, ⟨rfl, ⟨rfl, ⟨rfl, trivial⟩⟩⟩⟩⟩⟩
def f_X0_sistersOf (G : Nat) (μ : Mem) (p1 : Int32) : Option Int32 :=
  f_X0_sistersOf_L4 G μ G p1 (0 : Int32) (0 : Int32)
set_option maxHeartbeats 4000000 in
set_option maxRecDepth 100000 in
theorem c_X0_sistersOf {bb : Bool} {G : Nat} {μ : Mem}  {p1 : Int32} {r : Int32}  (h : f_X0_sistersOf G μ p1 = some r) : Cn yX0_sistersOf cX0_sistersOf 6 (some .int) 3 0 0 [.ref 1, .int p1] (shC bb) μ (eqP (some r) (shC bb) μ) := by
  refine cn_of (own := RX0) (ini := false) (loc := [some (.ref 1), some (.int p1), none, none, none, none]) rfl (by decide) (fun q => by cases q) (Nat.le_of_ble_eq_true rfl) (by rfl) rfl ?_
  unfold f_X0_sistersOf at h
  refine ev_iconst (v := (0 : Int32)) dX0_sistersOf_0 (by decide) ?_
  refine ev_istore_n (loc' := [_, _, _, _, _, _]) dX0_sistersOf_1 rfl (by decide) (by rfl) ?_
  refine ev_iconst (v := (0 : Int32)) dX0_sistersOf_2 (by decide) ?_
  refine ev_istore_n (loc' := [_, _, _, _, _, _]) dX0_sistersOf_3 rfl (by decide) (by rfl) ?_
  exact ev_lt (f_X0_sistersOf_L4_ok _ _ _ _ h) ⟨rfl, ⟨rfl, ⟨rfl, ⟨rfl, trivial⟩⟩⟩⟩
def f_X0_groupOf_L6 (G : Nat) (μ : Mem)  : Nat → Int32 → Int32 → Option Int32
  | 0, _, _ => none
  | g + 1, v2, v3 =>
  (if (12 : Int32) ≤ v3 then
  some v2
  else
  bndO (f_X0_sistersOf G μ v2) (fun w3 =>
  (f_X0_groupOf_L6 G μ g) (v2 ||| w3) (v3 + (1 : Int32))))
set_option maxHeartbeats 4000000 in
set_option maxRecDepth 100000 in
theorem f_X0_groupOf_L6_ok {bb : Bool} {G : Nat} {μ : Mem} {r : Int32}    : ∀ (g : Nat) (v2 v3 : Int32), f_X0_groupOf_L6 G μ g v2 v3 = some r → Ev RX0 cX0_groupOf 4 (some .int) false 4 0 0 (eqP (some r) (shC bb) μ) 6 [some (.ref 1), none, some (.int v2), some (.int v3)] [] (shC bb) μ 0 0 := by
  intro g
  induction g with
  | zero =>
    intro v2 v3 h
    cases h
  | succ g ih =>
    intro v2 v3 h
    rw [f_X0_groupOf_L6] at h
    refine ev_iload_n dX0_groupOf_6 rfl ?_
    refine ev_bipush (v := (12 : Int32)) dX0_groupOf_7 (by decide) ?_
    refine ev_icmp_ge (tgt := 26) dX0_groupOf_9 (by decide) (fun hc1 => ?_) (fun hc1 => ?_)
    · replace h := ite_t hc1 h
      refine ev_iload_n dX0_groupOf_26 rfl ?_
      exact ev_iret rfl rfl (by decide) (by decide) dX0_groupOf_27 (eqP_O h)
    · replace h := ite_f hc1 h
      refine ev_iload_n dX0_groupOf_12 rfl ?_
      refine ev_aload_n dX0_groupOf_13 rfl ?_
      refine ev_iload_n dX0_groupOf_14 rfl ?_
      obtain ⟨w3, hq2, h⟩ := bndO_t h
      refine ev_cVi mv_X0_133 dX0_groupOf_15 (c_X0_sistersOf hq2) rfl shC_1 rfl rfl (Nat.le_of_ble_eq_true rfl) (by rfl) (Nat.le_of_ble_eq_true rfl) (Nat.le_of_ble_eq_true rfl) (Nat.le_of_ble_eq_true rfl) ?_
      refine ev_ior dX0_groupOf_18 ?_
      refine ev_istore_n (loc' := [_, _, _, _]) dX0_groupOf_19 rfl (by decide) (by rfl) ?_
      refine ev_iinc (cq := (1 : Int32)) (loc' := [_, _, _, _]) dX0_groupOf_20 rfl (by decide) rfl (by decide) (by rfl) ?_
      refine ev_goto (tgt := 6) dX0_groupOf_23 (by decide) ?_
      exact ev_lt (ih _ _ h) ⟨rfl, ⟨rfl, ⟨rfl, trivial⟩⟩⟩
def f_X0_groupOf (G : Nat) (μ : Mem) (p1 : Int32) : Option Int32 :=
  f_X0_groupOf_L6 G μ G (sl (1 : Int32) p1) (1 : Int32)
set_option maxHeartbeats 4000000 in
set_option maxRecDepth 100000 in
theorem c_X0_groupOf {bb : Bool} {G : Nat} {μ : Mem}  {p1 : Int32} {r : Int32}  (h : f_X0_groupOf G μ p1 = some r) : Cn yX0_groupOf cX0_groupOf 4 (some .int) 4 0 0 [.ref 1, .int p1] (shC bb) μ (eqP (some r) (shC bb) μ) := by
  refine cn_of (own := RX0) (ini := false) (loc := [some (.ref 1), some (.int p1), none, none]) rfl (by decide) (fun q => by cases q) (Nat.le_of_ble_eq_true rfl) (by rfl) rfl ?_
  unfold f_X0_groupOf at h
  refine ev_iconst (v := (1 : Int32)) dX0_groupOf_0 (by decide) ?_
  refine ev_iload_n dX0_groupOf_1 rfl ?_
  refine ev_ishl dX0_groupOf_2 ?_
  refine ev_istore_n (loc' := [_, _, _, _]) dX0_groupOf_3 rfl (by decide) (by rfl) ?_
  refine ev_iconst (v := (1 : Int32)) dX0_groupOf_4 (by decide) ?_
  refine ev_istore_n (loc' := [_, _, _, _]) dX0_groupOf_5 rfl (by decide) (by rfl) ?_
  exact ev_lt (f_X0_groupOf_L6_ok _ _ _ h) ⟨rfl, ⟨rfl, ⟨rfl, trivial⟩⟩⟩
def f_X1_clear (G : Nat) (a : Nat) (μ : Mem) : Option Mem :=
  (let m1 := wr μ a 6 (0 : Int32)
  (let m2 := wr m1 a 7 (0 : Int32)
  some m2))
set_option maxHeartbeats 4000000 in
set_option maxRecDepth 100000 in
theorem c_X1_clear {sh : List Shp} {G : Nat} {a : Nat} {μ : Mem} {μr : Mem} (ha : At_X1 sh a) (h : f_X1_clear G a μ = some μr) : Cn yX1_clear cX1_clear 1 none 1 0 0 [.ref a] sh μ (eqP none sh μr) := by
  refine cn_of (own := RX1) (ini := false) (loc := [some (.ref a)]) rfl (by decide) (fun q => by cases q) (Nat.le_of_ble_eq_true rfl) (by rfl) rfl ?_
  unfold f_X1_clear at h
  refine ev_aload_n dX1_clear_0 rfl ?_
  refine ev_iconst (v := (0 : Int32)) dX1_clear_1 (by decide) ?_
  refine ev_putI fr_X1_30 (ha.1) rfl rfl rfl dX1_clear_2 ?_
  refine ev_aload_n dX1_clear_5 rfl ?_
  refine ev_iconst (v := (0 : Int32)) dX1_clear_6 (by decide) ?_
  refine ev_putI fr_X1_34 (ha.1) rfl rfl rfl dX1_clear_7 ?_
  exact ev_vret rfl (by decide) (by decide) dX1_clear_10 (eqP_V h)
def f_X1_closeLine (G : Nat) (a : Nat) (p1 p2 p3 : Int32) (μ : Mem) : Option Mem :=
  (if (16 : Int32) ≤ (μ a 6) then
  some μ
  else
  chk (μ a 6) 16 (let m2 := wr μ (a + 2) (ix (μ a 6)) p1
  chk (m2 a 6) 16 (let m4 := wr m2 (a + 3) (ix (m2 a 6)) p2
  chk (m4 a 6) 16 (let m6 := wr m4 (a + 4) (ix (m4 a 6)) p3
  chk (m6 a 6) 16 (let m8 := wr m6 (a + 5) (ix (m6 a 6)) (m6 a 7)
  (let m10 := wr m8 a 6 ((m8 a 6) + (1 : Int32))
  some m10))))))
set_option maxHeartbeats 4000000 in
set_option maxRecDepth 100000 in
theorem c_X1_closeLine {sh : List Shp} {G : Nat} {a : Nat} {μ : Mem} {p1 p2 p3 : Int32} {μr : Mem} (ha : At_X1 sh a) (h : f_X1_closeLine G a p1 p2 p3 μ = some μr) : Cn yX1_closeLine cX1_closeLine 4 none 1 0 0 [.ref a, .int p1, .int p2, .int p3] sh μ (eqP none sh μr) := by
  refine cn_of (own := RX1) (ini := false) (loc := [some (.ref a), some (.int p1), some (.int p2), some (.int p3)]) rfl (by decide) (fun q => by cases q) (Nat.le_of_ble_eq_true rfl) (by rfl) rfl ?_
  unfold f_X1_closeLine at h
  refine ev_aload_n dX1_closeLine_0 rfl ?_
  refine ev_getI fr_X1_30 (ha.1) rfl dX1_closeLine_1 ?_
  refine ev_bipush (v := (16 : Int32)) dX1_closeLine_4 (by decide) ?_
  refine ev_icmp_ge (tgt := 62) dX1_closeLine_6 (by decide) (fun hc1 => ?_) (fun hc1 => ?_)
  · replace h := ite_t hc1 h
    exact ev_vret rfl (by decide) (by decide) dX1_closeLine_62 (eqP_V h)
  · replace h := ite_f hc1 h
    refine ev_aload_n dX1_closeLine_9 rfl ?_
    refine ev_getR fr_X1_15 (ha.1) rfl dX1_closeLine_10 ?_
    refine ev_aload_n dX1_closeLine_13 rfl ?_
    refine ev_getI fr_X1_30 (ha.1) rfl dX1_closeLine_14 ?_
    refine ev_iload_n dX1_closeLine_17 rfl ?_
    obtain ⟨hi3, h⟩ := chk_t h
    refine ev_iast (ha.2.2.1) hi3 dX1_closeLine_18 ?_
    refine ev_aload_n dX1_closeLine_19 rfl ?_
    refine ev_getR fr_X1_18 (ha.1) rfl dX1_closeLine_20 ?_
    refine ev_aload_n dX1_closeLine_23 rfl ?_
    refine ev_getI fr_X1_30 (ha.1) rfl dX1_closeLine_24 ?_
    refine ev_iload_n dX1_closeLine_27 rfl ?_
    obtain ⟨hi5, h⟩ := chk_t h
    refine ev_iast (ha.2.2.2.1) hi5 dX1_closeLine_28 ?_
    refine ev_aload_n dX1_closeLine_29 rfl ?_
    refine ev_getR fr_X1_21 (ha.1) rfl dX1_closeLine_30 ?_
    refine ev_aload_n dX1_closeLine_33 rfl ?_
    refine ev_getI fr_X1_30 (ha.1) rfl dX1_closeLine_34 ?_
    refine ev_iload_n dX1_closeLine_37 rfl ?_
    obtain ⟨hi7, h⟩ := chk_t h
    refine ev_iast (ha.2.2.2.2.1) hi7 dX1_closeLine_38 ?_
    refine ev_aload_n dX1_closeLine_39 rfl ?_
    refine ev_getR fr_X1_24 (ha.1) rfl dX1_closeLine_40 ?_
    refine ev_aload_n dX1_closeLine_43 rfl ?_
    refine ev_getI fr_X1_30 (ha.1) rfl dX1_closeLine_44 ?_
    refine ev_aload_n dX1_closeLine_47 rfl ?_
    refine ev_getI fr_X1_34 (ha.1) rfl dX1_closeLine_48 ?_
    obtain ⟨hi9, h⟩ := chk_t h
    refine ev_iast (ha.2.2.2.2.2.1) hi9 dX1_closeLine_51 ?_
    refine ev_aload_n dX1_closeLine_52 rfl ?_
    refine ev_dup dX1_closeLine_53 (by rfl) ?_
    refine ev_getI fr_X1_30 (ha.1) rfl dX1_closeLine_54 ?_
    refine ev_iconst (v := (1 : Int32)) dX1_closeLine_57 (by decide) ?_
    refine ev_iadd dX1_closeLine_58 ?_
    refine ev_putI fr_X1_30 (ha.1) rfl rfl rfl dX1_closeLine_59 ?_
    exact ev_vret rfl (by decide) (by decide) dX1_closeLine_62 (eqP_V h)
def f_X1_joined (G : Nat) (μ : Mem) (p1 p2 p3 : Int32) : Option Int32 :=
  (if p1 = (10005 : Int32) then
  some (p2 &&& p3)
  else
  (if p1 = (20042 : Int32) then
  some (p2 * p3)
  else
  (if p1 = (20043 : Int32) then
  some (p2 + p3)
  else
  (if p1 = (20045 : Int32) then
  some (p2 - p3)
  else
  (if p1 = (20047 : Int32) then
  (if p3 = (0 : Int32) then
  some (0 : Int32)
  else
  dvk p3 (some (p2 / p3)))
  else
  (if p1 = (20060 : Int32) then
  (if p3 ≤ p2 then
  some (0 : Int32)
  else
  some (1 : Int32))
  else
  (if p1 = (20061 : Int32) then
  (if p2 = p3 then
  some (1 : Int32)
  else
  some (0 : Int32))
  else
  (if p1 = (20062 : Int32) then
  (if p2 ≤ p3 then
  some (0 : Int32)
  else
  some (1 : Int32))
  else
  some (p2 ||| p3)))))))))
set_option maxHeartbeats 4000000 in
set_option maxRecDepth 100000 in
theorem c_X1_joined {sh : List Shp} {G : Nat} {μ : Mem}  {p1 p2 p3 : Int32} {r : Int32}  (h : f_X1_joined G μ p1 p2 p3 = some r) : Cn yX1_joined cX1_joined 3 (some .int) 1 0 0 [.int p1, .int p2, .int p3] sh μ (eqP (some r) sh μ) := by
  refine cn_of (own := RX1) (ini := false) (loc := [some (.int p1), some (.int p2), some (.int p3)]) rfl (by decide) (fun q => by cases q) (Nat.le_of_ble_eq_true rfl) (by rfl) rfl ?_
  unfold f_X1_joined at h
  refine ev_iload_n dX1_joined_0 rfl ?_
  refine ev_em (v := (10005 : Int32)) (fun hc1 => ?_) (fun hc1 => ?_)
  · replace h := ite_t hc1 h
    refine ev_lsC (v := (10005 : Int32)) (off := 132) (tgt := 133) dX1_joined_1 (by decide) hc1 (by decide) (by decide) ?_
    refine ev_iload_n dX1_joined_133 rfl ?_
    refine ev_iload_n dX1_joined_134 rfl ?_
    refine ev_iand dX1_joined_135 ?_
    exact ev_iret rfl rfl (by decide) (by decide) dX1_joined_136 (eqP_O h)
  · replace h := ite_f hc1 h
    refine ev_em (v := (20042 : Int32)) (fun hc2 => ?_) (fun hc2 => ?_)
    · replace h := ite_t hc2 h
      refine ev_lsC (v := (20042 : Int32)) (off := 83) (tgt := 84) dX1_joined_1 (by decide) hc2 (by decide) (by decide) ?_
      refine ev_iload_n dX1_joined_84 rfl ?_
      refine ev_iload_n dX1_joined_85 rfl ?_
      refine ev_imul dX1_joined_86 ?_
      exact ev_iret rfl rfl (by decide) (by decide) dX1_joined_87 (eqP_O h)
    · replace h := ite_f hc2 h
      refine ev_em (v := (20043 : Int32)) (fun hc3 => ?_) (fun hc3 => ?_)
      · replace h := ite_t hc3 h
        refine ev_lsC (v := (20043 : Int32)) (off := 75) (tgt := 76) dX1_joined_1 (by decide) hc3 (by decide) (by decide) ?_
        refine ev_iload_n dX1_joined_76 rfl ?_
        refine ev_iload_n dX1_joined_77 rfl ?_
        refine ev_iadd dX1_joined_78 ?_
        exact ev_iret rfl rfl (by decide) (by decide) dX1_joined_79 (eqP_O h)
      · replace h := ite_f hc3 h
        refine ev_em (v := (20045 : Int32)) (fun hc4 => ?_) (fun hc4 => ?_)
        · replace h := ite_t hc4 h
          refine ev_lsC (v := (20045 : Int32)) (off := 79) (tgt := 80) dX1_joined_1 (by decide) hc4 (by decide) (by decide) ?_
          refine ev_iload_n dX1_joined_80 rfl ?_
          refine ev_iload_n dX1_joined_81 rfl ?_
          refine ev_isub dX1_joined_82 ?_
          exact ev_iret rfl rfl (by decide) (by decide) dX1_joined_83 (eqP_O h)
        · replace h := ite_f hc4 h
          refine ev_em (v := (20047 : Int32)) (fun hc5 => ?_) (fun hc5 => ?_)
          · replace h := ite_t hc5 h
            refine ev_lsC (v := (20047 : Int32)) (off := 87) (tgt := 88) dX1_joined_1 (by decide) hc5 (by decide) (by decide) ?_
            refine ev_iload_n dX1_joined_88 rfl ?_
            refine ev_if_ne (tgt := 96) dX1_joined_89 (by decide) (fun hc6 => ?_) (fun hc6 => ?_)
            · replace h := ite_f hc6 h
              refine ev_iload_n dX1_joined_96 rfl ?_
              refine ev_iload_n dX1_joined_97 rfl ?_
              obtain ⟨hz7, h⟩ := dvk_t h
              refine ev_idiv dX1_joined_98 hz7 ?_
              exact ev_iret rfl rfl (by decide) (by decide) dX1_joined_99 (eqP_O h)
            · replace h := ite_t hc6 h
              refine ev_iconst (v := (0 : Int32)) dX1_joined_92 (by decide) ?_
              refine ev_goto (tgt := 99) dX1_joined_93 (by decide) ?_
              exact ev_iret rfl rfl (by decide) (by decide) dX1_joined_99 (eqP_O h)
          · replace h := ite_f hc5 h
            refine ev_em (v := (20060 : Int32)) (fun hc8 => ?_) (fun hc8 => ?_)
            · replace h := ite_t hc8 h
              refine ev_lsC (v := (20060 : Int32)) (off := 99) (tgt := 100) dX1_joined_1 (by decide) hc8 (by decide) (by decide) ?_
              refine ev_iload_n dX1_joined_100 rfl ?_
              refine ev_iload_n dX1_joined_101 rfl ?_
              refine ev_icmp_ge (tgt := 109) dX1_joined_102 (by decide) (fun hc9 => ?_) (fun hc9 => ?_)
              · replace h := ite_t hc9 h
                refine ev_iconst (v := (0 : Int32)) dX1_joined_109 (by decide) ?_
                exact ev_iret rfl rfl (by decide) (by decide) dX1_joined_110 (eqP_O h)
              · replace h := ite_f hc9 h
                refine ev_iconst (v := (1 : Int32)) dX1_joined_105 (by decide) ?_
                refine ev_goto (tgt := 110) dX1_joined_106 (by decide) ?_
                exact ev_iret rfl rfl (by decide) (by decide) dX1_joined_110 (eqP_O h)
            · replace h := ite_f hc8 h
              refine ev_em (v := (20061 : Int32)) (fun hc10 => ?_) (fun hc10 => ?_)
              · replace h := ite_t hc10 h
                refine ev_lsC (v := (20061 : Int32)) (off := 110) (tgt := 111) dX1_joined_1 (by decide) hc10 (by decide) (by decide) ?_
                refine ev_iload_n dX1_joined_111 rfl ?_
                refine ev_iload_n dX1_joined_112 rfl ?_
                refine ev_icmp_ne (tgt := 120) dX1_joined_113 (by decide) (fun hc11 => ?_) (fun hc11 => ?_)
                · replace h := ite_f hc11 h
                  refine ev_iconst (v := (0 : Int32)) dX1_joined_120 (by decide) ?_
                  exact ev_iret rfl rfl (by decide) (by decide) dX1_joined_121 (eqP_O h)
                · replace h := ite_t hc11 h
                  refine ev_iconst (v := (1 : Int32)) dX1_joined_116 (by decide) ?_
                  refine ev_goto (tgt := 121) dX1_joined_117 (by decide) ?_
                  exact ev_iret rfl rfl (by decide) (by decide) dX1_joined_121 (eqP_O h)
              · replace h := ite_f hc10 h
                refine ev_em (v := (20062 : Int32)) (fun hc12 => ?_) (fun hc12 => ?_)
                · replace h := ite_t hc12 h
                  refine ev_lsC (v := (20062 : Int32)) (off := 121) (tgt := 122) dX1_joined_1 (by decide) hc12 (by decide) (by decide) ?_
                  refine ev_iload_n dX1_joined_122 rfl ?_
                  refine ev_iload_n dX1_joined_123 rfl ?_
                  refine ev_icmp_le (tgt := 131) dX1_joined_124 (by decide) (fun hc13 => ?_) (fun hc13 => ?_)
                  · replace h := ite_t hc13 h
                    refine ev_iconst (v := (0 : Int32)) dX1_joined_131 (by decide) ?_
                    exact ev_iret rfl rfl (by decide) (by decide) dX1_joined_132 (eqP_O h)
                  · replace h := ite_f hc13 h
                    refine ev_iconst (v := (1 : Int32)) dX1_joined_127 (by decide) ?_
                    refine ev_goto (tgt := 132) dX1_joined_128 (by decide) ?_
                    exact ev_iret rfl rfl (by decide) (by decide) dX1_joined_132 (eqP_O h)
                · replace h := ite_f hc12 h
                  refine ev_lsE (tgt := 137) dX1_joined_1 (by decide) ⟨hc1, ⟨hc2, ⟨hc3, ⟨hc4, ⟨hc5, ⟨hc8, ⟨hc10, ⟨hc12, trivial⟩⟩⟩⟩⟩⟩⟩⟩ (by decide) ?_
                  refine ev_iload_n dX1_joined_137 rfl ?_
                  refine ev_iload_n dX1_joined_138 rfl ?_
                  refine ev_ior dX1_joined_139 ?_
                  exact ev_iret rfl rfl (by decide) (by decide) dX1_joined_140 (eqP_O h)
def f_X1_run_j187 (G : Nat) (r10 : Int32 → Int32 → Int32 → Mem → Option (Int32 × Mem)) (k10_193 : Int32 → Mem → Option (Int32 × Mem)) (v2 v4 v5 : Int32) (μ : Mem) : Option (Int32 × Mem) :=
  r10 v2 v4 (v5 + (1 : Int32)) μ
set_option maxHeartbeats 4000000 in
set_option maxRecDepth 100000 in
theorem f_X1_run_j187_ok {bb : Bool} {G : Nat} {r : Int32} {μr : Mem}  {r10 : Int32 → Int32 → Int32 → Mem → Option (Int32 × Mem)} {k10_193 : Int32 → Mem → Option (Int32 × Mem)} (hr10 : ∀ (v2 : Int32) (v4 : Int32) (v5 : Int32) (m : Mem), r10 v2 v4 v5 m = some (r, μr) → Ev RX1 cX1_run 8 (some .int) false 2 0 0 (eqP (some r) (shC bb) μr) 10 [some (.ref 13), none, some (.int v2), some (.ref 94), some (.int v4), some (.int v5), none, none] [] (shC bb) m 0 0) (hk10_193 : ∀ (v4 : Int32) (m : Mem), k10_193 v4 m = some (r, μr) → Ev RX1 cX1_run 8 (some .int) false 2 0 0 (eqP (some r) (shC bb) μr) 193 [some (.ref 13), none, none, none, some (.int v4), none, none, none] [] (shC bb) m 0 0) {v2 v4 v5 : Int32} {μ : Mem} (h : f_X1_run_j187 G r10 k10_193 v2 v4 v5 μ = some (r, μr)) : Ev RX1 cX1_run 8 (some .int) false 2 0 0 (eqP (some r) (shC bb) μr) 187 [some (.ref 13), none, some (.int v2), some (.ref 94), some (.int v4), some (.int v5), none, none] [] (shC bb) μ 0 0 := by
  unfold f_X1_run_j187 at h
  refine ev_iinc (cq := (1 : Int32)) (loc' := [_, _, _, _, _, _, _, _]) dX1_run_187 rfl (by decide) rfl (by decide) (by rfl) ?_
  refine ev_goto (tgt := 10) dX1_run_190 (by decide) ?_
  exact ev_lt (hr10 _ _ _ _ h) ⟨rfl, ⟨rfl, ⟨rfl, ⟨rfl, ⟨rfl, trivial⟩⟩⟩⟩⟩
def f_X1_run_j91 (G : Nat) (r10 : Int32 → Int32 → Int32 → Mem → Option (Int32 × Mem)) (k10_193 : Int32 → Mem → Option (Int32 × Mem)) (v2 v4 v5 s0 s1 : Int32) (μ : Mem) : Option (Int32 × Mem) :=
  chk s1 40 (let m7 := wr μ 19 (ix s1) s0
  f_X1_run_j187 G r10 k10_193 v2 (v4 + (1 : Int32)) v5 m7)
set_option maxHeartbeats 4000000 in
set_option maxRecDepth 100000 in
theorem f_X1_run_j91_ok {bb : Bool} {G : Nat} {r : Int32} {μr : Mem}  {r10 : Int32 → Int32 → Int32 → Mem → Option (Int32 × Mem)} {k10_193 : Int32 → Mem → Option (Int32 × Mem)} (hr10 : ∀ (v2 : Int32) (v4 : Int32) (v5 : Int32) (m : Mem), r10 v2 v4 v5 m = some (r, μr) → Ev RX1 cX1_run 8 (some .int) false 2 0 0 (eqP (some r) (shC bb) μr) 10 [some (.ref 13), none, some (.int v2), some (.ref 94), some (.int v4), some (.int v5), none, none] [] (shC bb) m 0 0) (hk10_193 : ∀ (v4 : Int32) (m : Mem), k10_193 v4 m = some (r, μr) → Ev RX1 cX1_run 8 (some .int) false 2 0 0 (eqP (some r) (shC bb) μr) 193 [some (.ref 13), none, none, none, some (.int v4), none, none, none] [] (shC bb) m 0 0) {v2 v4 v5 s0 s1 : Int32} {μ : Mem} (h : f_X1_run_j91 G r10 k10_193 v2 v4 v5 s0 s1 μ = some (r, μr)) : Ev RX1 cX1_run 8 (some .int) false 2 0 0 (eqP (some r) (shC bb) μr) 91 [some (.ref 13), none, some (.int v2), some (.ref 94), some (.int v4), some (.int v5), none, none] [.int s0, .int s1, .ref 19] (shC bb) μ 0 0 := by
  unfold f_X1_run_j91 at h
  obtain ⟨hi8, h⟩ := chk_t h
  refine ev_iast shC_19 hi8 dX1_run_91 ?_
  refine ev_iinc (cq := (1 : Int32)) (loc' := [_, _, _, _, _, _, _, _]) dX1_run_92 rfl (by decide) rfl (by decide) (by rfl) ?_
  refine ev_goto (tgt := 187) dX1_run_95 (by decide) ?_
  exact ev_lt (f_X1_run_j187_ok hr10 hk10_193 h) ⟨rfl, ⟨rfl, ⟨rfl, ⟨rfl, ⟨rfl, trivial⟩⟩⟩⟩⟩
def f_X1_run_j89 (G : Nat) (r10 : Int32 → Int32 → Int32 → Mem → Option (Int32 × Mem)) (k10_193 : Int32 → Mem → Option (Int32 × Mem)) (v2 v4 v5 v6 s0 : Int32) (μ : Mem) : Option (Int32 × Mem) :=
  f_X1_run_j91 G r10 k10_193 v2 v4 v5 v6 s0 μ
set_option maxHeartbeats 4000000 in
set_option maxRecDepth 100000 in
theorem f_X1_run_j89_ok {bb : Bool} {G : Nat} {r : Int32} {μr : Mem}  {r10 : Int32 → Int32 → Int32 → Mem → Option (Int32 × Mem)} {k10_193 : Int32 → Mem → Option (Int32 × Mem)} (hr10 : ∀ (v2 : Int32) (v4 : Int32) (v5 : Int32) (m : Mem), r10 v2 v4 v5 m = some (r, μr) → Ev RX1 cX1_run 8 (some .int) false 2 0 0 (eqP (some r) (shC bb) μr) 10 [some (.ref 13), none, some (.int v2), some (.ref 94), some (.int v4), some (.int v5), none, none] [] (shC bb) m 0 0) (hk10_193 : ∀ (v4 : Int32) (m : Mem), k10_193 v4 m = some (r, μr) → Ev RX1 cX1_run 8 (some .int) false 2 0 0 (eqP (some r) (shC bb) μr) 193 [some (.ref 13), none, none, none, some (.int v4), none, none, none] [] (shC bb) m 0 0) {v2 v4 v5 v6 s0 : Int32} {μ : Mem} (h : f_X1_run_j89 G r10 k10_193 v2 v4 v5 v6 s0 μ = some (r, μr)) : Ev RX1 cX1_run 8 (some .int) false 2 0 0 (eqP (some r) (shC bb) μr) 89 [some (.ref 13), none, some (.int v2), some (.ref 94), some (.int v4), some (.int v5), some (.int v6), none] [.int s0, .ref 19] (shC bb) μ 0 0 := by
  unfold f_X1_run_j89 at h
  refine ev_iload dX1_run_89 rfl ?_
  exact ev_lt (f_X1_run_j91_ok hr10 hk10_193 h) ⟨rfl, ⟨rfl, ⟨rfl, ⟨rfl, ⟨rfl, trivial⟩⟩⟩⟩⟩
def f_X1_run_j49 (G : Nat) (r10 : Int32 → Int32 → Int32 → Mem → Option (Int32 × Mem)) (k10_193 : Int32 → Mem → Option (Int32 × Mem)) (v2 v4 v5 v6 : Int32) (μ : Mem) : Option (Int32 × Mem) :=
  (if (40 : Int32) ≤ v4 then
  f_X1_run_j187 G r10 k10_193 v2 v4 v5 μ
  else
  (if (v6 - (10007 : Int32)) < (0 : Int32) then
  f_X1_run_j89 G r10 k10_193 v2 v4 v5 v6 v4 μ
  else
  (if (11 : Int32) ≤ (v6 - (10007 : Int32)) then
  f_X1_run_j89 G r10 k10_193 v2 v4 v5 v6 v4 μ
  else
  chk (v6 - (10007 : Int32)) 11 (f_X1_run_j91 G r10 k10_193 v2 v4 v5 (μ 94 (ix (v6 - (10007 : Int32)))) v4 μ))))
set_option maxHeartbeats 4000000 in
set_option maxRecDepth 100000 in
theorem f_X1_run_j49_ok {bb : Bool} {G : Nat} {r : Int32} {μr : Mem}  {r10 : Int32 → Int32 → Int32 → Mem → Option (Int32 × Mem)} {k10_193 : Int32 → Mem → Option (Int32 × Mem)} (hr10 : ∀ (v2 : Int32) (v4 : Int32) (v5 : Int32) (m : Mem), r10 v2 v4 v5 m = some (r, μr) → Ev RX1 cX1_run 8 (some .int) false 2 0 0 (eqP (some r) (shC bb) μr) 10 [some (.ref 13), none, some (.int v2), some (.ref 94), some (.int v4), some (.int v5), none, none] [] (shC bb) m 0 0) (hk10_193 : ∀ (v4 : Int32) (m : Mem), k10_193 v4 m = some (r, μr) → Ev RX1 cX1_run 8 (some .int) false 2 0 0 (eqP (some r) (shC bb) μr) 193 [some (.ref 13), none, none, none, some (.int v4), none, none, none] [] (shC bb) m 0 0) {v2 v4 v5 v6 : Int32} {μ : Mem} (h : f_X1_run_j49 G r10 k10_193 v2 v4 v5 v6 μ = some (r, μr)) : Ev RX1 cX1_run 8 (some .int) false 2 0 0 (eqP (some r) (shC bb) μr) 49 [some (.ref 13), none, some (.int v2), some (.ref 94), some (.int v4), some (.int v5), some (.int v6), none] [] (shC bb) μ 0 0 := by
  unfold f_X1_run_j49 at h
  refine ev_iload dX1_run_49 rfl ?_
  refine ev_bipush (v := (40 : Int32)) dX1_run_51 (by decide) ?_
  refine ev_icmp_ge (tgt := 187) dX1_run_53 (by decide) (fun hc5 => ?_) (fun hc5 => ?_)
  · replace h := ite_t hc5 h
    exact ev_lt (f_X1_run_j187_ok hr10 hk10_193 h) ⟨rfl, ⟨rfl, ⟨rfl, ⟨rfl, ⟨rfl, trivial⟩⟩⟩⟩⟩
  · replace h := ite_f hc5 h
    refine ev_iload dX1_run_56 rfl ?_
    refine ev_sipush (v := (10007 : Int32)) dX1_run_58 (by decide) ?_
    refine ev_isub dX1_run_61 ?_
    refine ev_istore (loc' := [_, _, _, _, _, _, _, _]) dX1_run_62 rfl (by decide) (by rfl) ?_
    refine ev_aload_n dX1_run_64 rfl ?_
    refine ev_getR fr_X1_27 shC_13 rfl dX1_run_65 ?_
    refine ev_iload dX1_run_68 rfl ?_
    refine ev_iload dX1_run_70 rfl ?_
    refine ev_if_lt (tgt := 89) dX1_run_72 (by decide) (fun hc6 => ?_) (fun hc6 => ?_)
    · replace h := ite_t hc6 h
      exact ev_lt (f_X1_run_j89_ok hr10 hk10_193 h) ⟨rfl, ⟨rfl, ⟨rfl, ⟨rfl, ⟨rfl, ⟨rfl, trivial⟩⟩⟩⟩⟩⟩
    · replace h := ite_f hc6 h
      refine ev_iload dX1_run_75 rfl ?_
      refine ev_aload_n dX1_run_77 rfl ?_
      refine ev_alen (v := (11 : Int32)) shC_94 (by decide) dX1_run_78 ?_
      refine ev_icmp_ge (tgt := 89) dX1_run_79 (by decide) (fun hc9 => ?_) (fun hc9 => ?_)
      · replace h := ite_t hc9 h
        exact ev_lt (f_X1_run_j89_ok hr10 hk10_193 h) ⟨rfl, ⟨rfl, ⟨rfl, ⟨rfl, ⟨rfl, ⟨rfl, trivial⟩⟩⟩⟩⟩⟩
      · replace h := ite_f hc9 h
        refine ev_aload_n dX1_run_82 rfl ?_
        refine ev_iload dX1_run_83 rfl ?_
        obtain ⟨hi10, h⟩ := chk_t h
        refine ev_iald shC_94 hi10 dX1_run_85 ?_
        refine ev_goto (tgt := 91) dX1_run_86 (by decide) ?_
        exact ev_lt (f_X1_run_j91_ok hr10 hk10_193 h) ⟨rfl, ⟨rfl, ⟨rfl, ⟨rfl, ⟨rfl, trivial⟩⟩⟩⟩⟩
def f_X1_run_L10 (G : Nat) (k10_193 : Int32 → Mem → Option (Int32 × Mem)) : Nat → Int32 → Int32 → Int32 → Mem → Option (Int32 × Mem)
  | 0, _, _, _, _ => none
  | g + 1, v2, v4, v5, μ =>
  (if v2 ≤ v5 then
  k10_193 v4 μ
  else
  (if (400 : Int32) ≤ v5 then
  k10_193 v4 μ
  else
  chk v5 400 ((if (f_X10_isNumber (μ 14 (ix v5))) = (0 : Int32) then
  (if (f_X10_isName (μ 14 (ix v5))) = (0 : Int32) then
  (if (μ 14 (ix v5)) = (10006 : Int32) then
  (if v4 ≤ (0 : Int32) then
  f_X1_run_j187 G (f_X1_run_L10 G k10_193 g) k10_193 v2 v4 v5 μ
  else
  (if (40 : Int32) < v4 then
  f_X1_run_j187 G (f_X1_run_L10 G k10_193 g) k10_193 v2 v4 v5 μ
  else
  chk (v4 - (1 : Int32)) 40 (chk (v4 - (1 : Int32)) 40 (let m24 := wr μ 19 (ix (v4 - (1 : Int32))) ((1 : Int32) - (μ 19 (ix (v4 - (1 : Int32)))))
  f_X1_run_j187 G (f_X1_run_L10 G k10_193 g) k10_193 v2 v4 v5 m24))))
  else
  (if v4 ≤ (1 : Int32) then
  f_X1_run_j187 G (f_X1_run_L10 G k10_193 g) k10_193 v2 v4 v5 μ
  else
  (if (40 : Int32) < v4 then
  f_X1_run_j187 G (f_X1_run_L10 G k10_193 g) k10_193 v2 v4 v5 μ
  else
  chk ((v4 + (-1 : Int32)) - (1 : Int32)) 40 (chk (v4 + (-1 : Int32)) 40 (bndO (f_X1_joined G μ (μ 14 (ix v5)) (μ 19 (ix ((v4 + (-1 : Int32)) - (1 : Int32)))) (μ 19 (ix (v4 + (-1 : Int32))))) (fun w18 =>
  chk ((v4 + (-1 : Int32)) - (1 : Int32)) 40 (let m19 := wr μ 19 (ix ((v4 + (-1 : Int32)) - (1 : Int32))) w18
  f_X1_run_j187 G (f_X1_run_L10 G k10_193 g) k10_193 v2 (v4 + (-1 : Int32)) v5 m19)))))))
  else
  f_X1_run_j49 G (f_X1_run_L10 G k10_193 g) k10_193 v2 v4 v5 (μ 14 (ix v5)) μ)
  else
  f_X1_run_j49 G (f_X1_run_L10 G k10_193 g) k10_193 v2 v4 v5 (μ 14 (ix v5)) μ))))
set_option maxHeartbeats 4000000 in
set_option maxRecDepth 100000 in
theorem f_X1_run_L10_ok {bb : Bool} {G : Nat} {r : Int32} {μr : Mem}  {k10_193 : Int32 → Mem → Option (Int32 × Mem)} (hk10_193 : ∀ (v4 : Int32) (m : Mem), k10_193 v4 m = some (r, μr) → Ev RX1 cX1_run 8 (some .int) false 2 0 0 (eqP (some r) (shC bb) μr) 193 [some (.ref 13), none, none, none, some (.int v4), none, none, none] [] (shC bb) m 0 0) : ∀ (g : Nat) (v2 v4 v5 : Int32) (μ : Mem), f_X1_run_L10 G k10_193 g v2 v4 v5 μ = some (r, μr) → Ev RX1 cX1_run 8 (some .int) false 2 0 0 (eqP (some r) (shC bb) μr) 10 [some (.ref 13), none, some (.int v2), some (.ref 94), some (.int v4), some (.int v5), none, none] [] (shC bb) μ 0 0 := by
  intro g
  induction g with
  | zero =>
    intro v2 v4 v5 μ h
    cases h
  | succ g ih =>
    intro v2 v4 v5 μ h
    rw [f_X1_run_L10] at h
    refine ev_iload dX1_run_10 rfl ?_
    refine ev_iload_n dX1_run_12 rfl ?_
    refine ev_icmp_ge (tgt := 193) dX1_run_13 (by decide) (fun hc1 => ?_) (fun hc1 => ?_)
    · replace h := ite_t hc1 h
      exact ev_lt (hk10_193 _ _ h) ⟨rfl, ⟨rfl, trivial⟩⟩
    · replace h := ite_f hc1 h
      refine ev_iload dX1_run_16 rfl ?_
      refine ev_sipush (v := (400 : Int32)) dX1_run_18 (by decide) ?_
      refine ev_icmp_ge (tgt := 193) dX1_run_21 (by decide) (fun hc2 => ?_) (fun hc2 => ?_)
      · replace h := ite_t hc2 h
        exact ev_lt (hk10_193 _ _ h) ⟨rfl, ⟨rfl, trivial⟩⟩
      · replace h := ite_f hc2 h
        refine ev_aload_n dX1_run_24 rfl ?_
        refine ev_getR fr_X1_9 shC_13 rfl dX1_run_25 ?_
        refine ev_iload dX1_run_28 rfl ?_
        obtain ⟨hi3, h⟩ := chk_t h
        refine ev_iald shC_14 hi3 dX1_run_30 ?_
        refine ev_istore (loc' := [_, _, _, _, _, _, _, _]) dX1_run_31 rfl (by decide) (by rfl) ?_
        refine ev_iload dX1_run_33 rfl ?_
        refine ev_cSi mv_X1_53 dX1_run_35 c_X10_isNumber rfl rfl (Nat.le_of_ble_eq_true rfl) (by rfl) (Nat.le_of_ble_eq_true rfl) (Nat.le_of_ble_eq_true rfl) (Nat.le_of_ble_eq_true rfl) ?_
        refine ev_if_ne (tgt := 49) dX1_run_38 (by decide) (fun hc4 => ?_) (fun hc4 => ?_)
        · replace h := ite_f hc4 h
          exact ev_lt (f_X1_run_j49_ok ih hk10_193 h) ⟨rfl, ⟨rfl, ⟨rfl, ⟨rfl, ⟨rfl, ⟨rfl, trivial⟩⟩⟩⟩⟩⟩
        · replace h := ite_t hc4 h
          refine ev_iload dX1_run_41 rfl ?_
          refine ev_cSi mv_X1_59 dX1_run_43 c_X10_isName rfl rfl (Nat.le_of_ble_eq_true rfl) (by rfl) (Nat.le_of_ble_eq_true rfl) (Nat.le_of_ble_eq_true rfl) (Nat.le_of_ble_eq_true rfl) ?_
          refine ev_if_eq (tgt := 98) dX1_run_46 (by decide) (fun hc11 => ?_) (fun hc11 => ?_)
          · replace h := ite_t hc11 h
            refine ev_iload dX1_run_98 rfl ?_
            refine ev_sipush (v := (10006 : Int32)) dX1_run_100 (by decide) ?_
            refine ev_icmp_ne (tgt := 141) dX1_run_103 (by decide) (fun hc12 => ?_) (fun hc12 => ?_)
            · replace h := ite_f hc12 h
              refine ev_iload dX1_run_141 rfl ?_
              refine ev_iconst (v := (1 : Int32)) dX1_run_143 (by decide) ?_
              refine ev_icmp_le (tgt := 187) dX1_run_144 (by decide) (fun hc13 => ?_) (fun hc13 => ?_)
              · replace h := ite_t hc13 h
                exact ev_lt (f_X1_run_j187_ok ih hk10_193 h) ⟨rfl, ⟨rfl, ⟨rfl, ⟨rfl, ⟨rfl, trivial⟩⟩⟩⟩⟩
              · replace h := ite_f hc13 h
                refine ev_iload dX1_run_147 rfl ?_
                refine ev_bipush (v := (40 : Int32)) dX1_run_149 (by decide) ?_
                refine ev_icmp_gt (tgt := 187) dX1_run_151 (by decide) (fun hc14 => ?_) (fun hc14 => ?_)
                · replace h := ite_t hc14 h
                  exact ev_lt (f_X1_run_j187_ok ih hk10_193 h) ⟨rfl, ⟨rfl, ⟨rfl, ⟨rfl, ⟨rfl, trivial⟩⟩⟩⟩⟩
                · replace h := ite_f hc14 h
                  refine ev_iinc (cq := (-1 : Int32)) (loc' := [_, _, _, _, _, _, _, _]) dX1_run_154 rfl (by decide) rfl (by decide) (by rfl) ?_
                  refine ev_aload_n dX1_run_157 rfl ?_
                  refine ev_getR fr_X1_27 shC_13 rfl dX1_run_158 ?_
                  refine ev_iload dX1_run_161 rfl ?_
                  refine ev_iconst (v := (1 : Int32)) dX1_run_163 (by decide) ?_
                  refine ev_isub dX1_run_164 ?_
                  refine ev_iload dX1_run_165 rfl ?_
                  refine ev_aload_n dX1_run_167 rfl ?_
                  refine ev_getR fr_X1_27 shC_13 rfl dX1_run_168 ?_
                  refine ev_iload dX1_run_171 rfl ?_
                  refine ev_iconst (v := (1 : Int32)) dX1_run_173 (by decide) ?_
                  refine ev_isub dX1_run_174 ?_
                  obtain ⟨hi15, h⟩ := chk_t h
                  refine ev_iald shC_19 hi15 dX1_run_175 ?_
                  refine ev_aload_n dX1_run_176 rfl ?_
                  refine ev_getR fr_X1_27 shC_13 rfl dX1_run_177 ?_
                  refine ev_iload dX1_run_180 rfl ?_
                  obtain ⟨hi16, h⟩ := chk_t h
                  refine ev_iald shC_19 hi16 dX1_run_182 ?_
                  obtain ⟨w18, hq17, h⟩ := bndO_t h
                  refine ev_cSi mv_X1_62 dX1_run_183 (c_X1_joined hq17) rfl rfl (Nat.le_of_ble_eq_true rfl) (by rfl) (Nat.le_of_ble_eq_true rfl) (Nat.le_of_ble_eq_true rfl) (Nat.le_of_ble_eq_true rfl) ?_
                  obtain ⟨hi20, h⟩ := chk_t h
                  refine ev_iast shC_19 hi20 dX1_run_186 ?_
                  exact ev_lt (f_X1_run_j187_ok ih hk10_193 h) ⟨rfl, ⟨rfl, ⟨rfl, ⟨rfl, ⟨rfl, trivial⟩⟩⟩⟩⟩
            · replace h := ite_t hc12 h
              refine ev_iload dX1_run_106 rfl ?_
              refine ev_if_le (tgt := 187) dX1_run_108 (by decide) (fun hc21 => ?_) (fun hc21 => ?_)
              · replace h := ite_t hc21 h
                exact ev_lt (f_X1_run_j187_ok ih hk10_193 h) ⟨rfl, ⟨rfl, ⟨rfl, ⟨rfl, ⟨rfl, trivial⟩⟩⟩⟩⟩
              · replace h := ite_f hc21 h
                refine ev_iload dX1_run_111 rfl ?_
                refine ev_bipush (v := (40 : Int32)) dX1_run_113 (by decide) ?_
                refine ev_icmp_gt (tgt := 187) dX1_run_115 (by decide) (fun hc22 => ?_) (fun hc22 => ?_)
                · replace h := ite_t hc22 h
                  exact ev_lt (f_X1_run_j187_ok ih hk10_193 h) ⟨rfl, ⟨rfl, ⟨rfl, ⟨rfl, ⟨rfl, trivial⟩⟩⟩⟩⟩
                · replace h := ite_f hc22 h
                  refine ev_aload_n dX1_run_118 rfl ?_
                  refine ev_getR fr_X1_27 shC_13 rfl dX1_run_119 ?_
                  refine ev_iload dX1_run_122 rfl ?_
                  refine ev_iconst (v := (1 : Int32)) dX1_run_124 (by decide) ?_
                  refine ev_isub dX1_run_125 ?_
                  refine ev_iconst (v := (1 : Int32)) dX1_run_126 (by decide) ?_
                  refine ev_aload_n dX1_run_127 rfl ?_
                  refine ev_getR fr_X1_27 shC_13 rfl dX1_run_128 ?_
                  refine ev_iload dX1_run_131 rfl ?_
                  refine ev_iconst (v := (1 : Int32)) dX1_run_133 (by decide) ?_
                  refine ev_isub dX1_run_134 ?_
                  obtain ⟨hi23, h⟩ := chk_t h
                  refine ev_iald shC_19 hi23 dX1_run_135 ?_
                  refine ev_isub dX1_run_136 ?_
                  obtain ⟨hi25, h⟩ := chk_t h
                  refine ev_iast shC_19 hi25 dX1_run_137 ?_
                  refine ev_goto (tgt := 187) dX1_run_138 (by decide) ?_
                  exact ev_lt (f_X1_run_j187_ok ih hk10_193 h) ⟨rfl, ⟨rfl, ⟨rfl, ⟨rfl, ⟨rfl, trivial⟩⟩⟩⟩⟩
          · replace h := ite_f hc11 h
            exact ev_lt (f_X1_run_j49_ok ih hk10_193 h) ⟨rfl, ⟨rfl, ⟨rfl, ⟨rfl, ⟨rfl, ⟨rfl, trivial⟩⟩⟩⟩⟩⟩
def f_X1_run_j193 (G : Nat)  (v4 : Int32) (μ : Mem) : Option (Int32 × Mem) :=
  (if v4 ≤ (0 : Int32) then
  some ((0 : Int32), μ)
  else
  some ((μ 19 0), μ))
set_option maxHeartbeats 4000000 in
set_option maxRecDepth 100000 in
theorem f_X1_run_j193_ok {bb : Bool} {G : Nat} {r : Int32} {μr : Mem}    {v4 : Int32} {μ : Mem} (h : f_X1_run_j193 G v4 μ = some (r, μr)) : Ev RX1 cX1_run 8 (some .int) false 2 0 0 (eqP (some r) (shC bb) μr) 193 [some (.ref 13), none, none, none, some (.int v4), none, none, none] [] (shC bb) μ 0 0 := by
  unfold f_X1_run_j193 at h
  refine ev_iload dX1_run_193 rfl ?_
  refine ev_if_le (tgt := 207) dX1_run_195 (by decide) (fun hc26 => ?_) (fun hc26 => ?_)
  · replace h := ite_t hc26 h
    refine ev_iconst (v := (0 : Int32)) dX1_run_207 (by decide) ?_
    exact ev_iret rfl rfl (by decide) (by decide) dX1_run_208 (eqP_E h)
  · replace h := ite_f hc26 h
    refine ev_aload_n dX1_run_198 rfl ?_
    refine ev_getR fr_X1_27 shC_13 rfl dX1_run_199 ?_
    refine ev_iconst (v := (0 : Int32)) dX1_run_202 (by decide) ?_
    refine ev_ialdL (j := 0) shC_19 (by decide) (vpl _ _ (by decide)) dX1_run_203 ?_
    refine ev_goto (tgt := 208) dX1_run_204 (by decide) ?_
    exact ev_iret rfl rfl (by decide) (by decide) dX1_run_208 (eqP_E h)
def f_X1_run (G : Nat) (p1 p2 : Int32) (μ : Mem) : Option (Int32 × Mem) :=
  f_X1_run_L10 G (f_X1_run_j193 G) G p2 (0 : Int32) (imax (0 : Int32) p1) μ
set_option maxHeartbeats 4000000 in
set_option maxRecDepth 100000 in
theorem c_X1_run {bb : Bool} {G : Nat} {μ : Mem} {p1 p2 : Int32} {r : Int32} {μr : Mem}  (h : f_X1_run G p1 p2 μ = some (r, μr)) : Cn yX1_run cX1_run 8 (some .int) 2 0 0 [.ref 13, .int p1, .int p2, .ref 94] (shC bb) μ (eqP (some r) (shC bb) μr) := by
  refine cn_of (own := RX1) (ini := false) (loc := [some (.ref 13), some (.int p1), some (.int p2), some (.ref 94), none, none, none, none]) rfl (by decide) (fun q => by cases q) (Nat.le_of_ble_eq_true rfl) (by rfl) rfl ?_
  unfold f_X1_run at h
  refine ev_iconst (v := (0 : Int32)) dX1_run_0 (by decide) ?_
  refine ev_istore (loc' := [_, _, _, _, _, _, _, _]) dX1_run_1 rfl (by decide) (by rfl) ?_
  refine ev_iconst (v := (0 : Int32)) dX1_run_3 (by decide) ?_
  refine ev_iload_n dX1_run_4 rfl ?_
  refine ev_max mm_X1_47 dX1_run_5 (Nat.le_of_ble_eq_true rfl) (by rfl) (Nat.le_of_ble_eq_true rfl) (Nat.le_of_ble_eq_true rfl) (Nat.le_of_ble_eq_true rfl) ?_
  refine ev_istore (loc' := [_, _, _, _, _, _, _, _]) dX1_run_8 rfl (by decide) (by rfl) ?_
  exact ev_lt (f_X1_run_L10_ok (fun _ _ hh => f_X1_run_j193_ok hh) _ _ _ _ _ h) ⟨rfl, ⟨rfl, ⟨rfl, ⟨rfl, ⟨rfl, trivial⟩⟩⟩⟩⟩
def f_X1_reckon_j89 (G : Nat) (r3 : Int32 → Int32 → Int32 → Mem → Option (Int32 × Mem)) (v1 v3 v4 : Int32) (μ : Mem) : Option (Int32 × Mem) :=
  r3 v1 v3 (v4 + (1 : Int32)) μ
set_option maxHeartbeats 4000000 in
set_option maxRecDepth 100000 in
theorem f_X1_reckon_j89_ok {bb : Bool} {G : Nat} {r : Int32} {μr : Mem}  {r3 : Int32 → Int32 → Int32 → Mem → Option (Int32 × Mem)} (hr3 : ∀ (v1 : Int32) (v3 : Int32) (v4 : Int32) (m : Mem), r3 v1 v3 v4 m = some (r, μr) → Ev RX1 cX1_reckon 5 (some .int) false 3 0 0 (eqP (some r) (shC bb) μr) 3 [some (.ref 13), some (.int v1), some (.ref 94), some (.int v3), some (.int v4)] [] (shC bb) m 0 0) {v1 v3 v4 : Int32} {μ : Mem} (h : f_X1_reckon_j89 G r3 v1 v3 v4 μ = some (r, μr)) : Ev RX1 cX1_reckon 5 (some .int) false 3 0 0 (eqP (some r) (shC bb) μr) 89 [some (.ref 13), some (.int v1), some (.ref 94), some (.int v3), some (.int v4)] [] (shC bb) μ 0 0 := by
  unfold f_X1_reckon_j89 at h
  refine ev_iinc (cq := (1 : Int32)) (loc' := [_, _, _, _, _]) dX1_reckon_89 rfl (by decide) rfl (by decide) (by rfl) ?_
  refine ev_goto (tgt := 3) dX1_reckon_92 (by decide) ?_
  exact ev_lt (hr3 _ _ _ _ h) ⟨rfl, ⟨rfl, ⟨rfl, ⟨rfl, ⟨rfl, trivial⟩⟩⟩⟩⟩
def f_X1_reckon_L3 (G : Nat)  : Nat → Int32 → Int32 → Int32 → Mem → Option (Int32 × Mem)
  | 0, _, _, _, _ => none
  | g + 1, v1, v3, v4, μ =>
  (if (μ 13 6) ≤ v4 then
  some (v3, μ)
  else
  (if (16 : Int32) ≤ v4 then
  some (v3, μ)
  else
  chk v4 16 ((if (μ 15 (ix v4)) = v1 then
  chk v4 16 (chk v4 16 ((if (μ 17 (ix v4)) = (μ 18 (ix v4)) then
  chk v4 16 (chk v4 16 (bndE (f_X1_run G (μ 16 (ix v4)) (μ 17 (ix v4)) μ) (fun w12 m11 =>
  some (w12, m11))))
  else
  chk v4 16 (chk v4 16 (bndE (f_X1_run G (μ 17 (ix v4)) (μ 18 (ix v4)) μ) (fun w17 m16 =>
  (if w17 = (0 : Int32) then
  f_X1_reckon_j89 G (f_X1_reckon_L3 G g) v1 v3 v4 m16
  else
  chk v4 16 (chk v4 16 (bndE (f_X1_run G (m16 16 (ix v4)) (m16 17 (ix v4)) m16) (fun w23 m22 =>
  some (w23, m22)))))))))))
  else
  f_X1_reckon_j89 G (f_X1_reckon_L3 G g) v1 v3 v4 μ))))
set_option maxHeartbeats 4000000 in
set_option maxRecDepth 100000 in
theorem f_X1_reckon_L3_ok {bb : Bool} {G : Nat} {r : Int32} {μr : Mem}    : ∀ (g : Nat) (v1 v3 v4 : Int32) (μ : Mem), f_X1_reckon_L3 G g v1 v3 v4 μ = some (r, μr) → Ev RX1 cX1_reckon 5 (some .int) false 3 0 0 (eqP (some r) (shC bb) μr) 3 [some (.ref 13), some (.int v1), some (.ref 94), some (.int v3), some (.int v4)] [] (shC bb) μ 0 0 := by
  intro g
  induction g with
  | zero =>
    intro v1 v3 v4 μ h
    cases h
  | succ g ih =>
    intro v1 v3 v4 μ h
    rw [f_X1_reckon_L3] at h
    refine ev_iload dX1_reckon_3 rfl ?_
    refine ev_aload_n dX1_reckon_5 rfl ?_
    refine ev_getI fr_X1_30 shC_13 rfl dX1_reckon_6 ?_
    refine ev_icmp_ge (tgt := 95) dX1_reckon_9 (by decide) (fun hc1 => ?_) (fun hc1 => ?_)
    · replace h := ite_t hc1 h
      refine ev_iload_n dX1_reckon_95 rfl ?_
      exact ev_iret rfl rfl (by decide) (by decide) dX1_reckon_96 (eqP_E h)
    · replace h := ite_f hc1 h
      refine ev_iload dX1_reckon_12 rfl ?_
      refine ev_bipush (v := (16 : Int32)) dX1_reckon_14 (by decide) ?_
      refine ev_icmp_ge (tgt := 95) dX1_reckon_16 (by decide) (fun hc2 => ?_) (fun hc2 => ?_)
      · replace h := ite_t hc2 h
        refine ev_iload_n dX1_reckon_95 rfl ?_
        exact ev_iret rfl rfl (by decide) (by decide) dX1_reckon_96 (eqP_E h)
      · replace h := ite_f hc2 h
        refine ev_aload_n dX1_reckon_19 rfl ?_
        refine ev_getR fr_X1_15 shC_13 rfl dX1_reckon_20 ?_
        refine ev_iload dX1_reckon_23 rfl ?_
        obtain ⟨hi3, h⟩ := chk_t h
        refine ev_iald shC_15 hi3 dX1_reckon_25 ?_
        refine ev_iload_n dX1_reckon_26 rfl ?_
        refine ev_icmp_ne (tgt := 89) dX1_reckon_27 (by decide) (fun hc4 => ?_) (fun hc4 => ?_)
        · replace h := ite_f hc4 h
          exact ev_lt (f_X1_reckon_j89_ok ih h) ⟨rfl, ⟨rfl, ⟨rfl, ⟨rfl, ⟨rfl, trivial⟩⟩⟩⟩⟩
        · replace h := ite_t hc4 h
          refine ev_aload_n dX1_reckon_30 rfl ?_
          refine ev_getR fr_X1_21 shC_13 rfl dX1_reckon_31 ?_
          refine ev_iload dX1_reckon_34 rfl ?_
          obtain ⟨hi5, h⟩ := chk_t h
          refine ev_iald shC_17 hi5 dX1_reckon_36 ?_
          refine ev_aload_n dX1_reckon_37 rfl ?_
          refine ev_getR fr_X1_24 shC_13 rfl dX1_reckon_38 ?_
          refine ev_iload dX1_reckon_41 rfl ?_
          obtain ⟨hi6, h⟩ := chk_t h
          refine ev_iald shC_18 hi6 dX1_reckon_43 ?_
          refine ev_icmp_eq (tgt := 69) dX1_reckon_44 (by decide) (fun hc7 => ?_) (fun hc7 => ?_)
          · replace h := ite_t hc7 h
            refine ev_aload_n dX1_reckon_69 rfl ?_
            refine ev_aload_n dX1_reckon_70 rfl ?_
            refine ev_getR fr_X1_18 shC_13 rfl dX1_reckon_71 ?_
            refine ev_iload dX1_reckon_74 rfl ?_
            obtain ⟨hi8, h⟩ := chk_t h
            refine ev_iald shC_16 hi8 dX1_reckon_76 ?_
            refine ev_aload_n dX1_reckon_77 rfl ?_
            refine ev_getR fr_X1_21 shC_13 rfl dX1_reckon_78 ?_
            refine ev_iload dX1_reckon_81 rfl ?_
            obtain ⟨hi9, h⟩ := chk_t h
            refine ev_iald shC_17 hi9 dX1_reckon_83 ?_
            refine ev_aload_n dX1_reckon_84 rfl ?_
            obtain ⟨w12, m11, hq10, h⟩ := bndE_t h
            refine ev_cVi mv_X1_43 dX1_reckon_85 (c_X1_run hq10) rfl shC_13 rfl rfl (Nat.le_of_ble_eq_true rfl) (by rfl) (Nat.le_of_ble_eq_true rfl) (Nat.le_of_ble_eq_true rfl) (Nat.le_of_ble_eq_true rfl) ?_
            exact ev_iret rfl rfl (by decide) (by decide) dX1_reckon_88 (eqP_E h)
          · replace h := ite_f hc7 h
            refine ev_aload_n dX1_reckon_47 rfl ?_
            refine ev_aload_n dX1_reckon_48 rfl ?_
            refine ev_getR fr_X1_21 shC_13 rfl dX1_reckon_49 ?_
            refine ev_iload dX1_reckon_52 rfl ?_
            obtain ⟨hi13, h⟩ := chk_t h
            refine ev_iald shC_17 hi13 dX1_reckon_54 ?_
            refine ev_aload_n dX1_reckon_55 rfl ?_
            refine ev_getR fr_X1_24 shC_13 rfl dX1_reckon_56 ?_
            refine ev_iload dX1_reckon_59 rfl ?_
            obtain ⟨hi14, h⟩ := chk_t h
            refine ev_iald shC_18 hi14 dX1_reckon_61 ?_
            refine ev_aload_n dX1_reckon_62 rfl ?_
            obtain ⟨w17, m16, hq15, h⟩ := bndE_t h
            refine ev_cVi mv_X1_43 dX1_reckon_63 (c_X1_run hq15) rfl shC_13 rfl rfl (Nat.le_of_ble_eq_true rfl) (by rfl) (Nat.le_of_ble_eq_true rfl) (Nat.le_of_ble_eq_true rfl) (Nat.le_of_ble_eq_true rfl) ?_
            refine ev_if_eq (tgt := 89) dX1_reckon_66 (by decide) (fun hc18 => ?_) (fun hc18 => ?_)
            · replace h := ite_t hc18 h
              exact ev_lt (f_X1_reckon_j89_ok ih h) ⟨rfl, ⟨rfl, ⟨rfl, ⟨rfl, ⟨rfl, trivial⟩⟩⟩⟩⟩
            · replace h := ite_f hc18 h
              refine ev_aload_n dX1_reckon_69 rfl ?_
              refine ev_aload_n dX1_reckon_70 rfl ?_
              refine ev_getR fr_X1_18 shC_13 rfl dX1_reckon_71 ?_
              refine ev_iload dX1_reckon_74 rfl ?_
              obtain ⟨hi19, h⟩ := chk_t h
              refine ev_iald shC_16 hi19 dX1_reckon_76 ?_
              refine ev_aload_n dX1_reckon_77 rfl ?_
              refine ev_getR fr_X1_21 shC_13 rfl dX1_reckon_78 ?_
              refine ev_iload dX1_reckon_81 rfl ?_
              obtain ⟨hi20, h⟩ := chk_t h
              refine ev_iald shC_17 hi20 dX1_reckon_83 ?_
              refine ev_aload_n dX1_reckon_84 rfl ?_
              obtain ⟨w23, m22, hq21, h⟩ := bndE_t h
              refine ev_cVi mv_X1_43 dX1_reckon_85 (c_X1_run hq21) rfl shC_13 rfl rfl (Nat.le_of_ble_eq_true rfl) (by rfl) (Nat.le_of_ble_eq_true rfl) (Nat.le_of_ble_eq_true rfl) (Nat.le_of_ble_eq_true rfl) ?_
              exact ev_iret rfl rfl (by decide) (by decide) dX1_reckon_88 (eqP_E h)
def f_X1_reckon (G : Nat) (p1 p2 : Int32) (μ : Mem) : Option (Int32 × Mem) :=
  f_X1_reckon_L3 G G p1 p2 (0 : Int32) μ
set_option maxHeartbeats 4000000 in
set_option maxRecDepth 100000 in
theorem c_X1_reckon {bb : Bool} {G : Nat} {μ : Mem} {p1 p2 : Int32} {r : Int32} {μr : Mem}  (h : f_X1_reckon G p1 p2 μ = some (r, μr)) : Cn yX1_reckon cX1_reckon 5 (some .int) 3 0 0 [.ref 13, .int p1, .ref 94, .int p2] (shC bb) μ (eqP (some r) (shC bb) μr) := by
  refine cn_of (own := RX1) (ini := false) (loc := [some (.ref 13), some (.int p1), some (.ref 94), some (.int p2), none]) rfl (by decide) (fun q => by cases q) (Nat.le_of_ble_eq_true rfl) (by rfl) rfl ?_
  unfold f_X1_reckon at h
  refine ev_iconst (v := (0 : Int32)) dX1_reckon_0 (by decide) ?_
  refine ev_istore (loc' := [_, _, _, _, _]) dX1_reckon_1 rfl (by decide) (by rfl) ?_
  exact ev_lt (f_X1_reckon_L3_ok _ _ _ _ _ h) ⟨rfl, ⟨rfl, ⟨rfl, ⟨rfl, ⟨rfl, trivial⟩⟩⟩⟩⟩
def f_X2_add (G : Nat) (a : Nat) (n_a : Nat) (p1 p2 p3 p4 : Int32) (μ : Mem) : Option (Int32 × Mem) :=
  bndE (f_X2_begin G a n_a μ) (fun w3 m2 =>
  (if w3 = (0 : Int32) then
  some ((-1 : Int32), m2)
  else
  bndV (f_X2_put G a n_a (0 : Int32) p1 m2) (fun m6 =>
  bndV (f_X2_put G a n_a (1 : Int32) p2 m6) (fun m8 =>
  bndV (f_X2_put G a n_a (2 : Int32) p3 m8) (fun m10 =>
  bndV (f_X2_put G a n_a (3 : Int32) p4 m10) (fun m12 =>
  some ((m12 a 3), m12)))))))
set_option maxHeartbeats 4000000 in
set_option maxRecDepth 100000 in
theorem c_X2_add {sh : List Shp} {G : Nat} {a : Nat} {n_a : Nat} {μ : Mem} {p1 p2 p3 p4 : Int32} {r : Int32} {μr : Mem} (ha : At_X2 sh a n_a) (h : f_X2_add G a n_a p1 p2 p3 p4 μ = some (r, μr)) : Cn yX2_add cX2_add 5 (some .int) 3 0 0 [.ref a, .int p1, .int p2, .int p3, .int p4] sh μ (eqP (some r) sh μr) := by
  refine cn_of (own := RX2) (ini := false) (loc := [some (.ref a), some (.int p1), some (.int p2), some (.int p3), some (.int p4)]) rfl (by decide) (fun q => by cases q) (Nat.le_of_ble_eq_true rfl) (by rfl) rfl ?_
  unfold f_X2_add at h
  refine ev_aload_n dX2_add_0 rfl ?_
  obtain ⟨w3, m2, hq1, h⟩ := bndE_t h
  refine ev_cVi mv_X2_35 dX2_add_1 (c_X2_begin ha hq1) rfl (ha.1) rfl rfl (Nat.le_of_ble_eq_true rfl) (by rfl) (Nat.le_of_ble_eq_true rfl) (Nat.le_of_ble_eq_true rfl) (Nat.le_of_ble_eq_true rfl) ?_
  refine ev_if_ne (tgt := 9) dX2_add_4 (by decide) (fun hc4 => ?_) (fun hc4 => ?_)
  · replace h := ite_f hc4 h
    refine ev_aload_n dX2_add_9 rfl ?_
    refine ev_iconst (v := (0 : Int32)) dX2_add_10 (by decide) ?_
    refine ev_iload_n dX2_add_11 rfl ?_
    obtain ⟨m6, hq5, h⟩ := bndV_t h
    refine ev_cVv mv_X2_39 dX2_add_12 (c_X2_put ha hq5) rfl (ha.1) rfl rfl (Nat.le_of_ble_eq_true rfl) (by rfl) (Nat.le_of_ble_eq_true rfl) (Nat.le_of_ble_eq_true rfl) (Nat.le_of_ble_eq_true rfl) ?_
    refine ev_aload_n dX2_add_15 rfl ?_
    refine ev_iconst (v := (1 : Int32)) dX2_add_16 (by decide) ?_
    refine ev_iload_n dX2_add_17 rfl ?_
    obtain ⟨m8, hq7, h⟩ := bndV_t h
    refine ev_cVv mv_X2_39 dX2_add_18 (c_X2_put ha hq7) rfl (ha.1) rfl rfl (Nat.le_of_ble_eq_true rfl) (by rfl) (Nat.le_of_ble_eq_true rfl) (Nat.le_of_ble_eq_true rfl) (Nat.le_of_ble_eq_true rfl) ?_
    refine ev_aload_n dX2_add_21 rfl ?_
    refine ev_iconst (v := (2 : Int32)) dX2_add_22 (by decide) ?_
    refine ev_iload_n dX2_add_23 rfl ?_
    obtain ⟨m10, hq9, h⟩ := bndV_t h
    refine ev_cVv mv_X2_39 dX2_add_24 (c_X2_put ha hq9) rfl (ha.1) rfl rfl (Nat.le_of_ble_eq_true rfl) (by rfl) (Nat.le_of_ble_eq_true rfl) (Nat.le_of_ble_eq_true rfl) (Nat.le_of_ble_eq_true rfl) ?_
    refine ev_aload_n dX2_add_27 rfl ?_
    refine ev_iconst (v := (3 : Int32)) dX2_add_28 (by decide) ?_
    refine ev_iload dX2_add_29 rfl ?_
    obtain ⟨m12, hq11, h⟩ := bndV_t h
    refine ev_cVv mv_X2_39 dX2_add_31 (c_X2_put ha hq11) rfl (ha.1) rfl rfl (Nat.le_of_ble_eq_true rfl) (by rfl) (Nat.le_of_ble_eq_true rfl) (Nat.le_of_ble_eq_true rfl) (Nat.le_of_ble_eq_true rfl) ?_
    refine ev_aload_n dX2_add_34 rfl ?_
    refine ev_getI fr_X2_28 (ha.1) rfl dX2_add_35 ?_
    exact ev_iret rfl rfl (by decide) (by decide) dX2_add_38 (eqP_E h)
  · replace h := ite_t hc4 h
    refine ev_iconst (v := (-1 : Int32)) dX2_add_7 (by decide) ?_
    exact ev_iret rfl rfl (by decide) (by decide) dX2_add_8 (eqP_E h)
def f_X3_forget (G : Nat) (μ : Mem) : Option Mem :=
  (let m1 := wr μ 54 3 (0 : Int32)
  some m1)
set_option maxHeartbeats 4000000 in
set_option maxRecDepth 100000 in
theorem c_X3_forget {bb : Bool} {G : Nat} {μ : Mem} {μr : Mem}  (h : f_X3_forget G μ = some μr) : Cn yX3_forget cX3_forget 1 none 1 0 0 [.ref 54] (shC bb) μ (eqP none (shC bb) μr) := by
  refine cn_of (own := RX3) (ini := false) (loc := [some (.ref 54)]) rfl (by decide) (fun q => by cases q) (Nat.le_of_ble_eq_true rfl) (by rfl) rfl ?_
  unfold f_X3_forget at h
  refine ev_aload_n dX3_forget_0 rfl ?_
  refine ev_iconst (v := (0 : Int32)) dX3_forget_1 (by decide) ?_
  refine ev_putI fr_X3_22 shC_54 rfl rfl rfl dX3_forget_2 ?_
  exact ev_vret rfl (by decide) (by decide) dX3_forget_5 (eqP_V h)
def f_X4_oneMore  (p1 p2 : Int32) : Int32 :=
  (p1 ||| (sl (((sr p1 ((3 : Int32) * p2)) &&& (7 : Int32)) + (1 : Int32)) ((3 : Int32) * p2)))
set_option maxHeartbeats 4000000 in
set_option maxRecDepth 100000 in
theorem c_X4_oneMore {bb : Bool}  {μ : Mem} {p1 p2 : Int32}  : Cn yX4_oneMore cX4_oneMore 3 (some .int) 1 0 0 [.int p1, .int p2] (shC bb) μ (eqP (some (f_X4_oneMore p1 p2)) (shC bb) μ) := by
  obtain ⟨r, h⟩ : ∃ r, f_X4_oneMore p1 p2 = r := ⟨_, rfl⟩
  rw [h]
  refine cn_of (own := RX4) (ini := false) (loc := [some (.int p1), some (.int p2), none]) rfl (by decide) (fun q => by cases q) (Nat.le_of_ble_eq_true rfl) (by rfl) rfl ?_
  unfold f_X4_oneMore at h
  refine ev_iload_n dX4_oneMore_0 rfl ?_
  refine ev_iconst (v := (3 : Int32)) dX4_oneMore_1 (by decide) ?_
  refine ev_iload_n dX4_oneMore_2 rfl ?_
  refine ev_imul dX4_oneMore_3 ?_
  refine ev_ishr dX4_oneMore_4 ?_
  refine ev_bipush (v := (7 : Int32)) dX4_oneMore_5 (by decide) ?_
  refine ev_iand dX4_oneMore_7 ?_
  refine ev_istore_n (loc' := [_, _, _]) dX4_oneMore_8 rfl (by decide) (by rfl) ?_
  refine ev_iload_n dX4_oneMore_9 rfl ?_
  refine ev_iload_n dX4_oneMore_10 rfl ?_
  refine ev_iconst (v := (1 : Int32)) dX4_oneMore_11 (by decide) ?_
  refine ev_iadd dX4_oneMore_12 ?_
  refine ev_iconst (v := (3 : Int32)) dX4_oneMore_13 (by decide) ?_
  refine ev_iload_n dX4_oneMore_14 rfl ?_
  refine ev_imul dX4_oneMore_15 ?_
  refine ev_ishl dX4_oneMore_16 ?_
  refine ev_ior dX4_oneMore_17 ?_
  exact ev_iret rfl rfl (by decide) (by decide) dX4_oneMore_18 (eqP_P h)
def f_X4_numberOf  (p1 : Int32) : Int32 :=
  (if p1 < (0 : Int32) then
  (-1 : Int32)
  else
  (if (555 : Int32) < p1 then
  (-1 : Int32)
  else
  (if (5 : Int32) < (irm (p1 / (10 : Int32)) (10 : Int32)) then
  (-1 : Int32)
  else
  (if (irm p1 (10 : Int32)) ≤ (5 : Int32) then
  ((((p1 / (100 : Int32)) * (36 : Int32)) + ((irm (p1 / (10 : Int32)) (10 : Int32)) * (6 : Int32))) + (irm p1 (10 : Int32)))
  else
  (-1 : Int32)))))
set_option maxHeartbeats 4000000 in
set_option maxRecDepth 100000 in
theorem c_X4_numberOf {bb : Bool}  {μ : Mem} {p1 : Int32}  : Cn yX4_numberOf cX4_numberOf 1 (some .int) 1 0 0 [.int p1] (shC bb) μ (eqP (some (f_X4_numberOf p1)) (shC bb) μ) := by
  obtain ⟨r, h⟩ : ∃ r, f_X4_numberOf p1 = r := ⟨_, rfl⟩
  rw [h]
  refine cn_of (own := RX4) (ini := false) (loc := [some (.int p1)]) rfl (by decide) (fun q => by cases q) (Nat.le_of_ble_eq_true rfl) (by rfl) rfl ?_
  unfold f_X4_numberOf at h
  refine ev_iload_n dX4_numberOf_0 rfl ?_
  refine ev_if_lt (tgt := 30) dX4_numberOf_1 (by decide) (fun hc1 => ?_) (fun hc1 => ?_)
  · replace h := ite_t hc1 h
    refine ev_iconst (v := (-1 : Int32)) dX4_numberOf_30 (by decide) ?_
    exact ev_iret rfl rfl (by decide) (by decide) dX4_numberOf_31 (eqP_P h)
  · replace h := ite_f hc1 h
    refine ev_iload_n dX4_numberOf_4 rfl ?_
    refine ev_sipush (v := (555 : Int32)) dX4_numberOf_5 (by decide) ?_
    refine ev_icmp_gt (tgt := 30) dX4_numberOf_8 (by decide) (fun hc2 => ?_) (fun hc2 => ?_)
    · replace h := ite_t hc2 h
      refine ev_iconst (v := (-1 : Int32)) dX4_numberOf_30 (by decide) ?_
      exact ev_iret rfl rfl (by decide) (by decide) dX4_numberOf_31 (eqP_P h)
    · replace h := ite_f hc2 h
      refine ev_iload_n dX4_numberOf_11 rfl ?_
      refine ev_bipush (v := (10 : Int32)) dX4_numberOf_12 (by decide) ?_
      refine ev_idiv dX4_numberOf_14 (by decide) ?_
      refine ev_bipush (v := (10 : Int32)) dX4_numberOf_15 (by decide) ?_
      refine ev_irem dX4_numberOf_17 (by decide) ?_
      refine ev_iconst (v := (5 : Int32)) dX4_numberOf_18 (by decide) ?_
      refine ev_icmp_gt (tgt := 30) dX4_numberOf_19 (by decide) (fun hc3 => ?_) (fun hc3 => ?_)
      · replace h := ite_t hc3 h
        refine ev_iconst (v := (-1 : Int32)) dX4_numberOf_30 (by decide) ?_
        exact ev_iret rfl rfl (by decide) (by decide) dX4_numberOf_31 (eqP_P h)
      · replace h := ite_f hc3 h
        refine ev_iload_n dX4_numberOf_22 rfl ?_
        refine ev_bipush (v := (10 : Int32)) dX4_numberOf_23 (by decide) ?_
        refine ev_irem dX4_numberOf_25 (by decide) ?_
        refine ev_iconst (v := (5 : Int32)) dX4_numberOf_26 (by decide) ?_
        refine ev_icmp_le (tgt := 32) dX4_numberOf_27 (by decide) (fun hc4 => ?_) (fun hc4 => ?_)
        · replace h := ite_t hc4 h
          refine ev_iload_n dX4_numberOf_32 rfl ?_
          refine ev_bipush (v := (100 : Int32)) dX4_numberOf_33 (by decide) ?_
          refine ev_idiv dX4_numberOf_35 (by decide) ?_
          refine ev_bipush (v := (36 : Int32)) dX4_numberOf_36 (by decide) ?_
          refine ev_imul dX4_numberOf_38 ?_
          refine ev_iload_n dX4_numberOf_39 rfl ?_
          refine ev_bipush (v := (10 : Int32)) dX4_numberOf_40 (by decide) ?_
          refine ev_idiv dX4_numberOf_42 (by decide) ?_
          refine ev_bipush (v := (10 : Int32)) dX4_numberOf_43 (by decide) ?_
          refine ev_irem dX4_numberOf_45 (by decide) ?_
          refine ev_bipush (v := (6 : Int32)) dX4_numberOf_46 (by decide) ?_
          refine ev_imul dX4_numberOf_48 ?_
          refine ev_iadd dX4_numberOf_49 ?_
          refine ev_iload_n dX4_numberOf_50 rfl ?_
          refine ev_bipush (v := (10 : Int32)) dX4_numberOf_51 (by decide) ?_
          refine ev_irem dX4_numberOf_53 (by decide) ?_
          refine ev_iadd dX4_numberOf_54 ?_
          exact ev_iret rfl rfl (by decide) (by decide) dX4_numberOf_55 (eqP_P h)
        · replace h := ite_f hc4 h
          refine ev_iconst (v := (-1 : Int32)) dX4_numberOf_30 (by decide) ?_
          exact ev_iret rfl rfl (by decide) (by decide) dX4_numberOf_31 (eqP_P h)
def f_X4_digitsOf  (p1 : Int32) : Int32 :=
  ((((p1 / (36 : Int32)) * (100 : Int32)) + ((irm (p1 / (6 : Int32)) (6 : Int32)) * (10 : Int32))) + (irm p1 (6 : Int32)))
set_option maxHeartbeats 4000000 in
set_option maxRecDepth 100000 in
theorem c_X4_digitsOf {bb : Bool}  {μ : Mem} {p1 : Int32}  : Cn yX4_digitsOf cX4_digitsOf 1 (some .int) 1 0 0 [.int p1] (shC bb) μ (eqP (some (f_X4_digitsOf p1)) (shC bb) μ) := by
  obtain ⟨r, h⟩ : ∃ r, f_X4_digitsOf p1 = r := ⟨_, rfl⟩
  rw [h]
  refine cn_of (own := RX4) (ini := false) (loc := [some (.int p1)]) rfl (by decide) (fun q => by cases q) (Nat.le_of_ble_eq_true rfl) (by rfl) rfl ?_
  unfold f_X4_digitsOf at h
  refine ev_iload_n dX4_digitsOf_0 rfl ?_
  refine ev_bipush (v := (36 : Int32)) dX4_digitsOf_1 (by decide) ?_
  refine ev_idiv dX4_digitsOf_3 (by decide) ?_
  refine ev_bipush (v := (100 : Int32)) dX4_digitsOf_4 (by decide) ?_
  refine ev_imul dX4_digitsOf_6 ?_
  refine ev_iload_n dX4_digitsOf_7 rfl ?_
  refine ev_bipush (v := (6 : Int32)) dX4_digitsOf_8 (by decide) ?_
  refine ev_idiv dX4_digitsOf_10 (by decide) ?_
  refine ev_bipush (v := (6 : Int32)) dX4_digitsOf_11 (by decide) ?_
  refine ev_irem dX4_digitsOf_13 (by decide) ?_
  refine ev_bipush (v := (10 : Int32)) dX4_digitsOf_14 (by decide) ?_
  refine ev_imul dX4_digitsOf_16 ?_
  refine ev_iadd dX4_digitsOf_17 ?_
  refine ev_iload_n dX4_digitsOf_18 rfl ?_
  refine ev_bipush (v := (6 : Int32)) dX4_digitsOf_19 (by decide) ?_
  refine ev_irem dX4_digitsOf_21 (by decide) ?_
  refine ev_iadd dX4_digitsOf_22 ?_
  exact ev_iret rfl rfl (by decide) (by decide) dX4_digitsOf_23 (eqP_P h)
def f_X4_forget (G : Nat) (μ : Mem) : Option Mem :=
  (let m1 := wr μ 105 4 (-2 : Int32)
  (let m2 := wr m1 105 5 (-2 : Int32)
  some m2))
set_option maxHeartbeats 4000000 in
set_option maxRecDepth 100000 in
theorem c_X4_forget {bb : Bool} {G : Nat} {μ : Mem} {μr : Mem}  (h : f_X4_forget G μ = some μr) : Cn yX4_forget cX4_forget 1 none 1 0 0 [.ref 105] (shC bb) μ (eqP none (shC bb) μr) := by
  refine cn_of (own := RX4) (ini := false) (loc := [some (.ref 105)]) rfl (by decide) (fun q => by cases q) (Nat.le_of_ble_eq_true rfl) (by rfl) rfl ?_
  unfold f_X4_forget at h
  refine ev_aload_n dX4_forget_0 rfl ?_
  refine ev_bipush (v := (-2 : Int32)) dX4_forget_1 (by decide) ?_
  refine ev_putI fr_X4_28 shC_105 rfl rfl rfl dX4_forget_3 ?_
  refine ev_aload_n dX4_forget_6 rfl ?_
  refine ev_bipush (v := (-2 : Int32)) dX4_forget_7 (by decide) ?_
  refine ev_putI fr_X4_32 shC_105 rfl rfl rfl dX4_forget_9 ?_
  exact ev_vret rfl (by decide) (by decide) dX4_forget_12 (eqP_V h)
def f_J6_bitCount_0f7a4  (p1 : Int32) : Int32 :=
  ((((((((p1 - ((su p1 (1 : Int32)) &&& (1431655765 : Int32))) &&& (858993459 : Int32)) + ((su (p1 - ((su p1 (1 : Int32)) &&& (1431655765 : Int32))) (2 : Int32)) &&& (858993459 : Int32))) + (su (((p1 - ((su p1 (1 : Int32)) &&& (1431655765 : Int32))) &&& (858993459 : Int32)) + ((su (p1 - ((su p1 (1 : Int32)) &&& (1431655765 : Int32))) (2 : Int32)) &&& (858993459 : Int32))) (4 : Int32))) &&& (252645135 : Int32)) + (su (((((p1 - ((su p1 (1 : Int32)) &&& (1431655765 : Int32))) &&& (858993459 : Int32)) + ((su (p1 - ((su p1 (1 : Int32)) &&& (1431655765 : Int32))) (2 : Int32)) &&& (858993459 : Int32))) + (su (((p1 - ((su p1 (1 : Int32)) &&& (1431655765 : Int32))) &&& (858993459 : Int32)) + ((su (p1 - ((su p1 (1 : Int32)) &&& (1431655765 : Int32))) (2 : Int32)) &&& (858993459 : Int32))) (4 : Int32))) &&& (252645135 : Int32)) (8 : Int32))) + (su ((((((p1 - ((su p1 (1 : Int32)) &&& (1431655765 : Int32))) &&& (858993459 : Int32)) + ((su (p1 - ((su p1 (1 : Int32)) &&& (1431655765 : Int32))) (2 : Int32)) &&& (858993459 : Int32))) + (su (((p1 - ((su p1 (1 : Int32)) &&& (1431655765 : Int32))) &&& (858993459 : Int32)) + ((su (p1 - ((su p1 (1 : Int32)) &&& (1431655765 : Int32))) (2 : Int32)) &&& (858993459 : Int32))) (4 : Int32))) &&& (252645135 : Int32)) + (su (((((p1 - ((su p1 (1 : Int32)) &&& (1431655765 : Int32))) &&& (858993459 : Int32)) + ((su (p1 - ((su p1 (1 : Int32)) &&& (1431655765 : Int32))) (2 : Int32)) &&& (858993459 : Int32))) + (su (((p1 - ((su p1 (1 : Int32)) &&& (1431655765 : Int32))) &&& (858993459 : Int32)) + ((su (p1 - ((su p1 (1 : Int32)) &&& (1431655765 : Int32))) (2 : Int32)) &&& (858993459 : Int32))) (4 : Int32))) &&& (252645135 : Int32)) (8 : Int32))) (16 : Int32))) &&& (63 : Int32))
set_option maxHeartbeats 4000000 in
set_option maxRecDepth 100000 in
theorem c_J6_bitCount_0f7a4 {sh : List Shp}  {μ : Mem} {p1 : Int32}  : Cn yJ6_bitCount_0f7a4 cJ6_bitCount_0f7a4 1 (some .int) 1 0 0 [.int p1] sh μ (eqP (some (f_J6_bitCount_0f7a4 p1)) sh μ) := by
  obtain ⟨r, h⟩ : ∃ r, f_J6_bitCount_0f7a4 p1 = r := ⟨_, rfl⟩
  rw [h]
  refine cn_of (own := RJ6) (ini := false) (loc := [some (.int p1)]) rfl (by decide) (fun q => by cases q) (Nat.le_of_ble_eq_true rfl) (by rfl) rfl ?_
  unfold f_J6_bitCount_0f7a4 at h
  refine ev_iload_n dJ6_bitCount_0f7a4_0 rfl ?_
  refine ev_iload_n dJ6_bitCount_0f7a4_1 rfl ?_
  refine ev_iconst (v := (1 : Int32)) dJ6_bitCount_0f7a4_2 (by decide) ?_
  refine ev_iushr dJ6_bitCount_0f7a4_3 ?_
  refine ev_ldcw dJ6_bitCount_0f7a4_4 kc_J6_265 ?_
  refine ev_iand dJ6_bitCount_0f7a4_7 ?_
  refine ev_isub dJ6_bitCount_0f7a4_8 ?_
  refine ev_istore_n (loc' := [_]) dJ6_bitCount_0f7a4_9 rfl (by decide) (by rfl) ?_
  refine ev_iload_n dJ6_bitCount_0f7a4_10 rfl ?_
  refine ev_ldcw dJ6_bitCount_0f7a4_11 kc_J6_266 ?_
  refine ev_iand dJ6_bitCount_0f7a4_14 ?_
  refine ev_iload_n dJ6_bitCount_0f7a4_15 rfl ?_
  refine ev_iconst (v := (2 : Int32)) dJ6_bitCount_0f7a4_16 (by decide) ?_
  refine ev_iushr dJ6_bitCount_0f7a4_17 ?_
  refine ev_ldcw dJ6_bitCount_0f7a4_18 kc_J6_266 ?_
  refine ev_iand dJ6_bitCount_0f7a4_21 ?_
  refine ev_iadd dJ6_bitCount_0f7a4_22 ?_
  refine ev_istore_n (loc' := [_]) dJ6_bitCount_0f7a4_23 rfl (by decide) (by rfl) ?_
  refine ev_iload_n dJ6_bitCount_0f7a4_24 rfl ?_
  refine ev_iload_n dJ6_bitCount_0f7a4_25 rfl ?_
  refine ev_iconst (v := (4 : Int32)) dJ6_bitCount_0f7a4_26 (by decide) ?_
  refine ev_iushr dJ6_bitCount_0f7a4_27 ?_
  refine ev_iadd dJ6_bitCount_0f7a4_28 ?_
  refine ev_ldcw dJ6_bitCount_0f7a4_29 kc_J6_267 ?_
  refine ev_iand dJ6_bitCount_0f7a4_32 ?_
  refine ev_istore_n (loc' := [_]) dJ6_bitCount_0f7a4_33 rfl (by decide) (by rfl) ?_
  refine ev_iload_n dJ6_bitCount_0f7a4_34 rfl ?_
  refine ev_iload_n dJ6_bitCount_0f7a4_35 rfl ?_
  refine ev_bipush (v := (8 : Int32)) dJ6_bitCount_0f7a4_36 (by decide) ?_
  refine ev_iushr dJ6_bitCount_0f7a4_38 ?_
  refine ev_iadd dJ6_bitCount_0f7a4_39 ?_
  refine ev_istore_n (loc' := [_]) dJ6_bitCount_0f7a4_40 rfl (by decide) (by rfl) ?_
  refine ev_iload_n dJ6_bitCount_0f7a4_41 rfl ?_
  refine ev_iload_n dJ6_bitCount_0f7a4_42 rfl ?_
  refine ev_bipush (v := (16 : Int32)) dJ6_bitCount_0f7a4_43 (by decide) ?_
  refine ev_iushr dJ6_bitCount_0f7a4_45 ?_
  refine ev_iadd dJ6_bitCount_0f7a4_46 ?_
  refine ev_istore_n (loc' := [_]) dJ6_bitCount_0f7a4_47 rfl (by decide) (by rfl) ?_
  refine ev_iload_n dJ6_bitCount_0f7a4_48 rfl ?_
  refine ev_bipush (v := (63 : Int32)) dJ6_bitCount_0f7a4_49 (by decide) ?_
  refine ev_iand dJ6_bitCount_0f7a4_51 ?_
  exact ev_iret rfl rfl (by decide) (by decide) dJ6_bitCount_0f7a4_52 (eqP_P h)
def f_X4_told (G : Nat) (μ : Mem) (p1 p2 : Int32) : Option Int32 :=
  chk p1 216 (chk p2 216 (chk p1 216 (chk p2 216 (some (((4 : Int32) * (f_J6_bitCount_0f7a4 ((μ 106 (ix p1)) &&& (μ 106 (ix p2))))) + (f_J6_bitCount_0f7a4 ((μ 107 (ix p1)) &&& (μ 107 (ix p2)))))))))
set_option maxHeartbeats 4000000 in
set_option maxRecDepth 100000 in
theorem c_X4_told {bb : Bool} {G : Nat} {μ : Mem}  {p1 p2 : Int32} {r : Int32}  (h : f_X4_told G μ p1 p2 = some r) : Cn yX4_told cX4_told 3 (some .int) 2 0 0 [.ref 105, .int p1, .int p2] (shC bb) μ (eqP (some r) (shC bb) μ) := by
  refine cn_of (own := RX4) (ini := false) (loc := [some (.ref 105), some (.int p1), some (.int p2)]) rfl (by decide) (fun q => by cases q) (Nat.le_of_ble_eq_true rfl) (by rfl) rfl ?_
  unfold f_X4_told at h
  refine ev_iconst (v := (4 : Int32)) dX4_told_0 (by decide) ?_
  refine ev_aload_n dX4_told_1 rfl ?_
  refine ev_getR fr_X4_11 shC_105 rfl dX4_told_2 ?_
  refine ev_iload_n dX4_told_5 rfl ?_
  obtain ⟨hi1, h⟩ := chk_t h
  refine ev_iald shC_106 hi1 dX4_told_6 ?_
  refine ev_aload_n dX4_told_7 rfl ?_
  refine ev_getR fr_X4_11 shC_105 rfl dX4_told_8 ?_
  refine ev_iload_n dX4_told_11 rfl ?_
  obtain ⟨hi2, h⟩ := chk_t h
  refine ev_iald shC_106 hi2 dX4_told_12 ?_
  refine ev_iand dX4_told_13 ?_
  refine ev_cSi mv_X4_35 dX4_told_14 c_J6_bitCount_0f7a4 rfl rfl (Nat.le_of_ble_eq_true rfl) (by rfl) (Nat.le_of_ble_eq_true rfl) (Nat.le_of_ble_eq_true rfl) (Nat.le_of_ble_eq_true rfl) ?_
  refine ev_imul dX4_told_17 ?_
  refine ev_aload_n dX4_told_18 rfl ?_
  refine ev_getR fr_X4_15 shC_105 rfl dX4_told_19 ?_
  refine ev_iload_n dX4_told_22 rfl ?_
  obtain ⟨hi3, h⟩ := chk_t h
  refine ev_iald shC_107 hi3 dX4_told_23 ?_
  refine ev_aload_n dX4_told_24 rfl ?_
  refine ev_getR fr_X4_15 shC_105 rfl dX4_told_25 ?_
  refine ev_iload_n dX4_told_28 rfl ?_
  obtain ⟨hi4, h⟩ := chk_t h
  refine ev_iald shC_107 hi4 dX4_told_29 ?_
  refine ev_iand dX4_told_30 ?_
  refine ev_cSi mv_X4_35 dX4_told_31 c_J6_bitCount_0f7a4 rfl rfl (Nat.le_of_ble_eq_true rfl) (by rfl) (Nat.le_of_ble_eq_true rfl) (Nat.le_of_ble_eq_true rfl) (Nat.le_of_ble_eq_true rfl) ?_
  refine ev_iadd dX4_told_34 ?_
  exact ev_iret rfl rfl (by decide) (by decide) dX4_told_35 (eqP_O h)
def f_X4_canBe_j60 (G : Nat) (μ : Mem) (r2 : Int32 → Int32 → Option Int32) (v1 v3 : Int32) : Option Int32 :=
  r2 v1 (v3 + (1 : Int32))
set_option maxHeartbeats 4000000 in
set_option maxRecDepth 100000 in
theorem f_X4_canBe_j60_ok {bb : Bool} {G : Nat} {μ : Mem} {r : Int32}  {r2 : Int32 → Int32 → Option Int32} (hr2 : ∀ (v1 : Int32) (v3 : Int32), r2 v1 v3 = some r → Ev RX4 cX4_canBe 6 (some .boolean) false 3 0 0 (eqP (some r) (shC bb) μ) 2 [some (.ref 105), some (.int v1), some (.ref 30), some (.int v3), none, none] [] (shC bb) μ 0 0) {v1 v3 : Int32}  (h : f_X4_canBe_j60 G μ r2 v1 v3 = some r) : Ev RX4 cX4_canBe 6 (some .boolean) false 3 0 0 (eqP (some r) (shC bb) μ) 60 [some (.ref 105), some (.int v1), some (.ref 30), some (.int v3), none, none] [] (shC bb) μ 0 0 := by
  unfold f_X4_canBe_j60 at h
  refine ev_iinc (cq := (1 : Int32)) (loc' := [_, _, _, _, _, _]) dX4_canBe_60 rfl (by decide) rfl (by decide) (by rfl) ?_
  refine ev_goto (tgt := 2) dX4_canBe_63 (by decide) ?_
  exact ev_lt (hr2 _ _ h) ⟨rfl, ⟨rfl, ⟨rfl, ⟨rfl, trivial⟩⟩⟩⟩
def f_X4_canBe_L2 (G : Nat) (μ : Mem)  : Nat → Int32 → Int32 → Option Int32
  | 0, _, _ => none
  | g + 1, v1, v3 =>
  (if (μ 30 3) ≤ v3 then
  some (1 : Int32)
  else
  bndO (f_X2_at G 30 24 μ v3 (0 : Int32)) (fun w3 =>
  bndO (f_X2_at G 30 24 μ v3 (1 : Int32)) (fun w5 =>
  (if (f_X11_isBelow w3 (216 : Int32)) = (0 : Int32) then
  f_X4_canBe_j60 G μ (f_X4_canBe_L2 G μ g) v1 v3
  else
  bndO (f_X4_told G μ w3 v1) (fun w8 =>
  bndO (f_X2_at G 30 24 μ v3 (2 : Int32)) (fun w10 =>
  (if w8 = (((5 : Int32) * w5) + w10) then
  f_X4_canBe_j60 G μ (f_X4_canBe_L2 G μ g) v1 v3
  else
  some (0 : Int32))))))))
set_option maxHeartbeats 4000000 in
set_option maxRecDepth 100000 in
theorem f_X4_canBe_L2_ok {bb : Bool} {G : Nat} {μ : Mem} {r : Int32}    : ∀ (g : Nat) (v1 v3 : Int32), f_X4_canBe_L2 G μ g v1 v3 = some r → Ev RX4 cX4_canBe 6 (some .boolean) false 3 0 0 (eqP (some r) (shC bb) μ) 2 [some (.ref 105), some (.int v1), some (.ref 30), some (.int v3), none, none] [] (shC bb) μ 0 0 := by
  intro g
  induction g with
  | zero =>
    intro v1 v3 h
    cases h
  | succ g ih =>
    intro v1 v3 h
    rw [f_X4_canBe_L2] at h
    refine ev_iload_n dX4_canBe_2 rfl ?_
    refine ev_aload_n dX4_canBe_3 rfl ?_
    refine ev_getI fr_X4_45 shC_30 rfl dX4_canBe_4 ?_
    refine ev_icmp_ge (tgt := 66) dX4_canBe_7 (by decide) (fun hc1 => ?_) (fun hc1 => ?_)
    · replace h := ite_t hc1 h
      refine ev_iconst (v := (1 : Int32)) dX4_canBe_66 (by decide) ?_
      exact ev_iret rfl rfl (by decide) (by decide) dX4_canBe_67 (eqP_O h)
    · replace h := ite_f hc1 h
      refine ev_aload_n dX4_canBe_10 rfl ?_
      refine ev_iload_n dX4_canBe_11 rfl ?_
      refine ev_iconst (v := (0 : Int32)) dX4_canBe_12 (by decide) ?_
      obtain ⟨w3, hq2, h⟩ := bndO_t h
      refine ev_cVi mv_X4_50 dX4_canBe_13 (c_X2_at atC_30 hq2) rfl shC_30 rfl rfl (Nat.le_of_ble_eq_true rfl) (by rfl) (Nat.le_of_ble_eq_true rfl) (Nat.le_of_ble_eq_true rfl) (Nat.le_of_ble_eq_true rfl) ?_
      refine ev_istore (loc' := [_, _, _, _, _, _]) dX4_canBe_16 rfl (by decide) (by rfl) ?_
      refine ev_aload_n dX4_canBe_18 rfl ?_
      refine ev_iload_n dX4_canBe_19 rfl ?_
      refine ev_iconst (v := (1 : Int32)) dX4_canBe_20 (by decide) ?_
      obtain ⟨w5, hq4, h⟩ := bndO_t h
      refine ev_cVi mv_X4_50 dX4_canBe_21 (c_X2_at atC_30 hq4) rfl shC_30 rfl rfl (Nat.le_of_ble_eq_true rfl) (by rfl) (Nat.le_of_ble_eq_true rfl) (Nat.le_of_ble_eq_true rfl) (Nat.le_of_ble_eq_true rfl) ?_
      refine ev_istore (loc' := [_, _, _, _, _, _]) dX4_canBe_24 rfl (by decide) (by rfl) ?_
      refine ev_iload dX4_canBe_26 rfl ?_
      refine ev_sipush (v := (216 : Int32)) dX4_canBe_28 (by decide) ?_
      refine ev_cNi mv_X4_53 dX4_canBe_31 c_X11_isBelow rfl rfl (Nat.le_of_ble_eq_true rfl) (by rfl) (Nat.le_of_ble_eq_true rfl) (Nat.le_of_ble_eq_true rfl) (Nat.le_of_ble_eq_true rfl) ?_
      refine ev_if_eq (tgt := 60) dX4_canBe_34 (by decide) (fun hc6 => ?_) (fun hc6 => ?_)
      · replace h := ite_t hc6 h
        exact ev_lt (f_X4_canBe_j60_ok ih h) ⟨rfl, ⟨rfl, ⟨rfl, ⟨rfl, trivial⟩⟩⟩⟩
      · replace h := ite_f hc6 h
        refine ev_aload_n dX4_canBe_37 rfl ?_
        refine ev_iload dX4_canBe_38 rfl ?_
        refine ev_iload_n dX4_canBe_40 rfl ?_
        obtain ⟨w8, hq7, h⟩ := bndO_t h
        refine ev_cVi mv_X4_57 dX4_canBe_41 (c_X4_told hq7) rfl shC_105 rfl rfl (Nat.le_of_ble_eq_true rfl) (by rfl) (Nat.le_of_ble_eq_true rfl) (Nat.le_of_ble_eq_true rfl) (Nat.le_of_ble_eq_true rfl) ?_
        refine ev_iconst (v := (5 : Int32)) dX4_canBe_44 (by decide) ?_
        refine ev_iload dX4_canBe_45 rfl ?_
        refine ev_imul dX4_canBe_47 ?_
        refine ev_aload_n dX4_canBe_48 rfl ?_
        refine ev_iload_n dX4_canBe_49 rfl ?_
        refine ev_iconst (v := (2 : Int32)) dX4_canBe_50 (by decide) ?_
        obtain ⟨w10, hq9, h⟩ := bndO_t h
        refine ev_cVi mv_X4_50 dX4_canBe_51 (c_X2_at atC_30 hq9) rfl shC_30 rfl rfl (Nat.le_of_ble_eq_true rfl) (by rfl) (Nat.le_of_ble_eq_true rfl) (Nat.le_of_ble_eq_true rfl) (Nat.le_of_ble_eq_true rfl) ?_
        refine ev_iadd dX4_canBe_54 ?_
        refine ev_icmp_eq (tgt := 60) dX4_canBe_55 (by decide) (fun hc11 => ?_) (fun hc11 => ?_)
        · replace h := ite_t hc11 h
          exact ev_lt (f_X4_canBe_j60_ok ih h) ⟨rfl, ⟨rfl, ⟨rfl, ⟨rfl, trivial⟩⟩⟩⟩
        · replace h := ite_f hc11 h
          refine ev_iconst (v := (0 : Int32)) dX4_canBe_58 (by decide) ?_
          exact ev_iret rfl rfl (by decide) (by decide) dX4_canBe_59 (eqP_O h)
def f_X4_canBe (G : Nat) (μ : Mem) (p1 : Int32) : Option Int32 :=
  f_X4_canBe_L2 G μ G p1 (0 : Int32)
set_option maxHeartbeats 4000000 in
set_option maxRecDepth 100000 in
theorem c_X4_canBe {bb : Bool} {G : Nat} {μ : Mem}  {p1 : Int32} {r : Int32}  (h : f_X4_canBe G μ p1 = some r) : Cn yX4_canBe cX4_canBe 6 (some .boolean) 3 0 0 [.ref 105, .int p1, .ref 30] (shC bb) μ (eqP (some r) (shC bb) μ) := by
  refine cn_of (own := RX4) (ini := false) (loc := [some (.ref 105), some (.int p1), some (.ref 30), none, none, none]) rfl (by decide) (fun q => by cases q) (Nat.le_of_ble_eq_true rfl) (by rfl) rfl ?_
  unfold f_X4_canBe at h
  refine ev_iconst (v := (0 : Int32)) dX4_canBe_0 (by decide) ?_
  refine ev_istore_n (loc' := [_, _, _, _, _, _]) dX4_canBe_1 rfl (by decide) (by rfl) ?_
  exact ev_lt (f_X4_canBe_L2_ok _ _ _ h) ⟨rfl, ⟨rfl, ⟨rfl, ⟨rfl, trivial⟩⟩⟩⟩
def f_X4_study_j53 (G : Nat) (r17 : Int32 → Mem → Option Mem) (v2 : Int32) (μ : Mem) : Option Mem :=
  r17 (v2 + (1 : Int32)) μ
set_option maxHeartbeats 4000000 in
set_option maxRecDepth 100000 in
theorem f_X4_study_j53_ok {bb : Bool} {G : Nat} {μr : Mem}  {r17 : Int32 → Mem → Option Mem} (hr17 : ∀ (v2 : Int32) (m : Mem), r17 v2 m = some μr → Ev RX4 cX4_study 3 none false 4 0 0 (eqP none (shC bb) μr) 17 [some (.ref 105), some (.ref 30), some (.int v2)] [] (shC bb) m 0 0) {v2 : Int32} {μ : Mem} (h : f_X4_study_j53 G r17 v2 μ = some μr) : Ev RX4 cX4_study 3 none false 4 0 0 (eqP none (shC bb) μr) 53 [some (.ref 105), some (.ref 30), some (.int v2)] [] (shC bb) μ 0 0 := by
  unfold f_X4_study_j53 at h
  refine ev_iinc (cq := (1 : Int32)) (loc' := [_, _, _]) dX4_study_53 rfl (by decide) rfl (by decide) (by rfl) ?_
  refine ev_goto (tgt := 17) dX4_study_56 (by decide) ?_
  exact ev_lt (hr17 _ _ h) ⟨rfl, ⟨rfl, ⟨rfl, trivial⟩⟩⟩
def f_X4_study_L17 (G : Nat)  : Nat → Int32 → Mem → Option Mem
  | 0, _, _ => none
  | g + 1, v2, μ =>
  (if (216 : Int32) ≤ v2 then
  some μ
  else
  bndO (f_X4_canBe G μ v2) (fun w5 =>
  (if w5 = (0 : Int32) then
  f_X4_study_j53 G (f_X4_study_L17 G g) v2 μ
  else
  chk (μ 105 4) 216 (let m7 := wr μ 108 (ix (μ 105 4)) v2
  (let m9 := wr m7 105 4 ((m7 105 4) + (1 : Int32))
  f_X4_study_j53 G (f_X4_study_L17 G g) v2 m9)))))
set_option maxHeartbeats 4000000 in
set_option maxRecDepth 100000 in
theorem f_X4_study_L17_ok {bb : Bool} {G : Nat} {μr : Mem}    : ∀ (g : Nat) (v2 : Int32) (μ : Mem), f_X4_study_L17 G g v2 μ = some μr → Ev RX4 cX4_study 3 none false 4 0 0 (eqP none (shC bb) μr) 17 [some (.ref 105), some (.ref 30), some (.int v2)] [] (shC bb) μ 0 0 := by
  intro g
  induction g with
  | zero =>
    intro v2 μ h
    cases h
  | succ g ih =>
    intro v2 μ h
    rw [f_X4_study_L17] at h
    refine ev_iload_n dX4_study_17 rfl ?_
    refine ev_sipush (v := (216 : Int32)) dX4_study_18 (by decide) ?_
    refine ev_icmp_ge (tgt := 59) dX4_study_21 (by decide) (fun hc3 => ?_) (fun hc3 => ?_)
    · replace h := ite_t hc3 h
      exact ev_vret rfl (by decide) (by decide) dX4_study_59 (eqP_V h)
    · replace h := ite_f hc3 h
      refine ev_aload_n dX4_study_24 rfl ?_
      refine ev_iload_n dX4_study_25 rfl ?_
      refine ev_aload_n dX4_study_26 rfl ?_
      obtain ⟨w5, hq4, h⟩ := bndO_t h
      refine ev_cVi mv_X4_41 dX4_study_27 (c_X4_canBe hq4) rfl shC_105 rfl rfl (Nat.le_of_ble_eq_true rfl) (by rfl) (Nat.le_of_ble_eq_true rfl) (Nat.le_of_ble_eq_true rfl) (Nat.le_of_ble_eq_true rfl) ?_
      refine ev_if_eq (tgt := 53) dX4_study_30 (by decide) (fun hc6 => ?_) (fun hc6 => ?_)
      · replace h := ite_t hc6 h
        exact ev_lt (f_X4_study_j53_ok ih h) ⟨rfl, ⟨rfl, ⟨rfl, trivial⟩⟩⟩
      · replace h := ite_f hc6 h
        refine ev_aload_n dX4_study_33 rfl ?_
        refine ev_getR fr_X4_18 shC_105 rfl dX4_study_34 ?_
        refine ev_aload_n dX4_study_37 rfl ?_
        refine ev_getI fr_X4_28 shC_105 rfl dX4_study_38 ?_
        refine ev_iload_n dX4_study_41 rfl ?_
        obtain ⟨hi8, h⟩ := chk_t h
        refine ev_iast shC_108 hi8 dX4_study_42 ?_
        refine ev_aload_n dX4_study_43 rfl ?_
        refine ev_dup dX4_study_44 (by rfl) ?_
        refine ev_getI fr_X4_28 shC_105 rfl dX4_study_45 ?_
        refine ev_iconst (v := (1 : Int32)) dX4_study_48 (by decide) ?_
        refine ev_iadd dX4_study_49 ?_
        refine ev_putI fr_X4_28 shC_105 rfl rfl rfl dX4_study_50 ?_
        exact ev_lt (f_X4_study_j53_ok ih h) ⟨rfl, ⟨rfl, ⟨rfl, trivial⟩⟩⟩
def f_X4_study (G : Nat) (μ : Mem) : Option Mem :=
  (if (μ 105 4) = (-2 : Int32) then
  (let m2 := wr μ 105 4 (0 : Int32)
  f_X4_study_L17 G G (0 : Int32) m2)
  else
  some μ)
set_option maxHeartbeats 4000000 in
set_option maxRecDepth 100000 in
theorem c_X4_study {bb : Bool} {G : Nat} {μ : Mem} {μr : Mem}  (h : f_X4_study G μ = some μr) : Cn yX4_study cX4_study 3 none 4 0 0 [.ref 105, .ref 30] (shC bb) μ (eqP none (shC bb) μr) := by
  refine cn_of (own := RX4) (ini := false) (loc := [some (.ref 105), some (.ref 30), none]) rfl (by decide) (fun q => by cases q) (Nat.le_of_ble_eq_true rfl) (by rfl) rfl ?_
  unfold f_X4_study at h
  refine ev_aload_n dX4_study_0 rfl ?_
  refine ev_getI fr_X4_28 shC_105 rfl dX4_study_1 ?_
  refine ev_bipush (v := (-2 : Int32)) dX4_study_4 (by decide) ?_
  refine ev_icmp_eq (tgt := 10) dX4_study_6 (by decide) (fun hc1 => ?_) (fun hc1 => ?_)
  · replace h := ite_t hc1 h
    refine ev_aload_n dX4_study_10 rfl ?_
    refine ev_iconst (v := (0 : Int32)) dX4_study_11 (by decide) ?_
    refine ev_putI fr_X4_28 shC_105 rfl rfl rfl dX4_study_12 ?_
    refine ev_iconst (v := (0 : Int32)) dX4_study_15 (by decide) ?_
    refine ev_istore_n (loc' := [_, _, _]) dX4_study_16 rfl (by decide) (by rfl) ?_
    exact ev_lt (f_X4_study_L17_ok _ _ _ h) ⟨rfl, ⟨rfl, ⟨rfl, trivial⟩⟩⟩
  · replace h := ite_f hc1 h
    exact ev_vret rfl (by decide) (by decide) dX4_study_9 (eqP_V h)
def f_X4_least (μ : Mem) : Int32 :=
  (if (μ 105 4) ≤ (0 : Int32) then
  (-1 : Int32)
  else
  (f_X4_digitsOf (μ 108 0)))
set_option maxHeartbeats 4000000 in
set_option maxRecDepth 100000 in
theorem c_X4_least {bb : Bool} {μ : Mem}   : Cn yX4_least cX4_least 1 (some .int) 2 0 0 [.ref 105] (shC bb) μ (eqP (some (f_X4_least μ)) (shC bb) μ) := by
  obtain ⟨r, h⟩ : ∃ r, f_X4_least μ = r := ⟨_, rfl⟩
  rw [h]
  refine cn_of (own := RX4) (ini := false) (loc := [some (.ref 105)]) rfl (by decide) (fun q => by cases q) (Nat.le_of_ble_eq_true rfl) (by rfl) rfl ?_
  unfold f_X4_least at h
  refine ev_aload_n dX4_least_0 rfl ?_
  refine ev_getI fr_X4_28 shC_105 rfl dX4_least_1 ?_
  refine ev_if_le (tgt := 19) dX4_least_4 (by decide) (fun hc1 => ?_) (fun hc1 => ?_)
  · replace h := ite_t hc1 h
    refine ev_iconst (v := (-1 : Int32)) dX4_least_19 (by decide) ?_
    exact ev_iret rfl rfl (by decide) (by decide) dX4_least_20 (eqP_P h)
  · replace h := ite_f hc1 h
    refine ev_aload_n dX4_least_7 rfl ?_
    refine ev_getR fr_X4_18 shC_105 rfl dX4_least_8 ?_
    refine ev_iconst (v := (0 : Int32)) dX4_least_11 (by decide) ?_
    refine ev_ialdL (j := 0) shC_108 (by decide) (vpl _ _ (by decide)) dX4_least_12 ?_
    refine ev_cSi mv_X4_60 dX4_least_13 c_X4_digitsOf rfl rfl (Nat.le_of_ble_eq_true rfl) (by rfl) (Nat.le_of_ble_eq_true rfl) (Nat.le_of_ble_eq_true rfl) (Nat.le_of_ble_eq_true rfl) ?_
    refine ev_goto (tgt := 20) dX4_least_16 (by decide) ?_
    exact ev_iret rfl rfl (by decide) (by decide) dX4_least_20 (eqP_P h)
def f_J7_fill_53178_L5 (G : Nat) (a : Nat) (n_a : Nat)  : Nat → Int32 → Int32 → Int32 → Mem → Option Mem
  | 0, _, _, _, _ => none
  | g + 1, v1, v2, v3, μ =>
  (if v3 ≤ v2 then
  some μ
  else
  chk v2 n_a (let m2 := wr μ a (ix v2) v1
  (f_J7_fill_53178_L5 G a n_a g) v1 (v2 + (1 : Int32)) v3 m2))
set_option maxHeartbeats 4000000 in
set_option maxRecDepth 100000 in
theorem f_J7_fill_53178_L5_ok {sh : List Shp} {G : Nat} {a : Nat} {n_a : Nat} {μr : Mem} (ha : sh[a]? = some (.inl n_a))   : ∀ (g : Nat) (v1 v2 v3 : Int32) (μ : Mem), f_J7_fill_53178_L5 G a n_a g v1 v2 v3 μ = some μr → Ev RJ7 cJ7_fill_53178 4 none false 1 0 0 (eqP none sh μr) 5 [some (.ref a), some (.int v1), some (.int v2), some (.int v3)] [] sh μ 0 0 := by
  intro g
  induction g with
  | zero =>
    intro v1 v2 v3 μ h
    cases h
  | succ g ih =>
    intro v1 v2 v3 μ h
    rw [f_J7_fill_53178_L5] at h
    refine ev_iload_n dJ7_fill_53178_5 rfl ?_
    refine ev_iload_n dJ7_fill_53178_6 rfl ?_
    refine ev_icmp_ge (tgt := 20) dJ7_fill_53178_7 (by decide) (fun hc1 => ?_) (fun hc1 => ?_)
    · replace h := ite_t hc1 h
      exact ev_vret rfl (by decide) (by decide) dJ7_fill_53178_20 (eqP_V h)
    · replace h := ite_f hc1 h
      refine ev_aload_n dJ7_fill_53178_10 rfl ?_
      refine ev_iload_n dJ7_fill_53178_11 rfl ?_
      refine ev_iload_n dJ7_fill_53178_12 rfl ?_
      obtain ⟨hi3, h⟩ := chk_t h
      refine ev_iast ha hi3 dJ7_fill_53178_13 ?_
      refine ev_iinc (cq := (1 : Int32)) (loc' := [_, _, _, _]) dJ7_fill_53178_14 rfl (by decide) rfl (by decide) (by rfl) ?_
      refine ev_goto (tgt := 5) dJ7_fill_53178_17 (by decide) ?_
      exact ev_lt (ih _ _ _ _ h) ⟨rfl, ⟨rfl, ⟨rfl, ⟨rfl, trivial⟩⟩⟩⟩
def f_J7_fill_53178 (G : Nat) (a : Nat) (n_a : Nat) (p1 : Int32) (μ : Mem) : Option Mem :=
  f_J7_fill_53178_L5 G a n_a G p1 (0 : Int32) (Int32.ofNat n_a) μ
set_option maxHeartbeats 4000000 in
set_option maxRecDepth 100000 in
theorem c_J7_fill_53178 {sh : List Shp} {G : Nat} {a : Nat} {n_a : Nat} {μ : Mem} {p1 : Int32} {μr : Mem} (ha : sh[a]? = some (.inl n_a)) (h : f_J7_fill_53178 G a n_a p1 μ = some μr) : Cn yJ7_fill_53178 cJ7_fill_53178 4 none 1 0 0 [.ref a, .int p1] sh μ (eqP none sh μr) := by
  refine cn_of (own := RJ7) (ini := false) (loc := [some (.ref a), some (.int p1), none, none]) rfl (by decide) (fun q => by cases q) (Nat.le_of_ble_eq_true rfl) (by rfl) rfl ?_
  unfold f_J7_fill_53178 at h
  refine ev_iconst (v := (0 : Int32)) dJ7_fill_53178_0 (by decide) ?_
  refine ev_istore_n (loc' := [_, _, _, _]) dJ7_fill_53178_1 rfl (by decide) (by rfl) ?_
  refine ev_aload_n dJ7_fill_53178_2 rfl ?_
  refine ev_alen ha rfl dJ7_fill_53178_3 ?_
  refine ev_istore_n (loc' := [_, _, _, _]) dJ7_fill_53178_4 rfl (by decide) (by rfl) ?_
  exact ev_lt (f_J7_fill_53178_L5_ok ha _ _ _ _ _ h) ⟨rfl, ⟨rfl, ⟨rfl, ⟨rfl, trivial⟩⟩⟩⟩
def f_X4_greatestClass_L13 (G : Nat)  : Nat → Int32 → Int32 → Int32 → Int32 → Mem → Option (Int32 × Mem)
  | 0, _, _, _, _, _ => none
  | g + 1, v1, v2, v3, v4, μ =>
  (if (μ 105 4) ≤ v4 then
  some (v3, μ)
  else
  (if (216 : Int32) ≤ v4 then
  some (v3, μ)
  else
  (if v2 ≤ v3 then
  some (v3, μ)
  else
  chk v4 216 (bndO (f_X4_told G μ v1 (μ 108 (ix v4))) (fun w8 =>
  chk w8 16 (chk w8 16 (let m10 := wr μ 109 (ix w8) ((μ 109 (ix w8)) + (1 : Int32))
  chk w8 16 ((f_X4_greatestClass_L13 G g) v1 v2 (imax v3 (m10 109 (ix w8))) (v4 + (1 : Int32)) m10))))))))
set_option maxHeartbeats 4000000 in
set_option maxRecDepth 100000 in
theorem f_X4_greatestClass_L13_ok {bb : Bool} {G : Nat} {r : Int32} {μr : Mem}    : ∀ (g : Nat) (v1 v2 v3 v4 : Int32) (μ : Mem), f_X4_greatestClass_L13 G g v1 v2 v3 v4 μ = some (r, μr) → Ev RX4 cX4_greatestClass 6 (some .int) false 3 0 0 (eqP (some r) (shC bb) μr) 13 [some (.ref 105), some (.int v1), some (.int v2), some (.int v3), some (.int v4), none] [] (shC bb) μ 0 0 := by
  intro g
  induction g with
  | zero =>
    intro v1 v2 v3 v4 μ h
    cases h
  | succ g ih =>
    intro v1 v2 v3 v4 μ h
    rw [f_X4_greatestClass_L13] at h
    refine ev_iload dX4_greatestClass_13 rfl ?_
    refine ev_aload_n dX4_greatestClass_15 rfl ?_
    refine ev_getI fr_X4_28 shC_105 rfl dX4_greatestClass_16 ?_
    refine ev_icmp_ge (tgt := 78) dX4_greatestClass_19 (by decide) (fun hc3 => ?_) (fun hc3 => ?_)
    · replace h := ite_t hc3 h
      refine ev_iload_n dX4_greatestClass_78 rfl ?_
      exact ev_iret rfl rfl (by decide) (by decide) dX4_greatestClass_79 (eqP_E h)
    · replace h := ite_f hc3 h
      refine ev_iload dX4_greatestClass_22 rfl ?_
      refine ev_sipush (v := (216 : Int32)) dX4_greatestClass_24 (by decide) ?_
      refine ev_icmp_ge (tgt := 78) dX4_greatestClass_27 (by decide) (fun hc4 => ?_) (fun hc4 => ?_)
      · replace h := ite_t hc4 h
        refine ev_iload_n dX4_greatestClass_78 rfl ?_
        exact ev_iret rfl rfl (by decide) (by decide) dX4_greatestClass_79 (eqP_E h)
      · replace h := ite_f hc4 h
        refine ev_iload_n dX4_greatestClass_30 rfl ?_
        refine ev_iload_n dX4_greatestClass_31 rfl ?_
        refine ev_icmp_ge (tgt := 78) dX4_greatestClass_32 (by decide) (fun hc5 => ?_) (fun hc5 => ?_)
        · replace h := ite_t hc5 h
          refine ev_iload_n dX4_greatestClass_78 rfl ?_
          exact ev_iret rfl rfl (by decide) (by decide) dX4_greatestClass_79 (eqP_E h)
        · replace h := ite_f hc5 h
          refine ev_aload_n dX4_greatestClass_35 rfl ?_
          refine ev_iload_n dX4_greatestClass_36 rfl ?_
          refine ev_aload_n dX4_greatestClass_37 rfl ?_
          refine ev_getR fr_X4_18 shC_105 rfl dX4_greatestClass_38 ?_
          refine ev_iload dX4_greatestClass_41 rfl ?_
          obtain ⟨hi6, h⟩ := chk_t h
          refine ev_iald shC_108 hi6 dX4_greatestClass_43 ?_
          obtain ⟨w8, hq7, h⟩ := bndO_t h
          refine ev_cVi mv_X4_57 dX4_greatestClass_44 (c_X4_told hq7) rfl shC_105 rfl rfl (Nat.le_of_ble_eq_true rfl) (by rfl) (Nat.le_of_ble_eq_true rfl) (Nat.le_of_ble_eq_true rfl) (Nat.le_of_ble_eq_true rfl) ?_
          refine ev_istore (loc' := [_, _, _, _, _, _]) dX4_greatestClass_47 rfl (by decide) (by rfl) ?_
          refine ev_aload_n dX4_greatestClass_49 rfl ?_
          refine ev_getR fr_X4_21 shC_105 rfl dX4_greatestClass_50 ?_
          refine ev_iload dX4_greatestClass_53 rfl ?_
          refine ev_dup2 dX4_greatestClass_55 (by rfl) (by rfl) ?_
          obtain ⟨hi9, h⟩ := chk_t h
          refine ev_iald shC_109 hi9 dX4_greatestClass_56 ?_
          refine ev_iconst (v := (1 : Int32)) dX4_greatestClass_57 (by decide) ?_
          refine ev_iadd dX4_greatestClass_58 ?_
          obtain ⟨hi11, h⟩ := chk_t h
          refine ev_iast shC_109 hi11 dX4_greatestClass_59 ?_
          refine ev_iload_n dX4_greatestClass_60 rfl ?_
          refine ev_aload_n dX4_greatestClass_61 rfl ?_
          refine ev_getR fr_X4_21 shC_105 rfl dX4_greatestClass_62 ?_
          refine ev_iload dX4_greatestClass_65 rfl ?_
          obtain ⟨hi12, h⟩ := chk_t h
          refine ev_iald shC_109 hi12 dX4_greatestClass_67 ?_
          refine ev_max mm_X4_72 dX4_greatestClass_68 (Nat.le_of_ble_eq_true rfl) (by rfl) (Nat.le_of_ble_eq_true rfl) (Nat.le_of_ble_eq_true rfl) (Nat.le_of_ble_eq_true rfl) ?_
          refine ev_istore_n (loc' := [_, _, _, _, _, _]) dX4_greatestClass_71 rfl (by decide) (by rfl) ?_
          refine ev_iinc (cq := (1 : Int32)) (loc' := [_, _, _, _, _, _]) dX4_greatestClass_72 rfl (by decide) rfl (by decide) (by rfl) ?_
          refine ev_goto (tgt := 13) dX4_greatestClass_75 (by decide) ?_
          exact ev_lt (ih _ _ _ _ _ h) ⟨rfl, ⟨rfl, ⟨rfl, ⟨rfl, ⟨rfl, trivial⟩⟩⟩⟩⟩
def f_X4_greatestClass (G : Nat) (p1 p2 : Int32) (μ : Mem) : Option (Int32 × Mem) :=
  bndV (f_J7_fill_53178 G 109 16 (0 : Int32) μ) (fun m2 =>
  f_X4_greatestClass_L13 G G p1 p2 (0 : Int32) (0 : Int32) m2)
set_option maxHeartbeats 4000000 in
set_option maxRecDepth 100000 in
theorem c_X4_greatestClass {bb : Bool} {G : Nat} {μ : Mem} {p1 p2 : Int32} {r : Int32} {μr : Mem}  (h : f_X4_greatestClass G p1 p2 μ = some (r, μr)) : Cn yX4_greatestClass cX4_greatestClass 6 (some .int) 3 0 0 [.ref 105, .int p1, .int p2] (shC bb) μ (eqP (some r) (shC bb) μr) := by
  refine cn_of (own := RX4) (ini := false) (loc := [some (.ref 105), some (.int p1), some (.int p2), none, none, none]) rfl (by decide) (fun q => by cases q) (Nat.le_of_ble_eq_true rfl) (by rfl) rfl ?_
  unfold f_X4_greatestClass at h
  refine ev_aload_n dX4_greatestClass_0 rfl ?_
  refine ev_getR fr_X4_21 shC_105 rfl dX4_greatestClass_1 ?_
  refine ev_iconst (v := (0 : Int32)) dX4_greatestClass_4 (by decide) ?_
  obtain ⟨m2, hq1, h⟩ := bndV_t h
  refine ev_cSv mv_X4_66 dX4_greatestClass_5 (c_J7_fill_53178 shC_109 hq1) rfl rfl (Nat.le_of_ble_eq_true rfl) (by rfl) (Nat.le_of_ble_eq_true rfl) (Nat.le_of_ble_eq_true rfl) (Nat.le_of_ble_eq_true rfl) ?_
  refine ev_iconst (v := (0 : Int32)) dX4_greatestClass_8 (by decide) ?_
  refine ev_istore_n (loc' := [_, _, _, _, _, _]) dX4_greatestClass_9 rfl (by decide) (by rfl) ?_
  refine ev_iconst (v := (0 : Int32)) dX4_greatestClass_10 (by decide) ?_
  refine ev_istore (loc' := [_, _, _, _, _, _]) dX4_greatestClass_11 rfl (by decide) (by rfl) ?_
  exact ev_lt (f_X4_greatestClass_L13_ok _ _ _ _ _ _ h) ⟨rfl, ⟨rfl, ⟨rfl, ⟨rfl, ⟨rfl, trivial⟩⟩⟩⟩⟩
def f_X4_best_j50 (G : Nat) (r24 : Int32 → Int32 → Mem → Option (Int32 × Mem)) (v1 v2 : Int32) (μ : Mem) : Option (Int32 × Mem) :=
  r24 v1 (v2 + (1 : Int32)) μ
set_option maxHeartbeats 4000000 in
set_option maxRecDepth 100000 in
theorem f_X4_best_j50_ok {bb : Bool} {G : Nat} {r : Int32} {μr : Mem}  {r24 : Int32 → Int32 → Mem → Option (Int32 × Mem)} (hr24 : ∀ (v1 : Int32) (v2 : Int32) (m : Mem), r24 v1 v2 m = some (r, μr) → Ev RX4 cX4_best 4 (some .int) false 4 0 0 (eqP (some r) (shC bb) μr) 24 [some (.ref 105), some (.int v1), some (.int v2), none] [] (shC bb) m 0 0) {v1 v2 : Int32} {μ : Mem} (h : f_X4_best_j50 G r24 v1 v2 μ = some (r, μr)) : Ev RX4 cX4_best 4 (some .int) false 4 0 0 (eqP (some r) (shC bb) μr) 50 [some (.ref 105), some (.int v1), some (.int v2), none] [] (shC bb) μ 0 0 := by
  unfold f_X4_best_j50 at h
  refine ev_iinc (cq := (1 : Int32)) (loc' := [_, _, _, _]) dX4_best_50 rfl (by decide) rfl (by decide) (by rfl) ?_
  refine ev_goto (tgt := 24) dX4_best_53 (by decide) ?_
  exact ev_lt (hr24 _ _ _ h) ⟨rfl, ⟨rfl, ⟨rfl, trivial⟩⟩⟩
def f_X4_best_L24 (G : Nat)  : Nat → Int32 → Int32 → Mem → Option (Int32 × Mem)
  | 0, _, _, _ => none
  | g + 1, v1, v2, μ =>
  (if (216 : Int32) ≤ v2 then
  some ((f_X4_digitsOf (μ 105 5)), μ)
  else
  bndE (f_X4_greatestClass G v2 v1 μ) (fun w6 m5 =>
  (if v1 ≤ w6 then
  f_X4_best_j50 G (f_X4_best_L24 G g) v1 v2 m5
  else
  (let m8 := wr m5 105 5 v2
  f_X4_best_j50 G (f_X4_best_L24 G g) w6 v2 m8))))
set_option maxHeartbeats 4000000 in
set_option maxRecDepth 100000 in
theorem f_X4_best_L24_ok {bb : Bool} {G : Nat} {r : Int32} {μr : Mem}    : ∀ (g : Nat) (v1 v2 : Int32) (μ : Mem), f_X4_best_L24 G g v1 v2 μ = some (r, μr) → Ev RX4 cX4_best 4 (some .int) false 4 0 0 (eqP (some r) (shC bb) μr) 24 [some (.ref 105), some (.int v1), some (.int v2), none] [] (shC bb) μ 0 0 := by
  intro g
  induction g with
  | zero =>
    intro v1 v2 μ h
    cases h
  | succ g ih =>
    intro v1 v2 μ h
    rw [f_X4_best_L24] at h
    refine ev_iload_n dX4_best_24 rfl ?_
    refine ev_sipush (v := (216 : Int32)) dX4_best_25 (by decide) ?_
    refine ev_icmp_ge (tgt := 56) dX4_best_28 (by decide) (fun hc3 => ?_) (fun hc3 => ?_)
    · replace h := ite_t hc3 h
      refine ev_aload_n dX4_best_56 rfl ?_
      refine ev_getI fr_X4_32 shC_105 rfl dX4_best_57 ?_
      refine ev_cSi mv_X4_60 dX4_best_60 c_X4_digitsOf rfl rfl (Nat.le_of_ble_eq_true rfl) (by rfl) (Nat.le_of_ble_eq_true rfl) (Nat.le_of_ble_eq_true rfl) (Nat.le_of_ble_eq_true rfl) ?_
      exact ev_iret rfl rfl (by decide) (by decide) dX4_best_63 (eqP_E h)
    · replace h := ite_f hc3 h
      refine ev_aload_n dX4_best_31 rfl ?_
      refine ev_iload_n dX4_best_32 rfl ?_
      refine ev_iload_n dX4_best_33 rfl ?_
      obtain ⟨w6, m5, hq4, h⟩ := bndE_t h
      refine ev_cVi mv_X4_63 dX4_best_34 (c_X4_greatestClass hq4) rfl shC_105 rfl rfl (Nat.le_of_ble_eq_true rfl) (by rfl) (Nat.le_of_ble_eq_true rfl) (Nat.le_of_ble_eq_true rfl) (Nat.le_of_ble_eq_true rfl) ?_
      refine ev_istore_n (loc' := [_, _, _, _]) dX4_best_37 rfl (by decide) (by rfl) ?_
      refine ev_iload_n dX4_best_38 rfl ?_
      refine ev_iload_n dX4_best_39 rfl ?_
      refine ev_icmp_ge (tgt := 50) dX4_best_40 (by decide) (fun hc7 => ?_) (fun hc7 => ?_)
      · replace h := ite_t hc7 h
        exact ev_lt (f_X4_best_j50_ok ih h) ⟨rfl, ⟨rfl, ⟨rfl, trivial⟩⟩⟩
      · replace h := ite_f hc7 h
        refine ev_iload_n dX4_best_43 rfl ?_
        refine ev_istore_n (loc' := [_, _, _, _]) dX4_best_44 rfl (by decide) (by rfl) ?_
        refine ev_aload_n dX4_best_45 rfl ?_
        refine ev_iload_n dX4_best_46 rfl ?_
        refine ev_putI fr_X4_32 shC_105 rfl rfl rfl dX4_best_47 ?_
        exact ev_lt (f_X4_best_j50_ok ih h) ⟨rfl, ⟨rfl, ⟨rfl, trivial⟩⟩⟩
def f_X4_best (G : Nat) (μ : Mem) : Option (Int32 × Mem) :=
  (if (0 : Int32) < (μ 105 4) then
  (if (μ 105 5) = (-2 : Int32) then
  f_X4_best_L24 G G (217 : Int32) (0 : Int32) μ
  else
  some ((f_X4_digitsOf (μ 105 5)), μ))
  else
  some ((-1 : Int32), μ))
set_option maxHeartbeats 4000000 in
set_option maxRecDepth 100000 in
theorem c_X4_best {bb : Bool} {G : Nat} {μ : Mem} {r : Int32} {μr : Mem}  (h : f_X4_best G μ = some (r, μr)) : Cn yX4_best cX4_best 4 (some .int) 4 0 0 [.ref 105] (shC bb) μ (eqP (some r) (shC bb) μr) := by
  refine cn_of (own := RX4) (ini := false) (loc := [some (.ref 105), none, none, none]) rfl (by decide) (fun q => by cases q) (Nat.le_of_ble_eq_true rfl) (by rfl) rfl ?_
  unfold f_X4_best at h
  refine ev_aload_n dX4_best_0 rfl ?_
  refine ev_getI fr_X4_28 shC_105 rfl dX4_best_1 ?_
  refine ev_if_gt (tgt := 9) dX4_best_4 (by decide) (fun hc1 => ?_) (fun hc1 => ?_)
  · replace h := ite_t hc1 h
    refine ev_aload_n dX4_best_9 rfl ?_
    refine ev_getI fr_X4_32 shC_105 rfl dX4_best_10 ?_
    refine ev_bipush (v := (-2 : Int32)) dX4_best_13 (by decide) ?_
    refine ev_icmp_ne (tgt := 56) dX4_best_15 (by decide) (fun hc2 => ?_) (fun hc2 => ?_)
    · replace h := ite_f hc2 h
      refine ev_aload_n dX4_best_56 rfl ?_
      refine ev_getI fr_X4_32 shC_105 rfl dX4_best_57 ?_
      refine ev_cSi mv_X4_60 dX4_best_60 c_X4_digitsOf rfl rfl (Nat.le_of_ble_eq_true rfl) (by rfl) (Nat.le_of_ble_eq_true rfl) (Nat.le_of_ble_eq_true rfl) (Nat.le_of_ble_eq_true rfl) ?_
      exact ev_iret rfl rfl (by decide) (by decide) dX4_best_63 (eqP_E h)
    · replace h := ite_t hc2 h
      refine ev_sipush (v := (217 : Int32)) dX4_best_18 (by decide) ?_
      refine ev_istore_n (loc' := [_, _, _, _]) dX4_best_21 rfl (by decide) (by rfl) ?_
      refine ev_iconst (v := (0 : Int32)) dX4_best_22 (by decide) ?_
      refine ev_istore_n (loc' := [_, _, _, _]) dX4_best_23 rfl (by decide) (by rfl) ?_
      exact ev_lt (f_X4_best_L24_ok _ _ _ _ h) ⟨rfl, ⟨rfl, ⟨rfl, trivial⟩⟩⟩
  · replace h := ite_f hc1 h
    refine ev_iconst (v := (-1 : Int32)) dX4_best_7 (by decide) ?_
    exact ev_iret rfl rfl (by decide) (by decide) dX4_best_8 (eqP_E h)
def f_X5_hasRoom (μ : Mem) (p1 : Int32) : Int32 :=
  (if (400 : Int32) < ((μ 41 5) + p1) then
  (0 : Int32)
  else
  (1 : Int32))
set_option maxHeartbeats 4000000 in
set_option maxRecDepth 100000 in
theorem c_X5_hasRoom {bb : Bool} {μ : Mem}  {p1 : Int32}  : Cn yX5_hasRoom cX5_hasRoom 2 (some .boolean) 1 0 0 [.ref 41, .int p1] (shC bb) μ (eqP (some (f_X5_hasRoom μ p1)) (shC bb) μ) := by
  obtain ⟨r, h⟩ : ∃ r, f_X5_hasRoom μ p1 = r := ⟨_, rfl⟩
  rw [h]
  refine cn_of (own := RX5) (ini := false) (loc := [some (.ref 41), some (.int p1)]) rfl (by decide) (fun q => by cases q) (Nat.le_of_ble_eq_true rfl) (by rfl) rfl ?_
  unfold f_X5_hasRoom at h
  refine ev_aload_n dX5_hasRoom_0 rfl ?_
  refine ev_getI fr_X5_41 shC_41 rfl dX5_hasRoom_1 ?_
  refine ev_iload_n dX5_hasRoom_4 rfl ?_
  refine ev_iadd dX5_hasRoom_5 ?_
  refine ev_sipush (v := (400 : Int32)) dX5_hasRoom_6 (by decide) ?_
  refine ev_icmp_gt (tgt := 16) dX5_hasRoom_9 (by decide) (fun hc1 => ?_) (fun hc1 => ?_)
  · replace h := ite_t hc1 h
    refine ev_iconst (v := (0 : Int32)) dX5_hasRoom_16 (by decide) ?_
    exact ev_iret rfl rfl (by decide) (by decide) dX5_hasRoom_17 (eqP_P h)
  · replace h := ite_f hc1 h
    refine ev_iconst (v := (1 : Int32)) dX5_hasRoom_12 (by decide) ?_
    refine ev_goto (tgt := 17) dX5_hasRoom_13 (by decide) ?_
    exact ev_iret rfl rfl (by decide) (by decide) dX5_hasRoom_17 (eqP_P h)
def f_X5_take_L3 (G : Nat)  : Nat → Int32 → Int32 → Mem → Option Mem
  | 0, _, _, _ => none
  | g + 1, v1, v2, μ =>
  (if v2 < (0 : Int32) then
  some μ
  else
  (if (400 : Int32) ≤ (μ 41 5) then
  some μ
  else
  chk (μ 41 5) 400 (let m3 := wr μ 42 (ix (μ 41 5)) ((sr v1 v2) &&& (255 : Int32))
  (let m5 := wr m3 41 5 ((m3 41 5) + (1 : Int32))
  (f_X5_take_L3 G g) v1 (v2 + (-8 : Int32)) m5))))
set_option maxHeartbeats 4000000 in
set_option maxRecDepth 100000 in
theorem f_X5_take_L3_ok {bb : Bool} {G : Nat} {μr : Mem}    : ∀ (g : Nat) (v1 v2 : Int32) (μ : Mem), f_X5_take_L3 G g v1 v2 μ = some μr → Ev RX5 cX5_take 3 none false 1 0 0 (eqP none (shC bb) μr) 3 [some (.ref 41), some (.int v1), some (.int v2)] [] (shC bb) μ 0 0 := by
  intro g
  induction g with
  | zero =>
    intro v1 v2 μ h
    cases h
  | succ g ih =>
    intro v1 v2 μ h
    rw [f_X5_take_L3] at h
    refine ev_iload_n dX5_take_3 rfl ?_
    refine ev_if_lt (tgt := 49) dX5_take_4 (by decide) (fun hc1 => ?_) (fun hc1 => ?_)
    · replace h := ite_t hc1 h
      exact ev_vret rfl (by decide) (by decide) dX5_take_49 (eqP_V h)
    · replace h := ite_f hc1 h
      refine ev_aload_n dX5_take_7 rfl ?_
      refine ev_getI fr_X5_41 shC_41 rfl dX5_take_8 ?_
      refine ev_sipush (v := (400 : Int32)) dX5_take_11 (by decide) ?_
      refine ev_icmp_ge (tgt := 49) dX5_take_14 (by decide) (fun hc2 => ?_) (fun hc2 => ?_)
      · replace h := ite_t hc2 h
        exact ev_vret rfl (by decide) (by decide) dX5_take_49 (eqP_V h)
      · replace h := ite_f hc2 h
        refine ev_aload_n dX5_take_17 rfl ?_
        refine ev_getR fr_X5_9 shC_41 rfl dX5_take_18 ?_
        refine ev_aload_n dX5_take_21 rfl ?_
        refine ev_getI fr_X5_41 shC_41 rfl dX5_take_22 ?_
        refine ev_iload_n dX5_take_25 rfl ?_
        refine ev_iload_n dX5_take_26 rfl ?_
        refine ev_ishr dX5_take_27 ?_
        refine ev_sipush (v := (255 : Int32)) dX5_take_28 (by decide) ?_
        refine ev_iand dX5_take_31 ?_
        obtain ⟨hi4, h⟩ := chk_t h
        refine ev_iast shC_42 hi4 dX5_take_32 ?_
        refine ev_aload_n dX5_take_33 rfl ?_
        refine ev_dup dX5_take_34 (by rfl) ?_
        refine ev_getI fr_X5_41 shC_41 rfl dX5_take_35 ?_
        refine ev_iconst (v := (1 : Int32)) dX5_take_38 (by decide) ?_
        refine ev_iadd dX5_take_39 ?_
        refine ev_putI fr_X5_41 shC_41 rfl rfl rfl dX5_take_40 ?_
        refine ev_iinc (cq := (-8 : Int32)) (loc' := [_, _, _]) dX5_take_43 rfl (by decide) rfl (by decide) (by rfl) ?_
        refine ev_goto (tgt := 3) dX5_take_46 (by decide) ?_
        exact ev_lt (ih _ _ _ h) ⟨rfl, ⟨rfl, ⟨rfl, trivial⟩⟩⟩
def f_X5_take (G : Nat) (p1 : Int32) (μ : Mem) : Option Mem :=
  f_X5_take_L3 G G p1 (24 : Int32) μ
set_option maxHeartbeats 4000000 in
set_option maxRecDepth 100000 in
theorem c_X5_take {bb : Bool} {G : Nat} {μ : Mem} {p1 : Int32} {μr : Mem}  (h : f_X5_take G p1 μ = some μr) : Cn yX5_take cX5_take 3 none 1 0 0 [.ref 41, .int p1] (shC bb) μ (eqP none (shC bb) μr) := by
  refine cn_of (own := RX5) (ini := false) (loc := [some (.ref 41), some (.int p1), none]) rfl (by decide) (fun q => by cases q) (Nat.le_of_ble_eq_true rfl) (by rfl) rfl ?_
  unfold f_X5_take at h
  refine ev_bipush (v := (24 : Int32)) dX5_take_0 (by decide) ?_
  refine ev_istore_n (loc' := [_, _, _]) dX5_take_2 rfl (by decide) (by rfl) ?_
  exact ev_lt (f_X5_take_L3_ok _ _ _ _ h) ⟨rfl, ⟨rfl, ⟨rfl, trivial⟩⟩⟩
def f_X5_addToken (G : Nat) (p1 p2 : Int32) (μ : Mem) : Option Mem :=
  (if (400 : Int32) < (μ 41 8) then
  some μ
  else
  chk (μ 41 8) 401 (let m2 := wr μ 43 (ix (μ 41 8)) p1
  chk (m2 41 8) 401 (let m4 := wr m2 44 (ix (m2 41 8)) p2
  (let m6 := wr m4 41 8 ((m4 41 8) + (1 : Int32))
  some m6))))
set_option maxHeartbeats 4000000 in
set_option maxRecDepth 100000 in
theorem c_X5_addToken {bb : Bool} {G : Nat} {μ : Mem} {p1 p2 : Int32} {μr : Mem}  (h : f_X5_addToken G p1 p2 μ = some μr) : Cn yX5_addToken cX5_addToken 3 none 1 0 0 [.ref 41, .int p1, .int p2] (shC bb) μ (eqP none (shC bb) μr) := by
  refine cn_of (own := RX5) (ini := false) (loc := [some (.ref 41), some (.int p1), some (.int p2)]) rfl (by decide) (fun q => by cases q) (Nat.le_of_ble_eq_true rfl) (by rfl) rfl ?_
  unfold f_X5_addToken at h
  refine ev_aload_n dX5_addToken_0 rfl ?_
  refine ev_getI fr_X5_88 shC_41 rfl dX5_addToken_1 ?_
  refine ev_sipush (v := (400 : Int32)) dX5_addToken_4 (by decide) ?_
  refine ev_icmp_gt (tgt := 40) dX5_addToken_7 (by decide) (fun hc1 => ?_) (fun hc1 => ?_)
  · replace h := ite_t hc1 h
    exact ev_vret rfl (by decide) (by decide) dX5_addToken_40 (eqP_V h)
  · replace h := ite_f hc1 h
    refine ev_aload_n dX5_addToken_10 rfl ?_
    refine ev_getR fr_X5_15 shC_41 rfl dX5_addToken_11 ?_
    refine ev_aload_n dX5_addToken_14 rfl ?_
    refine ev_getI fr_X5_88 shC_41 rfl dX5_addToken_15 ?_
    refine ev_iload_n dX5_addToken_18 rfl ?_
    obtain ⟨hi3, h⟩ := chk_t h
    refine ev_iast shC_43 hi3 dX5_addToken_19 ?_
    refine ev_aload_n dX5_addToken_20 rfl ?_
    refine ev_getR fr_X5_18 shC_41 rfl dX5_addToken_21 ?_
    refine ev_aload_n dX5_addToken_24 rfl ?_
    refine ev_getI fr_X5_88 shC_41 rfl dX5_addToken_25 ?_
    refine ev_iload_n dX5_addToken_28 rfl ?_
    obtain ⟨hi5, h⟩ := chk_t h
    refine ev_iast shC_44 hi5 dX5_addToken_29 ?_
    refine ev_aload_n dX5_addToken_30 rfl ?_
    refine ev_dup dX5_addToken_31 (by rfl) ?_
    refine ev_getI fr_X5_88 shC_41 rfl dX5_addToken_32 ?_
    refine ev_iconst (v := (1 : Int32)) dX5_addToken_35 (by decide) ?_
    refine ev_iadd dX5_addToken_36 ?_
    refine ev_putI fr_X5_88 shC_41 rfl rfl rfl dX5_addToken_37 ?_
    exact ev_vret rfl (by decide) (by decide) dX5_addToken_40 (eqP_V h)
def f_X5_isLetter_j12   (v0 : Int32) : Int32 :=
  (if v0 < (65 : Int32) then
  (0 : Int32)
  else
  (if (90 : Int32) < v0 then
  (0 : Int32)
  else
  (1 : Int32)))
set_option maxHeartbeats 4000000 in
set_option maxRecDepth 100000 in
theorem f_X5_isLetter_j12_ok {bb : Bool}  {r : Int32}    {v0 : Int32} {μ : Mem} (h : f_X5_isLetter_j12 v0 = r) : Ev RX5 cX5_isLetter 1 (some .boolean) false 1 0 0 (eqP (some r) (shC bb) μ) 12 [some (.int v0)] [] (shC bb) μ 0 0 := by
  unfold f_X5_isLetter_j12 at h
  refine ev_iload_n dX5_isLetter_12 rfl ?_
  refine ev_bipush (v := (65 : Int32)) dX5_isLetter_13 (by decide) ?_
  refine ev_icmp_lt (tgt := 28) dX5_isLetter_15 (by decide) (fun hc2 => ?_) (fun hc2 => ?_)
  · replace h := ite_t hc2 h
    refine ev_iconst (v := (0 : Int32)) dX5_isLetter_28 (by decide) ?_
    exact ev_iret rfl rfl (by decide) (by decide) dX5_isLetter_29 (eqP_P h)
  · replace h := ite_f hc2 h
    refine ev_iload_n dX5_isLetter_18 rfl ?_
    refine ev_bipush (v := (90 : Int32)) dX5_isLetter_19 (by decide) ?_
    refine ev_icmp_gt (tgt := 28) dX5_isLetter_21 (by decide) (fun hc3 => ?_) (fun hc3 => ?_)
    · replace h := ite_t hc3 h
      refine ev_iconst (v := (0 : Int32)) dX5_isLetter_28 (by decide) ?_
      exact ev_iret rfl rfl (by decide) (by decide) dX5_isLetter_29 (eqP_P h)
    · replace h := ite_f hc3 h
      refine ev_iconst (v := (1 : Int32)) dX5_isLetter_24 (by decide) ?_
      refine ev_goto (tgt := 29) dX5_isLetter_25 (by decide) ?_
      exact ev_iret rfl rfl (by decide) (by decide) dX5_isLetter_29 (eqP_P h)
def f_X5_isLetter  (p1 : Int32) : Int32 :=
  (if p1 < (97 : Int32) then
  f_X5_isLetter_j12 p1
  else
  (if p1 ≤ (122 : Int32) then
  (1 : Int32)
  else
  f_X5_isLetter_j12 p1))
set_option maxHeartbeats 4000000 in
set_option maxRecDepth 100000 in
theorem c_X5_isLetter {bb : Bool}  {μ : Mem} {p1 : Int32}  : Cn yX5_isLetter cX5_isLetter 1 (some .boolean) 1 0 0 [.int p1] (shC bb) μ (eqP (some (f_X5_isLetter p1)) (shC bb) μ) := by
  obtain ⟨r, h⟩ : ∃ r, f_X5_isLetter p1 = r := ⟨_, rfl⟩
  rw [h]
  refine cn_of (own := RX5) (ini := false) (loc := [some (.int p1)]) rfl (by decide) (fun q => by cases q) (Nat.le_of_ble_eq_true rfl) (by rfl) rfl ?_
  unfold f_X5_isLetter at h
  refine ev_iload_n dX5_isLetter_0 rfl ?_
  refine ev_bipush (v := (97 : Int32)) dX5_isLetter_1 (by decide) ?_
  refine ev_icmp_lt (tgt := 12) dX5_isLetter_3 (by decide) (fun hc1 => ?_) (fun hc1 => ?_)
  · replace h := ite_t hc1 h
    exact ev_lt (f_X5_isLetter_j12_ok h) ⟨rfl, trivial⟩
  · replace h := ite_f hc1 h
    refine ev_iload_n dX5_isLetter_6 rfl ?_
    refine ev_bipush (v := (122 : Int32)) dX5_isLetter_7 (by decide) ?_
    refine ev_icmp_le (tgt := 24) dX5_isLetter_9 (by decide) (fun hc4 => ?_) (fun hc4 => ?_)
    · replace h := ite_t hc4 h
      refine ev_iconst (v := (1 : Int32)) dX5_isLetter_24 (by decide) ?_
      refine ev_goto (tgt := 29) dX5_isLetter_25 (by decide) ?_
      exact ev_iret rfl rfl (by decide) (by decide) dX5_isLetter_29 (eqP_P h)
    · replace h := ite_f hc4 h
      exact ev_lt (f_X5_isLetter_j12_ok h) ⟨rfl, trivial⟩
def f_X5_isNumeral  (p1 : Int32) : Int32 :=
  (if p1 < (48 : Int32) then
  (0 : Int32)
  else
  (if (57 : Int32) < p1 then
  (0 : Int32)
  else
  (1 : Int32)))
set_option maxHeartbeats 4000000 in
set_option maxRecDepth 100000 in
theorem c_X5_isNumeral {bb : Bool}  {μ : Mem} {p1 : Int32}  : Cn yX5_isNumeral cX5_isNumeral 1 (some .boolean) 1 0 0 [.int p1] (shC bb) μ (eqP (some (f_X5_isNumeral p1)) (shC bb) μ) := by
  obtain ⟨r, h⟩ : ∃ r, f_X5_isNumeral p1 = r := ⟨_, rfl⟩
  rw [h]
  refine cn_of (own := RX5) (ini := false) (loc := [some (.int p1)]) rfl (by decide) (fun q => by cases q) (Nat.le_of_ble_eq_true rfl) (by rfl) rfl ?_
  unfold f_X5_isNumeral at h
  refine ev_iload_n dX5_isNumeral_0 rfl ?_
  refine ev_bipush (v := (48 : Int32)) dX5_isNumeral_1 (by decide) ?_
  refine ev_icmp_lt (tgt := 16) dX5_isNumeral_3 (by decide) (fun hc1 => ?_) (fun hc1 => ?_)
  · replace h := ite_t hc1 h
    refine ev_iconst (v := (0 : Int32)) dX5_isNumeral_16 (by decide) ?_
    exact ev_iret rfl rfl (by decide) (by decide) dX5_isNumeral_17 (eqP_P h)
  · replace h := ite_f hc1 h
    refine ev_iload_n dX5_isNumeral_6 rfl ?_
    refine ev_bipush (v := (57 : Int32)) dX5_isNumeral_7 (by decide) ?_
    refine ev_icmp_gt (tgt := 16) dX5_isNumeral_9 (by decide) (fun hc2 => ?_) (fun hc2 => ?_)
    · replace h := ite_t hc2 h
      refine ev_iconst (v := (0 : Int32)) dX5_isNumeral_16 (by decide) ?_
      exact ev_iret rfl rfl (by decide) (by decide) dX5_isNumeral_17 (eqP_P h)
    · replace h := ite_f hc2 h
      refine ev_iconst (v := (1 : Int32)) dX5_isNumeral_12 (by decide) ?_
      refine ev_goto (tgt := 17) dX5_isNumeral_13 (by decide) ?_
      exact ev_iret rfl rfl (by decide) (by decide) dX5_isNumeral_17 (eqP_P h)
def f_X5_runEnd_j60 (G : Nat) (μ : Mem) (r14 : Int32 → Int32 → Option Int32) (v2 v3 : Int32) : Option Int32 :=
  r14 v2 (v3 + (1 : Int32))
set_option maxHeartbeats 4000000 in
set_option maxRecDepth 100000 in
theorem f_X5_runEnd_j60_ok {bb : Bool} {G : Nat} {μ : Mem} {r : Int32}  {r14 : Int32 → Int32 → Option Int32} (hr14 : ∀ (v2 : Int32) (v3 : Int32), r14 v2 v3 = some r → Ev RX5 cX5_runEnd 4 (some .int) false 2 0 0 (eqP (some r) (shC bb) μ) 14 [some (.ref 41), none, some (.int v2), some (.int v3)] [] (shC bb) μ 0 0) {v2 v3 : Int32}  (h : f_X5_runEnd_j60 G μ r14 v2 v3 = some r) : Ev RX5 cX5_runEnd 4 (some .int) false 2 0 0 (eqP (some r) (shC bb) μ) 60 [some (.ref 41), none, some (.int v2), some (.int v3)] [] (shC bb) μ 0 0 := by
  unfold f_X5_runEnd_j60 at h
  refine ev_iinc (cq := (1 : Int32)) (loc' := [_, _, _, _]) dX5_runEnd_60 rfl (by decide) rfl (by decide) (by rfl) ?_
  refine ev_goto (tgt := 14) dX5_runEnd_63 (by decide) ?_
  exact ev_lt (hr14 _ _ h) ⟨rfl, ⟨rfl, ⟨rfl, trivial⟩⟩⟩
def f_X5_runEnd_L14 (G : Nat) (μ : Mem)  : Nat → Int32 → Int32 → Option Int32
  | 0, _, _ => none
  | g + 1, v2, v3 =>
  (if (μ 41 5) ≤ v3 then
  some v3
  else
  (if (400 : Int32) ≤ v3 then
  some v3
  else
  (if v2 = (0 : Int32) then
  chk v3 400 ((if (f_X5_isNumeral (μ 42 (ix v3))) = (0 : Int32) then
  some v3
  else
  f_X5_runEnd_j60 G μ (f_X5_runEnd_L14 G μ g) v2 v3))
  else
  chk v3 400 ((if (f_X5_isLetter (μ 42 (ix v3))) = (0 : Int32) then
  some v3
  else
  f_X5_runEnd_j60 G μ (f_X5_runEnd_L14 G μ g) v2 v3)))))
set_option maxHeartbeats 4000000 in
set_option maxRecDepth 100000 in
theorem f_X5_runEnd_L14_ok {bb : Bool} {G : Nat} {μ : Mem} {r : Int32}    : ∀ (g : Nat) (v2 v3 : Int32), f_X5_runEnd_L14 G μ g v2 v3 = some r → Ev RX5 cX5_runEnd 4 (some .int) false 2 0 0 (eqP (some r) (shC bb) μ) 14 [some (.ref 41), none, some (.int v2), some (.int v3)] [] (shC bb) μ 0 0 := by
  intro g
  induction g with
  | zero =>
    intro v2 v3 h
    cases h
  | succ g ih =>
    intro v2 v3 h
    rw [f_X5_runEnd_L14] at h
    refine ev_iload_n dX5_runEnd_14 rfl ?_
    refine ev_aload_n dX5_runEnd_15 rfl ?_
    refine ev_getI fr_X5_41 shC_41 rfl dX5_runEnd_16 ?_
    refine ev_icmp_ge (tgt := 66) dX5_runEnd_19 (by decide) (fun hc2 => ?_) (fun hc2 => ?_)
    · replace h := ite_t hc2 h
      refine ev_iload_n dX5_runEnd_66 rfl ?_
      exact ev_iret rfl rfl (by decide) (by decide) dX5_runEnd_67 (eqP_O h)
    · replace h := ite_f hc2 h
      refine ev_iload_n dX5_runEnd_22 rfl ?_
      refine ev_sipush (v := (400 : Int32)) dX5_runEnd_23 (by decide) ?_
      refine ev_icmp_ge (tgt := 66) dX5_runEnd_26 (by decide) (fun hc3 => ?_) (fun hc3 => ?_)
      · replace h := ite_t hc3 h
        refine ev_iload_n dX5_runEnd_66 rfl ?_
        exact ev_iret rfl rfl (by decide) (by decide) dX5_runEnd_67 (eqP_O h)
      · replace h := ite_f hc3 h
        refine ev_iload_n dX5_runEnd_29 rfl ?_
        refine ev_if_eq (tgt := 48) dX5_runEnd_30 (by decide) (fun hc4 => ?_) (fun hc4 => ?_)
        · replace h := ite_t hc4 h
          refine ev_aload_n dX5_runEnd_48 rfl ?_
          refine ev_getR fr_X5_9 shC_41 rfl dX5_runEnd_49 ?_
          refine ev_iload_n dX5_runEnd_52 rfl ?_
          obtain ⟨hi5, h⟩ := chk_t h
          refine ev_iald shC_42 hi5 dX5_runEnd_53 ?_
          refine ev_cSi mv_X5_95 dX5_runEnd_54 c_X5_isNumeral rfl rfl (Nat.le_of_ble_eq_true rfl) (by rfl) (Nat.le_of_ble_eq_true rfl) (Nat.le_of_ble_eq_true rfl) (Nat.le_of_ble_eq_true rfl) ?_
          refine ev_if_eq (tgt := 66) dX5_runEnd_57 (by decide) (fun hc6 => ?_) (fun hc6 => ?_)
          · replace h := ite_t hc6 h
            refine ev_iload_n dX5_runEnd_66 rfl ?_
            exact ev_iret rfl rfl (by decide) (by decide) dX5_runEnd_67 (eqP_O h)
          · replace h := ite_f hc6 h
            exact ev_lt (f_X5_runEnd_j60_ok ih h) ⟨rfl, ⟨rfl, ⟨rfl, trivial⟩⟩⟩
        · replace h := ite_f hc4 h
          refine ev_aload_n dX5_runEnd_33 rfl ?_
          refine ev_getR fr_X5_9 shC_41 rfl dX5_runEnd_34 ?_
          refine ev_iload_n dX5_runEnd_37 rfl ?_
          obtain ⟨hi7, h⟩ := chk_t h
          refine ev_iald shC_42 hi7 dX5_runEnd_38 ?_
          refine ev_cSi mv_X5_91 dX5_runEnd_39 c_X5_isLetter rfl rfl (Nat.le_of_ble_eq_true rfl) (by rfl) (Nat.le_of_ble_eq_true rfl) (Nat.le_of_ble_eq_true rfl) (Nat.le_of_ble_eq_true rfl) ?_
          refine ev_if_eq (tgt := 66) dX5_runEnd_42 (by decide) (fun hc8 => ?_) (fun hc8 => ?_)
          · replace h := ite_t hc8 h
            refine ev_iload_n dX5_runEnd_66 rfl ?_
            exact ev_iret rfl rfl (by decide) (by decide) dX5_runEnd_67 (eqP_O h)
          · replace h := ite_f hc8 h
            refine ev_goto (tgt := 60) dX5_runEnd_45 (by decide) ?_
            exact ev_lt (f_X5_runEnd_j60_ok ih h) ⟨rfl, ⟨rfl, ⟨rfl, trivial⟩⟩⟩
def f_X5_runEnd (G : Nat) (μ : Mem) (p1 : Int32) : Option Int32 :=
  chk p1 400 (f_X5_runEnd_L14 G μ G (f_X5_isLetter (μ 42 (ix p1))) (p1 + (1 : Int32)))
set_option maxHeartbeats 4000000 in
set_option maxRecDepth 100000 in
theorem c_X5_runEnd {bb : Bool} {G : Nat} {μ : Mem}  {p1 : Int32} {r : Int32}  (h : f_X5_runEnd G μ p1 = some r) : Cn yX5_runEnd cX5_runEnd 4 (some .int) 2 0 0 [.ref 41, .int p1] (shC bb) μ (eqP (some r) (shC bb) μ) := by
  refine cn_of (own := RX5) (ini := false) (loc := [some (.ref 41), some (.int p1), none, none]) rfl (by decide) (fun q => by cases q) (Nat.le_of_ble_eq_true rfl) (by rfl) rfl ?_
  unfold f_X5_runEnd at h
  refine ev_aload_n dX5_runEnd_0 rfl ?_
  refine ev_getR fr_X5_9 shC_41 rfl dX5_runEnd_1 ?_
  refine ev_iload_n dX5_runEnd_4 rfl ?_
  obtain ⟨hi1, h⟩ := chk_t h
  refine ev_iald shC_42 hi1 dX5_runEnd_5 ?_
  refine ev_cSi mv_X5_91 dX5_runEnd_6 c_X5_isLetter rfl rfl (Nat.le_of_ble_eq_true rfl) (by rfl) (Nat.le_of_ble_eq_true rfl) (Nat.le_of_ble_eq_true rfl) (Nat.le_of_ble_eq_true rfl) ?_
  refine ev_istore_n (loc' := [_, _, _, _]) dX5_runEnd_9 rfl (by decide) (by rfl) ?_
  refine ev_iload_n dX5_runEnd_10 rfl ?_
  refine ev_iconst (v := (1 : Int32)) dX5_runEnd_11 (by decide) ?_
  refine ev_iadd dX5_runEnd_12 ?_
  refine ev_istore_n (loc' := [_, _, _, _]) dX5_runEnd_13 rfl (by decide) (by rfl) ?_
  exact ev_lt (f_X5_runEnd_L14_ok _ _ _ h) ⟨rfl, ⟨rfl, ⟨rfl, trivial⟩⟩⟩
def f_X5_number_L16 (G : Nat) (μ : Mem)  : Nat → Int32 → Int32 → Int32 → Option Int32
  | 0, _, _, _ => none
  | g + 1, v2, v3, v4 =>
  (if v2 ≤ v4 then
  some v3
  else
  (if (400 : Int32) ≤ v4 then
  some v3
  else
  chk v4 400 ((f_X5_number_L16 G μ g) v2 (((v3 * (10 : Int32)) + (μ 42 (ix v4))) - (48 : Int32)) (v4 + (1 : Int32)))))
set_option maxHeartbeats 4000000 in
set_option maxRecDepth 100000 in
theorem f_X5_number_L16_ok {bb : Bool} {G : Nat} {μ : Mem} {r : Int32}    : ∀ (g : Nat) (v2 v3 v4 : Int32), f_X5_number_L16 G μ g v2 v3 v4 = some r → Ev RX5 cX5_number 5 (some .int) false 1 0 0 (eqP (some r) (shC bb) μ) 16 [some (.ref 41), none, some (.int v2), some (.int v3), some (.int v4)] [] (shC bb) μ 0 0 := by
  intro g
  induction g with
  | zero =>
    intro v2 v3 v4 h
    cases h
  | succ g ih =>
    intro v2 v3 v4 h
    rw [f_X5_number_L16] at h
    refine ev_iload dX5_number_16 rfl ?_
    refine ev_iload_n dX5_number_18 rfl ?_
    refine ev_icmp_ge (tgt := 52) dX5_number_19 (by decide) (fun hc2 => ?_) (fun hc2 => ?_)
    · replace h := ite_t hc2 h
      refine ev_iload_n dX5_number_52 rfl ?_
      exact ev_iret rfl rfl (by decide) (by decide) dX5_number_53 (eqP_O h)
    · replace h := ite_f hc2 h
      refine ev_iload dX5_number_22 rfl ?_
      refine ev_sipush (v := (400 : Int32)) dX5_number_24 (by decide) ?_
      refine ev_icmp_ge (tgt := 52) dX5_number_27 (by decide) (fun hc3 => ?_) (fun hc3 => ?_)
      · replace h := ite_t hc3 h
        refine ev_iload_n dX5_number_52 rfl ?_
        exact ev_iret rfl rfl (by decide) (by decide) dX5_number_53 (eqP_O h)
      · replace h := ite_f hc3 h
        refine ev_iload_n dX5_number_30 rfl ?_
        refine ev_bipush (v := (10 : Int32)) dX5_number_31 (by decide) ?_
        refine ev_imul dX5_number_33 ?_
        refine ev_aload_n dX5_number_34 rfl ?_
        refine ev_getR fr_X5_9 shC_41 rfl dX5_number_35 ?_
        refine ev_iload dX5_number_38 rfl ?_
        obtain ⟨hi4, h⟩ := chk_t h
        refine ev_iald shC_42 hi4 dX5_number_40 ?_
        refine ev_iadd dX5_number_41 ?_
        refine ev_bipush (v := (48 : Int32)) dX5_number_42 (by decide) ?_
        refine ev_isub dX5_number_44 ?_
        refine ev_istore_n (loc' := [_, _, _, _, _]) dX5_number_45 rfl (by decide) (by rfl) ?_
        refine ev_iinc (cq := (1 : Int32)) (loc' := [_, _, _, _, _]) dX5_number_46 rfl (by decide) rfl (by decide) (by rfl) ?_
        refine ev_goto (tgt := 16) dX5_number_49 (by decide) ?_
        exact ev_lt (ih _ _ _ h) ⟨rfl, ⟨rfl, ⟨rfl, ⟨rfl, trivial⟩⟩⟩⟩
def f_X5_number (G : Nat) (μ : Mem) (p1 p2 : Int32) : Option Int32 :=
  (if (p2 - p1) ≤ (4 : Int32) then
  f_X5_number_L16 G μ G p2 (0 : Int32) p1
  else
  some (30001 : Int32))
set_option maxHeartbeats 4000000 in
set_option maxRecDepth 100000 in
theorem c_X5_number {bb : Bool} {G : Nat} {μ : Mem}  {p1 p2 : Int32} {r : Int32}  (h : f_X5_number G μ p1 p2 = some r) : Cn yX5_number cX5_number 5 (some .int) 1 0 0 [.ref 41, .int p1, .int p2] (shC bb) μ (eqP (some r) (shC bb) μ) := by
  refine cn_of (own := RX5) (ini := false) (loc := [some (.ref 41), some (.int p1), some (.int p2), none, none]) rfl (by decide) (fun q => by cases q) (Nat.le_of_ble_eq_true rfl) (by rfl) rfl ?_
  unfold f_X5_number at h
  refine ev_iload_n dX5_number_0 rfl ?_
  refine ev_iload_n dX5_number_1 rfl ?_
  refine ev_isub dX5_number_2 ?_
  refine ev_iconst (v := (4 : Int32)) dX5_number_3 (by decide) ?_
  refine ev_icmp_le (tgt := 11) dX5_number_4 (by decide) (fun hc1 => ?_) (fun hc1 => ?_)
  · replace h := ite_t hc1 h
    refine ev_iconst (v := (0 : Int32)) dX5_number_11 (by decide) ?_
    refine ev_istore_n (loc' := [_, _, _, _, _]) dX5_number_12 rfl (by decide) (by rfl) ?_
    refine ev_iload_n dX5_number_13 rfl ?_
    refine ev_istore (loc' := [_, _, _, _, _]) dX5_number_14 rfl (by decide) (by rfl) ?_
    exact ev_lt (f_X5_number_L16_ok _ _ _ _ h) ⟨rfl, ⟨rfl, ⟨rfl, ⟨rfl, trivial⟩⟩⟩⟩
  · replace h := ite_f hc1 h
    refine ev_sipush (v := (30001 : Int32)) dX5_number_7 (by decide) ?_
    exact ev_iret rfl rfl (by decide) (by decide) dX5_number_10 (eqP_O h)
def f_X5_isSpelled_L3 (G : Nat) (μ : Mem)  : Nat → Int32 → Int32 → Int32 → Int32 → Option Int32
  | 0, _, _, _, _ => none
  | g + 1, v1, v2, v3, v4 =>
  (if v3 ≤ v4 then
  some (1 : Int32)
  else
  (if (400 : Int32) ≤ v4 then
  some (1 : Int32)
  else
  (if (f_X11_isBelow ((v1 + v4) - v2) (131 : Int32)) = (0 : Int32) then
  some (0 : Int32)
  else
  chk ((v1 + v4) - v2) 131 (chk v4 400 ((if (keyC (ix ((v1 + v4) - v2))) = (μ 42 (ix v4)) then
  (f_X5_isSpelled_L3 G μ g) v1 v2 v3 (v4 + (1 : Int32))
  else
  some (0 : Int32)))))))
set_option maxHeartbeats 4000000 in
set_option maxRecDepth 100000 in
theorem f_X5_isSpelled_L3_ok {bb : Bool} {G : Nat} {μ : Mem} {r : Int32}    : ∀ (g : Nat) (v1 v2 v3 v4 : Int32), f_X5_isSpelled_L3 G μ g v1 v2 v3 v4 = some r → Ev RX5 cX5_isSpelled 6 (some .boolean) false 5 0 0 (eqP (some r) (shC bb) μ) 3 [some (.ref 41), some (.int v1), some (.int v2), some (.int v3), some (.int v4), none] [] (shC bb) μ 0 0 := by
  intro g
  induction g with
  | zero =>
    intro v1 v2 v3 v4 h
    cases h
  | succ g ih =>
    intro v1 v2 v3 v4 h
    rw [f_X5_isSpelled_L3] at h
    refine ev_iload dX5_isSpelled_3 rfl ?_
    refine ev_iload_n dX5_isSpelled_5 rfl ?_
    refine ev_icmp_ge (tgt := 63) dX5_isSpelled_6 (by decide) (fun hc1 => ?_) (fun hc1 => ?_)
    · replace h := ite_t hc1 h
      refine ev_iconst (v := (1 : Int32)) dX5_isSpelled_63 (by decide) ?_
      exact ev_iret rfl rfl (by decide) (by decide) dX5_isSpelled_64 (eqP_O h)
    · replace h := ite_f hc1 h
      refine ev_iload dX5_isSpelled_9 rfl ?_
      refine ev_sipush (v := (400 : Int32)) dX5_isSpelled_11 (by decide) ?_
      refine ev_icmp_ge (tgt := 63) dX5_isSpelled_14 (by decide) (fun hc2 => ?_) (fun hc2 => ?_)
      · replace h := ite_t hc2 h
        refine ev_iconst (v := (1 : Int32)) dX5_isSpelled_63 (by decide) ?_
        exact ev_iret rfl rfl (by decide) (by decide) dX5_isSpelled_64 (eqP_O h)
      · replace h := ite_f hc2 h
        refine ev_iload_n dX5_isSpelled_17 rfl ?_
        refine ev_iload dX5_isSpelled_18 rfl ?_
        refine ev_iadd dX5_isSpelled_20 ?_
        refine ev_iload_n dX5_isSpelled_21 rfl ?_
        refine ev_isub dX5_isSpelled_22 ?_
        refine ev_istore (loc' := [_, _, _, _, _, _]) dX5_isSpelled_23 rfl (by decide) (by rfl) ?_
        refine ev_iload dX5_isSpelled_25 rfl ?_
        refine ev_ldcK rfl dX5_isSpelled_27 ?_
        refine ev_cKi mv_X5_117 rfl dX5_isSpelled_29 c_J0_length rfl rfl (Nat.le_of_ble_eq_true rfl) (by rfl) (Nat.le_of_ble_eq_true rfl) (Nat.le_of_ble_eq_true rfl) (Nat.le_of_ble_eq_true rfl) ?_
        refine ev_cNi mv_X5_129 dX5_isSpelled_32 c_X11_isBelow rfl rfl (Nat.le_of_ble_eq_true rfl) (by rfl) (Nat.le_of_ble_eq_true rfl) (Nat.le_of_ble_eq_true rfl) (Nat.le_of_ble_eq_true rfl) ?_
        refine ev_if_eq (tgt := 55) dX5_isSpelled_35 (by decide) (fun hc3 => ?_) (fun hc3 => ?_)
        · replace h := ite_t hc3 h
          refine ev_iconst (v := (0 : Int32)) dX5_isSpelled_55 (by decide) ?_
          exact ev_iret rfl rfl (by decide) (by decide) dX5_isSpelled_56 (eqP_O h)
        · replace h := ite_f hc3 h
          refine ev_ldcK rfl dX5_isSpelled_38 ?_
          refine ev_iload dX5_isSpelled_40 rfl ?_
          obtain ⟨hi4, h⟩ := chk_t h
          refine ev_cKi mv_X5_121 rfl dX5_isSpelled_42 (c_J0_charAt hi4) rfl rfl (Nat.le_of_ble_eq_true rfl) (by rfl) (Nat.le_of_ble_eq_true rfl) (Nat.le_of_ble_eq_true rfl) (Nat.le_of_ble_eq_true rfl) ?_
          refine ev_aload_n dX5_isSpelled_45 rfl ?_
          refine ev_getR fr_X5_9 shC_41 rfl dX5_isSpelled_46 ?_
          refine ev_iload dX5_isSpelled_49 rfl ?_
          obtain ⟨hi5, h⟩ := chk_t h
          refine ev_iald shC_42 hi5 dX5_isSpelled_51 ?_
          refine ev_icmp_eq (tgt := 57) dX5_isSpelled_52 (by decide) (fun hc6 => ?_) (fun hc6 => ?_)
          · replace h := ite_t hc6 h
            refine ev_iinc (cq := (1 : Int32)) (loc' := [_, _, _, _, _, _]) dX5_isSpelled_57 rfl (by decide) rfl (by decide) (by rfl) ?_
            refine ev_goto (tgt := 3) dX5_isSpelled_60 (by decide) ?_
            exact ev_lt (ih _ _ _ _ h) ⟨rfl, ⟨rfl, ⟨rfl, ⟨rfl, ⟨rfl, trivial⟩⟩⟩⟩⟩
          · replace h := ite_f hc6 h
            refine ev_iconst (v := (0 : Int32)) dX5_isSpelled_55 (by decide) ?_
            exact ev_iret rfl rfl (by decide) (by decide) dX5_isSpelled_56 (eqP_O h)
def f_X5_isSpelled (G : Nat) (μ : Mem) (p1 p2 p3 : Int32) : Option Int32 :=
  f_X5_isSpelled_L3 G μ G p1 p2 p3 p2
set_option maxHeartbeats 4000000 in
set_option maxRecDepth 100000 in
theorem c_X5_isSpelled {bb : Bool} {G : Nat} {μ : Mem}  {p1 p2 p3 : Int32} {r : Int32}  (h : f_X5_isSpelled G μ p1 p2 p3 = some r) : Cn yX5_isSpelled cX5_isSpelled 6 (some .boolean) 5 0 0 [.ref 41, .int p1, .int p2, .int p3] (shC bb) μ (eqP (some r) (shC bb) μ) := by
  refine cn_of (own := RX5) (ini := false) (loc := [some (.ref 41), some (.int p1), some (.int p2), some (.int p3), none, none]) rfl (by decide) (fun q => by cases q) (Nat.le_of_ble_eq_true rfl) (by rfl) rfl ?_
  unfold f_X5_isSpelled at h
  refine ev_iload_n dX5_isSpelled_0 rfl ?_
  refine ev_istore (loc' := [_, _, _, _, _, _]) dX5_isSpelled_1 rfl (by decide) (by rfl) ?_
  exact ev_lt (f_X5_isSpelled_L3_ok _ _ _ _ _ h) ⟨rfl, ⟨rfl, ⟨rfl, ⟨rfl, ⟨rfl, trivial⟩⟩⟩⟩⟩
def f_X5_keyword_j67 (G : Nat) (μ : Mem) (r8 : Int32 → Int32 → Int32 → Int32 → Int32 → Option Int32) (v1 v2 v3 v4 v5 : Int32) : Option Int32 :=
  r8 v1 v2 v3 v4 (v5 + (1 : Int32))
set_option maxHeartbeats 4000000 in
set_option maxRecDepth 100000 in
theorem f_X5_keyword_j67_ok {bb : Bool} {G : Nat} {μ : Mem} {r : Int32}  {r8 : Int32 → Int32 → Int32 → Int32 → Int32 → Option Int32} (hr8 : ∀ (v1 : Int32) (v2 : Int32) (v3 : Int32) (v4 : Int32) (v5 : Int32), r8 v1 v2 v3 v4 v5 = some r → Ev RX5 cX5_keyword 6 (some .int) false 6 0 0 (eqP (some r) (shC bb) μ) 8 [some (.ref 41), some (.int v1), some (.int v2), some (.int v3), some (.int v4), some (.int v5)] [] (shC bb) μ 0 0) {v1 v2 v3 v4 v5 : Int32}  (h : f_X5_keyword_j67 G μ r8 v1 v2 v3 v4 v5 = some r) : Ev RX5 cX5_keyword 6 (some .int) false 6 0 0 (eqP (some r) (shC bb) μ) 67 [some (.ref 41), some (.int v1), some (.int v2), some (.int v3), some (.int v4), some (.int v5)] [] (shC bb) μ 0 0 := by
  unfold f_X5_keyword_j67 at h
  refine ev_iinc (cq := (1 : Int32)) (loc' := [_, _, _, _, _, _]) dX5_keyword_67 rfl (by decide) rfl (by decide) (by rfl) ?_
  refine ev_goto (tgt := 8) dX5_keyword_70 (by decide) ?_
  exact ev_lt (hr8 _ _ _ _ _ h) ⟨rfl, ⟨rfl, ⟨rfl, ⟨rfl, ⟨rfl, ⟨rfl, trivial⟩⟩⟩⟩⟩⟩
def f_X5_keyword_j58 (G : Nat) (μ : Mem) (r8 : Int32 → Int32 → Int32 → Int32 → Int32 → Option Int32) (v1 v2 v3 v5 : Int32) : Option Int32 :=
  f_X5_keyword_j67 G μ r8 v1 v2 (v3 + (1 : Int32)) (v5 + (1 : Int32)) v5
set_option maxHeartbeats 4000000 in
set_option maxRecDepth 100000 in
theorem f_X5_keyword_j58_ok {bb : Bool} {G : Nat} {μ : Mem} {r : Int32}  {r8 : Int32 → Int32 → Int32 → Int32 → Int32 → Option Int32} (hr8 : ∀ (v1 : Int32) (v2 : Int32) (v3 : Int32) (v4 : Int32) (v5 : Int32), r8 v1 v2 v3 v4 v5 = some r → Ev RX5 cX5_keyword 6 (some .int) false 6 0 0 (eqP (some r) (shC bb) μ) 8 [some (.ref 41), some (.int v1), some (.int v2), some (.int v3), some (.int v4), some (.int v5)] [] (shC bb) μ 0 0) {v1 v2 v3 v5 : Int32}  (h : f_X5_keyword_j58 G μ r8 v1 v2 v3 v5 = some r) : Ev RX5 cX5_keyword 6 (some .int) false 6 0 0 (eqP (some r) (shC bb) μ) 58 [some (.ref 41), some (.int v1), some (.int v2), some (.int v3), none, some (.int v5)] [] (shC bb) μ 0 0 := by
  unfold f_X5_keyword_j58 at h
  refine ev_iinc (cq := (1 : Int32)) (loc' := [_, _, _, _, _, _]) dX5_keyword_58 rfl (by decide) rfl (by decide) (by rfl) ?_
  refine ev_iload dX5_keyword_61 rfl ?_
  refine ev_iconst (v := (1 : Int32)) dX5_keyword_63 (by decide) ?_
  refine ev_iadd dX5_keyword_64 ?_
  refine ev_istore (loc' := [_, _, _, _, _, _]) dX5_keyword_65 rfl (by decide) (by rfl) ?_
  exact ev_lt (f_X5_keyword_j67_ok hr8 h) ⟨rfl, ⟨rfl, ⟨rfl, ⟨rfl, ⟨rfl, ⟨rfl, trivial⟩⟩⟩⟩⟩⟩
def f_X5_keyword_L8 (G : Nat) (μ : Mem)  : Nat → Int32 → Int32 → Int32 → Int32 → Int32 → Option Int32
  | 0, _, _, _, _, _ => none
  | g + 1, v1, v2, v3, v4, v5 =>
  (if (131 : Int32) ≤ v5 then
  some (30001 : Int32)
  else
  chk v5 131 ((if (keyC (ix v5)) = (32 : Int32) then
  (if (v5 - v4) = (v2 - v1) then
  bndO (f_X5_isSpelled G μ v4 v1 v2) (fun w6 =>
  (if w6 = (0 : Int32) then
  f_X5_keyword_j58 G μ (f_X5_keyword_L8 G μ g) v1 v2 v3 v5
  else
  some ((10000 : Int32) + v3)))
  else
  f_X5_keyword_j58 G μ (f_X5_keyword_L8 G μ g) v1 v2 v3 v5)
  else
  f_X5_keyword_j67 G μ (f_X5_keyword_L8 G μ g) v1 v2 v3 v4 v5)))
set_option maxHeartbeats 4000000 in
set_option maxRecDepth 100000 in
theorem f_X5_keyword_L8_ok {bb : Bool} {G : Nat} {μ : Mem} {r : Int32}    : ∀ (g : Nat) (v1 v2 v3 v4 v5 : Int32), f_X5_keyword_L8 G μ g v1 v2 v3 v4 v5 = some r → Ev RX5 cX5_keyword 6 (some .int) false 6 0 0 (eqP (some r) (shC bb) μ) 8 [some (.ref 41), some (.int v1), some (.int v2), some (.int v3), some (.int v4), some (.int v5)] [] (shC bb) μ 0 0 := by
  intro g
  induction g with
  | zero =>
    intro v1 v2 v3 v4 v5 h
    cases h
  | succ g ih =>
    intro v1 v2 v3 v4 v5 h
    rw [f_X5_keyword_L8] at h
    refine ev_iload dX5_keyword_8 rfl ?_
    refine ev_ldcK rfl dX5_keyword_10 ?_
    refine ev_cKi mv_X5_117 rfl dX5_keyword_12 c_J0_length rfl rfl (Nat.le_of_ble_eq_true rfl) (by rfl) (Nat.le_of_ble_eq_true rfl) (Nat.le_of_ble_eq_true rfl) (Nat.le_of_ble_eq_true rfl) ?_
    refine ev_icmp_ge (tgt := 73) dX5_keyword_15 (by decide) (fun hc1 => ?_) (fun hc1 => ?_)
    · replace h := ite_t hc1 h
      refine ev_sipush (v := (30001 : Int32)) dX5_keyword_73 (by decide) ?_
      exact ev_iret rfl rfl (by decide) (by decide) dX5_keyword_76 (eqP_O h)
    · replace h := ite_f hc1 h
      refine ev_ldcK rfl dX5_keyword_18 ?_
      refine ev_iload dX5_keyword_20 rfl ?_
      obtain ⟨hi2, h⟩ := chk_t h
      refine ev_cKi mv_X5_121 rfl dX5_keyword_22 (c_J0_charAt hi2) rfl rfl (Nat.le_of_ble_eq_true rfl) (by rfl) (Nat.le_of_ble_eq_true rfl) (Nat.le_of_ble_eq_true rfl) (Nat.le_of_ble_eq_true rfl) ?_
      refine ev_bipush (v := (32 : Int32)) dX5_keyword_25 (by decide) ?_
      refine ev_icmp_ne (tgt := 67) dX5_keyword_27 (by decide) (fun hc3 => ?_) (fun hc3 => ?_)
      · replace h := ite_f hc3 h
        exact ev_lt (f_X5_keyword_j67_ok ih h) ⟨rfl, ⟨rfl, ⟨rfl, ⟨rfl, ⟨rfl, ⟨rfl, trivial⟩⟩⟩⟩⟩⟩
      · replace h := ite_t hc3 h
        refine ev_iload dX5_keyword_30 rfl ?_
        refine ev_iload dX5_keyword_32 rfl ?_
        refine ev_isub dX5_keyword_34 ?_
        refine ev_iload_n dX5_keyword_35 rfl ?_
        refine ev_iload_n dX5_keyword_36 rfl ?_
        refine ev_isub dX5_keyword_37 ?_
        refine ev_icmp_ne (tgt := 58) dX5_keyword_38 (by decide) (fun hc4 => ?_) (fun hc4 => ?_)
        · replace h := ite_f hc4 h
          exact ev_lt (f_X5_keyword_j58_ok ih h) ⟨rfl, ⟨rfl, ⟨rfl, ⟨rfl, ⟨rfl, trivial⟩⟩⟩⟩⟩
        · replace h := ite_t hc4 h
          refine ev_aload_n dX5_keyword_41 rfl ?_
          refine ev_iload dX5_keyword_42 rfl ?_
          refine ev_iload_n dX5_keyword_44 rfl ?_
          refine ev_iload_n dX5_keyword_45 rfl ?_
          obtain ⟨w6, hq5, h⟩ := bndO_t h
          refine ev_cVi mv_X5_125 dX5_keyword_46 (c_X5_isSpelled hq5) rfl shC_41 rfl rfl (Nat.le_of_ble_eq_true rfl) (by rfl) (Nat.le_of_ble_eq_true rfl) (Nat.le_of_ble_eq_true rfl) (Nat.le_of_ble_eq_true rfl) ?_
          refine ev_if_eq (tgt := 58) dX5_keyword_49 (by decide) (fun hc7 => ?_) (fun hc7 => ?_)
          · replace h := ite_t hc7 h
            exact ev_lt (f_X5_keyword_j58_ok ih h) ⟨rfl, ⟨rfl, ⟨rfl, ⟨rfl, ⟨rfl, trivial⟩⟩⟩⟩⟩
          · replace h := ite_f hc7 h
            refine ev_sipush (v := (10000 : Int32)) dX5_keyword_52 (by decide) ?_
            refine ev_iload_n dX5_keyword_55 rfl ?_
            refine ev_iadd dX5_keyword_56 ?_
            exact ev_iret rfl rfl (by decide) (by decide) dX5_keyword_57 (eqP_O h)
def f_X5_keyword (G : Nat) (μ : Mem) (p1 p2 : Int32) : Option Int32 :=
  f_X5_keyword_L8 G μ G p1 p2 (0 : Int32) (0 : Int32) (0 : Int32)
set_option maxHeartbeats 4000000 in
set_option maxRecDepth 100000 in
theorem c_X5_keyword {bb : Bool} {G : Nat} {μ : Mem}  {p1 p2 : Int32} {r : Int32}  (h : f_X5_keyword G μ p1 p2 = some r) : Cn yX5_keyword cX5_keyword 6 (some .int) 6 0 0 [.ref 41, .int p1, .int p2] (shC bb) μ (eqP (some r) (shC bb) μ) := by
  refine cn_of (own := RX5) (ini := false) (loc := [some (.ref 41), some (.int p1), some (.int p2), none, none, none]) rfl (by decide) (fun q => by cases q) (Nat.le_of_ble_eq_true rfl) (by rfl) rfl ?_
  unfold f_X5_keyword at h
  refine ev_iconst (v := (0 : Int32)) dX5_keyword_0 (by decide) ?_
  refine ev_istore_n (loc' := [_, _, _, _, _, _]) dX5_keyword_1 rfl (by decide) (by rfl) ?_
  refine ev_iconst (v := (0 : Int32)) dX5_keyword_2 (by decide) ?_
  refine ev_istore (loc' := [_, _, _, _, _, _]) dX5_keyword_3 rfl (by decide) (by rfl) ?_
  refine ev_iconst (v := (0 : Int32)) dX5_keyword_5 (by decide) ?_
  refine ev_istore (loc' := [_, _, _, _, _, _]) dX5_keyword_6 rfl (by decide) (by rfl) ?_
  exact ev_lt (f_X5_keyword_L8_ok _ _ _ _ _ _ h) ⟨rfl, ⟨rfl, ⟨rfl, ⟨rfl, ⟨rfl, ⟨rfl, trivial⟩⟩⟩⟩⟩⟩
def f_X10_ofSign  (p1 : Int32) : Int32 :=
  (if p1 = (40 : Int32) then
  ((20000 : Int32) + p1)
  else
  (if p1 = (41 : Int32) then
  ((20000 : Int32) + p1)
  else
  (if p1 = (42 : Int32) then
  ((20000 : Int32) + p1)
  else
  (if p1 = (43 : Int32) then
  ((20000 : Int32) + p1)
  else
  (if p1 = (45 : Int32) then
  ((20000 : Int32) + p1)
  else
  (if p1 = (47 : Int32) then
  ((20000 : Int32) + p1)
  else
  (if p1 = (59 : Int32) then
  ((20000 : Int32) + p1)
  else
  (if p1 = (60 : Int32) then
  ((20000 : Int32) + p1)
  else
  (if p1 = (61 : Int32) then
  ((20000 : Int32) + p1)
  else
  (if p1 = (62 : Int32) then
  ((20000 : Int32) + p1)
  else
  (30001 : Int32)))))))))))
set_option maxHeartbeats 4000000 in
set_option maxRecDepth 100000 in
theorem c_X10_ofSign {sh : List Shp}  {μ : Mem} {p1 : Int32}  : Cn yX10_ofSign cX10_ofSign 1 (some .int) 1 0 0 [.int p1] sh μ (eqP (some (f_X10_ofSign p1)) sh μ) := by
  obtain ⟨r, h⟩ : ∃ r, f_X10_ofSign p1 = r := ⟨_, rfl⟩
  rw [h]
  refine cn_of (own := RX10) (ini := false) (loc := [some (.int p1)]) rfl (by decide) (fun q => by cases q) (Nat.le_of_ble_eq_true rfl) (by rfl) rfl ?_
  unfold f_X10_ofSign at h
  refine ev_iload_n dX10_ofSign_0 rfl ?_
  refine ev_em (v := (40 : Int32)) (fun hc1 => ?_) (fun hc1 => ?_)
  · replace h := ite_t hc1 h
    refine ev_tsC (v := (40 : Int32)) (off := 107) (tgt := 108) dX10_ofSign_1 (by decide) hc1 (by decide) (by decide) ?_
    refine ev_sipush (v := (20000 : Int32)) dX10_ofSign_108 (by decide) ?_
    refine ev_iload_n dX10_ofSign_111 rfl ?_
    refine ev_iadd dX10_ofSign_112 ?_
    exact ev_iret rfl rfl (by decide) (by decide) dX10_ofSign_113 (eqP_P h)
  · replace h := ite_f hc1 h
    refine ev_em (v := (41 : Int32)) (fun hc2 => ?_) (fun hc2 => ?_)
    · replace h := ite_t hc2 h
      refine ev_tsC (v := (41 : Int32)) (off := 107) (tgt := 108) dX10_ofSign_1 (by decide) hc2 (by decide) (by decide) ?_
      refine ev_sipush (v := (20000 : Int32)) dX10_ofSign_108 (by decide) ?_
      refine ev_iload_n dX10_ofSign_111 rfl ?_
      refine ev_iadd dX10_ofSign_112 ?_
      exact ev_iret rfl rfl (by decide) (by decide) dX10_ofSign_113 (eqP_P h)
    · replace h := ite_f hc2 h
      refine ev_em (v := (42 : Int32)) (fun hc3 => ?_) (fun hc3 => ?_)
      · replace h := ite_t hc3 h
        refine ev_tsC (v := (42 : Int32)) (off := 107) (tgt := 108) dX10_ofSign_1 (by decide) hc3 (by decide) (by decide) ?_
        refine ev_sipush (v := (20000 : Int32)) dX10_ofSign_108 (by decide) ?_
        refine ev_iload_n dX10_ofSign_111 rfl ?_
        refine ev_iadd dX10_ofSign_112 ?_
        exact ev_iret rfl rfl (by decide) (by decide) dX10_ofSign_113 (eqP_P h)
      · replace h := ite_f hc3 h
        refine ev_em (v := (43 : Int32)) (fun hc4 => ?_) (fun hc4 => ?_)
        · replace h := ite_t hc4 h
          refine ev_tsC (v := (43 : Int32)) (off := 107) (tgt := 108) dX10_ofSign_1 (by decide) hc4 (by decide) (by decide) ?_
          refine ev_sipush (v := (20000 : Int32)) dX10_ofSign_108 (by decide) ?_
          refine ev_iload_n dX10_ofSign_111 rfl ?_
          refine ev_iadd dX10_ofSign_112 ?_
          exact ev_iret rfl rfl (by decide) (by decide) dX10_ofSign_113 (eqP_P h)
        · replace h := ite_f hc4 h
          refine ev_em (v := (45 : Int32)) (fun hc5 => ?_) (fun hc5 => ?_)
          · replace h := ite_t hc5 h
            refine ev_tsC (v := (45 : Int32)) (off := 107) (tgt := 108) dX10_ofSign_1 (by decide) hc5 (by decide) (by decide) ?_
            refine ev_sipush (v := (20000 : Int32)) dX10_ofSign_108 (by decide) ?_
            refine ev_iload_n dX10_ofSign_111 rfl ?_
            refine ev_iadd dX10_ofSign_112 ?_
            exact ev_iret rfl rfl (by decide) (by decide) dX10_ofSign_113 (eqP_P h)
          · replace h := ite_f hc5 h
            refine ev_em (v := (47 : Int32)) (fun hc6 => ?_) (fun hc6 => ?_)
            · replace h := ite_t hc6 h
              refine ev_tsC (v := (47 : Int32)) (off := 107) (tgt := 108) dX10_ofSign_1 (by decide) hc6 (by decide) (by decide) ?_
              refine ev_sipush (v := (20000 : Int32)) dX10_ofSign_108 (by decide) ?_
              refine ev_iload_n dX10_ofSign_111 rfl ?_
              refine ev_iadd dX10_ofSign_112 ?_
              exact ev_iret rfl rfl (by decide) (by decide) dX10_ofSign_113 (eqP_P h)
            · replace h := ite_f hc6 h
              refine ev_em (v := (59 : Int32)) (fun hc7 => ?_) (fun hc7 => ?_)
              · replace h := ite_t hc7 h
                refine ev_tsC (v := (59 : Int32)) (off := 107) (tgt := 108) dX10_ofSign_1 (by decide) hc7 (by decide) (by decide) ?_
                refine ev_sipush (v := (20000 : Int32)) dX10_ofSign_108 (by decide) ?_
                refine ev_iload_n dX10_ofSign_111 rfl ?_
                refine ev_iadd dX10_ofSign_112 ?_
                exact ev_iret rfl rfl (by decide) (by decide) dX10_ofSign_113 (eqP_P h)
              · replace h := ite_f hc7 h
                refine ev_em (v := (60 : Int32)) (fun hc8 => ?_) (fun hc8 => ?_)
                · replace h := ite_t hc8 h
                  refine ev_tsC (v := (60 : Int32)) (off := 107) (tgt := 108) dX10_ofSign_1 (by decide) hc8 (by decide) (by decide) ?_
                  refine ev_sipush (v := (20000 : Int32)) dX10_ofSign_108 (by decide) ?_
                  refine ev_iload_n dX10_ofSign_111 rfl ?_
                  refine ev_iadd dX10_ofSign_112 ?_
                  exact ev_iret rfl rfl (by decide) (by decide) dX10_ofSign_113 (eqP_P h)
                · replace h := ite_f hc8 h
                  refine ev_em (v := (61 : Int32)) (fun hc9 => ?_) (fun hc9 => ?_)
                  · replace h := ite_t hc9 h
                    refine ev_tsC (v := (61 : Int32)) (off := 107) (tgt := 108) dX10_ofSign_1 (by decide) hc9 (by decide) (by decide) ?_
                    refine ev_sipush (v := (20000 : Int32)) dX10_ofSign_108 (by decide) ?_
                    refine ev_iload_n dX10_ofSign_111 rfl ?_
                    refine ev_iadd dX10_ofSign_112 ?_
                    exact ev_iret rfl rfl (by decide) (by decide) dX10_ofSign_113 (eqP_P h)
                  · replace h := ite_f hc9 h
                    refine ev_em (v := (62 : Int32)) (fun hc10 => ?_) (fun hc10 => ?_)
                    · replace h := ite_t hc10 h
                      refine ev_tsC (v := (62 : Int32)) (off := 107) (tgt := 108) dX10_ofSign_1 (by decide) hc10 (by decide) (by decide) ?_
                      refine ev_sipush (v := (20000 : Int32)) dX10_ofSign_108 (by decide) ?_
                      refine ev_iload_n dX10_ofSign_111 rfl ?_
                      refine ev_iadd dX10_ofSign_112 ?_
                      exact ev_iret rfl rfl (by decide) (by decide) dX10_ofSign_113 (eqP_P h)
                    · replace h := ite_f hc10 h
                      refine ev_tsE (tgt := 114) dX10_ofSign_1 (by decide) ⟨Or.inr hc1, ⟨Or.inr hc2, ⟨Or.inr hc3, ⟨Or.inr hc4, ⟨Or.inl rfl, ⟨Or.inr hc5, ⟨Or.inl rfl, ⟨Or.inr hc6, ⟨Or.inl rfl, ⟨Or.inl rfl, ⟨Or.inl rfl, ⟨Or.inl rfl, ⟨Or.inl rfl, ⟨Or.inl rfl, ⟨Or.inl rfl, ⟨Or.inl rfl, ⟨Or.inl rfl, ⟨Or.inl rfl, ⟨Or.inl rfl, ⟨Or.inr hc7, ⟨Or.inr hc8, ⟨Or.inr hc9, ⟨Or.inr hc10, trivial⟩⟩⟩⟩⟩⟩⟩⟩⟩⟩⟩⟩⟩⟩⟩⟩⟩⟩⟩⟩⟩⟩⟩ (by decide) ?_
                      refine ev_sipush (v := (30001 : Int32)) dX10_ofSign_114 (by decide) ?_
                      exact ev_iret rfl rfl (by decide) (by decide) dX10_ofSign_117 (eqP_P h)
def f_X5_splitTape_j110 (G : Nat) (r9 : Int32 → Int32 → Mem → Option Mem) (v2 v4 : Int32) (μ : Mem) : Option Mem :=
  r9 v4 (v2 + (1 : Int32)) μ
set_option maxHeartbeats 4000000 in
set_option maxRecDepth 100000 in
theorem f_X5_splitTape_j110_ok {bb : Bool} {G : Nat} {μr : Mem}  {r9 : Int32 → Int32 → Mem → Option Mem} (hr9 : ∀ (v1 : Int32) (v2 : Int32) (m : Mem), r9 v1 v2 m = some μr → Ev RX5 cX5_splitTape 5 none false 7 0 0 (eqP none (shC bb) μr) 9 [some (.ref 41), some (.int v1), some (.int v2), none, none] [] (shC bb) m 0 0) {v2 v4 : Int32} {μ : Mem} (h : f_X5_splitTape_j110 G r9 v2 v4 μ = some μr) : Ev RX5 cX5_splitTape 5 none false 7 0 0 (eqP none (shC bb) μr) 110 [some (.ref 41), none, some (.int v2), none, some (.int v4)] [] (shC bb) μ 0 0 := by
  unfold f_X5_splitTape_j110 at h
  refine ev_iload dX5_splitTape_110 rfl ?_
  refine ev_istore_n (loc' := [_, _, _, _, _]) dX5_splitTape_112 rfl (by decide) (by rfl) ?_
  refine ev_iinc (cq := (1 : Int32)) (loc' := [_, _, _, _, _]) dX5_splitTape_113 rfl (by decide) rfl (by decide) (by rfl) ?_
  refine ev_goto (tgt := 9) dX5_splitTape_116 (by decide) ?_
  exact ev_lt (hr9 _ _ _ h) ⟨rfl, ⟨rfl, ⟨rfl, trivial⟩⟩⟩
def f_X5_splitTape_j82 (G : Nat) (r9 : Int32 → Int32 → Mem → Option Mem) (v1 v2 v4 s0 : Int32) (μ : Mem) : Option Mem :=
  bndV (f_X5_addToken G s0 v1 μ) (fun m18 =>
  f_X5_splitTape_j110 G r9 v2 v4 m18)
set_option maxHeartbeats 4000000 in
set_option maxRecDepth 100000 in
theorem f_X5_splitTape_j82_ok {bb : Bool} {G : Nat} {μr : Mem}  {r9 : Int32 → Int32 → Mem → Option Mem} (hr9 : ∀ (v1 : Int32) (v2 : Int32) (m : Mem), r9 v1 v2 m = some μr → Ev RX5 cX5_splitTape 5 none false 7 0 0 (eqP none (shC bb) μr) 9 [some (.ref 41), some (.int v1), some (.int v2), none, none] [] (shC bb) m 0 0) {v1 v2 v4 s0 : Int32} {μ : Mem} (h : f_X5_splitTape_j82 G r9 v1 v2 v4 s0 μ = some μr) : Ev RX5 cX5_splitTape 5 none false 7 0 0 (eqP none (shC bb) μr) 82 [some (.ref 41), some (.int v1), some (.int v2), none, some (.int v4)] [.int s0, .ref 41] (shC bb) μ 0 0 := by
  unfold f_X5_splitTape_j82 at h
  refine ev_iload_n dX5_splitTape_82 rfl ?_
  obtain ⟨m18, hq17, h⟩ := bndV_t h
  refine ev_cVv mv_X5_109 dX5_splitTape_83 (c_X5_addToken hq17) rfl shC_41 rfl rfl (Nat.le_of_ble_eq_true rfl) (by rfl) (Nat.le_of_ble_eq_true rfl) (Nat.le_of_ble_eq_true rfl) (Nat.le_of_ble_eq_true rfl) ?_
  refine ev_goto (tgt := 110) dX5_splitTape_86 (by decide) ?_
  exact ev_lt (f_X5_splitTape_j110_ok hr9 h) ⟨rfl, ⟨rfl, ⟨rfl, trivial⟩⟩⟩
def f_X5_splitTape_j50 (G : Nat) (r9 : Int32 → Int32 → Mem → Option Mem) (v1 v2 v3 : Int32) (μ : Mem) : Option Mem :=
  bndO (f_X5_runEnd G μ v1) (fun w13 =>
  (if (f_X5_isLetter v3) = (0 : Int32) then
  bndO (f_X5_number G μ v1 w13) (fun w16 =>
  f_X5_splitTape_j82 G r9 v1 v2 w13 w16 μ)
  else
  bndO (f_X5_keyword G μ v1 w13) (fun w20 =>
  f_X5_splitTape_j82 G r9 v1 v2 w13 w20 μ)))
set_option maxHeartbeats 4000000 in
set_option maxRecDepth 100000 in
theorem f_X5_splitTape_j50_ok {bb : Bool} {G : Nat} {μr : Mem}  {r9 : Int32 → Int32 → Mem → Option Mem} (hr9 : ∀ (v1 : Int32) (v2 : Int32) (m : Mem), r9 v1 v2 m = some μr → Ev RX5 cX5_splitTape 5 none false 7 0 0 (eqP none (shC bb) μr) 9 [some (.ref 41), some (.int v1), some (.int v2), none, none] [] (shC bb) m 0 0) {v1 v2 v3 : Int32} {μ : Mem} (h : f_X5_splitTape_j50 G r9 v1 v2 v3 μ = some μr) : Ev RX5 cX5_splitTape 5 none false 7 0 0 (eqP none (shC bb) μr) 50 [some (.ref 41), some (.int v1), some (.int v2), some (.int v3), none] [] (shC bb) μ 0 0 := by
  unfold f_X5_splitTape_j50 at h
  refine ev_aload_n dX5_splitTape_50 rfl ?_
  refine ev_iload_n dX5_splitTape_51 rfl ?_
  obtain ⟨w13, hq12, h⟩ := bndO_t h
  refine ev_cVi mv_X5_98 dX5_splitTape_52 (c_X5_runEnd hq12) rfl shC_41 rfl rfl (Nat.le_of_ble_eq_true rfl) (by rfl) (Nat.le_of_ble_eq_true rfl) (Nat.le_of_ble_eq_true rfl) (Nat.le_of_ble_eq_true rfl) ?_
  refine ev_istore (loc' := [_, _, _, _, _]) dX5_splitTape_55 rfl (by decide) (by rfl) ?_
  refine ev_aload_n dX5_splitTape_57 rfl ?_
  refine ev_iload_n dX5_splitTape_58 rfl ?_
  refine ev_cSi mv_X5_91 dX5_splitTape_59 c_X5_isLetter rfl rfl (Nat.le_of_ble_eq_true rfl) (by rfl) (Nat.le_of_ble_eq_true rfl) (Nat.le_of_ble_eq_true rfl) (Nat.le_of_ble_eq_true rfl) ?_
  refine ev_if_eq (tgt := 75) dX5_splitTape_62 (by decide) (fun hc14 => ?_) (fun hc14 => ?_)
  · replace h := ite_t hc14 h
    refine ev_aload_n dX5_splitTape_75 rfl ?_
    refine ev_iload_n dX5_splitTape_76 rfl ?_
    refine ev_iload dX5_splitTape_77 rfl ?_
    obtain ⟨w16, hq15, h⟩ := bndO_t h
    refine ev_cVi mv_X5_106 dX5_splitTape_79 (c_X5_number hq15) rfl shC_41 rfl rfl (Nat.le_of_ble_eq_true rfl) (by rfl) (Nat.le_of_ble_eq_true rfl) (Nat.le_of_ble_eq_true rfl) (Nat.le_of_ble_eq_true rfl) ?_
    exact ev_lt (f_X5_splitTape_j82_ok hr9 h) ⟨rfl, ⟨rfl, ⟨rfl, ⟨rfl, trivial⟩⟩⟩⟩
  · replace h := ite_f hc14 h
    refine ev_aload_n dX5_splitTape_65 rfl ?_
    refine ev_iload_n dX5_splitTape_66 rfl ?_
    refine ev_iload dX5_splitTape_67 rfl ?_
    obtain ⟨w20, hq19, h⟩ := bndO_t h
    refine ev_cVi mv_X5_102 dX5_splitTape_69 (c_X5_keyword hq19) rfl shC_41 rfl rfl (Nat.le_of_ble_eq_true rfl) (by rfl) (Nat.le_of_ble_eq_true rfl) (Nat.le_of_ble_eq_true rfl) (Nat.le_of_ble_eq_true rfl) ?_
    refine ev_goto (tgt := 82) dX5_splitTape_72 (by decide) ?_
    exact ev_lt (f_X5_splitTape_j82_ok hr9 h) ⟨rfl, ⟨rfl, ⟨rfl, ⟨rfl, trivial⟩⟩⟩⟩
def f_X5_splitTape_L9 (G : Nat)  : Nat → Int32 → Int32 → Mem → Option Mem
  | 0, _, _, _ => none
  | g + 1, v1, v2, μ =>
  (if (400 : Int32) ≤ v2 then
  bndV (f_X5_addToken G (30000 : Int32) (μ 41 5) μ) (fun m4 =>
  (let m5 := wr m4 41 5 (0 : Int32)
  some m5))
  else
  (if (μ 41 5) ≤ v1 then
  bndV (f_X5_addToken G (30000 : Int32) (μ 41 5) μ) (fun m8 =>
  (let m9 := wr m8 41 5 (0 : Int32)
  some m9))
  else
  chk v1 400 ((if (f_X5_isLetter (μ 42 (ix v1))) = (0 : Int32) then
  (if (f_X5_isNumeral (μ 42 (ix v1))) = (0 : Int32) then
  (if (μ 42 (ix v1)) = (32 : Int32) then
  f_X5_splitTape_j110 G (f_X5_splitTape_L9 G g) v2 (v1 + (1 : Int32)) μ
  else
  (if (μ 42 (ix v1)) = (10 : Int32) then
  f_X5_splitTape_j110 G (f_X5_splitTape_L9 G g) v2 (v1 + (1 : Int32)) μ
  else
  bndV (f_X5_addToken G (f_X10_ofSign (μ 42 (ix v1))) v1 μ) (fun m25 =>
  f_X5_splitTape_j110 G (f_X5_splitTape_L9 G g) v2 (v1 + (1 : Int32)) m25)))
  else
  f_X5_splitTape_j50 G (f_X5_splitTape_L9 G g) v1 v2 (μ 42 (ix v1)) μ)
  else
  f_X5_splitTape_j50 G (f_X5_splitTape_L9 G g) v1 v2 (μ 42 (ix v1)) μ))))
set_option maxHeartbeats 4000000 in
set_option maxRecDepth 100000 in
theorem f_X5_splitTape_L9_ok {bb : Bool} {G : Nat} {μr : Mem}    : ∀ (g : Nat) (v1 v2 : Int32) (μ : Mem), f_X5_splitTape_L9 G g v1 v2 μ = some μr → Ev RX5 cX5_splitTape 5 none false 7 0 0 (eqP none (shC bb) μr) 9 [some (.ref 41), some (.int v1), some (.int v2), none, none] [] (shC bb) μ 0 0 := by
  intro g
  induction g with
  | zero =>
    intro v1 v2 μ h
    cases h
  | succ g ih =>
    intro v1 v2 μ h
    rw [f_X5_splitTape_L9] at h
    refine ev_iload_n dX5_splitTape_9 rfl ?_
    refine ev_sipush (v := (400 : Int32)) dX5_splitTape_10 (by decide) ?_
    refine ev_icmp_ge (tgt := 119) dX5_splitTape_13 (by decide) (fun hc2 => ?_) (fun hc2 => ?_)
    · replace h := ite_t hc2 h
      refine ev_aload_n dX5_splitTape_119 rfl ?_
      refine ev_sipush (v := (30000 : Int32)) dX5_splitTape_120 (by decide) ?_
      refine ev_aload_n dX5_splitTape_123 rfl ?_
      refine ev_getI fr_X5_41 shC_41 rfl dX5_splitTape_124 ?_
      obtain ⟨m4, hq3, h⟩ := bndV_t h
      refine ev_cVv mv_X5_109 dX5_splitTape_127 (c_X5_addToken hq3) rfl shC_41 rfl rfl (Nat.le_of_ble_eq_true rfl) (by rfl) (Nat.le_of_ble_eq_true rfl) (Nat.le_of_ble_eq_true rfl) (Nat.le_of_ble_eq_true rfl) ?_
      refine ev_aload_n dX5_splitTape_130 rfl ?_
      refine ev_iconst (v := (0 : Int32)) dX5_splitTape_131 (by decide) ?_
      refine ev_putI fr_X5_41 shC_41 rfl rfl rfl dX5_splitTape_132 ?_
      exact ev_vret rfl (by decide) (by decide) dX5_splitTape_135 (eqP_V h)
    · replace h := ite_f hc2 h
      refine ev_iload_n dX5_splitTape_16 rfl ?_
      refine ev_aload_n dX5_splitTape_17 rfl ?_
      refine ev_getI fr_X5_41 shC_41 rfl dX5_splitTape_18 ?_
      refine ev_icmp_ge (tgt := 119) dX5_splitTape_21 (by decide) (fun hc6 => ?_) (fun hc6 => ?_)
      · replace h := ite_t hc6 h
        refine ev_aload_n dX5_splitTape_119 rfl ?_
        refine ev_sipush (v := (30000 : Int32)) dX5_splitTape_120 (by decide) ?_
        refine ev_aload_n dX5_splitTape_123 rfl ?_
        refine ev_getI fr_X5_41 shC_41 rfl dX5_splitTape_124 ?_
        obtain ⟨m8, hq7, h⟩ := bndV_t h
        refine ev_cVv mv_X5_109 dX5_splitTape_127 (c_X5_addToken hq7) rfl shC_41 rfl rfl (Nat.le_of_ble_eq_true rfl) (by rfl) (Nat.le_of_ble_eq_true rfl) (Nat.le_of_ble_eq_true rfl) (Nat.le_of_ble_eq_true rfl) ?_
        refine ev_aload_n dX5_splitTape_130 rfl ?_
        refine ev_iconst (v := (0 : Int32)) dX5_splitTape_131 (by decide) ?_
        refine ev_putI fr_X5_41 shC_41 rfl rfl rfl dX5_splitTape_132 ?_
        exact ev_vret rfl (by decide) (by decide) dX5_splitTape_135 (eqP_V h)
      · replace h := ite_f hc6 h
        refine ev_aload_n dX5_splitTape_24 rfl ?_
        refine ev_getR fr_X5_9 shC_41 rfl dX5_splitTape_25 ?_
        refine ev_iload_n dX5_splitTape_28 rfl ?_
        obtain ⟨hi10, h⟩ := chk_t h
        refine ev_iald shC_42 hi10 dX5_splitTape_29 ?_
        refine ev_istore_n (loc' := [_, _, _, _, _]) dX5_splitTape_30 rfl (by decide) (by rfl) ?_
        refine ev_iload_n dX5_splitTape_31 rfl ?_
        refine ev_iconst (v := (1 : Int32)) dX5_splitTape_32 (by decide) ?_
        refine ev_iadd dX5_splitTape_33 ?_
        refine ev_istore (loc' := [_, _, _, _, _]) dX5_splitTape_34 rfl (by decide) (by rfl) ?_
        refine ev_iload_n dX5_splitTape_36 rfl ?_
        refine ev_cSi mv_X5_91 dX5_splitTape_37 c_X5_isLetter rfl rfl (Nat.le_of_ble_eq_true rfl) (by rfl) (Nat.le_of_ble_eq_true rfl) (Nat.le_of_ble_eq_true rfl) (Nat.le_of_ble_eq_true rfl) ?_
        refine ev_if_ne (tgt := 50) dX5_splitTape_40 (by decide) (fun hc11 => ?_) (fun hc11 => ?_)
        · replace h := ite_f hc11 h
          exact ev_lt (f_X5_splitTape_j50_ok ih h) ⟨rfl, ⟨rfl, ⟨rfl, ⟨rfl, trivial⟩⟩⟩⟩
        · replace h := ite_t hc11 h
          refine ev_iload_n dX5_splitTape_43 rfl ?_
          refine ev_cSi mv_X5_95 dX5_splitTape_44 c_X5_isNumeral rfl rfl (Nat.le_of_ble_eq_true rfl) (by rfl) (Nat.le_of_ble_eq_true rfl) (Nat.le_of_ble_eq_true rfl) (Nat.le_of_ble_eq_true rfl) ?_
          refine ev_if_eq (tgt := 89) dX5_splitTape_47 (by decide) (fun hc21 => ?_) (fun hc21 => ?_)
          · replace h := ite_t hc21 h
            refine ev_iload_n dX5_splitTape_89 rfl ?_
            refine ev_bipush (v := (32 : Int32)) dX5_splitTape_90 (by decide) ?_
            refine ev_icmp_eq (tgt := 110) dX5_splitTape_92 (by decide) (fun hc22 => ?_) (fun hc22 => ?_)
            · replace h := ite_t hc22 h
              exact ev_lt (f_X5_splitTape_j110_ok ih h) ⟨rfl, ⟨rfl, ⟨rfl, trivial⟩⟩⟩
            · replace h := ite_f hc22 h
              refine ev_iload_n dX5_splitTape_95 rfl ?_
              refine ev_bipush (v := (10 : Int32)) dX5_splitTape_96 (by decide) ?_
              refine ev_icmp_eq (tgt := 110) dX5_splitTape_98 (by decide) (fun hc23 => ?_) (fun hc23 => ?_)
              · replace h := ite_t hc23 h
                exact ev_lt (f_X5_splitTape_j110_ok ih h) ⟨rfl, ⟨rfl, ⟨rfl, trivial⟩⟩⟩
              · replace h := ite_f hc23 h
                refine ev_aload_n dX5_splitTape_101 rfl ?_
                refine ev_iload_n dX5_splitTape_102 rfl ?_
                refine ev_cSi mv_X5_112 dX5_splitTape_103 c_X10_ofSign rfl rfl (Nat.le_of_ble_eq_true rfl) (by rfl) (Nat.le_of_ble_eq_true rfl) (Nat.le_of_ble_eq_true rfl) (Nat.le_of_ble_eq_true rfl) ?_
                refine ev_iload_n dX5_splitTape_106 rfl ?_
                obtain ⟨m25, hq24, h⟩ := bndV_t h
                refine ev_cVv mv_X5_109 dX5_splitTape_107 (c_X5_addToken hq24) rfl shC_41 rfl rfl (Nat.le_of_ble_eq_true rfl) (by rfl) (Nat.le_of_ble_eq_true rfl) (Nat.le_of_ble_eq_true rfl) (Nat.le_of_ble_eq_true rfl) ?_
                exact ev_lt (f_X5_splitTape_j110_ok ih h) ⟨rfl, ⟨rfl, ⟨rfl, trivial⟩⟩⟩
          · replace h := ite_f hc21 h
            exact ev_lt (f_X5_splitTape_j50_ok ih h) ⟨rfl, ⟨rfl, ⟨rfl, ⟨rfl, trivial⟩⟩⟩⟩
def f_X5_splitTape (G : Nat) (μ : Mem) : Option Mem :=
  (let m1 := wr μ 41 8 (0 : Int32)
  f_X5_splitTape_L9 G G (0 : Int32) (0 : Int32) m1)
set_option maxHeartbeats 4000000 in
set_option maxRecDepth 100000 in
theorem c_X5_splitTape {bb : Bool} {G : Nat} {μ : Mem} {μr : Mem}  (h : f_X5_splitTape G μ = some μr) : Cn yX5_splitTape cX5_splitTape 5 none 7 0 0 [.ref 41] (shC bb) μ (eqP none (shC bb) μr) := by
  refine cn_of (own := RX5) (ini := false) (loc := [some (.ref 41), none, none, none, none]) rfl (by decide) (fun q => by cases q) (Nat.le_of_ble_eq_true rfl) (by rfl) rfl ?_
  unfold f_X5_splitTape at h
  refine ev_aload_n dX5_splitTape_0 rfl ?_
  refine ev_iconst (v := (0 : Int32)) dX5_splitTape_1 (by decide) ?_
  refine ev_putI fr_X5_88 shC_41 rfl rfl rfl dX5_splitTape_2 ?_
  refine ev_iconst (v := (0 : Int32)) dX5_splitTape_5 (by decide) ?_
  refine ev_istore_n (loc' := [_, _, _, _, _]) dX5_splitTape_6 rfl (by decide) (by rfl) ?_
  refine ev_iconst (v := (0 : Int32)) dX5_splitTape_7 (by decide) ?_
  refine ev_istore_n (loc' := [_, _, _, _, _]) dX5_splitTape_8 rfl (by decide) (by rfl) ?_
  exact ev_lt (f_X5_splitTape_L9_ok _ _ _ _ h) ⟨rfl, ⟨rfl, ⟨rfl, trivial⟩⟩⟩
def f_X5_beginLine (G : Nat) (p1 p2 : Int32) (μ : Mem) : Option (Int32 × Mem) :=
  (if (μ 41 10) = p1 then
  (if p2 < (16 : Int32) then
  bndE (f_X5_expect G p1 μ) (fun w9 m8 =>
  bkk w9 (some (w9, m8)))
  else
  bndV (f_X5_fail G (3 : Int32) μ) (fun m12 =>
  bndE (f_X5_expect G p1 m12) (fun w15 m14 =>
  bkk w15 (some (w15, m14)))))
  else
  bndE (f_X5_expect G p1 μ) (fun w4 m3 =>
  bkk w4 (some (w4, m3))))
set_option maxHeartbeats 4000000 in
set_option maxRecDepth 100000 in
theorem c_X5_beginLine {bb : Bool} {G : Nat} {μ : Mem} {p1 p2 : Int32} {r : Int32} {μr : Mem}  (h : f_X5_beginLine G p1 p2 μ = some (r, μr)) : Cn yX5_beginLine cX5_beginLine 3 (some .boolean) 3 0 0 [.ref 41, .int p1, .int p2] (shC bb) μ (eqP (some r) (shC bb) μr) := by
  refine cn_of (own := RX5) (ini := false) (loc := [some (.ref 41), some (.int p1), some (.int p2)]) rfl (by decide) (fun q => by cases q) (Nat.le_of_ble_eq_true rfl) (by rfl) rfl ?_
  unfold f_X5_beginLine at h
  refine ev_aload_n dX5_beginLine_0 rfl ?_
  refine ev_getI fr_X5_65 shC_41 rfl dX5_beginLine_1 ?_
  refine ev_iload_n dX5_beginLine_4 rfl ?_
  refine ev_icmp_ne (tgt := 19) dX5_beginLine_5 (by decide) (fun hc1 => ?_) (fun hc1 => ?_)
  · replace h := ite_f hc1 h
    refine ev_aload_n dX5_beginLine_19 rfl ?_
    refine ev_iload_n dX5_beginLine_20 rfl ?_
    obtain ⟨w4, m3, hq2, h⟩ := bndE_t h
    refine ev_cVi mv_X5_140 dX5_beginLine_21 (c_X5_expect hq2) rfl shC_41 rfl rfl (Nat.le_of_ble_eq_true rfl) (by rfl) (Nat.le_of_ble_eq_true rfl) (Nat.le_of_ble_eq_true rfl) (Nat.le_of_ble_eq_true rfl) ?_
    obtain ⟨hz5, h⟩ := bkk_t h
    exact ev_iret rfl (nzb hz5) (by decide) (by decide) dX5_beginLine_24 (eqP_E h)
  · replace h := ite_t hc1 h
    refine ev_iload_n dX5_beginLine_8 rfl ?_
    refine ev_bipush (v := (16 : Int32)) dX5_beginLine_9 (by decide) ?_
    refine ev_icmp_lt (tgt := 19) dX5_beginLine_11 (by decide) (fun hc6 => ?_) (fun hc6 => ?_)
    · replace h := ite_t hc6 h
      refine ev_aload_n dX5_beginLine_19 rfl ?_
      refine ev_iload_n dX5_beginLine_20 rfl ?_
      obtain ⟨w9, m8, hq7, h⟩ := bndE_t h
      refine ev_cVi mv_X5_140 dX5_beginLine_21 (c_X5_expect hq7) rfl shC_41 rfl rfl (Nat.le_of_ble_eq_true rfl) (by rfl) (Nat.le_of_ble_eq_true rfl) (Nat.le_of_ble_eq_true rfl) (Nat.le_of_ble_eq_true rfl) ?_
      obtain ⟨hz10, h⟩ := bkk_t h
      exact ev_iret rfl (nzb hz10) (by decide) (by decide) dX5_beginLine_24 (eqP_E h)
    · replace h := ite_f hc6 h
      refine ev_aload_n dX5_beginLine_14 rfl ?_
      refine ev_iconst (v := (3 : Int32)) dX5_beginLine_15 (by decide) ?_
      obtain ⟨m12, hq11, h⟩ := bndV_t h
      refine ev_cVv mv_X5_133 dX5_beginLine_16 (c_X5_fail hq11) rfl shC_41 rfl rfl (Nat.le_of_ble_eq_true rfl) (by rfl) (Nat.le_of_ble_eq_true rfl) (Nat.le_of_ble_eq_true rfl) (Nat.le_of_ble_eq_true rfl) ?_
      refine ev_aload_n dX5_beginLine_19 rfl ?_
      refine ev_iload_n dX5_beginLine_20 rfl ?_
      obtain ⟨w15, m14, hq13, h⟩ := bndE_t h
      refine ev_cVi mv_X5_140 dX5_beginLine_21 (c_X5_expect hq13) rfl shC_41 rfl rfl (Nat.le_of_ble_eq_true rfl) (by rfl) (Nat.le_of_ble_eq_true rfl) (Nat.le_of_ble_eq_true rfl) (Nat.le_of_ble_eq_true rfl) ?_
      obtain ⟨hz16, h⟩ := bkk_t h
      exact ev_iret rfl (nzb hz16) (by decide) (by decide) dX5_beginLine_24 (eqP_E h)
def f_X5_lawLine_j93 (G : Nat)  (v1 v2 v3 : Int32) (μ : Mem) : Option Mem :=
  bndE (f_X5_expect G (20059 : Int32) μ) (fun w11 m10 =>
  (if w11 = (0 : Int32) then
  some m10
  else
  bndV (f_X1_closeLine G 45 v1 v2 v3 m10) (fun m14 =>
  some m14)))
set_option maxHeartbeats 4000000 in
set_option maxRecDepth 100000 in
theorem f_X5_lawLine_j93_ok {bb : Bool} {G : Nat} {μr : Mem}    {v1 v2 v3 : Int32} {μ : Mem} (h : f_X5_lawLine_j93 G v1 v2 v3 μ = some μr) : Ev RX5 cX5_lawLine 4 none false 61 0 0 (eqP none (shC bb) μr) 93 [some (.ref 41), some (.int v1), some (.int v2), some (.int v3)] [] (shC bb) μ 0 0 := by
  unfold f_X5_lawLine_j93 at h
  refine ev_aload_n dX5_lawLine_93 rfl ?_
  refine ev_sipush (v := (20059 : Int32)) dX5_lawLine_94 (by decide) ?_
  obtain ⟨w11, m10, hq9, h⟩ := bndE_t h
  refine ev_cVi mv_X5_140 dX5_lawLine_97 (c_X5_expect hq9) rfl shC_41 rfl rfl (Nat.le_of_ble_eq_true rfl) (by rfl) (Nat.le_of_ble_eq_true rfl) (Nat.le_of_ble_eq_true rfl) (Nat.le_of_ble_eq_true rfl) ?_
  refine ev_if_eq (tgt := 113) dX5_lawLine_100 (by decide) (fun hc12 => ?_) (fun hc12 => ?_)
  · replace h := ite_t hc12 h
    exact ev_vret rfl (by decide) (by decide) dX5_lawLine_113 (eqP_V h)
  · replace h := ite_f hc12 h
    refine ev_aload_n dX5_lawLine_103 rfl ?_
    refine ev_getR fr_X5_24 shC_41 rfl dX5_lawLine_104 ?_
    refine ev_iload_n dX5_lawLine_107 rfl ?_
    refine ev_iload_n dX5_lawLine_108 rfl ?_
    refine ev_iload_n dX5_lawLine_109 rfl ?_
    obtain ⟨m14, hq13, h⟩ := bndV_t h
    refine ev_cVv mv_X5_172 dX5_lawLine_110 (c_X1_closeLine atC_45 hq13) rfl shC_45 rfl rfl (Nat.le_of_ble_eq_true rfl) (by rfl) (Nat.le_of_ble_eq_true rfl) (Nat.le_of_ble_eq_true rfl) (Nat.le_of_ble_eq_true rfl) ?_
    exact ev_vret rfl (by decide) (by decide) dX5_lawLine_113 (eqP_V h)
def f_X5_lawLine_j31 (G : Nat)  (v1 : Int32) (μ : Mem) : Option Mem :=
  bndE (f_X5_beginLine G v1 (μ 45 6) μ) (fun w4 m3 =>
  (if w4 = (0 : Int32) then
  some m3
  else
  bndV (f_X5_expression G m3) (fun m7 =>
  (if (m7 41 6) = (0 : Int32) then
  (if (m7 41 10) = (10003 : Int32) then
  bndV (f_X5_advance G m7) (fun m17 =>
  bndV (f_cond G 10 (0 : Int32) m17) (fun m18 =>
  f_X5_lawLine_j93 G v1 (m3 45 7) (m7 45 7) m18))
  else
  f_X5_lawLine_j93 G v1 (m3 45 7) (m7 45 7) m7)
  else
  f_X5_lawLine_j93 G v1 (m3 45 7) (m7 45 7) m7))))
set_option maxHeartbeats 4000000 in
set_option maxRecDepth 100000 in
theorem f_X5_lawLine_j31_ok {bb : Bool} {G : Nat} {μr : Mem}    {v1 : Int32} {μ : Mem} (h : f_X5_lawLine_j31 G v1 μ = some μr) : Ev RX5 cX5_lawLine 4 none false 61 0 0 (eqP none (shC bb) μr) 31 [some (.ref 41), some (.int v1), none, none] [] (shC bb) μ 0 0 := by
  unfold f_X5_lawLine_j31 at h
  refine ev_aload_n dX5_lawLine_31 rfl ?_
  refine ev_iload_n dX5_lawLine_32 rfl ?_
  refine ev_aload_n dX5_lawLine_33 rfl ?_
  refine ev_getR fr_X5_24 shC_41 rfl dX5_lawLine_34 ?_
  refine ev_getI fr_X5_82 shC_45 rfl dX5_lawLine_37 ?_
  obtain ⟨w4, m3, hq2, h⟩ := bndE_t h
  refine ev_cVi mv_X5_150 dX5_lawLine_40 (c_X5_beginLine hq2) rfl shC_41 rfl rfl (Nat.le_of_ble_eq_true rfl) (by rfl) (Nat.le_of_ble_eq_true rfl) (Nat.le_of_ble_eq_true rfl) (Nat.le_of_ble_eq_true rfl) ?_
  refine ev_if_ne (tgt := 47) dX5_lawLine_43 (by decide) (fun hc5 => ?_) (fun hc5 => ?_)
  · replace h := ite_f hc5 h
    refine ev_aload_n dX5_lawLine_47 rfl ?_
    refine ev_getR fr_X5_24 shC_41 rfl dX5_lawLine_48 ?_
    refine ev_getI fr_X5_163 shC_45 rfl dX5_lawLine_51 ?_
    refine ev_istore_n (loc' := [_, _, _, _]) dX5_lawLine_54 rfl (by decide) (by rfl) ?_
    refine ev_aload_n dX5_lawLine_55 rfl ?_
    obtain ⟨m7, hq6, h⟩ := bndV_t h
    refine ev_cVv mv_X5_166 dX5_lawLine_56 (c_X5_expression hq6) rfl shC_41 rfl rfl (Nat.le_of_ble_eq_true rfl) (by rfl) (Nat.le_of_ble_eq_true rfl) (Nat.le_of_ble_eq_true rfl) (Nat.le_of_ble_eq_true rfl) ?_
    refine ev_aload_n dX5_lawLine_59 rfl ?_
    refine ev_getR fr_X5_24 shC_41 rfl dX5_lawLine_60 ?_
    refine ev_getI fr_X5_163 shC_45 rfl dX5_lawLine_63 ?_
    refine ev_istore_n (loc' := [_, _, _, _]) dX5_lawLine_66 rfl (by decide) (by rfl) ?_
    refine ev_aload_n dX5_lawLine_67 rfl ?_
    refine ev_getI fr_X5_44 shC_41 rfl dX5_lawLine_68 ?_
    refine ev_if_ne (tgt := 93) dX5_lawLine_71 (by decide) (fun hc8 => ?_) (fun hc8 => ?_)
    · replace h := ite_f hc8 h
      exact ev_lt (f_X5_lawLine_j93_ok h) ⟨rfl, ⟨rfl, ⟨rfl, ⟨rfl, trivial⟩⟩⟩⟩
    · replace h := ite_t hc8 h
      refine ev_aload_n dX5_lawLine_74 rfl ?_
      refine ev_getI fr_X5_65 shC_41 rfl dX5_lawLine_75 ?_
      refine ev_sipush (v := (10003 : Int32)) dX5_lawLine_78 (by decide) ?_
      refine ev_icmp_ne (tgt := 93) dX5_lawLine_81 (by decide) (fun hc15 => ?_) (fun hc15 => ?_)
      · replace h := ite_f hc15 h
        exact ev_lt (f_X5_lawLine_j93_ok h) ⟨rfl, ⟨rfl, ⟨rfl, ⟨rfl, trivial⟩⟩⟩⟩
      · replace h := ite_t hc15 h
        refine ev_aload_n dX5_lawLine_84 rfl ?_
        obtain ⟨m17, hq16, h⟩ := bndV_t h
        refine ev_cVv mv_X5_137 dX5_lawLine_85 (c_X5_advance hq16) rfl shC_41 rfl rfl (Nat.le_of_ble_eq_true rfl) (by rfl) (Nat.le_of_ble_eq_true rfl) (Nat.le_of_ble_eq_true rfl) (Nat.le_of_ble_eq_true rfl) ?_
        refine ev_aload_n dX5_lawLine_88 rfl ?_
        refine ev_iconst (v := (0 : Int32)) dX5_lawLine_89 (by decide) ?_
        obtain ⟨m18, hq19, h⟩ := bndV_t h
        refine ev_cVv mv_X5_169 dX5_lawLine_90 (c_cond 10 _ _ _ hq19) rfl shC_41 rfl rfl (Nat.le_of_ble_eq_true rfl) (by rfl) (Nat.le_of_ble_eq_true rfl) (Nat.le_of_ble_eq_true rfl) (Nat.le_of_ble_eq_true rfl) ?_
        exact ev_lt (f_X5_lawLine_j93_ok h) ⟨rfl, ⟨rfl, ⟨rfl, ⟨rfl, trivial⟩⟩⟩⟩
  · replace h := ite_t hc5 h
    exact ev_vret rfl (by decide) (by decide) dX5_lawLine_46 (eqP_V h)
def f_X5_lawLine (G : Nat) (μ : Mem) : Option Mem :=
  (if (μ 41 10) = (10000 : Int32) then
  f_X5_lawLine_j31 G (μ 41 10) μ
  else
  (if (μ 41 10) = (10001 : Int32) then
  f_X5_lawLine_j31 G (μ 41 10) μ
  else
  (if (μ 41 10) = (10002 : Int32) then
  f_X5_lawLine_j31 G (μ 41 10) μ
  else
  bndV (f_X5_fail G (1 : Int32) μ) (fun m23 =>
  f_X5_lawLine_j31 G (μ 41 10) m23))))
set_option maxHeartbeats 4000000 in
set_option maxRecDepth 100000 in
theorem c_X5_lawLine {bb : Bool} {G : Nat} {μ : Mem} {μr : Mem}  (h : f_X5_lawLine G μ = some μr) : Cn yX5_lawLine cX5_lawLine 4 none 61 0 0 [.ref 41] (shC bb) μ (eqP none (shC bb) μr) := by
  refine cn_of (own := RX5) (ini := false) (loc := [some (.ref 41), none, none, none]) rfl (by decide) (fun q => by cases q) (Nat.le_of_ble_eq_true rfl) (by rfl) rfl ?_
  unfold f_X5_lawLine at h
  refine ev_aload_n dX5_lawLine_0 rfl ?_
  refine ev_getI fr_X5_65 shC_41 rfl dX5_lawLine_1 ?_
  refine ev_istore_n (loc' := [_, _, _, _]) dX5_lawLine_4 rfl (by decide) (by rfl) ?_
  refine ev_iload_n dX5_lawLine_5 rfl ?_
  refine ev_sipush (v := (10000 : Int32)) dX5_lawLine_6 (by decide) ?_
  refine ev_icmp_eq (tgt := 31) dX5_lawLine_9 (by decide) (fun hc1 => ?_) (fun hc1 => ?_)
  · replace h := ite_t hc1 h
    exact ev_lt (f_X5_lawLine_j31_ok h) ⟨rfl, ⟨rfl, trivial⟩⟩
  · replace h := ite_f hc1 h
    refine ev_iload_n dX5_lawLine_12 rfl ?_
    refine ev_sipush (v := (10001 : Int32)) dX5_lawLine_13 (by decide) ?_
    refine ev_icmp_eq (tgt := 31) dX5_lawLine_16 (by decide) (fun hc20 => ?_) (fun hc20 => ?_)
    · replace h := ite_t hc20 h
      exact ev_lt (f_X5_lawLine_j31_ok h) ⟨rfl, ⟨rfl, trivial⟩⟩
    · replace h := ite_f hc20 h
      refine ev_iload_n dX5_lawLine_19 rfl ?_
      refine ev_sipush (v := (10002 : Int32)) dX5_lawLine_20 (by decide) ?_
      refine ev_icmp_eq (tgt := 31) dX5_lawLine_23 (by decide) (fun hc21 => ?_) (fun hc21 => ?_)
      · replace h := ite_t hc21 h
        exact ev_lt (f_X5_lawLine_j31_ok h) ⟨rfl, ⟨rfl, trivial⟩⟩
      · replace h := ite_f hc21 h
        refine ev_aload_n dX5_lawLine_26 rfl ?_
        refine ev_iconst (v := (1 : Int32)) dX5_lawLine_27 (by decide) ?_
        obtain ⟨m23, hq22, h⟩ := bndV_t h
        refine ev_cVv mv_X5_133 dX5_lawLine_28 (c_X5_fail hq22) rfl shC_41 rfl rfl (Nat.le_of_ble_eq_true rfl) (by rfl) (Nat.le_of_ble_eq_true rfl) (Nat.le_of_ble_eq_true rfl) (Nat.le_of_ble_eq_true rfl) ?_
        exact ev_lt (f_X5_lawLine_j31_ok h) ⟨rfl, ⟨rfl, trivial⟩⟩
def f_X5_numberUnlike_j56 (G : Nat)  (v4 : Int32) (μ : Mem) : Option (Int32 × Mem) :=
  (if (μ 41 6) = (0 : Int32) then
  bndV (f_X5_advance G μ) (fun m5 =>
  some (v4, m5))
  else
  some ((0 : Int32), μ))
set_option maxHeartbeats 4000000 in
set_option maxRecDepth 100000 in
theorem f_X5_numberUnlike_j56_ok {bb : Bool} {G : Nat} {r : Int32} {μr : Mem}    {v4 : Int32} {μ : Mem} (h : f_X5_numberUnlike_j56 G v4 μ = some (r, μr)) : Ev RX5 cX5_numberUnlike 5 (some .int) false 2 0 0 (eqP (some r) (shC bb) μr) 56 [some (.ref 41), none, none, none, some (.int v4)] [] (shC bb) μ 0 0 := by
  unfold f_X5_numberUnlike_j56 at h
  refine ev_aload_n dX5_numberUnlike_56 rfl ?_
  refine ev_getI fr_X5_44 shC_41 rfl dX5_numberUnlike_57 ?_
  refine ev_if_eq (tgt := 65) dX5_numberUnlike_60 (by decide) (fun hc3 => ?_) (fun hc3 => ?_)
  · replace h := ite_t hc3 h
    refine ev_aload_n dX5_numberUnlike_65 rfl ?_
    obtain ⟨m5, hq4, h⟩ := bndV_t h
    refine ev_cVv mv_X5_137 dX5_numberUnlike_66 (c_X5_advance hq4) rfl shC_41 rfl rfl (Nat.le_of_ble_eq_true rfl) (by rfl) (Nat.le_of_ble_eq_true rfl) (Nat.le_of_ble_eq_true rfl) (Nat.le_of_ble_eq_true rfl) ?_
    refine ev_iload dX5_numberUnlike_69 rfl ?_
    exact ev_iret rfl rfl (by decide) (by decide) dX5_numberUnlike_71 (eqP_E h)
  · replace h := ite_f hc3 h
    refine ev_iconst (v := (0 : Int32)) dX5_numberUnlike_63 (by decide) ?_
    exact ev_iret rfl rfl (by decide) (by decide) dX5_numberUnlike_64 (eqP_E h)
def f_X5_numberUnlike_j51 (G : Nat)  (v4 : Int32) (μ : Mem) : Option (Int32 × Mem) :=
  bndV (f_X5_fail G (2 : Int32) μ) (fun m8 =>
  f_X5_numberUnlike_j56 G v4 m8)
set_option maxHeartbeats 4000000 in
set_option maxRecDepth 100000 in
theorem f_X5_numberUnlike_j51_ok {bb : Bool} {G : Nat} {r : Int32} {μr : Mem}    {v4 : Int32} {μ : Mem} (h : f_X5_numberUnlike_j51 G v4 μ = some (r, μr)) : Ev RX5 cX5_numberUnlike 5 (some .int) false 2 0 0 (eqP (some r) (shC bb) μr) 51 [some (.ref 41), none, none, none, some (.int v4)] [] (shC bb) μ 0 0 := by
  unfold f_X5_numberUnlike_j51 at h
  refine ev_aload_n dX5_numberUnlike_51 rfl ?_
  refine ev_iconst (v := (2 : Int32)) dX5_numberUnlike_52 (by decide) ?_
  obtain ⟨m8, hq7, h⟩ := bndV_t h
  refine ev_cVv mv_X5_133 dX5_numberUnlike_53 (c_X5_fail hq7) rfl shC_41 rfl rfl (Nat.le_of_ble_eq_true rfl) (by rfl) (Nat.le_of_ble_eq_true rfl) (Nat.le_of_ble_eq_true rfl) (Nat.le_of_ble_eq_true rfl) ?_
  exact ev_lt (f_X5_numberUnlike_j56_ok h) ⟨rfl, ⟨rfl, trivial⟩⟩
def f_X5_numberUnlike_j26 (G : Nat)  (v1 v2 v3 v4 : Int32) (μ : Mem) : Option (Int32 × Mem) :=
  (if (μ 41 6) = (0 : Int32) then
  (if v1 ≤ v4 then
  f_X5_numberUnlike_j51 G v4 μ
  else
  (if v4 = v2 then
  f_X5_numberUnlike_j51 G v4 μ
  else
  (if v4 = v3 then
  f_X5_numberUnlike_j51 G v4 μ
  else
  f_X5_numberUnlike_j56 G v4 μ)))
  else
  f_X5_numberUnlike_j56 G v4 μ)
set_option maxHeartbeats 4000000 in
set_option maxRecDepth 100000 in
theorem f_X5_numberUnlike_j26_ok {bb : Bool} {G : Nat} {r : Int32} {μr : Mem}    {v1 v2 v3 v4 : Int32} {μ : Mem} (h : f_X5_numberUnlike_j26 G v1 v2 v3 v4 μ = some (r, μr)) : Ev RX5 cX5_numberUnlike 5 (some .int) false 2 0 0 (eqP (some r) (shC bb) μr) 26 [some (.ref 41), some (.int v1), some (.int v2), some (.int v3), some (.int v4)] [] (shC bb) μ 0 0 := by
  unfold f_X5_numberUnlike_j26 at h
  refine ev_aload_n dX5_numberUnlike_26 rfl ?_
  refine ev_getI fr_X5_44 shC_41 rfl dX5_numberUnlike_27 ?_
  refine ev_if_ne (tgt := 56) dX5_numberUnlike_30 (by decide) (fun hc2 => ?_) (fun hc2 => ?_)
  · replace h := ite_f hc2 h
    exact ev_lt (f_X5_numberUnlike_j56_ok h) ⟨rfl, ⟨rfl, trivial⟩⟩
  · replace h := ite_t hc2 h
    refine ev_iload dX5_numberUnlike_33 rfl ?_
    refine ev_iload_n dX5_numberUnlike_35 rfl ?_
    refine ev_icmp_ge (tgt := 51) dX5_numberUnlike_36 (by decide) (fun hc6 => ?_) (fun hc6 => ?_)
    · replace h := ite_t hc6 h
      exact ev_lt (f_X5_numberUnlike_j51_ok h) ⟨rfl, ⟨rfl, trivial⟩⟩
    · replace h := ite_f hc6 h
      refine ev_iload dX5_numberUnlike_39 rfl ?_
      refine ev_iload_n dX5_numberUnlike_41 rfl ?_
      refine ev_icmp_eq (tgt := 51) dX5_numberUnlike_42 (by decide) (fun hc9 => ?_) (fun hc9 => ?_)
      · replace h := ite_t hc9 h
        exact ev_lt (f_X5_numberUnlike_j51_ok h) ⟨rfl, ⟨rfl, trivial⟩⟩
      · replace h := ite_f hc9 h
        refine ev_iload dX5_numberUnlike_45 rfl ?_
        refine ev_iload_n dX5_numberUnlike_47 rfl ?_
        refine ev_icmp_ne (tgt := 56) dX5_numberUnlike_48 (by decide) (fun hc10 => ?_) (fun hc10 => ?_)
        · replace h := ite_f hc10 h
          exact ev_lt (f_X5_numberUnlike_j56_ok h) ⟨rfl, ⟨rfl, trivial⟩⟩
        · replace h := ite_t hc10 h
          exact ev_lt (f_X5_numberUnlike_j51_ok h) ⟨rfl, ⟨rfl, trivial⟩⟩
def f_X5_numberUnlike (G : Nat) (p1 p2 p3 : Int32) (μ : Mem) : Option (Int32 × Mem) :=
  (if (μ 41 6) = (0 : Int32) then
  (if (f_X10_isNumber (μ 41 10)) = (0 : Int32) then
  bndV (f_X5_fail G (1 : Int32) μ) (fun m13 =>
  f_X5_numberUnlike_j26 G p1 p2 p3 (μ 41 10) m13)
  else
  f_X5_numberUnlike_j26 G p1 p2 p3 (μ 41 10) μ)
  else
  f_X5_numberUnlike_j26 G p1 p2 p3 (μ 41 10) μ)
set_option maxHeartbeats 4000000 in
set_option maxRecDepth 100000 in
theorem c_X5_numberUnlike {bb : Bool} {G : Nat} {μ : Mem} {p1 p2 p3 : Int32} {r : Int32} {μr : Mem}  (h : f_X5_numberUnlike G p1 p2 p3 μ = some (r, μr)) : Cn yX5_numberUnlike cX5_numberUnlike 5 (some .int) 2 0 0 [.ref 41, .int p1, .int p2, .int p3] (shC bb) μ (eqP (some r) (shC bb) μr) := by
  refine cn_of (own := RX5) (ini := false) (loc := [some (.ref 41), some (.int p1), some (.int p2), some (.int p3), none]) rfl (by decide) (fun q => by cases q) (Nat.le_of_ble_eq_true rfl) (by rfl) rfl ?_
  unfold f_X5_numberUnlike at h
  refine ev_aload_n dX5_numberUnlike_0 rfl ?_
  refine ev_getI fr_X5_65 shC_41 rfl dX5_numberUnlike_1 ?_
  refine ev_istore (loc' := [_, _, _, _, _]) dX5_numberUnlike_4 rfl (by decide) (by rfl) ?_
  refine ev_aload_n dX5_numberUnlike_6 rfl ?_
  refine ev_getI fr_X5_44 shC_41 rfl dX5_numberUnlike_7 ?_
  refine ev_if_ne (tgt := 26) dX5_numberUnlike_10 (by decide) (fun hc1 => ?_) (fun hc1 => ?_)
  · replace h := ite_f hc1 h
    exact ev_lt (f_X5_numberUnlike_j26_ok h) ⟨rfl, ⟨rfl, ⟨rfl, ⟨rfl, ⟨rfl, trivial⟩⟩⟩⟩⟩
  · replace h := ite_t hc1 h
    refine ev_iload dX5_numberUnlike_13 rfl ?_
    refine ev_cSi mv_X5_147 dX5_numberUnlike_15 c_X10_isNumber rfl rfl (Nat.le_of_ble_eq_true rfl) (by rfl) (Nat.le_of_ble_eq_true rfl) (Nat.le_of_ble_eq_true rfl) (Nat.le_of_ble_eq_true rfl) ?_
    refine ev_if_ne (tgt := 26) dX5_numberUnlike_18 (by decide) (fun hc11 => ?_) (fun hc11 => ?_)
    · replace h := ite_f hc11 h
      exact ev_lt (f_X5_numberUnlike_j26_ok h) ⟨rfl, ⟨rfl, ⟨rfl, ⟨rfl, ⟨rfl, trivial⟩⟩⟩⟩⟩
    · replace h := ite_t hc11 h
      refine ev_aload_n dX5_numberUnlike_21 rfl ?_
      refine ev_iconst (v := (1 : Int32)) dX5_numberUnlike_22 (by decide) ?_
      obtain ⟨m13, hq12, h⟩ := bndV_t h
      refine ev_cVv mv_X5_133 dX5_numberUnlike_23 (c_X5_fail hq12) rfl shC_41 rfl rfl (Nat.le_of_ble_eq_true rfl) (by rfl) (Nat.le_of_ble_eq_true rfl) (Nat.le_of_ble_eq_true rfl) (Nat.le_of_ble_eq_true rfl) ?_
      exact ev_lt (f_X5_numberUnlike_j26_ok h) ⟨rfl, ⟨rfl, ⟨rfl, ⟨rfl, ⟨rfl, trivial⟩⟩⟩⟩⟩
def f_X5_numberBelow (G : Nat) (p1 : Int32) (μ : Mem) : Option (Int32 × Mem) :=
  bndE (f_X5_numberUnlike G p1 (-1 : Int32) (-1 : Int32) μ) (fun w3 m2 =>
  some (w3, m2))
set_option maxHeartbeats 4000000 in
set_option maxRecDepth 100000 in
theorem c_X5_numberBelow {bb : Bool} {G : Nat} {μ : Mem} {p1 : Int32} {r : Int32} {μr : Mem}  (h : f_X5_numberBelow G p1 μ = some (r, μr)) : Cn yX5_numberBelow cX5_numberBelow 2 (some .int) 3 0 0 [.ref 41, .int p1] (shC bb) μ (eqP (some r) (shC bb) μr) := by
  refine cn_of (own := RX5) (ini := false) (loc := [some (.ref 41), some (.int p1)]) rfl (by decide) (fun q => by cases q) (Nat.le_of_ble_eq_true rfl) (by rfl) rfl ?_
  unfold f_X5_numberBelow at h
  refine ev_aload_n dX5_numberBelow_0 rfl ?_
  refine ev_iload_n dX5_numberBelow_1 rfl ?_
  refine ev_iconst (v := (-1 : Int32)) dX5_numberBelow_2 (by decide) ?_
  refine ev_iconst (v := (-1 : Int32)) dX5_numberBelow_3 (by decide) ?_
  obtain ⟨w3, m2, hq1, h⟩ := bndE_t h
  refine ev_cVi mv_X5_143 dX5_numberBelow_4 (c_X5_numberUnlike hq1) rfl shC_41 rfl rfl (Nat.le_of_ble_eq_true rfl) (by rfl) (Nat.le_of_ble_eq_true rfl) (Nat.le_of_ble_eq_true rfl) (Nat.le_of_ble_eq_true rfl) ?_
  exact ev_iret rfl rfl (by decide) (by decide) dX5_numberBelow_7 (eqP_E h)
def f_X5_questionLine (G : Nat) (μ : Mem) : Option Mem :=
  bndE (f_X5_beginLine G (10018 : Int32) (μ 52 3) μ) (fun w3 m2 =>
  (if w3 = (0 : Int32) then
  some m2
  else
  bndE (f_X5_numberBelow G (100 : Int32) m2) (fun w7 m6 =>
  bndE (f_X2_add G 52 96 w7 (0 : Int32) (0 : Int32) (0 : Int32) m6) (fun w10 m9 =>
  bndE (f_X5_expect G (20059 : Int32) m9) (fun w13 m12 =>
  some m12)))))
set_option maxHeartbeats 4000000 in
set_option maxRecDepth 100000 in
theorem c_X5_questionLine {bb : Bool} {G : Nat} {μ : Mem} {μr : Mem}  (h : f_X5_questionLine G μ = some μr) : Cn yX5_questionLine cX5_questionLine 1 none 4 0 0 [.ref 41] (shC bb) μ (eqP none (shC bb) μr) := by
  refine cn_of (own := RX5) (ini := false) (loc := [some (.ref 41)]) rfl (by decide) (fun q => by cases q) (Nat.le_of_ble_eq_true rfl) (by rfl) rfl ?_
  unfold f_X5_questionLine at h
  refine ev_aload_n dX5_questionLine_0 rfl ?_
  refine ev_sipush (v := (10018 : Int32)) dX5_questionLine_1 (by decide) ?_
  refine ev_aload_n dX5_questionLine_4 rfl ?_
  refine ev_getR fr_X5_33 shC_41 rfl dX5_questionLine_5 ?_
  refine ev_getI fr_X5_85 shC_52 rfl dX5_questionLine_8 ?_
  obtain ⟨w3, m2, hq1, h⟩ := bndE_t h
  refine ev_cVi mv_X5_150 dX5_questionLine_11 (c_X5_beginLine hq1) rfl shC_41 rfl rfl (Nat.le_of_ble_eq_true rfl) (by rfl) (Nat.le_of_ble_eq_true rfl) (Nat.le_of_ble_eq_true rfl) (Nat.le_of_ble_eq_true rfl) ?_
  refine ev_if_eq (tgt := 42) dX5_questionLine_14 (by decide) (fun hc4 => ?_) (fun hc4 => ?_)
  · replace h := ite_t hc4 h
    exact ev_vret rfl (by decide) (by decide) dX5_questionLine_42 (eqP_V h)
  · replace h := ite_f hc4 h
    refine ev_aload_n dX5_questionLine_17 rfl ?_
    refine ev_getR fr_X5_33 shC_41 rfl dX5_questionLine_18 ?_
    refine ev_aload_n dX5_questionLine_21 rfl ?_
    refine ev_bipush (v := (100 : Int32)) dX5_questionLine_22 (by decide) ?_
    obtain ⟨w7, m6, hq5, h⟩ := bndE_t h
    refine ev_cVi mv_X5_153 dX5_questionLine_24 (c_X5_numberBelow hq5) rfl shC_41 rfl rfl (Nat.le_of_ble_eq_true rfl) (by rfl) (Nat.le_of_ble_eq_true rfl) (Nat.le_of_ble_eq_true rfl) (Nat.le_of_ble_eq_true rfl) ?_
    refine ev_iconst (v := (0 : Int32)) dX5_questionLine_27 (by decide) ?_
    refine ev_iconst (v := (0 : Int32)) dX5_questionLine_28 (by decide) ?_
    refine ev_iconst (v := (0 : Int32)) dX5_questionLine_29 (by decide) ?_
    obtain ⟨w10, m9, hq8, h⟩ := bndE_t h
    refine ev_cVi mv_X5_156 dX5_questionLine_30 (c_X2_add atC_52 hq8) rfl shC_52 rfl rfl (Nat.le_of_ble_eq_true rfl) (by rfl) (Nat.le_of_ble_eq_true rfl) (Nat.le_of_ble_eq_true rfl) (Nat.le_of_ble_eq_true rfl) ?_
    refine ev_pop dX5_questionLine_33 (by rfl) ?_
    refine ev_aload_n dX5_questionLine_34 rfl ?_
    refine ev_sipush (v := (20059 : Int32)) dX5_questionLine_35 (by decide) ?_
    obtain ⟨w13, m12, hq11, h⟩ := bndE_t h
    refine ev_cVi mv_X5_140 dX5_questionLine_38 (c_X5_expect hq11) rfl shC_41 rfl rfl (Nat.le_of_ble_eq_true rfl) (by rfl) (Nat.le_of_ble_eq_true rfl) (Nat.le_of_ble_eq_true rfl) (Nat.le_of_ble_eq_true rfl) ?_
    refine ev_pop dX5_questionLine_41 (by rfl) ?_
    exact ev_vret rfl (by decide) (by decide) dX5_questionLine_42 (eqP_V h)
def f_X5_yearLine_j89 (G : Nat)  (v1 v2 s0 : Int32) (μ : Mem) : Option Mem :=
  bndE (f_X5_numberBelow G s0 μ) (fun w15 m14 =>
  bndE (f_X2_add G 52 96 v1 v2 w15 (0 : Int32) m14) (fun w18 m17 =>
  (if v2 = (10020 : Int32) then
  bndE (f_X5_numberBelow G (m17 41 11) m17) (fun w25 m24 =>
  bndE (f_X5_numberUnlike G (m24 41 11) w25 (-1 : Int32) m24) (fun w28 m27 =>
  bndV (f_X2_put G 52 96 (3 : Int32) w25 m27) (fun m30 =>
  bndV (f_X2_put G 52 96 (4 : Int32) w28 m30) (fun m32 =>
  bndE (f_X5_numberUnlike G (m32 41 11) w25 w28 m32) (fun w35 m34 =>
  bndV (f_X2_put G 52 96 (5 : Int32) w35 m34) (fun m37 =>
  bndE (f_X5_expect G (20059 : Int32) m37) (fun w40 m39 =>
  some m39)))))))
  else
  bndE (f_X5_expect G (20059 : Int32) m17) (fun w22 m21 =>
  some m21))))
set_option maxHeartbeats 4000000 in
set_option maxRecDepth 100000 in
theorem f_X5_yearLine_j89_ok {bb : Bool} {G : Nat} {μr : Mem}    {v1 v2 s0 : Int32} {μ : Mem} (h : f_X5_yearLine_j89 G v1 v2 s0 μ = some μr) : Ev RX5 cX5_yearLine 6 none false 4 0 0 (eqP none (shC bb) μr) 89 [some (.ref 41), some (.int v1), some (.int v2), none, none, none] [.int s0, .ref 41] (shC bb) μ 0 0 := by
  unfold f_X5_yearLine_j89 at h
  obtain ⟨w15, m14, hq13, h⟩ := bndE_t h
  refine ev_cVi mv_X5_153 dX5_yearLine_89 (c_X5_numberBelow hq13) rfl shC_41 rfl rfl (Nat.le_of_ble_eq_true rfl) (by rfl) (Nat.le_of_ble_eq_true rfl) (Nat.le_of_ble_eq_true rfl) (Nat.le_of_ble_eq_true rfl) ?_
  refine ev_istore_n (loc' := [_, _, _, _, _, _]) dX5_yearLine_92 rfl (by decide) (by rfl) ?_
  refine ev_aload_n dX5_yearLine_93 rfl ?_
  refine ev_getR fr_X5_33 shC_41 rfl dX5_yearLine_94 ?_
  refine ev_iload_n dX5_yearLine_97 rfl ?_
  refine ev_iload_n dX5_yearLine_98 rfl ?_
  refine ev_iload_n dX5_yearLine_99 rfl ?_
  refine ev_iconst (v := (0 : Int32)) dX5_yearLine_100 (by decide) ?_
  obtain ⟨w18, m17, hq16, h⟩ := bndE_t h
  refine ev_cVi mv_X5_156 dX5_yearLine_101 (c_X2_add atC_52 hq16) rfl shC_52 rfl rfl (Nat.le_of_ble_eq_true rfl) (by rfl) (Nat.le_of_ble_eq_true rfl) (Nat.le_of_ble_eq_true rfl) (Nat.le_of_ble_eq_true rfl) ?_
  refine ev_pop dX5_yearLine_104 (by rfl) ?_
  refine ev_iload_n dX5_yearLine_105 rfl ?_
  refine ev_sipush (v := (10020 : Int32)) dX5_yearLine_106 (by decide) ?_
  refine ev_icmp_ne (tgt := 175) dX5_yearLine_109 (by decide) (fun hc19 => ?_) (fun hc19 => ?_)
  · replace h := ite_f hc19 h
    refine ev_aload_n dX5_yearLine_175 rfl ?_
    refine ev_sipush (v := (20059 : Int32)) dX5_yearLine_176 (by decide) ?_
    obtain ⟨w22, m21, hq20, h⟩ := bndE_t h
    refine ev_cVi mv_X5_140 dX5_yearLine_179 (c_X5_expect hq20) rfl shC_41 rfl rfl (Nat.le_of_ble_eq_true rfl) (by rfl) (Nat.le_of_ble_eq_true rfl) (Nat.le_of_ble_eq_true rfl) (Nat.le_of_ble_eq_true rfl) ?_
    refine ev_pop dX5_yearLine_182 (by rfl) ?_
    exact ev_vret rfl (by decide) (by decide) dX5_yearLine_183 (eqP_V h)
  · replace h := ite_t hc19 h
    refine ev_aload_n dX5_yearLine_112 rfl ?_
    refine ev_aload_n dX5_yearLine_113 rfl ?_
    refine ev_getI fr_X5_47 shC_41 rfl dX5_yearLine_114 ?_
    obtain ⟨w25, m24, hq23, h⟩ := bndE_t h
    refine ev_cVi mv_X5_153 dX5_yearLine_117 (c_X5_numberBelow hq23) rfl shC_41 rfl rfl (Nat.le_of_ble_eq_true rfl) (by rfl) (Nat.le_of_ble_eq_true rfl) (Nat.le_of_ble_eq_true rfl) (Nat.le_of_ble_eq_true rfl) ?_
    refine ev_istore (loc' := [_, _, _, _, _, _]) dX5_yearLine_120 rfl (by decide) (by rfl) ?_
    refine ev_aload_n dX5_yearLine_122 rfl ?_
    refine ev_aload_n dX5_yearLine_123 rfl ?_
    refine ev_getI fr_X5_47 shC_41 rfl dX5_yearLine_124 ?_
    refine ev_iload dX5_yearLine_127 rfl ?_
    refine ev_iconst (v := (-1 : Int32)) dX5_yearLine_129 (by decide) ?_
    obtain ⟨w28, m27, hq26, h⟩ := bndE_t h
    refine ev_cVi mv_X5_143 dX5_yearLine_130 (c_X5_numberUnlike hq26) rfl shC_41 rfl rfl (Nat.le_of_ble_eq_true rfl) (by rfl) (Nat.le_of_ble_eq_true rfl) (Nat.le_of_ble_eq_true rfl) (Nat.le_of_ble_eq_true rfl) ?_
    refine ev_istore (loc' := [_, _, _, _, _, _]) dX5_yearLine_133 rfl (by decide) (by rfl) ?_
    refine ev_aload_n dX5_yearLine_135 rfl ?_
    refine ev_getR fr_X5_33 shC_41 rfl dX5_yearLine_136 ?_
    refine ev_iconst (v := (3 : Int32)) dX5_yearLine_139 (by decide) ?_
    refine ev_iload dX5_yearLine_140 rfl ?_
    obtain ⟨m30, hq29, h⟩ := bndV_t h
    refine ev_cVv mv_X5_160 dX5_yearLine_142 (c_X2_put atC_52 hq29) rfl shC_52 rfl rfl (Nat.le_of_ble_eq_true rfl) (by rfl) (Nat.le_of_ble_eq_true rfl) (Nat.le_of_ble_eq_true rfl) (Nat.le_of_ble_eq_true rfl) ?_
    refine ev_aload_n dX5_yearLine_145 rfl ?_
    refine ev_getR fr_X5_33 shC_41 rfl dX5_yearLine_146 ?_
    refine ev_iconst (v := (4 : Int32)) dX5_yearLine_149 (by decide) ?_
    refine ev_iload dX5_yearLine_150 rfl ?_
    obtain ⟨m32, hq31, h⟩ := bndV_t h
    refine ev_cVv mv_X5_160 dX5_yearLine_152 (c_X2_put atC_52 hq31) rfl shC_52 rfl rfl (Nat.le_of_ble_eq_true rfl) (by rfl) (Nat.le_of_ble_eq_true rfl) (Nat.le_of_ble_eq_true rfl) (Nat.le_of_ble_eq_true rfl) ?_
    refine ev_aload_n dX5_yearLine_155 rfl ?_
    refine ev_getR fr_X5_33 shC_41 rfl dX5_yearLine_156 ?_
    refine ev_iconst (v := (5 : Int32)) dX5_yearLine_159 (by decide) ?_
    refine ev_aload_n dX5_yearLine_160 rfl ?_
    refine ev_aload_n dX5_yearLine_161 rfl ?_
    refine ev_getI fr_X5_47 shC_41 rfl dX5_yearLine_162 ?_
    refine ev_iload dX5_yearLine_165 rfl ?_
    refine ev_iload dX5_yearLine_167 rfl ?_
    obtain ⟨w35, m34, hq33, h⟩ := bndE_t h
    refine ev_cVi mv_X5_143 dX5_yearLine_169 (c_X5_numberUnlike hq33) rfl shC_41 rfl rfl (Nat.le_of_ble_eq_true rfl) (by rfl) (Nat.le_of_ble_eq_true rfl) (Nat.le_of_ble_eq_true rfl) (Nat.le_of_ble_eq_true rfl) ?_
    obtain ⟨m37, hq36, h⟩ := bndV_t h
    refine ev_cVv mv_X5_160 dX5_yearLine_172 (c_X2_put atC_52 hq36) rfl shC_52 rfl rfl (Nat.le_of_ble_eq_true rfl) (by rfl) (Nat.le_of_ble_eq_true rfl) (Nat.le_of_ble_eq_true rfl) (Nat.le_of_ble_eq_true rfl) ?_
    refine ev_aload_n dX5_yearLine_175 rfl ?_
    refine ev_sipush (v := (20059 : Int32)) dX5_yearLine_176 (by decide) ?_
    obtain ⟨w40, m39, hq38, h⟩ := bndE_t h
    refine ev_cVi mv_X5_140 dX5_yearLine_179 (c_X5_expect hq38) rfl shC_41 rfl rfl (Nat.le_of_ble_eq_true rfl) (by rfl) (Nat.le_of_ble_eq_true rfl) (Nat.le_of_ble_eq_true rfl) (Nat.le_of_ble_eq_true rfl) ?_
    refine ev_pop dX5_yearLine_182 (by rfl) ?_
    exact ev_vret rfl (by decide) (by decide) dX5_yearLine_183 (eqP_V h)
def f_X5_yearLine_j64 (G : Nat)  (v1 v2 : Int32) (μ : Mem) : Option Mem :=
  bndE (f_X5_expect G v2 μ) (fun w11 m10 =>
  (if v2 = (10021 : Int32) then
  f_X5_yearLine_j89 G v1 v2 (m10 41 11) m10
  else
  f_X5_yearLine_j89 G v1 v2 (m10 41 12) m10))
set_option maxHeartbeats 4000000 in
set_option maxRecDepth 100000 in
theorem f_X5_yearLine_j64_ok {bb : Bool} {G : Nat} {μr : Mem}    {v1 v2 : Int32} {μ : Mem} (h : f_X5_yearLine_j64 G v1 v2 μ = some μr) : Ev RX5 cX5_yearLine 6 none false 4 0 0 (eqP none (shC bb) μr) 64 [some (.ref 41), some (.int v1), some (.int v2), none, none, none] [] (shC bb) μ 0 0 := by
  unfold f_X5_yearLine_j64 at h
  refine ev_aload_n dX5_yearLine_64 rfl ?_
  refine ev_iload_n dX5_yearLine_65 rfl ?_
  obtain ⟨w11, m10, hq9, h⟩ := bndE_t h
  refine ev_cVi mv_X5_140 dX5_yearLine_66 (c_X5_expect hq9) rfl shC_41 rfl rfl (Nat.le_of_ble_eq_true rfl) (by rfl) (Nat.le_of_ble_eq_true rfl) (Nat.le_of_ble_eq_true rfl) (Nat.le_of_ble_eq_true rfl) ?_
  refine ev_pop dX5_yearLine_69 (by rfl) ?_
  refine ev_aload_n dX5_yearLine_70 rfl ?_
  refine ev_iload_n dX5_yearLine_71 rfl ?_
  refine ev_sipush (v := (10021 : Int32)) dX5_yearLine_72 (by decide) ?_
  refine ev_icmp_ne (tgt := 85) dX5_yearLine_75 (by decide) (fun hc12 => ?_) (fun hc12 => ?_)
  · replace h := ite_f hc12 h
    refine ev_aload_n dX5_yearLine_85 rfl ?_
    refine ev_getI fr_X5_50 shC_41 rfl dX5_yearLine_86 ?_
    exact ev_lt (f_X5_yearLine_j89_ok h) ⟨rfl, ⟨rfl, ⟨rfl, trivial⟩⟩⟩
  · replace h := ite_t hc12 h
    refine ev_aload_n dX5_yearLine_78 rfl ?_
    refine ev_getI fr_X5_47 shC_41 rfl dX5_yearLine_79 ?_
    refine ev_goto (tgt := 89) dX5_yearLine_82 (by decide) ?_
    exact ev_lt (f_X5_yearLine_j89_ok h) ⟨rfl, ⟨rfl, ⟨rfl, trivial⟩⟩⟩
def f_X5_yearLine (G : Nat) (μ : Mem) : Option Mem :=
  bndE (f_X5_beginLine G (10019 : Int32) (μ 52 3) μ) (fun w3 m2 =>
  (if w3 = (0 : Int32) then
  some m2
  else
  bndE (f_X5_numberBelow G (1000 : Int32) m2) (fun w7 m6 =>
  (if (m6 41 6) = (0 : Int32) then
  (if (m6 41 10) = (10020 : Int32) then
  f_X5_yearLine_j64 G w7 (m6 41 10) m6
  else
  (if (m6 41 10) = (10021 : Int32) then
  f_X5_yearLine_j64 G w7 (m6 41 10) m6
  else
  (if (m6 41 10) = (10022 : Int32) then
  f_X5_yearLine_j64 G w7 (m6 41 10) m6
  else
  bndV (f_X5_fail G (1 : Int32) m6) (fun m45 =>
  f_X5_yearLine_j64 G w7 (m6 41 10) m45))))
  else
  f_X5_yearLine_j64 G w7 (m6 41 10) m6))))
set_option maxHeartbeats 4000000 in
set_option maxRecDepth 100000 in
theorem c_X5_yearLine {bb : Bool} {G : Nat} {μ : Mem} {μr : Mem}  (h : f_X5_yearLine G μ = some μr) : Cn yX5_yearLine cX5_yearLine 6 none 4 0 0 [.ref 41] (shC bb) μ (eqP none (shC bb) μr) := by
  refine cn_of (own := RX5) (ini := false) (loc := [some (.ref 41), none, none, none, none, none]) rfl (by decide) (fun q => by cases q) (Nat.le_of_ble_eq_true rfl) (by rfl) rfl ?_
  unfold f_X5_yearLine at h
  refine ev_aload_n dX5_yearLine_0 rfl ?_
  refine ev_sipush (v := (10019 : Int32)) dX5_yearLine_1 (by decide) ?_
  refine ev_aload_n dX5_yearLine_4 rfl ?_
  refine ev_getR fr_X5_33 shC_41 rfl dX5_yearLine_5 ?_
  refine ev_getI fr_X5_85 shC_52 rfl dX5_yearLine_8 ?_
  obtain ⟨w3, m2, hq1, h⟩ := bndE_t h
  refine ev_cVi mv_X5_150 dX5_yearLine_11 (c_X5_beginLine hq1) rfl shC_41 rfl rfl (Nat.le_of_ble_eq_true rfl) (by rfl) (Nat.le_of_ble_eq_true rfl) (Nat.le_of_ble_eq_true rfl) (Nat.le_of_ble_eq_true rfl) ?_
  refine ev_if_ne (tgt := 18) dX5_yearLine_14 (by decide) (fun hc4 => ?_) (fun hc4 => ?_)
  · replace h := ite_f hc4 h
    refine ev_aload_n dX5_yearLine_18 rfl ?_
    refine ev_sipush (v := (1000 : Int32)) dX5_yearLine_19 (by decide) ?_
    obtain ⟨w7, m6, hq5, h⟩ := bndE_t h
    refine ev_cVi mv_X5_153 dX5_yearLine_22 (c_X5_numberBelow hq5) rfl shC_41 rfl rfl (Nat.le_of_ble_eq_true rfl) (by rfl) (Nat.le_of_ble_eq_true rfl) (Nat.le_of_ble_eq_true rfl) (Nat.le_of_ble_eq_true rfl) ?_
    refine ev_istore_n (loc' := [_, _, _, _, _, _]) dX5_yearLine_25 rfl (by decide) (by rfl) ?_
    refine ev_aload_n dX5_yearLine_26 rfl ?_
    refine ev_getI fr_X5_65 shC_41 rfl dX5_yearLine_27 ?_
    refine ev_istore_n (loc' := [_, _, _, _, _, _]) dX5_yearLine_30 rfl (by decide) (by rfl) ?_
    refine ev_aload_n dX5_yearLine_31 rfl ?_
    refine ev_getI fr_X5_44 shC_41 rfl dX5_yearLine_32 ?_
    refine ev_if_ne (tgt := 64) dX5_yearLine_35 (by decide) (fun hc8 => ?_) (fun hc8 => ?_)
    · replace h := ite_f hc8 h
      exact ev_lt (f_X5_yearLine_j64_ok h) ⟨rfl, ⟨rfl, ⟨rfl, trivial⟩⟩⟩
    · replace h := ite_t hc8 h
      refine ev_iload_n dX5_yearLine_38 rfl ?_
      refine ev_sipush (v := (10020 : Int32)) dX5_yearLine_39 (by decide) ?_
      refine ev_icmp_eq (tgt := 64) dX5_yearLine_42 (by decide) (fun hc41 => ?_) (fun hc41 => ?_)
      · replace h := ite_t hc41 h
        exact ev_lt (f_X5_yearLine_j64_ok h) ⟨rfl, ⟨rfl, ⟨rfl, trivial⟩⟩⟩
      · replace h := ite_f hc41 h
        refine ev_iload_n dX5_yearLine_45 rfl ?_
        refine ev_sipush (v := (10021 : Int32)) dX5_yearLine_46 (by decide) ?_
        refine ev_icmp_eq (tgt := 64) dX5_yearLine_49 (by decide) (fun hc42 => ?_) (fun hc42 => ?_)
        · replace h := ite_t hc42 h
          exact ev_lt (f_X5_yearLine_j64_ok h) ⟨rfl, ⟨rfl, ⟨rfl, trivial⟩⟩⟩
        · replace h := ite_f hc42 h
          refine ev_iload_n dX5_yearLine_52 rfl ?_
          refine ev_sipush (v := (10022 : Int32)) dX5_yearLine_53 (by decide) ?_
          refine ev_icmp_eq (tgt := 64) dX5_yearLine_56 (by decide) (fun hc43 => ?_) (fun hc43 => ?_)
          · replace h := ite_t hc43 h
            exact ev_lt (f_X5_yearLine_j64_ok h) ⟨rfl, ⟨rfl, ⟨rfl, trivial⟩⟩⟩
          · replace h := ite_f hc43 h
            refine ev_aload_n dX5_yearLine_59 rfl ?_
            refine ev_iconst (v := (1 : Int32)) dX5_yearLine_60 (by decide) ?_
            obtain ⟨m45, hq44, h⟩ := bndV_t h
            refine ev_cVv mv_X5_133 dX5_yearLine_61 (c_X5_fail hq44) rfl shC_41 rfl rfl (Nat.le_of_ble_eq_true rfl) (by rfl) (Nat.le_of_ble_eq_true rfl) (Nat.le_of_ble_eq_true rfl) (Nat.le_of_ble_eq_true rfl) ?_
            exact ev_lt (f_X5_yearLine_j64_ok h) ⟨rfl, ⟨rfl, ⟨rfl, trivial⟩⟩⟩
  · replace h := ite_t hc4 h
    exact ev_vret rfl (by decide) (by decide) dX5_yearLine_17 (eqP_V h)
def f_X5_sisterLine (G : Nat) (μ : Mem) : Option Mem :=
  bndE (f_X5_beginLine G (10023 : Int32) (μ 52 3) μ) (fun w3 m2 =>
  (if w3 = (0 : Int32) then
  some m2
  else
  bndE (f_X5_numberBelow G (m2 41 11) m2) (fun w7 m6 =>
  bndE (f_X5_expect G (10024 : Int32) m6) (fun w10 m9 =>
  bndE (f_X5_numberUnlike G (m9 41 11) w7 (-1 : Int32) m9) (fun w13 m12 =>
  bndE (f_X2_add G 52 96 w7 w13 (0 : Int32) (0 : Int32) m12) (fun w16 m15 =>
  bndE (f_X5_expect G (20059 : Int32) m15) (fun w19 m18 =>
  some m18)))))))
set_option maxHeartbeats 4000000 in
set_option maxRecDepth 100000 in
theorem c_X5_sisterLine {bb : Bool} {G : Nat} {μ : Mem} {μr : Mem}  (h : f_X5_sisterLine G μ = some μr) : Cn yX5_sisterLine cX5_sisterLine 3 none 4 0 0 [.ref 41] (shC bb) μ (eqP none (shC bb) μr) := by
  refine cn_of (own := RX5) (ini := false) (loc := [some (.ref 41), none, none]) rfl (by decide) (fun q => by cases q) (Nat.le_of_ble_eq_true rfl) (by rfl) rfl ?_
  unfold f_X5_sisterLine at h
  refine ev_aload_n dX5_sisterLine_0 rfl ?_
  refine ev_sipush (v := (10023 : Int32)) dX5_sisterLine_1 (by decide) ?_
  refine ev_aload_n dX5_sisterLine_4 rfl ?_
  refine ev_getR fr_X5_33 shC_41 rfl dX5_sisterLine_5 ?_
  refine ev_getI fr_X5_85 shC_52 rfl dX5_sisterLine_8 ?_
  obtain ⟨w3, m2, hq1, h⟩ := bndE_t h
  refine ev_cVi mv_X5_150 dX5_sisterLine_11 (c_X5_beginLine hq1) rfl shC_41 rfl rfl (Nat.le_of_ble_eq_true rfl) (by rfl) (Nat.le_of_ble_eq_true rfl) (Nat.le_of_ble_eq_true rfl) (Nat.le_of_ble_eq_true rfl) ?_
  refine ev_if_eq (tgt := 65) dX5_sisterLine_14 (by decide) (fun hc4 => ?_) (fun hc4 => ?_)
  · replace h := ite_t hc4 h
    exact ev_vret rfl (by decide) (by decide) dX5_sisterLine_65 (eqP_V h)
  · replace h := ite_f hc4 h
    refine ev_aload_n dX5_sisterLine_17 rfl ?_
    refine ev_aload_n dX5_sisterLine_18 rfl ?_
    refine ev_getI fr_X5_47 shC_41 rfl dX5_sisterLine_19 ?_
    obtain ⟨w7, m6, hq5, h⟩ := bndE_t h
    refine ev_cVi mv_X5_153 dX5_sisterLine_22 (c_X5_numberBelow hq5) rfl shC_41 rfl rfl (Nat.le_of_ble_eq_true rfl) (by rfl) (Nat.le_of_ble_eq_true rfl) (Nat.le_of_ble_eq_true rfl) (Nat.le_of_ble_eq_true rfl) ?_
    refine ev_istore_n (loc' := [_, _, _]) dX5_sisterLine_25 rfl (by decide) (by rfl) ?_
    refine ev_aload_n dX5_sisterLine_26 rfl ?_
    refine ev_sipush (v := (10024 : Int32)) dX5_sisterLine_27 (by decide) ?_
    obtain ⟨w10, m9, hq8, h⟩ := bndE_t h
    refine ev_cVi mv_X5_140 dX5_sisterLine_30 (c_X5_expect hq8) rfl shC_41 rfl rfl (Nat.le_of_ble_eq_true rfl) (by rfl) (Nat.le_of_ble_eq_true rfl) (Nat.le_of_ble_eq_true rfl) (Nat.le_of_ble_eq_true rfl) ?_
    refine ev_pop dX5_sisterLine_33 (by rfl) ?_
    refine ev_aload_n dX5_sisterLine_34 rfl ?_
    refine ev_aload_n dX5_sisterLine_35 rfl ?_
    refine ev_getI fr_X5_47 shC_41 rfl dX5_sisterLine_36 ?_
    refine ev_iload_n dX5_sisterLine_39 rfl ?_
    refine ev_iconst (v := (-1 : Int32)) dX5_sisterLine_40 (by decide) ?_
    obtain ⟨w13, m12, hq11, h⟩ := bndE_t h
    refine ev_cVi mv_X5_143 dX5_sisterLine_41 (c_X5_numberUnlike hq11) rfl shC_41 rfl rfl (Nat.le_of_ble_eq_true rfl) (by rfl) (Nat.le_of_ble_eq_true rfl) (Nat.le_of_ble_eq_true rfl) (Nat.le_of_ble_eq_true rfl) ?_
    refine ev_istore_n (loc' := [_, _, _]) dX5_sisterLine_44 rfl (by decide) (by rfl) ?_
    refine ev_aload_n dX5_sisterLine_45 rfl ?_
    refine ev_getR fr_X5_33 shC_41 rfl dX5_sisterLine_46 ?_
    refine ev_iload_n dX5_sisterLine_49 rfl ?_
    refine ev_iload_n dX5_sisterLine_50 rfl ?_
    refine ev_iconst (v := (0 : Int32)) dX5_sisterLine_51 (by decide) ?_
    refine ev_iconst (v := (0 : Int32)) dX5_sisterLine_52 (by decide) ?_
    obtain ⟨w16, m15, hq14, h⟩ := bndE_t h
    refine ev_cVi mv_X5_156 dX5_sisterLine_53 (c_X2_add atC_52 hq14) rfl shC_52 rfl rfl (Nat.le_of_ble_eq_true rfl) (by rfl) (Nat.le_of_ble_eq_true rfl) (Nat.le_of_ble_eq_true rfl) (Nat.le_of_ble_eq_true rfl) ?_
    refine ev_pop dX5_sisterLine_56 (by rfl) ?_
    refine ev_aload_n dX5_sisterLine_57 rfl ?_
    refine ev_sipush (v := (20059 : Int32)) dX5_sisterLine_58 (by decide) ?_
    obtain ⟨w19, m18, hq17, h⟩ := bndE_t h
    refine ev_cVi mv_X5_140 dX5_sisterLine_61 (c_X5_expect hq17) rfl shC_41 rfl rfl (Nat.le_of_ble_eq_true rfl) (by rfl) (Nat.le_of_ble_eq_true rfl) (Nat.le_of_ble_eq_true rfl) (Nat.le_of_ble_eq_true rfl) ?_
    refine ev_pop dX5_sisterLine_64 (by rfl) ?_
    exact ev_vret rfl (by decide) (by decide) dX5_sisterLine_65 (eqP_V h)
def f_X5_read_j145 (G : Nat) (r68 : Int32 → Int32 → Mem → Option (Int32 × Mem)) (k68_151 : Int32 → Mem → Option (Int32 × Mem)) (v1 v4 : Int32) (μ : Mem) : Option (Int32 × Mem) :=
  r68 v1 (v4 + (1 : Int32)) μ
set_option maxHeartbeats 4000000 in
set_option maxRecDepth 100000 in
theorem f_X5_read_j145_ok {bb : Bool} {G : Nat} {r : Int32} {μr : Mem}  {r68 : Int32 → Int32 → Mem → Option (Int32 × Mem)} {k68_151 : Int32 → Mem → Option (Int32 × Mem)} (hr68 : ∀ (v1 : Int32) (v4 : Int32) (m : Mem), r68 v1 v4 m = some (r, μr) → Ev RX5 cX5_read 5 (some .int) false 62 0 0 (eqP (some r) (shC bb) μr) 68 [some (.ref 41), some (.int v1), none, none, some (.int v4)] [] (shC bb) m 0 0) (hk68_151 : ∀ (v1 : Int32) (m : Mem), k68_151 v1 m = some (r, μr) → Ev RX5 cX5_read 5 (some .int) false 62 0 0 (eqP (some r) (shC bb) μr) 151 [some (.ref 41), some (.int v1), none, none, none] [] (shC bb) m 0 0) {v1 v4 : Int32} {μ : Mem} (h : f_X5_read_j145 G r68 k68_151 v1 v4 μ = some (r, μr)) : Ev RX5 cX5_read 5 (some .int) false 62 0 0 (eqP (some r) (shC bb) μr) 145 [some (.ref 41), some (.int v1), none, none, some (.int v4)] [] (shC bb) μ 0 0 := by
  unfold f_X5_read_j145 at h
  refine ev_iinc (cq := (1 : Int32)) (loc' := [_, _, _, _, _]) dX5_read_145 rfl (by decide) rfl (by decide) (by rfl) ?_
  refine ev_goto (tgt := 68) dX5_read_148 (by decide) ?_
  exact ev_lt (hr68 _ _ _ h) ⟨rfl, ⟨rfl, ⟨rfl, trivial⟩⟩⟩
def f_X5_read_L68 (G : Nat) (k68_151 : Int32 → Mem → Option (Int32 × Mem)) : Nat → Int32 → Int32 → Mem → Option (Int32 × Mem)
  | 0, _, _, _ => none
  | g + 1, v1, v4, μ =>
  (if (400 : Int32) < v4 then
  k68_151 v1 μ
  else
  (if (μ 41 6) = (0 : Int32) then
  (if (μ 41 10) = (30000 : Int32) then
  k68_151 v1 μ
  else
  (if v1 = (0 : Int32) then
  bndV (f_X5_lawLine G μ) (fun m21 =>
  f_X5_read_j145 G (f_X5_read_L68 G k68_151 g) k68_151 v1 v4 m21)
  else
  (if v1 = (1 : Int32) then
  bndV (f_X5_questionLine G μ) (fun m24 =>
  f_X5_read_j145 G (f_X5_read_L68 G k68_151 g) k68_151 v1 v4 m24)
  else
  (if v1 = (2 : Int32) then
  bndV (f_X5_yearLine G μ) (fun m27 =>
  f_X5_read_j145 G (f_X5_read_L68 G k68_151 g) k68_151 v1 v4 m27)
  else
  bndV (f_X5_sisterLine G μ) (fun m29 =>
  f_X5_read_j145 G (f_X5_read_L68 G k68_151 g) k68_151 v1 v4 m29)))))
  else
  k68_151 v1 μ))
set_option maxHeartbeats 4000000 in
set_option maxRecDepth 100000 in
theorem f_X5_read_L68_ok {bb : Bool} {G : Nat} {r : Int32} {μr : Mem}  {k68_151 : Int32 → Mem → Option (Int32 × Mem)} (hk68_151 : ∀ (v1 : Int32) (m : Mem), k68_151 v1 m = some (r, μr) → Ev RX5 cX5_read 5 (some .int) false 62 0 0 (eqP (some r) (shC bb) μr) 151 [some (.ref 41), some (.int v1), none, none, none] [] (shC bb) m 0 0) : ∀ (g : Nat) (v1 v4 : Int32) (μ : Mem), f_X5_read_L68 G k68_151 g v1 v4 μ = some (r, μr) → Ev RX5 cX5_read 5 (some .int) false 62 0 0 (eqP (some r) (shC bb) μr) 68 [some (.ref 41), some (.int v1), none, none, some (.int v4)] [] (shC bb) μ 0 0 := by
  intro g
  induction g with
  | zero =>
    intro v1 v4 μ h
    cases h
  | succ g ih =>
    intro v1 v4 μ h
    rw [f_X5_read_L68] at h
    refine ev_iload dX5_read_68 rfl ?_
    refine ev_sipush (v := (400 : Int32)) dX5_read_70 (by decide) ?_
    refine ev_icmp_gt (tgt := 151) dX5_read_73 (by decide) (fun hc16 => ?_) (fun hc16 => ?_)
    · replace h := ite_t hc16 h
      exact ev_lt (hk68_151 _ _ h) ⟨rfl, ⟨rfl, trivial⟩⟩
    · replace h := ite_f hc16 h
      refine ev_aload_n dX5_read_76 rfl ?_
      refine ev_getI fr_X5_44 shC_41 rfl dX5_read_77 ?_
      refine ev_if_ne (tgt := 151) dX5_read_80 (by decide) (fun hc17 => ?_) (fun hc17 => ?_)
      · replace h := ite_f hc17 h
        exact ev_lt (hk68_151 _ _ h) ⟨rfl, ⟨rfl, trivial⟩⟩
      · replace h := ite_t hc17 h
        refine ev_aload_n dX5_read_83 rfl ?_
        refine ev_getI fr_X5_65 shC_41 rfl dX5_read_84 ?_
        refine ev_sipush (v := (30000 : Int32)) dX5_read_87 (by decide) ?_
        refine ev_icmp_eq (tgt := 151) dX5_read_90 (by decide) (fun hc18 => ?_) (fun hc18 => ?_)
        · replace h := ite_t hc18 h
          exact ev_lt (hk68_151 _ _ h) ⟨rfl, ⟨rfl, trivial⟩⟩
        · replace h := ite_f hc18 h
          refine ev_iload_n dX5_read_93 rfl ?_
          refine ev_em (v := (0 : Int32)) (fun hc19 => ?_) (fun hc19 => ?_)
          · replace h := ite_t hc19 h
            refine ev_tsC (v := (0 : Int32)) (off := 26) (tgt := 120) dX5_read_94 (by decide) hc19 (by decide) (by decide) ?_
            refine ev_aload_n dX5_read_120 rfl ?_
            obtain ⟨m21, hq20, h⟩ := bndV_t h
            refine ev_cVv mv_X5_70 dX5_read_121 (c_X5_lawLine hq20) rfl shC_41 rfl rfl (Nat.le_of_ble_eq_true rfl) (by rfl) (Nat.le_of_ble_eq_true rfl) (Nat.le_of_ble_eq_true rfl) (Nat.le_of_ble_eq_true rfl) ?_
            refine ev_goto (tgt := 145) dX5_read_124 (by decide) ?_
            exact ev_lt (f_X5_read_j145_ok ih hk68_151 h) ⟨rfl, ⟨rfl, ⟨rfl, trivial⟩⟩⟩
          · replace h := ite_f hc19 h
            refine ev_em (v := (1 : Int32)) (fun hc22 => ?_) (fun hc22 => ?_)
            · replace h := ite_t hc22 h
              refine ev_tsC (v := (1 : Int32)) (off := 33) (tgt := 127) dX5_read_94 (by decide) hc22 (by decide) (by decide) ?_
              refine ev_aload_n dX5_read_127 rfl ?_
              obtain ⟨m24, hq23, h⟩ := bndV_t h
              refine ev_cVv mv_X5_73 dX5_read_128 (c_X5_questionLine hq23) rfl shC_41 rfl rfl (Nat.le_of_ble_eq_true rfl) (by rfl) (Nat.le_of_ble_eq_true rfl) (Nat.le_of_ble_eq_true rfl) (Nat.le_of_ble_eq_true rfl) ?_
              refine ev_goto (tgt := 145) dX5_read_131 (by decide) ?_
              exact ev_lt (f_X5_read_j145_ok ih hk68_151 h) ⟨rfl, ⟨rfl, ⟨rfl, trivial⟩⟩⟩
            · replace h := ite_f hc22 h
              refine ev_em (v := (2 : Int32)) (fun hc25 => ?_) (fun hc25 => ?_)
              · replace h := ite_t hc25 h
                refine ev_tsC (v := (2 : Int32)) (off := 40) (tgt := 134) dX5_read_94 (by decide) hc25 (by decide) (by decide) ?_
                refine ev_aload_n dX5_read_134 rfl ?_
                obtain ⟨m27, hq26, h⟩ := bndV_t h
                refine ev_cVv mv_X5_76 dX5_read_135 (c_X5_yearLine hq26) rfl shC_41 rfl rfl (Nat.le_of_ble_eq_true rfl) (by rfl) (Nat.le_of_ble_eq_true rfl) (Nat.le_of_ble_eq_true rfl) (Nat.le_of_ble_eq_true rfl) ?_
                refine ev_goto (tgt := 145) dX5_read_138 (by decide) ?_
                exact ev_lt (f_X5_read_j145_ok ih hk68_151 h) ⟨rfl, ⟨rfl, ⟨rfl, trivial⟩⟩⟩
              · replace h := ite_f hc25 h
                refine ev_tsE (tgt := 141) dX5_read_94 (by decide) ⟨Or.inr hc19, ⟨Or.inr hc22, ⟨Or.inr hc25, trivial⟩⟩⟩ (by decide) ?_
                refine ev_aload_n dX5_read_141 rfl ?_
                obtain ⟨m29, hq28, h⟩ := bndV_t h
                refine ev_cVv mv_X5_79 dX5_read_142 (c_X5_sisterLine hq28) rfl shC_41 rfl rfl (Nat.le_of_ble_eq_true rfl) (by rfl) (Nat.le_of_ble_eq_true rfl) (Nat.le_of_ble_eq_true rfl) (Nat.le_of_ble_eq_true rfl) ?_
                exact ev_lt (f_X5_read_j145_ok ih hk68_151 h) ⟨rfl, ⟨rfl, ⟨rfl, trivial⟩⟩⟩
def f_X5_read_j151 (G : Nat)  (v1 : Int32) (μ : Mem) : Option (Int32 × Mem) :=
  (if (μ 41 6) = (0 : Int32) then
  (if v1 = (0 : Int32) then
  some ((μ 45 6), μ)
  else
  some ((μ 52 3), μ))
  else
  some ((-1 : Int32), μ))
set_option maxHeartbeats 4000000 in
set_option maxRecDepth 100000 in
theorem f_X5_read_j151_ok {bb : Bool} {G : Nat} {r : Int32} {μr : Mem}    {v1 : Int32} {μ : Mem} (h : f_X5_read_j151 G v1 μ = some (r, μr)) : Ev RX5 cX5_read 5 (some .int) false 62 0 0 (eqP (some r) (shC bb) μr) 151 [some (.ref 41), some (.int v1), none, none, none] [] (shC bb) μ 0 0 := by
  unfold f_X5_read_j151 at h
  refine ev_aload_n dX5_read_151 rfl ?_
  refine ev_getI fr_X5_44 shC_41 rfl dX5_read_152 ?_
  refine ev_if_eq (tgt := 160) dX5_read_155 (by decide) (fun hc30 => ?_) (fun hc30 => ?_)
  · replace h := ite_t hc30 h
    refine ev_iload_n dX5_read_160 rfl ?_
    refine ev_if_ne (tgt := 174) dX5_read_161 (by decide) (fun hc31 => ?_) (fun hc31 => ?_)
    · replace h := ite_f hc31 h
      refine ev_aload_n dX5_read_174 rfl ?_
      refine ev_getR fr_X5_33 shC_41 rfl dX5_read_175 ?_
      refine ev_getI fr_X5_85 shC_52 rfl dX5_read_178 ?_
      exact ev_iret rfl rfl (by decide) (by decide) dX5_read_181 (eqP_E h)
    · replace h := ite_t hc31 h
      refine ev_aload_n dX5_read_164 rfl ?_
      refine ev_getR fr_X5_24 shC_41 rfl dX5_read_165 ?_
      refine ev_getI fr_X5_82 shC_45 rfl dX5_read_168 ?_
      refine ev_goto (tgt := 181) dX5_read_171 (by decide) ?_
      exact ev_iret rfl rfl (by decide) (by decide) dX5_read_181 (eqP_E h)
  · replace h := ite_f hc30 h
    refine ev_iconst (v := (-1 : Int32)) dX5_read_158 (by decide) ?_
    exact ev_iret rfl rfl (by decide) (by decide) dX5_read_159 (eqP_E h)
def f_X5_read (G : Nat) (p1 p2 p3 : Int32) (μ : Mem) : Option (Int32 × Mem) :=
  (let m1 := wr μ 41 6 (0 : Int32)
  (let m2 := wr m1 41 7 (-1 : Int32)
  (let m3 := wr m2 41 11 p2
  (let m4 := wr m3 41 12 p3
  bndV (f_X5_splitTape G m4) (fun m6 =>
  bndV (f_X1_clear G 45 m6) (fun m8 =>
  bndE (f_X2_clear G 52 96 m8) (fun w11 m10 =>
  (if p1 < (0 : Int32) then
  some ((-1 : Int32), m10)
  else
  (if p1 ≤ (3 : Int32) then
  (let m14 := wr m10 41 9 (0 : Int32)
  (let m15 := wr m14 41 10 (m14 43 0)
  f_X5_read_L68 G (f_X5_read_j151 G) G p1 (0 : Int32) m15))
  else
  some ((-1 : Int32), m10))))))))))
set_option maxHeartbeats 4000000 in
set_option maxRecDepth 100000 in
theorem c_X5_read {bb : Bool} {G : Nat} {μ : Mem} {p1 p2 p3 : Int32} {r : Int32} {μr : Mem}  (h : f_X5_read G p1 p2 p3 μ = some (r, μr)) : Cn yX5_read cX5_read 5 (some .int) 62 0 0 [.ref 41, .int p1, .int p2, .int p3] (shC bb) μ (eqP (some r) (shC bb) μr) := by
  refine cn_of (own := RX5) (ini := false) (loc := [some (.ref 41), some (.int p1), some (.int p2), some (.int p3), none]) rfl (by decide) (fun q => by cases q) (Nat.le_of_ble_eq_true rfl) (by rfl) rfl ?_
  unfold f_X5_read at h
  refine ev_aload_n dX5_read_0 rfl ?_
  refine ev_iconst (v := (0 : Int32)) dX5_read_1 (by decide) ?_
  refine ev_putI fr_X5_44 shC_41 rfl rfl rfl dX5_read_2 ?_
  refine ev_aload_n dX5_read_5 rfl ?_
  refine ev_iconst (v := (-1 : Int32)) dX5_read_6 (by decide) ?_
  refine ev_putI fr_X5_37 shC_41 rfl rfl rfl dX5_read_7 ?_
  refine ev_aload_n dX5_read_10 rfl ?_
  refine ev_iload_n dX5_read_11 rfl ?_
  refine ev_putI fr_X5_47 shC_41 rfl rfl rfl dX5_read_12 ?_
  refine ev_aload_n dX5_read_15 rfl ?_
  refine ev_iload_n dX5_read_16 rfl ?_
  refine ev_putI fr_X5_50 shC_41 rfl rfl rfl dX5_read_17 ?_
  refine ev_aload_n dX5_read_20 rfl ?_
  obtain ⟨m6, hq5, h⟩ := bndV_t h
  refine ev_cVv mv_X5_53 dX5_read_21 (c_X5_splitTape hq5) rfl shC_41 rfl rfl (Nat.le_of_ble_eq_true rfl) (by rfl) (Nat.le_of_ble_eq_true rfl) (Nat.le_of_ble_eq_true rfl) (Nat.le_of_ble_eq_true rfl) ?_
  refine ev_aload_n dX5_read_24 rfl ?_
  refine ev_getR fr_X5_24 shC_41 rfl dX5_read_25 ?_
  obtain ⟨m8, hq7, h⟩ := bndV_t h
  refine ev_cVv mv_X5_56 dX5_read_28 (c_X1_clear atC_45 hq7) rfl shC_45 rfl rfl (Nat.le_of_ble_eq_true rfl) (by rfl) (Nat.le_of_ble_eq_true rfl) (Nat.le_of_ble_eq_true rfl) (Nat.le_of_ble_eq_true rfl) ?_
  refine ev_aload_n dX5_read_31 rfl ?_
  refine ev_getR fr_X5_33 shC_41 rfl dX5_read_32 ?_
  obtain ⟨w11, m10, hq9, h⟩ := bndE_t h
  refine ev_cVi mv_X5_59 dX5_read_35 (c_X2_clear atC_52 hq9) rfl shC_52 rfl rfl (Nat.le_of_ble_eq_true rfl) (by rfl) (Nat.le_of_ble_eq_true rfl) (Nat.le_of_ble_eq_true rfl) (Nat.le_of_ble_eq_true rfl) ?_
  refine ev_pop dX5_read_38 (by rfl) ?_
  refine ev_iload_n dX5_read_39 rfl ?_
  refine ev_if_lt (tgt := 48) dX5_read_40 (by decide) (fun hc12 => ?_) (fun hc12 => ?_)
  · replace h := ite_t hc12 h
    refine ev_iconst (v := (-1 : Int32)) dX5_read_48 (by decide) ?_
    exact ev_iret rfl rfl (by decide) (by decide) dX5_read_49 (eqP_E h)
  · replace h := ite_f hc12 h
    refine ev_iload_n dX5_read_43 rfl ?_
    refine ev_iconst (v := (3 : Int32)) dX5_read_44 (by decide) ?_
    refine ev_icmp_le (tgt := 50) dX5_read_45 (by decide) (fun hc13 => ?_) (fun hc13 => ?_)
    · replace h := ite_t hc13 h
      refine ev_aload_n dX5_read_50 rfl ?_
      refine ev_iconst (v := (0 : Int32)) dX5_read_51 (by decide) ?_
      refine ev_putI fr_X5_62 shC_41 rfl rfl rfl dX5_read_52 ?_
      refine ev_aload_n dX5_read_55 rfl ?_
      refine ev_aload_n dX5_read_56 rfl ?_
      refine ev_getR fr_X5_15 shC_41 rfl dX5_read_57 ?_
      refine ev_iconst (v := (0 : Int32)) dX5_read_60 (by decide) ?_
      refine ev_ialdL (j := 0) shC_43 (by decide) (vpl _ _ (by decide)) dX5_read_61 ?_
      refine ev_putI fr_X5_65 shC_41 rfl rfl rfl dX5_read_62 ?_
      refine ev_iconst (v := (0 : Int32)) dX5_read_65 (by decide) ?_
      refine ev_istore (loc' := [_, _, _, _, _]) dX5_read_66 rfl (by decide) (by rfl) ?_
      exact ev_lt (f_X5_read_L68_ok (fun _ _ hh => f_X5_read_j151_ok hh) _ _ _ _ h) ⟨rfl, ⟨rfl, ⟨rfl, trivial⟩⟩⟩
    · replace h := ite_f hc13 h
      refine ev_iconst (v := (-1 : Int32)) dX5_read_48 (by decide) ?_
      exact ev_iret rfl rfl (by decide) (by decide) dX5_read_49 (eqP_E h)
def f_X6_canAllBeSaid_j43 (G : Nat) (μ : Mem) (r2 : Int32 → Int32 → Option Int32) (v1 v2 s0 : Int32) : Option Int32 :=
  bndO (f_X2_at G 28 30 μ v2 (0 : Int32)) (fun w9 =>
  (if s0 = (f_X11_has v1 w9) then
  some (0 : Int32)
  else
  r2 v1 (v2 + (1 : Int32))))
set_option maxHeartbeats 4000000 in
set_option maxRecDepth 100000 in
theorem f_X6_canAllBeSaid_j43_ok {bb : Bool} {G : Nat} {μ : Mem} {r : Int32}  {r2 : Int32 → Int32 → Option Int32} (hr2 : ∀ (v1 : Int32) (v2 : Int32), r2 v1 v2 = some r → Ev RX6 cX6_canAllBeSaid 4 (some .boolean) false 3 0 0 (eqP (some r) (shC bb) μ) 2 [some (.ref 28), some (.int v1), some (.int v2), none] [] (shC bb) μ 0 0) {v1 v2 s0 : Int32}  (h : f_X6_canAllBeSaid_j43 G μ r2 v1 v2 s0 = some r) : Ev RX6 cX6_canAllBeSaid 4 (some .boolean) false 3 0 0 (eqP (some r) (shC bb) μ) 43 [some (.ref 28), some (.int v1), some (.int v2), none] [.int s0] (shC bb) μ 0 0 := by
  unfold f_X6_canAllBeSaid_j43 at h
  refine ev_istore_n (loc' := [_, _, _, _]) dX6_canAllBeSaid_43 rfl (by decide) (by rfl) ?_
  refine ev_iload_n dX6_canAllBeSaid_44 rfl ?_
  refine ev_iload_n dX6_canAllBeSaid_45 rfl ?_
  refine ev_aload_n dX6_canAllBeSaid_46 rfl ?_
  refine ev_iload_n dX6_canAllBeSaid_47 rfl ?_
  refine ev_iconst (v := (0 : Int32)) dX6_canAllBeSaid_48 (by decide) ?_
  obtain ⟨w9, hq8, h⟩ := bndO_t h
  refine ev_cVi mv_X6_40 dX6_canAllBeSaid_49 (c_X2_at atC_28 hq8) rfl shC_28 rfl rfl (Nat.le_of_ble_eq_true rfl) (by rfl) (Nat.le_of_ble_eq_true rfl) (Nat.le_of_ble_eq_true rfl) (Nat.le_of_ble_eq_true rfl) ?_
  refine ev_cNi mv_X6_31 dX6_canAllBeSaid_52 c_X11_has rfl rfl (Nat.le_of_ble_eq_true rfl) (by rfl) (Nat.le_of_ble_eq_true rfl) (Nat.le_of_ble_eq_true rfl) (Nat.le_of_ble_eq_true rfl) ?_
  refine ev_icmp_ne (tgt := 60) dX6_canAllBeSaid_55 (by decide) (fun hc10 => ?_) (fun hc10 => ?_)
  · replace h := ite_f hc10 h
    refine ev_iinc (cq := (1 : Int32)) (loc' := [_, _, _, _]) dX6_canAllBeSaid_60 rfl (by decide) rfl (by decide) (by rfl) ?_
    refine ev_goto (tgt := 2) dX6_canAllBeSaid_63 (by decide) ?_
    exact ev_lt (hr2 _ _ h) ⟨rfl, ⟨rfl, ⟨rfl, trivial⟩⟩⟩
  · replace h := ite_t hc10 h
    refine ev_iconst (v := (0 : Int32)) dX6_canAllBeSaid_58 (by decide) ?_
    exact ev_iret rfl rfl (by decide) (by decide) dX6_canAllBeSaid_59 (eqP_O h)
def f_X6_canAllBeSaid_j35 (G : Nat) (μ : Mem) (r2 : Int32 → Int32 → Option Int32) (v1 v2 s0 s1 : Int32) : Option Int32 :=
  (if s1 = s0 then
  f_X6_canAllBeSaid_j43 G μ r2 v1 v2 (1 : Int32)
  else
  f_X6_canAllBeSaid_j43 G μ r2 v1 v2 (0 : Int32))
set_option maxHeartbeats 4000000 in
set_option maxRecDepth 100000 in
theorem f_X6_canAllBeSaid_j35_ok {bb : Bool} {G : Nat} {μ : Mem} {r : Int32}  {r2 : Int32 → Int32 → Option Int32} (hr2 : ∀ (v1 : Int32) (v2 : Int32), r2 v1 v2 = some r → Ev RX6 cX6_canAllBeSaid 4 (some .boolean) false 3 0 0 (eqP (some r) (shC bb) μ) 2 [some (.ref 28), some (.int v1), some (.int v2), none] [] (shC bb) μ 0 0) {v1 v2 s0 s1 : Int32}  (h : f_X6_canAllBeSaid_j35 G μ r2 v1 v2 s0 s1 = some r) : Ev RX6 cX6_canAllBeSaid 4 (some .boolean) false 3 0 0 (eqP (some r) (shC bb) μ) 35 [some (.ref 28), some (.int v1), some (.int v2), none] [.int s0, .int s1] (shC bb) μ 0 0 := by
  unfold f_X6_canAllBeSaid_j35 at h
  refine ev_icmp_ne (tgt := 42) dX6_canAllBeSaid_35 (by decide) (fun hc7 => ?_) (fun hc7 => ?_)
  · replace h := ite_f hc7 h
    refine ev_iconst (v := (0 : Int32)) dX6_canAllBeSaid_42 (by decide) ?_
    exact ev_lt (f_X6_canAllBeSaid_j43_ok hr2 h) ⟨rfl, ⟨rfl, ⟨rfl, trivial⟩⟩⟩
  · replace h := ite_t hc7 h
    refine ev_iconst (v := (1 : Int32)) dX6_canAllBeSaid_38 (by decide) ?_
    refine ev_goto (tgt := 43) dX6_canAllBeSaid_39 (by decide) ?_
    exact ev_lt (f_X6_canAllBeSaid_j43_ok hr2 h) ⟨rfl, ⟨rfl, ⟨rfl, trivial⟩⟩⟩
def f_X6_canAllBeSaid_L2 (G : Nat) (μ : Mem)  : Nat → Int32 → Int32 → Option Int32
  | 0, _, _ => none
  | g + 1, v1, v2 =>
  (if (μ 28 3) ≤ v2 then
  some (1 : Int32)
  else
  bndO (f_X2_at G 28 30 μ v2 (1 : Int32)) (fun w3 =>
  bndO (f_X2_at G 28 30 μ v2 (2 : Int32)) (fun w5 =>
  (if w5 = (1 : Int32) then
  f_X6_canAllBeSaid_j35 G μ (f_X6_canAllBeSaid_L2 G μ g) v1 v2 (1 : Int32) (f_X11_has v1 w3)
  else
  f_X6_canAllBeSaid_j35 G μ (f_X6_canAllBeSaid_L2 G μ g) v1 v2 (0 : Int32) (f_X11_has v1 w3)))))
set_option maxHeartbeats 4000000 in
set_option maxRecDepth 100000 in
theorem f_X6_canAllBeSaid_L2_ok {bb : Bool} {G : Nat} {μ : Mem} {r : Int32}    : ∀ (g : Nat) (v1 v2 : Int32), f_X6_canAllBeSaid_L2 G μ g v1 v2 = some r → Ev RX6 cX6_canAllBeSaid 4 (some .boolean) false 3 0 0 (eqP (some r) (shC bb) μ) 2 [some (.ref 28), some (.int v1), some (.int v2), none] [] (shC bb) μ 0 0 := by
  intro g
  induction g with
  | zero =>
    intro v1 v2 h
    cases h
  | succ g ih =>
    intro v1 v2 h
    rw [f_X6_canAllBeSaid_L2] at h
    refine ev_iload_n dX6_canAllBeSaid_2 rfl ?_
    refine ev_aload_n dX6_canAllBeSaid_3 rfl ?_
    refine ev_getI fr_X6_34 shC_28 rfl dX6_canAllBeSaid_4 ?_
    refine ev_icmp_ge (tgt := 66) dX6_canAllBeSaid_7 (by decide) (fun hc1 => ?_) (fun hc1 => ?_)
    · replace h := ite_t hc1 h
      refine ev_iconst (v := (1 : Int32)) dX6_canAllBeSaid_66 (by decide) ?_
      exact ev_iret rfl rfl (by decide) (by decide) dX6_canAllBeSaid_67 (eqP_O h)
    · replace h := ite_f hc1 h
      refine ev_iload_n dX6_canAllBeSaid_10 rfl ?_
      refine ev_aload_n dX6_canAllBeSaid_11 rfl ?_
      refine ev_iload_n dX6_canAllBeSaid_12 rfl ?_
      refine ev_iconst (v := (1 : Int32)) dX6_canAllBeSaid_13 (by decide) ?_
      obtain ⟨w3, hq2, h⟩ := bndO_t h
      refine ev_cVi mv_X6_40 dX6_canAllBeSaid_14 (c_X2_at atC_28 hq2) rfl shC_28 rfl rfl (Nat.le_of_ble_eq_true rfl) (by rfl) (Nat.le_of_ble_eq_true rfl) (Nat.le_of_ble_eq_true rfl) (Nat.le_of_ble_eq_true rfl) ?_
      refine ev_cNi mv_X6_31 dX6_canAllBeSaid_17 c_X11_has rfl rfl (Nat.le_of_ble_eq_true rfl) (by rfl) (Nat.le_of_ble_eq_true rfl) (Nat.le_of_ble_eq_true rfl) (Nat.le_of_ble_eq_true rfl) ?_
      refine ev_aload_n dX6_canAllBeSaid_20 rfl ?_
      refine ev_iload_n dX6_canAllBeSaid_21 rfl ?_
      refine ev_iconst (v := (2 : Int32)) dX6_canAllBeSaid_22 (by decide) ?_
      obtain ⟨w5, hq4, h⟩ := bndO_t h
      refine ev_cVi mv_X6_40 dX6_canAllBeSaid_23 (c_X2_at atC_28 hq4) rfl shC_28 rfl rfl (Nat.le_of_ble_eq_true rfl) (by rfl) (Nat.le_of_ble_eq_true rfl) (Nat.le_of_ble_eq_true rfl) (Nat.le_of_ble_eq_true rfl) ?_
      refine ev_iconst (v := (1 : Int32)) dX6_canAllBeSaid_26 (by decide) ?_
      refine ev_icmp_ne (tgt := 34) dX6_canAllBeSaid_27 (by decide) (fun hc6 => ?_) (fun hc6 => ?_)
      · replace h := ite_f hc6 h
        refine ev_iconst (v := (0 : Int32)) dX6_canAllBeSaid_34 (by decide) ?_
        exact ev_lt (f_X6_canAllBeSaid_j35_ok ih h) ⟨rfl, ⟨rfl, ⟨rfl, trivial⟩⟩⟩
      · replace h := ite_t hc6 h
        refine ev_iconst (v := (1 : Int32)) dX6_canAllBeSaid_30 (by decide) ?_
        refine ev_goto (tgt := 35) dX6_canAllBeSaid_31 (by decide) ?_
        exact ev_lt (f_X6_canAllBeSaid_j35_ok ih h) ⟨rfl, ⟨rfl, ⟨rfl, trivial⟩⟩⟩
def f_X6_canAllBeSaid (G : Nat) (μ : Mem) (p1 : Int32) : Option Int32 :=
  f_X6_canAllBeSaid_L2 G μ G p1 (0 : Int32)
set_option maxHeartbeats 4000000 in
set_option maxRecDepth 100000 in
theorem c_X6_canAllBeSaid {bb : Bool} {G : Nat} {μ : Mem}  {p1 : Int32} {r : Int32}  (h : f_X6_canAllBeSaid G μ p1 = some r) : Cn yX6_canAllBeSaid cX6_canAllBeSaid 4 (some .boolean) 3 0 0 [.ref 28, .int p1] (shC bb) μ (eqP (some r) (shC bb) μ) := by
  refine cn_of (own := RX6) (ini := false) (loc := [some (.ref 28), some (.int p1), none, none]) rfl (by decide) (fun q => by cases q) (Nat.le_of_ble_eq_true rfl) (by rfl) rfl ?_
  unfold f_X6_canAllBeSaid at h
  refine ev_iconst (v := (0 : Int32)) dX6_canAllBeSaid_0 (by decide) ?_
  refine ev_istore_n (loc' := [_, _, _, _]) dX6_canAllBeSaid_1 rfl (by decide) (by rfl) ?_
  exact ev_lt (f_X6_canAllBeSaid_L2_ok _ _ _ h) ⟨rfl, ⟨rfl, ⟨rfl, trivial⟩⟩⟩
def f_X6_whoLies_j58 (G : Nat) (μ : Mem) (r15 : Int32 → Int32 → Int32 → Int32 → Int32 → Int32 → Option Int32) (k15_64 : Int32 → Int32 → Int32 → Int32 → Int32 → Option Int32) (v1 v2 v3 v4 v5 v6 : Int32) : Option Int32 :=
  r15 v1 v2 v3 v4 v5 (v6 + (1 : Int32))
set_option maxHeartbeats 4000000 in
set_option maxRecDepth 100000 in
theorem f_X6_whoLies_j58_ok {bb : Bool} {G : Nat} {μ : Mem} {r : Int32}  {r15 : Int32 → Int32 → Int32 → Int32 → Int32 → Int32 → Option Int32} {k15_64 : Int32 → Int32 → Int32 → Int32 → Int32 → Option Int32} (hr15 : ∀ (v1 : Int32) (v2 : Int32) (v3 : Int32) (v4 : Int32) (v5 : Int32) (v6 : Int32), r15 v1 v2 v3 v4 v5 v6 = some r → Ev RX6 cX6_whoLies 7 (some .int) false 4 0 0 (eqP (some r) (shC bb) μ) 15 [some (.ref 28), some (.int v1), some (.int v2), some (.int v3), some (.int v4), some (.int v5), some (.int v6)] [] (shC bb) μ 0 0) (hk15_64 : ∀ (v1 : Int32) (v2 : Int32) (v3 : Int32) (v4 : Int32) (v5 : Int32), k15_64 v1 v2 v3 v4 v5 = some r → Ev RX6 cX6_whoLies 7 (some .int) false 4 0 0 (eqP (some r) (shC bb) μ) 64 [none, some (.int v1), some (.int v2), some (.int v3), some (.int v4), some (.int v5), none] [] (shC bb) μ 0 0) {v1 v2 v3 v4 v5 v6 : Int32}  (h : f_X6_whoLies_j58 G μ r15 k15_64 v1 v2 v3 v4 v5 v6 = some r) : Ev RX6 cX6_whoLies 7 (some .int) false 4 0 0 (eqP (some r) (shC bb) μ) 58 [some (.ref 28), some (.int v1), some (.int v2), some (.int v3), some (.int v4), some (.int v5), some (.int v6)] [] (shC bb) μ 0 0 := by
  unfold f_X6_whoLies_j58 at h
  refine ev_iinc (cq := (1 : Int32)) (loc' := [_, _, _, _, _, _, _]) dX6_whoLies_58 rfl (by decide) rfl (by decide) (by rfl) ?_
  refine ev_goto (tgt := 15) dX6_whoLies_61 (by decide) ?_
  exact ev_lt (hr15 _ _ _ _ _ _ h) ⟨rfl, ⟨rfl, ⟨rfl, ⟨rfl, ⟨rfl, ⟨rfl, ⟨rfl, trivial⟩⟩⟩⟩⟩⟩⟩
def f_X6_whoLies_L15 (G : Nat) (μ : Mem) (k15_64 : Int32 → Int32 → Int32 → Int32 → Int32 → Option Int32) : Nat → Int32 → Int32 → Int32 → Int32 → Int32 → Int32 → Option Int32
  | 0, _, _, _, _, _, _ => none
  | g + 1, v1, v2, v3, v4, v5, v6 =>
  (if (64 : Int32) ≤ v6 then
  k15_64 v1 v2 v3 v4 v5
  else
  bndO (f_X6_canAllBeSaid G μ v6) (fun w3 =>
  (if w3 = (0 : Int32) then
  f_X6_whoLies_j58 G μ (f_X6_whoLies_L15 G μ k15_64 g) k15_64 v1 v2 v3 v4 v5 v6
  else
  f_X6_whoLies_j58 G μ (f_X6_whoLies_L15 G μ k15_64 g) k15_64 v1 (v2 + (1 : Int32)) (imin v3 (f_J6_bitCount_0f7a4 v6)) (v4 &&& v6) (v5 ||| v6) v6)))
set_option maxHeartbeats 4000000 in
set_option maxRecDepth 100000 in
theorem f_X6_whoLies_L15_ok {bb : Bool} {G : Nat} {μ : Mem} {r : Int32}  {k15_64 : Int32 → Int32 → Int32 → Int32 → Int32 → Option Int32} (hk15_64 : ∀ (v1 : Int32) (v2 : Int32) (v3 : Int32) (v4 : Int32) (v5 : Int32), k15_64 v1 v2 v3 v4 v5 = some r → Ev RX6 cX6_whoLies 7 (some .int) false 4 0 0 (eqP (some r) (shC bb) μ) 64 [none, some (.int v1), some (.int v2), some (.int v3), some (.int v4), some (.int v5), none] [] (shC bb) μ 0 0) : ∀ (g : Nat) (v1 v2 v3 v4 v5 v6 : Int32), f_X6_whoLies_L15 G μ k15_64 g v1 v2 v3 v4 v5 v6 = some r → Ev RX6 cX6_whoLies 7 (some .int) false 4 0 0 (eqP (some r) (shC bb) μ) 15 [some (.ref 28), some (.int v1), some (.int v2), some (.int v3), some (.int v4), some (.int v5), some (.int v6)] [] (shC bb) μ 0 0 := by
  intro g
  induction g with
  | zero =>
    intro v1 v2 v3 v4 v5 v6 h
    cases h
  | succ g ih =>
    intro v1 v2 v3 v4 v5 v6 h
    rw [f_X6_whoLies_L15] at h
    refine ev_iload dX6_whoLies_15 rfl ?_
    refine ev_bipush (v := (64 : Int32)) dX6_whoLies_17 (by decide) ?_
    refine ev_icmp_ge (tgt := 64) dX6_whoLies_19 (by decide) (fun hc1 => ?_) (fun hc1 => ?_)
    · replace h := ite_t hc1 h
      exact ev_lt (hk15_64 _ _ _ _ _ h) ⟨rfl, ⟨rfl, ⟨rfl, ⟨rfl, ⟨rfl, trivial⟩⟩⟩⟩⟩
    · replace h := ite_f hc1 h
      refine ev_aload_n dX6_whoLies_22 rfl ?_
      refine ev_iload dX6_whoLies_23 rfl ?_
      obtain ⟨w3, hq2, h⟩ := bndO_t h
      refine ev_cSi mv_X6_9 dX6_whoLies_25 (c_X6_canAllBeSaid hq2) rfl rfl (Nat.le_of_ble_eq_true rfl) (by rfl) (Nat.le_of_ble_eq_true rfl) (Nat.le_of_ble_eq_true rfl) (Nat.le_of_ble_eq_true rfl) ?_
      refine ev_if_eq (tgt := 58) dX6_whoLies_28 (by decide) (fun hc4 => ?_) (fun hc4 => ?_)
      · replace h := ite_t hc4 h
        exact ev_lt (f_X6_whoLies_j58_ok ih hk15_64 h) ⟨rfl, ⟨rfl, ⟨rfl, ⟨rfl, ⟨rfl, ⟨rfl, ⟨rfl, trivial⟩⟩⟩⟩⟩⟩⟩
      · replace h := ite_f hc4 h
        refine ev_iinc (cq := (1 : Int32)) (loc' := [_, _, _, _, _, _, _]) dX6_whoLies_31 rfl (by decide) rfl (by decide) (by rfl) ?_
        refine ev_iload_n dX6_whoLies_34 rfl ?_
        refine ev_iload dX6_whoLies_35 rfl ?_
        refine ev_cSi mv_X6_15 dX6_whoLies_37 c_J6_bitCount_0f7a4 rfl rfl (Nat.le_of_ble_eq_true rfl) (by rfl) (Nat.le_of_ble_eq_true rfl) (Nat.le_of_ble_eq_true rfl) (Nat.le_of_ble_eq_true rfl) ?_
        refine ev_min mm_X6_21 dX6_whoLies_40 (Nat.le_of_ble_eq_true rfl) (by rfl) (Nat.le_of_ble_eq_true rfl) (Nat.le_of_ble_eq_true rfl) (Nat.le_of_ble_eq_true rfl) ?_
        refine ev_istore_n (loc' := [_, _, _, _, _, _, _]) dX6_whoLies_43 rfl (by decide) (by rfl) ?_
        refine ev_iload dX6_whoLies_44 rfl ?_
        refine ev_iload dX6_whoLies_46 rfl ?_
        refine ev_iand dX6_whoLies_48 ?_
        refine ev_istore (loc' := [_, _, _, _, _, _, _]) dX6_whoLies_49 rfl (by decide) (by rfl) ?_
        refine ev_iload dX6_whoLies_51 rfl ?_
        refine ev_iload dX6_whoLies_53 rfl ?_
        refine ev_ior dX6_whoLies_55 ?_
        refine ev_istore (loc' := [_, _, _, _, _, _, _]) dX6_whoLies_56 rfl (by decide) (by rfl) ?_
        exact ev_lt (f_X6_whoLies_j58_ok ih hk15_64 h) ⟨rfl, ⟨rfl, ⟨rfl, ⟨rfl, ⟨rfl, ⟨rfl, ⟨rfl, trivial⟩⟩⟩⟩⟩⟩⟩
def f_X6_whoLies_j93 (G : Nat) (μ : Mem)  (v1 v3 v4 v5 : Int32) : Option Int32 :=
  (if v1 = (1 : Int32) then
  some v3
  else
  (if (f_X11_has v4 (v1 - (10 : Int32))) = (0 : Int32) then
  (if (f_X11_has v5 (v1 - (10 : Int32))) = (0 : Int32) then
  some (0 : Int32)
  else
  some (-1 : Int32))
  else
  some (1 : Int32)))
set_option maxHeartbeats 4000000 in
set_option maxRecDepth 100000 in
theorem f_X6_whoLies_j93_ok {bb : Bool} {G : Nat} {μ : Mem} {r : Int32}    {v1 v3 v4 v5 : Int32}  (h : f_X6_whoLies_j93 G μ v1 v3 v4 v5 = some r) : Ev RX6 cX6_whoLies 7 (some .int) false 4 0 0 (eqP (some r) (shC bb) μ) 93 [none, some (.int v1), none, some (.int v3), some (.int v4), some (.int v5), none] [] (shC bb) μ 0 0 := by
  unfold f_X6_whoLies_j93 at h
  refine ev_iload_n dX6_whoLies_93 rfl ?_
  refine ev_iconst (v := (1 : Int32)) dX6_whoLies_94 (by decide) ?_
  refine ev_icmp_ne (tgt := 100) dX6_whoLies_95 (by decide) (fun hc8 => ?_) (fun hc8 => ?_)
  · replace h := ite_f hc8 h
    refine ev_iload dX6_whoLies_100 rfl ?_
    refine ev_iload_n dX6_whoLies_102 rfl ?_
    refine ev_bipush (v := (10 : Int32)) dX6_whoLies_103 (by decide) ?_
    refine ev_isub dX6_whoLies_105 ?_
    refine ev_cNi mv_X6_31 dX6_whoLies_106 c_X11_has rfl rfl (Nat.le_of_ble_eq_true rfl) (by rfl) (Nat.le_of_ble_eq_true rfl) (Nat.le_of_ble_eq_true rfl) (Nat.le_of_ble_eq_true rfl) ?_
    refine ev_if_eq (tgt := 114) dX6_whoLies_109 (by decide) (fun hc9 => ?_) (fun hc9 => ?_)
    · replace h := ite_t hc9 h
      refine ev_iload dX6_whoLies_114 rfl ?_
      refine ev_iload_n dX6_whoLies_116 rfl ?_
      refine ev_bipush (v := (10 : Int32)) dX6_whoLies_117 (by decide) ?_
      refine ev_isub dX6_whoLies_119 ?_
      refine ev_cNi mv_X6_31 dX6_whoLies_120 c_X11_has rfl rfl (Nat.le_of_ble_eq_true rfl) (by rfl) (Nat.le_of_ble_eq_true rfl) (Nat.le_of_ble_eq_true rfl) (Nat.le_of_ble_eq_true rfl) ?_
      refine ev_if_eq (tgt := 130) dX6_whoLies_123 (by decide) (fun hc10 => ?_) (fun hc10 => ?_)
      · replace h := ite_t hc10 h
        refine ev_iconst (v := (0 : Int32)) dX6_whoLies_130 (by decide) ?_
        exact ev_iret rfl rfl (by decide) (by decide) dX6_whoLies_131 (eqP_O h)
      · replace h := ite_f hc10 h
        refine ev_iconst (v := (-1 : Int32)) dX6_whoLies_126 (by decide) ?_
        refine ev_goto (tgt := 131) dX6_whoLies_127 (by decide) ?_
        exact ev_iret rfl rfl (by decide) (by decide) dX6_whoLies_131 (eqP_O h)
    · replace h := ite_f hc9 h
      refine ev_iconst (v := (1 : Int32)) dX6_whoLies_112 (by decide) ?_
      exact ev_iret rfl rfl (by decide) (by decide) dX6_whoLies_113 (eqP_O h)
  · replace h := ite_t hc8 h
    refine ev_iload_n dX6_whoLies_98 rfl ?_
    exact ev_iret rfl rfl (by decide) (by decide) dX6_whoLies_99 (eqP_O h)
def f_X6_whoLies_j64 (G : Nat) (μ : Mem)  (v1 v2 v3 v4 v5 : Int32) : Option Int32 :=
  (if v1 = (0 : Int32) then
  some v2
  else
  (if v2 = (0 : Int32) then
  some (-1 : Int32)
  else
  (if v1 = (1 : Int32) then
  f_X6_whoLies_j93 G μ v1 v3 v4 v5
  else
  (if (f_X11_isBelow (v1 - (10 : Int32)) (6 : Int32)) = (0 : Int32) then
  some (-1 : Int32)
  else
  f_X6_whoLies_j93 G μ v1 v3 v4 v5))))
set_option maxHeartbeats 4000000 in
set_option maxRecDepth 100000 in
theorem f_X6_whoLies_j64_ok {bb : Bool} {G : Nat} {μ : Mem} {r : Int32}    {v1 v2 v3 v4 v5 : Int32}  (h : f_X6_whoLies_j64 G μ v1 v2 v3 v4 v5 = some r) : Ev RX6 cX6_whoLies 7 (some .int) false 4 0 0 (eqP (some r) (shC bb) μ) 64 [none, some (.int v1), some (.int v2), some (.int v3), some (.int v4), some (.int v5), none] [] (shC bb) μ 0 0 := by
  unfold f_X6_whoLies_j64 at h
  refine ev_iload_n dX6_whoLies_64 rfl ?_
  refine ev_if_ne (tgt := 70) dX6_whoLies_65 (by decide) (fun hc5 => ?_) (fun hc5 => ?_)
  · replace h := ite_f hc5 h
    refine ev_iload_n dX6_whoLies_70 rfl ?_
    refine ev_if_eq (tgt := 91) dX6_whoLies_71 (by decide) (fun hc6 => ?_) (fun hc6 => ?_)
    · replace h := ite_t hc6 h
      refine ev_iconst (v := (-1 : Int32)) dX6_whoLies_91 (by decide) ?_
      exact ev_iret rfl rfl (by decide) (by decide) dX6_whoLies_92 (eqP_O h)
    · replace h := ite_f hc6 h
      refine ev_iload_n dX6_whoLies_74 rfl ?_
      refine ev_iconst (v := (1 : Int32)) dX6_whoLies_75 (by decide) ?_
      refine ev_icmp_eq (tgt := 93) dX6_whoLies_76 (by decide) (fun hc7 => ?_) (fun hc7 => ?_)
      · replace h := ite_t hc7 h
        exact ev_lt (f_X6_whoLies_j93_ok h) ⟨rfl, ⟨rfl, ⟨rfl, ⟨rfl, trivial⟩⟩⟩⟩
      · replace h := ite_f hc7 h
        refine ev_iload_n dX6_whoLies_79 rfl ?_
        refine ev_bipush (v := (10 : Int32)) dX6_whoLies_80 (by decide) ?_
        refine ev_isub dX6_whoLies_82 ?_
        refine ev_bipush (v := (6 : Int32)) dX6_whoLies_83 (by decide) ?_
        refine ev_cNi mv_X6_27 dX6_whoLies_85 c_X11_isBelow rfl rfl (Nat.le_of_ble_eq_true rfl) (by rfl) (Nat.le_of_ble_eq_true rfl) (Nat.le_of_ble_eq_true rfl) (Nat.le_of_ble_eq_true rfl) ?_
        refine ev_if_ne (tgt := 93) dX6_whoLies_88 (by decide) (fun hc11 => ?_) (fun hc11 => ?_)
        · replace h := ite_f hc11 h
          exact ev_lt (f_X6_whoLies_j93_ok h) ⟨rfl, ⟨rfl, ⟨rfl, ⟨rfl, trivial⟩⟩⟩⟩
        · replace h := ite_t hc11 h
          refine ev_iconst (v := (-1 : Int32)) dX6_whoLies_91 (by decide) ?_
          exact ev_iret rfl rfl (by decide) (by decide) dX6_whoLies_92 (eqP_O h)
  · replace h := ite_t hc5 h
    refine ev_iload_n dX6_whoLies_68 rfl ?_
    exact ev_iret rfl rfl (by decide) (by decide) dX6_whoLies_69 (eqP_O h)
def f_X6_whoLies (G : Nat) (μ : Mem) (p1 : Int32) : Option Int32 :=
  f_X6_whoLies_L15 G μ (f_X6_whoLies_j64 G μ) G p1 (0 : Int32) (6 : Int32) (63 : Int32) (0 : Int32) (0 : Int32)
set_option maxHeartbeats 4000000 in
set_option maxRecDepth 100000 in
theorem c_X6_whoLies {bb : Bool} {G : Nat} {μ : Mem}  {p1 : Int32} {r : Int32}  (h : f_X6_whoLies G μ p1 = some r) : Cn yX6_whoLies cX6_whoLies 7 (some .int) 4 0 0 [.ref 28, .int p1] (shC bb) μ (eqP (some r) (shC bb) μ) := by
  refine cn_of (own := RX6) (ini := false) (loc := [some (.ref 28), some (.int p1), none, none, none, none, none]) rfl (by decide) (fun q => by cases q) (Nat.le_of_ble_eq_true rfl) (by rfl) rfl ?_
  unfold f_X6_whoLies at h
  refine ev_iconst (v := (0 : Int32)) dX6_whoLies_0 (by decide) ?_
  refine ev_istore_n (loc' := [_, _, _, _, _, _, _]) dX6_whoLies_1 rfl (by decide) (by rfl) ?_
  refine ev_bipush (v := (6 : Int32)) dX6_whoLies_2 (by decide) ?_
  refine ev_istore_n (loc' := [_, _, _, _, _, _, _]) dX6_whoLies_4 rfl (by decide) (by rfl) ?_
  refine ev_bipush (v := (63 : Int32)) dX6_whoLies_5 (by decide) ?_
  refine ev_istore (loc' := [_, _, _, _, _, _, _]) dX6_whoLies_7 rfl (by decide) (by rfl) ?_
  refine ev_iconst (v := (0 : Int32)) dX6_whoLies_9 (by decide) ?_
  refine ev_istore (loc' := [_, _, _, _, _, _, _]) dX6_whoLies_10 rfl (by decide) (by rfl) ?_
  refine ev_iconst (v := (0 : Int32)) dX6_whoLies_12 (by decide) ?_
  refine ev_istore (loc' := [_, _, _, _, _, _, _]) dX6_whoLies_13 rfl (by decide) (by rfl) ?_
  exact ev_lt (f_X6_whoLies_L15_ok (fun _ _ _ _ _ hh => f_X6_whoLies_j64_ok hh) _ _ _ _ _ _ _ h) ⟨rfl, ⟨rfl, ⟨rfl, ⟨rfl, ⟨rfl, ⟨rfl, ⟨rfl, trivial⟩⟩⟩⟩⟩⟩⟩
def f_X6_bestOdds_j33 (G : Nat) (μ : Mem) (r4 : Int32 → Int32 → Int32 → Option Int32) (v1 v2 v3 : Int32) : Option Int32 :=
  r4 v1 v2 (v3 + (1 : Int32))
set_option maxHeartbeats 4000000 in
set_option maxRecDepth 100000 in
theorem f_X6_bestOdds_j33_ok {bb : Bool} {G : Nat} {μ : Mem} {r : Int32}  {r4 : Int32 → Int32 → Int32 → Option Int32} (hr4 : ∀ (v1 : Int32) (v2 : Int32) (v3 : Int32), r4 v1 v2 v3 = some r → Ev RX6 cX6_bestOdds 4 (some .int) false 3 0 0 (eqP (some r) (shC bb) μ) 4 [some (.ref 32), some (.int v1), some (.int v2), some (.int v3)] [] (shC bb) μ 0 0) {v1 v2 v3 : Int32}  (h : f_X6_bestOdds_j33 G μ r4 v1 v2 v3 = some r) : Ev RX6 cX6_bestOdds 4 (some .int) false 3 0 0 (eqP (some r) (shC bb) μ) 33 [some (.ref 32), some (.int v1), some (.int v2), some (.int v3)] [] (shC bb) μ 0 0 := by
  unfold f_X6_bestOdds_j33 at h
  refine ev_iinc (cq := (1 : Int32)) (loc' := [_, _, _, _]) dX6_bestOdds_33 rfl (by decide) rfl (by decide) (by rfl) ?_
  refine ev_goto (tgt := 4) dX6_bestOdds_36 (by decide) ?_
  exact ev_lt (hr4 _ _ _ h) ⟨rfl, ⟨rfl, ⟨rfl, ⟨rfl, trivial⟩⟩⟩⟩
def f_X6_bestOdds_L4 (G : Nat) (μ : Mem)  : Nat → Int32 → Int32 → Int32 → Option Int32
  | 0, _, _, _ => none
  | g + 1, v1, v2, v3 =>
  (if (μ 32 3) ≤ v3 then
  some v2
  else
  bndO (f_X2_at G 32 12 μ v3 (0 : Int32)) (fun w3 =>
  (if w3 = v1 then
  bndO (f_X2_at G 32 12 μ v3 (1 : Int32)) (fun w6 =>
  f_X6_bestOdds_j33 G μ (f_X6_bestOdds_L4 G μ g) v1 (imax v2 w6) v3)
  else
  f_X6_bestOdds_j33 G μ (f_X6_bestOdds_L4 G μ g) v1 v2 v3)))
set_option maxHeartbeats 4000000 in
set_option maxRecDepth 100000 in
theorem f_X6_bestOdds_L4_ok {bb : Bool} {G : Nat} {μ : Mem} {r : Int32}    : ∀ (g : Nat) (v1 v2 v3 : Int32), f_X6_bestOdds_L4 G μ g v1 v2 v3 = some r → Ev RX6 cX6_bestOdds 4 (some .int) false 3 0 0 (eqP (some r) (shC bb) μ) 4 [some (.ref 32), some (.int v1), some (.int v2), some (.int v3)] [] (shC bb) μ 0 0 := by
  intro g
  induction g with
  | zero =>
    intro v1 v2 v3 h
    cases h
  | succ g ih =>
    intro v1 v2 v3 h
    rw [f_X6_bestOdds_L4] at h
    refine ev_iload_n dX6_bestOdds_4 rfl ?_
    refine ev_aload_n dX6_bestOdds_5 rfl ?_
    refine ev_getI fr_X6_34 shC_32 rfl dX6_bestOdds_6 ?_
    refine ev_icmp_ge (tgt := 39) dX6_bestOdds_9 (by decide) (fun hc1 => ?_) (fun hc1 => ?_)
    · replace h := ite_t hc1 h
      refine ev_iload_n dX6_bestOdds_39 rfl ?_
      exact ev_iret rfl rfl (by decide) (by decide) dX6_bestOdds_40 (eqP_O h)
    · replace h := ite_f hc1 h
      refine ev_aload_n dX6_bestOdds_12 rfl ?_
      refine ev_iload_n dX6_bestOdds_13 rfl ?_
      refine ev_iconst (v := (0 : Int32)) dX6_bestOdds_14 (by decide) ?_
      obtain ⟨w3, hq2, h⟩ := bndO_t h
      refine ev_cVi mv_X6_40 dX6_bestOdds_15 (c_X2_at atC_32 hq2) rfl shC_32 rfl rfl (Nat.le_of_ble_eq_true rfl) (by rfl) (Nat.le_of_ble_eq_true rfl) (Nat.le_of_ble_eq_true rfl) (Nat.le_of_ble_eq_true rfl) ?_
      refine ev_iload_n dX6_bestOdds_18 rfl ?_
      refine ev_icmp_ne (tgt := 33) dX6_bestOdds_19 (by decide) (fun hc4 => ?_) (fun hc4 => ?_)
      · replace h := ite_f hc4 h
        exact ev_lt (f_X6_bestOdds_j33_ok ih h) ⟨rfl, ⟨rfl, ⟨rfl, ⟨rfl, trivial⟩⟩⟩⟩
      · replace h := ite_t hc4 h
        refine ev_iload_n dX6_bestOdds_22 rfl ?_
        refine ev_aload_n dX6_bestOdds_23 rfl ?_
        refine ev_iload_n dX6_bestOdds_24 rfl ?_
        refine ev_iconst (v := (1 : Int32)) dX6_bestOdds_25 (by decide) ?_
        obtain ⟨w6, hq5, h⟩ := bndO_t h
        refine ev_cVi mv_X6_40 dX6_bestOdds_26 (c_X2_at atC_32 hq5) rfl shC_32 rfl rfl (Nat.le_of_ble_eq_true rfl) (by rfl) (Nat.le_of_ble_eq_true rfl) (Nat.le_of_ble_eq_true rfl) (Nat.le_of_ble_eq_true rfl) ?_
        refine ev_max mm_X6_50 dX6_bestOdds_29 (Nat.le_of_ble_eq_true rfl) (by rfl) (Nat.le_of_ble_eq_true rfl) (Nat.le_of_ble_eq_true rfl) (Nat.le_of_ble_eq_true rfl) ?_
        refine ev_istore_n (loc' := [_, _, _, _]) dX6_bestOdds_32 rfl (by decide) (by rfl) ?_
        exact ev_lt (f_X6_bestOdds_j33_ok ih h) ⟨rfl, ⟨rfl, ⟨rfl, ⟨rfl, trivial⟩⟩⟩⟩
def f_X6_bestOdds (G : Nat) (μ : Mem) (p1 : Int32) : Option Int32 :=
  f_X6_bestOdds_L4 G μ G p1 (0 : Int32) (0 : Int32)
set_option maxHeartbeats 4000000 in
set_option maxRecDepth 100000 in
theorem c_X6_bestOdds {bb : Bool} {G : Nat} {μ : Mem}  {p1 : Int32} {r : Int32}  (h : f_X6_bestOdds G μ p1 = some r) : Cn yX6_bestOdds cX6_bestOdds 4 (some .int) 3 0 0 [.ref 32, .int p1] (shC bb) μ (eqP (some r) (shC bb) μ) := by
  refine cn_of (own := RX6) (ini := false) (loc := [some (.ref 32), some (.int p1), none, none]) rfl (by decide) (fun q => by cases q) (Nat.le_of_ble_eq_true rfl) (by rfl) rfl ?_
  unfold f_X6_bestOdds at h
  refine ev_iconst (v := (0 : Int32)) dX6_bestOdds_0 (by decide) ?_
  refine ev_istore_n (loc' := [_, _, _, _]) dX6_bestOdds_1 rfl (by decide) (by rfl) ?_
  refine ev_iconst (v := (0 : Int32)) dX6_bestOdds_2 (by decide) ?_
  refine ev_istore_n (loc' := [_, _, _, _]) dX6_bestOdds_3 rfl (by decide) (by rfl) ?_
  exact ev_lt (f_X6_bestOdds_L4_ok _ _ _ _ h) ⟨rfl, ⟨rfl, ⟨rfl, ⟨rfl, trivial⟩⟩⟩⟩
def f_X6_stakeFor (G : Nat) (μ : Mem) (p1 p2 : Int32) : Option Int32 :=
  (if p2 ≤ (0 : Int32) then
  some (0 : Int32)
  else
  dvk p2 (some ((((p1 * (100 : Int32)) + p2) - (1 : Int32)) / p2)))
set_option maxHeartbeats 4000000 in
set_option maxRecDepth 100000 in
theorem c_X6_stakeFor {bb : Bool} {G : Nat} {μ : Mem}  {p1 p2 : Int32} {r : Int32}  (h : f_X6_stakeFor G μ p1 p2 = some r) : Cn yX6_stakeFor cX6_stakeFor 2 (some .int) 1 0 0 [.int p1, .int p2] (shC bb) μ (eqP (some r) (shC bb) μ) := by
  refine cn_of (own := RX6) (ini := false) (loc := [some (.int p1), some (.int p2)]) rfl (by decide) (fun q => by cases q) (Nat.le_of_ble_eq_true rfl) (by rfl) rfl ?_
  unfold f_X6_stakeFor at h
  refine ev_iload_n dX6_stakeFor_0 rfl ?_
  refine ev_if_le (tgt := 17) dX6_stakeFor_1 (by decide) (fun hc1 => ?_) (fun hc1 => ?_)
  · replace h := ite_t hc1 h
    refine ev_iconst (v := (0 : Int32)) dX6_stakeFor_17 (by decide) ?_
    exact ev_iret rfl rfl (by decide) (by decide) dX6_stakeFor_18 (eqP_O h)
  · replace h := ite_f hc1 h
    refine ev_iload_n dX6_stakeFor_4 rfl ?_
    refine ev_bipush (v := (100 : Int32)) dX6_stakeFor_5 (by decide) ?_
    refine ev_imul dX6_stakeFor_7 ?_
    refine ev_iload_n dX6_stakeFor_8 rfl ?_
    refine ev_iadd dX6_stakeFor_9 ?_
    refine ev_iconst (v := (1 : Int32)) dX6_stakeFor_10 (by decide) ?_
    refine ev_isub dX6_stakeFor_11 ?_
    refine ev_iload_n dX6_stakeFor_12 rfl ?_
    obtain ⟨hz2, h⟩ := dvk_t h
    refine ev_idiv dX6_stakeFor_13 hz2 ?_
    refine ev_goto (tgt := 18) dX6_stakeFor_14 (by decide) ?_
    exact ev_iret rfl rfl (by decide) (by decide) dX6_stakeFor_18 (eqP_O h)
end
