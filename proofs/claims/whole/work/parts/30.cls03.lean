section
def f_X11_sent (G : Nat) (p1 p2 : Int32) (μ : Mem) : Option (Int32 × Mem) :=
  (if (f_X0_isGroom μ p1) = (0 : Int32) then
  some ((-10000 : Int32), μ)
  else
  (if p2 < (0 : Int32) then
  some ((-10000 : Int32), μ)
  else
  (if p2 ≤ (1 : Int32) then
  (if p2 = (1 : Int32) then
  bndE (f_X7_bestBeside G p1 (1 : Int32) μ) (fun w10 m9 =>
  some (w10, m9))
  else
  bndE (f_X7_bestBeside G p1 (0 : Int32) μ) (fun w7 m6 =>
  some (w7, m6)))
  else
  some ((-10000 : Int32), μ))))
set_option maxHeartbeats 4000000 in
set_option maxRecDepth 100000 in
theorem c_X11_sent {bb : Bool} {G : Nat} {μ : Mem} {p1 p2 : Int32} {r : Int32} {μr : Mem}  (h : f_X11_sent G p1 p2 μ = some (r, μr)) : Cn yX11_sent cX11_sent 3 (some .int) 8 0 0 [.ref 0, .int p1, .int p2] (shC bb) μ (eqP (some r) (shC bb) μr) := by
  refine cn_of (own := RX11) (ini := false) (loc := [some (.ref 0), some (.int p1), some (.int p2)]) rfl (by decide) (fun q => by cases q) (Nat.le_of_ble_eq_true rfl) (by rfl) rfl ?_
  unfold f_X11_sent at h
  refine ev_aload_n dX11_sent_0 rfl ?_
  refine ev_getR fr_X11_12 shC_0 rfl dX11_sent_1 ?_
  refine ev_iload_n dX11_sent_4 rfl ?_
  refine ev_cVi mv_X11_92 dX11_sent_5 c_X0_isGroom rfl shC_1 rfl rfl (Nat.le_of_ble_eq_true rfl) (by rfl) (Nat.le_of_ble_eq_true rfl) (Nat.le_of_ble_eq_true rfl) (Nat.le_of_ble_eq_true rfl) ?_
  refine ev_if_eq (tgt := 20) dX11_sent_8 (by decide) (fun hc1 => ?_) (fun hc1 => ?_)
  · replace h := ite_t hc1 h
    refine ev_sipush (v := (-10000 : Int32)) dX11_sent_20 (by decide) ?_
    exact ev_iret rfl rfl (by decide) (by decide) dX11_sent_23 (eqP_E h)
  · replace h := ite_f hc1 h
    refine ev_iload_n dX11_sent_11 rfl ?_
    refine ev_if_lt (tgt := 20) dX11_sent_12 (by decide) (fun hc2 => ?_) (fun hc2 => ?_)
    · replace h := ite_t hc2 h
      refine ev_sipush (v := (-10000 : Int32)) dX11_sent_20 (by decide) ?_
      exact ev_iret rfl rfl (by decide) (by decide) dX11_sent_23 (eqP_E h)
    · replace h := ite_f hc2 h
      refine ev_iload_n dX11_sent_15 rfl ?_
      refine ev_iconst (v := (1 : Int32)) dX11_sent_16 (by decide) ?_
      refine ev_icmp_le (tgt := 24) dX11_sent_17 (by decide) (fun hc3 => ?_) (fun hc3 => ?_)
      · replace h := ite_t hc3 h
        refine ev_aload_n dX11_sent_24 rfl ?_
        refine ev_getR fr_X11_35 shC_0 rfl dX11_sent_25 ?_
        refine ev_iload_n dX11_sent_28 rfl ?_
        refine ev_iload_n dX11_sent_29 rfl ?_
        refine ev_iconst (v := (1 : Int32)) dX11_sent_30 (by decide) ?_
        refine ev_icmp_ne (tgt := 38) dX11_sent_31 (by decide) (fun hc4 => ?_) (fun hc4 => ?_)
        · replace h := ite_f hc4 h
          refine ev_iconst (v := (0 : Int32)) dX11_sent_38 (by decide) ?_
          obtain ⟨w7, m6, hq5, h⟩ := bndE_t h
          refine ev_cVi mv_X11_263 dX11_sent_39 (c_X7_bestBeside hq5) rfl shC_93 rfl rfl (Nat.le_of_ble_eq_true rfl) (by rfl) (Nat.le_of_ble_eq_true rfl) (Nat.le_of_ble_eq_true rfl) (Nat.le_of_ble_eq_true rfl) ?_
          exact ev_iret rfl rfl (by decide) (by decide) dX11_sent_42 (eqP_E h)
        · replace h := ite_t hc4 h
          refine ev_iconst (v := (1 : Int32)) dX11_sent_34 (by decide) ?_
          refine ev_goto (tgt := 39) dX11_sent_35 (by decide) ?_
          obtain ⟨w10, m9, hq8, h⟩ := bndE_t h
          refine ev_cVi mv_X11_263 dX11_sent_39 (c_X7_bestBeside hq8) rfl shC_93 rfl rfl (Nat.le_of_ble_eq_true rfl) (by rfl) (Nat.le_of_ble_eq_true rfl) (Nat.le_of_ble_eq_true rfl) (Nat.le_of_ble_eq_true rfl) ?_
          exact ev_iret rfl rfl (by decide) (by decide) dX11_sent_42 (eqP_E h)
      · replace h := ite_f hc3 h
        refine ev_sipush (v := (-10000 : Int32)) dX11_sent_20 (by decide) ?_
        exact ev_iret rfl rfl (by decide) (by decide) dX11_sent_23 (eqP_E h)
def f_X11_man (G : Nat) (p1 p2 p3 : Int32) (μ : Mem) : Option (Int32 × Mem) :=
  (if p1 = (-1 : Int32) then
  bndE (f_X2_clear G 28 30 μ) (fun w13 m12 =>
  some (w13, m12))
  else
  (if (f_X11_isBelow p1 (6 : Int32)) = (0 : Int32) then
  some ((-1 : Int32), μ)
  else
  (if (f_X11_isBelow p2 (6 : Int32)) = (0 : Int32) then
  some ((-1 : Int32), μ)
  else
  (if p3 = (0 : Int32) then
  bndE (f_X2_add G 28 30 p1 p2 (0 : Int32) (0 : Int32) μ) (fun w7 m6 =>
  some (w7, m6))
  else
  bndE (f_X2_add G 28 30 p1 p2 (1 : Int32) (0 : Int32) μ) (fun w10 m9 =>
  some (w10, m9))))))
set_option maxHeartbeats 4000000 in
set_option maxRecDepth 100000 in
theorem c_X11_man {bb : Bool} {G : Nat} {μ : Mem} {p1 p2 p3 : Int32} {r : Int32} {μr : Mem}  (h : f_X11_man G p1 p2 p3 μ = some (r, μr)) : Cn yX11_man cX11_man 4 (some .int) 4 0 0 [.ref 0, .int p1, .int p2, .int p3] (shC bb) μ (eqP (some r) (shC bb) μr) := by
  refine cn_of (own := RX11) (ini := false) (loc := [some (.ref 0), some (.int p1), some (.int p2), some (.int p3)]) rfl (by decide) (fun q => by cases q) (Nat.le_of_ble_eq_true rfl) (by rfl) rfl ?_
  unfold f_X11_man at h
  refine ev_iload_n dX11_man_0 rfl ?_
  refine ev_iconst (v := (-1 : Int32)) dX11_man_1 (by decide) ?_
  refine ev_icmp_ne (tgt := 16) dX11_man_2 (by decide) (fun hc1 => ?_) (fun hc1 => ?_)
  · replace h := ite_f hc1 h
    refine ev_iload_n dX11_man_16 rfl ?_
    refine ev_bipush (v := (6 : Int32)) dX11_man_17 (by decide) ?_
    refine ev_cSi mv_X11_273 dX11_man_19 c_X11_isBelow rfl rfl (Nat.le_of_ble_eq_true rfl) (by rfl) (Nat.le_of_ble_eq_true rfl) (Nat.le_of_ble_eq_true rfl) (Nat.le_of_ble_eq_true rfl) ?_
    refine ev_if_eq (tgt := 34) dX11_man_22 (by decide) (fun hc2 => ?_) (fun hc2 => ?_)
    · replace h := ite_t hc2 h
      refine ev_iconst (v := (-1 : Int32)) dX11_man_34 (by decide) ?_
      exact ev_iret rfl rfl (by decide) (by decide) dX11_man_35 (eqP_E h)
    · replace h := ite_f hc2 h
      refine ev_iload_n dX11_man_25 rfl ?_
      refine ev_bipush (v := (6 : Int32)) dX11_man_26 (by decide) ?_
      refine ev_cSi mv_X11_273 dX11_man_28 c_X11_isBelow rfl rfl (Nat.le_of_ble_eq_true rfl) (by rfl) (Nat.le_of_ble_eq_true rfl) (Nat.le_of_ble_eq_true rfl) (Nat.le_of_ble_eq_true rfl) ?_
      refine ev_if_ne (tgt := 36) dX11_man_31 (by decide) (fun hc3 => ?_) (fun hc3 => ?_)
      · replace h := ite_f hc3 h
        refine ev_aload_n dX11_man_36 rfl ?_
        refine ev_getR fr_X11_12 shC_0 rfl dX11_man_37 ?_
        refine ev_getR fr_X11_267 shC_1 rfl dX11_man_40 ?_
        refine ev_iload_n dX11_man_43 rfl ?_
        refine ev_iload_n dX11_man_44 rfl ?_
        refine ev_iload_n dX11_man_45 rfl ?_
        refine ev_if_eq (tgt := 53) dX11_man_46 (by decide) (fun hc4 => ?_) (fun hc4 => ?_)
        · replace h := ite_t hc4 h
          refine ev_iconst (v := (0 : Int32)) dX11_man_53 (by decide) ?_
          refine ev_iconst (v := (0 : Int32)) dX11_man_54 (by decide) ?_
          obtain ⟨w7, m6, hq5, h⟩ := bndE_t h
          refine ev_cVi mv_X11_277 dX11_man_55 (c_X2_add atC_28 hq5) rfl shC_28 rfl rfl (Nat.le_of_ble_eq_true rfl) (by rfl) (Nat.le_of_ble_eq_true rfl) (Nat.le_of_ble_eq_true rfl) (Nat.le_of_ble_eq_true rfl) ?_
          exact ev_iret rfl rfl (by decide) (by decide) dX11_man_58 (eqP_E h)
        · replace h := ite_f hc4 h
          refine ev_iconst (v := (1 : Int32)) dX11_man_49 (by decide) ?_
          refine ev_goto (tgt := 54) dX11_man_50 (by decide) ?_
          refine ev_iconst (v := (0 : Int32)) dX11_man_54 (by decide) ?_
          obtain ⟨w10, m9, hq8, h⟩ := bndE_t h
          refine ev_cVi mv_X11_277 dX11_man_55 (c_X2_add atC_28 hq8) rfl shC_28 rfl rfl (Nat.le_of_ble_eq_true rfl) (by rfl) (Nat.le_of_ble_eq_true rfl) (Nat.le_of_ble_eq_true rfl) (Nat.le_of_ble_eq_true rfl) ?_
          exact ev_iret rfl rfl (by decide) (by decide) dX11_man_58 (eqP_E h)
      · replace h := ite_t hc3 h
        refine ev_iconst (v := (-1 : Int32)) dX11_man_34 (by decide) ?_
        exact ev_iret rfl rfl (by decide) (by decide) dX11_man_35 (eqP_E h)
  · replace h := ite_t hc1 h
    refine ev_aload_n dX11_man_5 rfl ?_
    refine ev_getR fr_X11_12 shC_0 rfl dX11_man_6 ?_
    refine ev_getR fr_X11_267 shC_1 rfl dX11_man_9 ?_
    obtain ⟨w13, m12, hq11, h⟩ := bndE_t h
    refine ev_cVi mv_X11_270 dX11_man_12 (c_X2_clear atC_28 hq11) rfl shC_28 rfl rfl (Nat.le_of_ble_eq_true rfl) (by rfl) (Nat.le_of_ble_eq_true rfl) (Nat.le_of_ble_eq_true rfl) (Nat.le_of_ble_eq_true rfl) ?_
    exact ev_iret rfl rfl (by decide) (by decide) dX11_man_15 (eqP_E h)
def f_X11_liars (G : Nat) (μ : Mem) (p1 : Int32) : Option Int32 :=
  bndO (f_X6_whoLies G μ p1) (fun w2 =>
  some w2)
set_option maxHeartbeats 4000000 in
set_option maxRecDepth 100000 in
theorem c_X11_liars {bb : Bool} {G : Nat} {μ : Mem}  {p1 : Int32} {r : Int32}  (h : f_X11_liars G μ p1 = some r) : Cn yX11_liars cX11_liars 2 (some .int) 5 0 0 [.ref 0, .int p1] (shC bb) μ (eqP (some r) (shC bb) μ) := by
  refine cn_of (own := RX11) (ini := false) (loc := [some (.ref 0), some (.int p1)]) rfl (by decide) (fun q => by cases q) (Nat.le_of_ble_eq_true rfl) (by rfl) rfl ?_
  unfold f_X11_liars at h
  refine ev_aload_n dX11_liars_0 rfl ?_
  refine ev_getR fr_X11_12 shC_0 rfl dX11_liars_1 ?_
  refine ev_getR fr_X11_267 shC_1 rfl dX11_liars_4 ?_
  refine ev_iload_n dX11_liars_7 rfl ?_
  obtain ⟨w2, hq1, h⟩ := bndO_t h
  refine ev_cSi mv_X11_281 dX11_liars_8 (c_X6_whoLies hq1) rfl rfl (Nat.le_of_ble_eq_true rfl) (by rfl) (Nat.le_of_ble_eq_true rfl) (Nat.le_of_ble_eq_true rfl) (Nat.le_of_ble_eq_true rfl) ?_
  exact ev_iret rfl rfl (by decide) (by decide) dX11_liars_11 (eqP_O h)
def f_X11_guess (G : Nat) (p1 p2 p3 : Int32) (μ : Mem) : Option (Int32 × Mem) :=
  (if p1 = (-1 : Int32) then
  bndV (f_X4_forget G μ) (fun m12 =>
  bndE (f_X2_clear G 30 24 m12) (fun w15 m14 =>
  some (w15, m14)))
  else
  (if (f_X4_numberOf p1) = (-1 : Int32) then
  some ((-1 : Int32), μ)
  else
  (if (f_X11_isBelow p2 (4 : Int32)) = (0 : Int32) then
  some ((-1 : Int32), μ)
  else
  (if (f_X11_isBelow p3 (4 : Int32)) = (0 : Int32) then
  some ((-1 : Int32), μ)
  else
  (if (p2 + p3) ≤ (3 : Int32) then
  bndV (f_X4_forget G μ) (fun m7 =>
  bndE (f_X2_add G 30 24 (f_X4_numberOf p1) p2 p3 (0 : Int32) m7) (fun w10 m9 =>
  some (w10, m9)))
  else
  some ((-1 : Int32), μ))))))
set_option maxHeartbeats 4000000 in
set_option maxRecDepth 100000 in
theorem c_X11_guess {bb : Bool} {G : Nat} {μ : Mem} {p1 p2 p3 : Int32} {r : Int32} {μr : Mem}  (h : f_X11_guess G p1 p2 p3 μ = some (r, μr)) : Cn yX11_guess cX11_guess 5 (some .int) 4 0 0 [.ref 0, .int p1, .int p2, .int p3] (shC bb) μ (eqP (some r) (shC bb) μr) := by
  refine cn_of (own := RX11) (ini := false) (loc := [some (.ref 0), some (.int p1), some (.int p2), some (.int p3), none]) rfl (by decide) (fun q => by cases q) (Nat.le_of_ble_eq_true rfl) (by rfl) rfl ?_
  unfold f_X11_guess at h
  refine ev_iload_n dX11_guess_0 rfl ?_
  refine ev_iconst (v := (-1 : Int32)) dX11_guess_1 (by decide) ?_
  refine ev_icmp_ne (tgt := 23) dX11_guess_2 (by decide) (fun hc1 => ?_) (fun hc1 => ?_)
  · replace h := ite_f hc1 h
    refine ev_iload_n dX11_guess_23 rfl ?_
    refine ev_cSi mv_X11_291 dX11_guess_24 c_X4_numberOf rfl rfl (Nat.le_of_ble_eq_true rfl) (by rfl) (Nat.le_of_ble_eq_true rfl) (Nat.le_of_ble_eq_true rfl) (Nat.le_of_ble_eq_true rfl) ?_
    refine ev_istore (loc' := [_, _, _, _, _]) dX11_guess_27 rfl (by decide) (by rfl) ?_
    refine ev_iload dX11_guess_29 rfl ?_
    refine ev_iconst (v := (-1 : Int32)) dX11_guess_31 (by decide) ?_
    refine ev_icmp_eq (tgt := 58) dX11_guess_32 (by decide) (fun hc2 => ?_) (fun hc2 => ?_)
    · replace h := ite_t hc2 h
      refine ev_iconst (v := (-1 : Int32)) dX11_guess_58 (by decide) ?_
      exact ev_iret rfl rfl (by decide) (by decide) dX11_guess_59 (eqP_E h)
    · replace h := ite_f hc2 h
      refine ev_iload_n dX11_guess_35 rfl ?_
      refine ev_iconst (v := (4 : Int32)) dX11_guess_36 (by decide) ?_
      refine ev_cSi mv_X11_273 dX11_guess_37 c_X11_isBelow rfl rfl (Nat.le_of_ble_eq_true rfl) (by rfl) (Nat.le_of_ble_eq_true rfl) (Nat.le_of_ble_eq_true rfl) (Nat.le_of_ble_eq_true rfl) ?_
      refine ev_if_eq (tgt := 58) dX11_guess_40 (by decide) (fun hc3 => ?_) (fun hc3 => ?_)
      · replace h := ite_t hc3 h
        refine ev_iconst (v := (-1 : Int32)) dX11_guess_58 (by decide) ?_
        exact ev_iret rfl rfl (by decide) (by decide) dX11_guess_59 (eqP_E h)
      · replace h := ite_f hc3 h
        refine ev_iload_n dX11_guess_43 rfl ?_
        refine ev_iconst (v := (4 : Int32)) dX11_guess_44 (by decide) ?_
        refine ev_cSi mv_X11_273 dX11_guess_45 c_X11_isBelow rfl rfl (Nat.le_of_ble_eq_true rfl) (by rfl) (Nat.le_of_ble_eq_true rfl) (Nat.le_of_ble_eq_true rfl) (Nat.le_of_ble_eq_true rfl) ?_
        refine ev_if_eq (tgt := 58) dX11_guess_48 (by decide) (fun hc4 => ?_) (fun hc4 => ?_)
        · replace h := ite_t hc4 h
          refine ev_iconst (v := (-1 : Int32)) dX11_guess_58 (by decide) ?_
          exact ev_iret rfl rfl (by decide) (by decide) dX11_guess_59 (eqP_E h)
        · replace h := ite_f hc4 h
          refine ev_iload_n dX11_guess_51 rfl ?_
          refine ev_iload_n dX11_guess_52 rfl ?_
          refine ev_iadd dX11_guess_53 ?_
          refine ev_iconst (v := (3 : Int32)) dX11_guess_54 (by decide) ?_
          refine ev_icmp_le (tgt := 60) dX11_guess_55 (by decide) (fun hc5 => ?_) (fun hc5 => ?_)
          · replace h := ite_t hc5 h
            refine ev_aload_n dX11_guess_60 rfl ?_
            refine ev_getR fr_X11_49 shC_0 rfl dX11_guess_61 ?_
            obtain ⟨m7, hq6, h⟩ := bndV_t h
            refine ev_cVv mv_X11_287 dX11_guess_64 (c_X4_forget hq6) rfl shC_105 rfl rfl (Nat.le_of_ble_eq_true rfl) (by rfl) (Nat.le_of_ble_eq_true rfl) (Nat.le_of_ble_eq_true rfl) (Nat.le_of_ble_eq_true rfl) ?_
            refine ev_aload_n dX11_guess_67 rfl ?_
            refine ev_getR fr_X11_12 shC_0 rfl dX11_guess_68 ?_
            refine ev_getR fr_X11_288 shC_1 rfl dX11_guess_71 ?_
            refine ev_iload dX11_guess_74 rfl ?_
            refine ev_iload_n dX11_guess_76 rfl ?_
            refine ev_iload_n dX11_guess_77 rfl ?_
            refine ev_iconst (v := (0 : Int32)) dX11_guess_78 (by decide) ?_
            obtain ⟨w10, m9, hq8, h⟩ := bndE_t h
            refine ev_cVi mv_X11_277 dX11_guess_79 (c_X2_add atC_30 hq8) rfl shC_30 rfl rfl (Nat.le_of_ble_eq_true rfl) (by rfl) (Nat.le_of_ble_eq_true rfl) (Nat.le_of_ble_eq_true rfl) (Nat.le_of_ble_eq_true rfl) ?_
            exact ev_iret rfl rfl (by decide) (by decide) dX11_guess_82 (eqP_E h)
          · replace h := ite_f hc5 h
            refine ev_iconst (v := (-1 : Int32)) dX11_guess_58 (by decide) ?_
            exact ev_iret rfl rfl (by decide) (by decide) dX11_guess_59 (eqP_E h)
  · replace h := ite_t hc1 h
    refine ev_aload_n dX11_guess_5 rfl ?_
    refine ev_getR fr_X11_49 shC_0 rfl dX11_guess_6 ?_
    obtain ⟨m12, hq11, h⟩ := bndV_t h
    refine ev_cVv mv_X11_287 dX11_guess_9 (c_X4_forget hq11) rfl shC_105 rfl rfl (Nat.le_of_ble_eq_true rfl) (by rfl) (Nat.le_of_ble_eq_true rfl) (Nat.le_of_ble_eq_true rfl) (Nat.le_of_ble_eq_true rfl) ?_
    refine ev_aload_n dX11_guess_12 rfl ?_
    refine ev_getR fr_X11_12 shC_0 rfl dX11_guess_13 ?_
    refine ev_getR fr_X11_288 shC_1 rfl dX11_guess_16 ?_
    obtain ⟨w15, m14, hq13, h⟩ := bndE_t h
    refine ev_cVi mv_X11_270 dX11_guess_19 (c_X2_clear atC_30 hq13) rfl shC_30 rfl rfl (Nat.le_of_ble_eq_true rfl) (by rfl) (Nat.le_of_ble_eq_true rfl) (Nat.le_of_ble_eq_true rfl) (Nat.le_of_ble_eq_true rfl) ?_
    exact ev_iret rfl rfl (by decide) (by decide) dX11_guess_22 (eqP_E h)
def f_X11_plumes (G : Nat) (p1 : Int32) (μ : Mem) : Option (Int32 × Mem) :=
  bndV (f_X4_study G μ) (fun m2 =>
  (if p1 = (0 : Int32) then
  some ((m2 105 4), m2)
  else
  (if p1 = (1 : Int32) then
  some ((f_X4_least m2), m2)
  else
  (if p1 = (2 : Int32) then
  bndE (f_X4_best G m2) (fun w8 m7 =>
  some (w8, m7))
  else
  some ((-1 : Int32), m2)))))
set_option maxHeartbeats 4000000 in
set_option maxRecDepth 100000 in
theorem c_X11_plumes {bb : Bool} {G : Nat} {μ : Mem} {p1 : Int32} {r : Int32} {μr : Mem}  (h : f_X11_plumes G p1 μ = some (r, μr)) : Cn yX11_plumes cX11_plumes 2 (some .int) 5 0 0 [.ref 0, .int p1] (shC bb) μ (eqP (some r) (shC bb) μr) := by
  refine cn_of (own := RX11) (ini := false) (loc := [some (.ref 0), some (.int p1)]) rfl (by decide) (fun q => by cases q) (Nat.le_of_ble_eq_true rfl) (by rfl) rfl ?_
  unfold f_X11_plumes at h
  refine ev_aload_n dX11_plumes_0 rfl ?_
  refine ev_getR fr_X11_49 shC_0 rfl dX11_plumes_1 ?_
  refine ev_aload_n dX11_plumes_4 rfl ?_
  refine ev_getR fr_X11_12 shC_0 rfl dX11_plumes_5 ?_
  refine ev_getR fr_X11_288 shC_1 rfl dX11_plumes_8 ?_
  obtain ⟨m2, hq1, h⟩ := bndV_t h
  refine ev_cVv mv_X11_294 dX11_plumes_11 (c_X4_study hq1) rfl shC_105 rfl rfl (Nat.le_of_ble_eq_true rfl) (by rfl) (Nat.le_of_ble_eq_true rfl) (Nat.le_of_ble_eq_true rfl) (Nat.le_of_ble_eq_true rfl) ?_
  refine ev_iload_n dX11_plumes_14 rfl ?_
  refine ev_em (v := (0 : Int32)) (fun hc3 => ?_) (fun hc3 => ?_)
  · replace h := ite_t hc3 h
    refine ev_tsC (v := (0 : Int32)) (off := 25) (tgt := 40) dX11_plumes_15 (by decide) hc3 (by decide) (by decide) ?_
    refine ev_aload_n dX11_plumes_40 rfl ?_
    refine ev_getR fr_X11_49 shC_0 rfl dX11_plumes_41 ?_
    refine ev_getI fr_X11_297 shC_105 rfl dX11_plumes_44 ?_
    exact ev_iret rfl rfl (by decide) (by decide) dX11_plumes_47 (eqP_E h)
  · replace h := ite_f hc3 h
    refine ev_em (v := (1 : Int32)) (fun hc4 => ?_) (fun hc4 => ?_)
    · replace h := ite_t hc4 h
      refine ev_tsC (v := (1 : Int32)) (off := 33) (tgt := 48) dX11_plumes_15 (by decide) hc4 (by decide) (by decide) ?_
      refine ev_aload_n dX11_plumes_48 rfl ?_
      refine ev_getR fr_X11_49 shC_0 rfl dX11_plumes_49 ?_
      refine ev_cVi mv_X11_300 dX11_plumes_52 c_X4_least rfl shC_105 rfl rfl (Nat.le_of_ble_eq_true rfl) (by rfl) (Nat.le_of_ble_eq_true rfl) (Nat.le_of_ble_eq_true rfl) (Nat.le_of_ble_eq_true rfl) ?_
      exact ev_iret rfl rfl (by decide) (by decide) dX11_plumes_55 (eqP_E h)
    · replace h := ite_f hc4 h
      refine ev_em (v := (2 : Int32)) (fun hc5 => ?_) (fun hc5 => ?_)
      · replace h := ite_t hc5 h
        refine ev_tsC (v := (2 : Int32)) (off := 41) (tgt := 56) dX11_plumes_15 (by decide) hc5 (by decide) (by decide) ?_
        refine ev_aload_n dX11_plumes_56 rfl ?_
        refine ev_getR fr_X11_49 shC_0 rfl dX11_plumes_57 ?_
        obtain ⟨w8, m7, hq6, h⟩ := bndE_t h
        refine ev_cVi mv_X11_303 dX11_plumes_60 (c_X4_best hq6) rfl shC_105 rfl rfl (Nat.le_of_ble_eq_true rfl) (by rfl) (Nat.le_of_ble_eq_true rfl) (Nat.le_of_ble_eq_true rfl) (Nat.le_of_ble_eq_true rfl) ?_
        exact ev_iret rfl rfl (by decide) (by decide) dX11_plumes_63 (eqP_E h)
      · replace h := ite_f hc5 h
        refine ev_tsE (tgt := 64) dX11_plumes_15 (by decide) ⟨Or.inr hc3, ⟨Or.inr hc4, ⟨Or.inr hc5, trivial⟩⟩⟩ (by decide) ?_
        refine ev_iconst (v := (-1 : Int32)) dX11_plumes_64 (by decide) ?_
        exact ev_iret rfl rfl (by decide) (by decide) dX11_plumes_65 (eqP_E h)
def f_X11_bet (G : Nat) (p1 p2 : Int32) (μ : Mem) : Option (Int32 × Mem) :=
  (if p1 = (-1 : Int32) then
  bndE (f_X2_clear G 32 12 μ) (fun w10 m9 =>
  some (w10, m9))
  else
  (if (f_X11_isBelow p1 (3 : Int32)) = (0 : Int32) then
  some ((-1 : Int32), μ)
  else
  (if p2 < (101 : Int32) then
  some ((-1 : Int32), μ)
  else
  (if p2 ≤ (9999 : Int32) then
  bndE (f_X2_add G 32 12 p1 p2 (0 : Int32) (0 : Int32) μ) (fun w7 m6 =>
  some (w7, m6))
  else
  some ((-1 : Int32), μ)))))
set_option maxHeartbeats 4000000 in
set_option maxRecDepth 100000 in
theorem c_X11_bet {bb : Bool} {G : Nat} {μ : Mem} {p1 p2 : Int32} {r : Int32} {μr : Mem}  (h : f_X11_bet G p1 p2 μ = some (r, μr)) : Cn yX11_bet cX11_bet 3 (some .int) 4 0 0 [.ref 0, .int p1, .int p2] (shC bb) μ (eqP (some r) (shC bb) μr) := by
  refine cn_of (own := RX11) (ini := false) (loc := [some (.ref 0), some (.int p1), some (.int p2)]) rfl (by decide) (fun q => by cases q) (Nat.le_of_ble_eq_true rfl) (by rfl) rfl ?_
  unfold f_X11_bet at h
  refine ev_iload_n dX11_bet_0 rfl ?_
  refine ev_iconst (v := (-1 : Int32)) dX11_bet_1 (by decide) ?_
  refine ev_icmp_ne (tgt := 16) dX11_bet_2 (by decide) (fun hc1 => ?_) (fun hc1 => ?_)
  · replace h := ite_f hc1 h
    refine ev_iload_n dX11_bet_16 rfl ?_
    refine ev_iconst (v := (3 : Int32)) dX11_bet_17 (by decide) ?_
    refine ev_cSi mv_X11_273 dX11_bet_18 c_X11_isBelow rfl rfl (Nat.le_of_ble_eq_true rfl) (by rfl) (Nat.le_of_ble_eq_true rfl) (Nat.le_of_ble_eq_true rfl) (Nat.le_of_ble_eq_true rfl) ?_
    refine ev_if_eq (tgt := 37) dX11_bet_21 (by decide) (fun hc2 => ?_) (fun hc2 => ?_)
    · replace h := ite_t hc2 h
      refine ev_iconst (v := (-1 : Int32)) dX11_bet_37 (by decide) ?_
      exact ev_iret rfl rfl (by decide) (by decide) dX11_bet_38 (eqP_E h)
    · replace h := ite_f hc2 h
      refine ev_iload_n dX11_bet_24 rfl ?_
      refine ev_bipush (v := (101 : Int32)) dX11_bet_25 (by decide) ?_
      refine ev_icmp_lt (tgt := 37) dX11_bet_27 (by decide) (fun hc3 => ?_) (fun hc3 => ?_)
      · replace h := ite_t hc3 h
        refine ev_iconst (v := (-1 : Int32)) dX11_bet_37 (by decide) ?_
        exact ev_iret rfl rfl (by decide) (by decide) dX11_bet_38 (eqP_E h)
      · replace h := ite_f hc3 h
        refine ev_iload_n dX11_bet_30 rfl ?_
        refine ev_sipush (v := (9999 : Int32)) dX11_bet_31 (by decide) ?_
        refine ev_icmp_le (tgt := 39) dX11_bet_34 (by decide) (fun hc4 => ?_) (fun hc4 => ?_)
        · replace h := ite_t hc4 h
          refine ev_aload_n dX11_bet_39 rfl ?_
          refine ev_getR fr_X11_12 shC_0 rfl dX11_bet_40 ?_
          refine ev_getR fr_X11_306 shC_1 rfl dX11_bet_43 ?_
          refine ev_iload_n dX11_bet_46 rfl ?_
          refine ev_iload_n dX11_bet_47 rfl ?_
          refine ev_iconst (v := (0 : Int32)) dX11_bet_48 (by decide) ?_
          refine ev_iconst (v := (0 : Int32)) dX11_bet_49 (by decide) ?_
          obtain ⟨w7, m6, hq5, h⟩ := bndE_t h
          refine ev_cVi mv_X11_277 dX11_bet_50 (c_X2_add atC_32 hq5) rfl shC_32 rfl rfl (Nat.le_of_ble_eq_true rfl) (by rfl) (Nat.le_of_ble_eq_true rfl) (Nat.le_of_ble_eq_true rfl) (Nat.le_of_ble_eq_true rfl) ?_
          exact ev_iret rfl rfl (by decide) (by decide) dX11_bet_53 (eqP_E h)
        · replace h := ite_f hc4 h
          refine ev_iconst (v := (-1 : Int32)) dX11_bet_37 (by decide) ?_
          exact ev_iret rfl rfl (by decide) (by decide) dX11_bet_38 (eqP_E h)
  · replace h := ite_t hc1 h
    refine ev_aload_n dX11_bet_5 rfl ?_
    refine ev_getR fr_X11_12 shC_0 rfl dX11_bet_6 ?_
    refine ev_getR fr_X11_306 shC_1 rfl dX11_bet_9 ?_
    obtain ⟨w10, m9, hq8, h⟩ := bndE_t h
    refine ev_cVi mv_X11_270 dX11_bet_12 (c_X2_clear atC_32 hq8) rfl shC_32 rfl rfl (Nat.le_of_ble_eq_true rfl) (by rfl) (Nat.le_of_ble_eq_true rfl) (Nat.le_of_ble_eq_true rfl) (Nat.le_of_ble_eq_true rfl) ?_
    exact ev_iret rfl rfl (by decide) (by decide) dX11_bet_15 (eqP_E h)
def f_X11_safe (G : Nat) (μ : Mem) (p1 p2 : Int32) : Option Int32 :=
  (if p1 < (3 : Int32) then
  some (-1 : Int32)
  else
  (if p1 ≤ (300 : Int32) then
  bndO (f_X6_safeStakes G μ p1 p2) (fun w4 =>
  some w4)
  else
  some (-1 : Int32)))
set_option maxHeartbeats 4000000 in
set_option maxRecDepth 100000 in
theorem c_X11_safe {bb : Bool} {G : Nat} {μ : Mem}  {p1 p2 : Int32} {r : Int32}  (h : f_X11_safe G μ p1 p2 = some r) : Cn yX11_safe cX11_safe 3 (some .int) 5 0 0 [.ref 0, .int p1, .int p2] (shC bb) μ (eqP (some r) (shC bb) μ) := by
  refine cn_of (own := RX11) (ini := false) (loc := [some (.ref 0), some (.int p1), some (.int p2)]) rfl (by decide) (fun q => by cases q) (Nat.le_of_ble_eq_true rfl) (by rfl) rfl ?_
  unfold f_X11_safe at h
  refine ev_iload_n dX11_safe_0 rfl ?_
  refine ev_iconst (v := (3 : Int32)) dX11_safe_1 (by decide) ?_
  refine ev_icmp_lt (tgt := 12) dX11_safe_2 (by decide) (fun hc1 => ?_) (fun hc1 => ?_)
  · replace h := ite_t hc1 h
    refine ev_iconst (v := (-1 : Int32)) dX11_safe_12 (by decide) ?_
    exact ev_iret rfl rfl (by decide) (by decide) dX11_safe_13 (eqP_O h)
  · replace h := ite_f hc1 h
    refine ev_iload_n dX11_safe_5 rfl ?_
    refine ev_sipush (v := (300 : Int32)) dX11_safe_6 (by decide) ?_
    refine ev_icmp_le (tgt := 14) dX11_safe_9 (by decide) (fun hc2 => ?_) (fun hc2 => ?_)
    · replace h := ite_t hc2 h
      refine ev_aload_n dX11_safe_14 rfl ?_
      refine ev_getR fr_X11_12 shC_0 rfl dX11_safe_15 ?_
      refine ev_getR fr_X11_306 shC_1 rfl dX11_safe_18 ?_
      refine ev_iload_n dX11_safe_21 rfl ?_
      refine ev_iload_n dX11_safe_22 rfl ?_
      obtain ⟨w4, hq3, h⟩ := bndO_t h
      refine ev_cSi mv_X11_309 dX11_safe_23 (c_X6_safeStakes hq3) rfl rfl (Nat.le_of_ble_eq_true rfl) (by rfl) (Nat.le_of_ble_eq_true rfl) (Nat.le_of_ble_eq_true rfl) (Nat.le_of_ble_eq_true rfl) ?_
      exact ev_iret rfl rfl (by decide) (by decide) dX11_safe_26 (eqP_O h)
    · replace h := ite_f hc2 h
      refine ev_iconst (v := (-1 : Int32)) dX11_safe_12 (by decide) ?_
      exact ev_iret rfl rfl (by decide) (by decide) dX11_safe_13 (eqP_O h)
def f_X11_street (G : Nat) (p1 p2 : Int32) (μ : Mem) : Option (Int32 × Mem) :=
  (if p1 = (-1 : Int32) then
  bndE (f_X2_clear G 34 32 μ) (fun w10 m9 =>
  some (w10, m9))
  else
  (if (f_X11_isBelow p1 (10 : Int32)) = (0 : Int32) then
  some ((-1 : Int32), μ)
  else
  (if (f_X11_isBelow p2 (10 : Int32)) = (0 : Int32) then
  some ((-1 : Int32), μ)
  else
  (if p1 = p2 then
  some ((-1 : Int32), μ)
  else
  bndE (f_X2_add G 34 32 p1 p2 (0 : Int32) (0 : Int32) μ) (fun w7 m6 =>
  some (w7, m6))))))
set_option maxHeartbeats 4000000 in
set_option maxRecDepth 100000 in
theorem c_X11_street {bb : Bool} {G : Nat} {μ : Mem} {p1 p2 : Int32} {r : Int32} {μr : Mem}  (h : f_X11_street G p1 p2 μ = some (r, μr)) : Cn yX11_street cX11_street 3 (some .int) 4 0 0 [.ref 0, .int p1, .int p2] (shC bb) μ (eqP (some r) (shC bb) μr) := by
  refine cn_of (own := RX11) (ini := false) (loc := [some (.ref 0), some (.int p1), some (.int p2)]) rfl (by decide) (fun q => by cases q) (Nat.le_of_ble_eq_true rfl) (by rfl) rfl ?_
  unfold f_X11_street at h
  refine ev_iload_n dX11_street_0 rfl ?_
  refine ev_iconst (v := (-1 : Int32)) dX11_street_1 (by decide) ?_
  refine ev_icmp_ne (tgt := 16) dX11_street_2 (by decide) (fun hc1 => ?_) (fun hc1 => ?_)
  · replace h := ite_f hc1 h
    refine ev_iload_n dX11_street_16 rfl ?_
    refine ev_bipush (v := (10 : Int32)) dX11_street_17 (by decide) ?_
    refine ev_cSi mv_X11_273 dX11_street_19 c_X11_isBelow rfl rfl (Nat.le_of_ble_eq_true rfl) (by rfl) (Nat.le_of_ble_eq_true rfl) (Nat.le_of_ble_eq_true rfl) (Nat.le_of_ble_eq_true rfl) ?_
    refine ev_if_eq (tgt := 39) dX11_street_22 (by decide) (fun hc2 => ?_) (fun hc2 => ?_)
    · replace h := ite_t hc2 h
      refine ev_iconst (v := (-1 : Int32)) dX11_street_39 (by decide) ?_
      exact ev_iret rfl rfl (by decide) (by decide) dX11_street_40 (eqP_E h)
    · replace h := ite_f hc2 h
      refine ev_iload_n dX11_street_25 rfl ?_
      refine ev_bipush (v := (10 : Int32)) dX11_street_26 (by decide) ?_
      refine ev_cSi mv_X11_273 dX11_street_28 c_X11_isBelow rfl rfl (Nat.le_of_ble_eq_true rfl) (by rfl) (Nat.le_of_ble_eq_true rfl) (Nat.le_of_ble_eq_true rfl) (Nat.le_of_ble_eq_true rfl) ?_
      refine ev_if_eq (tgt := 39) dX11_street_31 (by decide) (fun hc3 => ?_) (fun hc3 => ?_)
      · replace h := ite_t hc3 h
        refine ev_iconst (v := (-1 : Int32)) dX11_street_39 (by decide) ?_
        exact ev_iret rfl rfl (by decide) (by decide) dX11_street_40 (eqP_E h)
      · replace h := ite_f hc3 h
        refine ev_iload_n dX11_street_34 rfl ?_
        refine ev_iload_n dX11_street_35 rfl ?_
        refine ev_icmp_ne (tgt := 41) dX11_street_36 (by decide) (fun hc4 => ?_) (fun hc4 => ?_)
        · replace h := ite_f hc4 h
          refine ev_aload_n dX11_street_41 rfl ?_
          refine ev_getR fr_X11_12 shC_0 rfl dX11_street_42 ?_
          refine ev_getR fr_X11_313 shC_1 rfl dX11_street_45 ?_
          refine ev_iload_n dX11_street_48 rfl ?_
          refine ev_iload_n dX11_street_49 rfl ?_
          refine ev_iconst (v := (0 : Int32)) dX11_street_50 (by decide) ?_
          refine ev_iconst (v := (0 : Int32)) dX11_street_51 (by decide) ?_
          obtain ⟨w7, m6, hq5, h⟩ := bndE_t h
          refine ev_cVi mv_X11_277 dX11_street_52 (c_X2_add atC_34 hq5) rfl shC_34 rfl rfl (Nat.le_of_ble_eq_true rfl) (by rfl) (Nat.le_of_ble_eq_true rfl) (Nat.le_of_ble_eq_true rfl) (Nat.le_of_ble_eq_true rfl) ?_
          exact ev_iret rfl rfl (by decide) (by decide) dX11_street_55 (eqP_E h)
        · replace h := ite_t hc4 h
          refine ev_iconst (v := (-1 : Int32)) dX11_street_39 (by decide) ?_
          exact ev_iret rfl rfl (by decide) (by decide) dX11_street_40 (eqP_E h)
  · replace h := ite_t hc1 h
    refine ev_aload_n dX11_street_5 rfl ?_
    refine ev_getR fr_X11_12 shC_0 rfl dX11_street_6 ?_
    refine ev_getR fr_X11_313 shC_1 rfl dX11_street_9 ?_
    obtain ⟨w10, m9, hq8, h⟩ := bndE_t h
    refine ev_cVi mv_X11_270 dX11_street_12 (c_X2_clear atC_34 hq8) rfl shC_34 rfl rfl (Nat.le_of_ble_eq_true rfl) (by rfl) (Nat.le_of_ble_eq_true rfl) (Nat.le_of_ble_eq_true rfl) (Nat.le_of_ble_eq_true rfl) ?_
    exact ev_iret rfl rfl (by decide) (by decide) dX11_street_15 (eqP_E h)
def f_X11_ways (G : Nat) (p1 p2 p3 : Int32) (μ : Mem) : Option (Int32 × Mem) :=
  (if (f_X11_isBelow p1 (10 : Int32)) = (0 : Int32) then
  some ((-1 : Int32), μ)
  else
  (if (f_X11_isBelow p2 (10 : Int32)) = (0 : Int32) then
  some ((-1 : Int32), μ)
  else
  (if p1 = p2 then
  some ((-1 : Int32), μ)
  else
  bndV (f_X9_lay G μ) (fun m5 =>
  (if p3 = (0 : Int32) then
  bndE (f_X9_apart G p1 p2 m5) (fun w9 m8 =>
  some (w9, m8))
  else
  (if p3 = (1 : Int32) then
  bndO (f_X9_shortest G m5 p1 p2) (fun w12 =>
  some (w12, m5))
  else
  some ((-1 : Int32), m5)))))))
set_option maxHeartbeats 4000000 in
set_option maxRecDepth 100000 in
theorem c_X11_ways {bb : Bool} {G : Nat} {μ : Mem} {p1 p2 p3 : Int32} {r : Int32} {μr : Mem}  (h : f_X11_ways G p1 p2 p3 μ = some (r, μr)) : Cn yX11_ways cX11_ways 4 (some .int) 4 0 0 [.ref 0, .int p1, .int p2, .int p3] (shC bb) μ (eqP (some r) (shC bb) μr) := by
  refine cn_of (own := RX11) (ini := false) (loc := [some (.ref 0), some (.int p1), some (.int p2), some (.int p3)]) rfl (by decide) (fun q => by cases q) (Nat.le_of_ble_eq_true rfl) (by rfl) rfl ?_
  unfold f_X11_ways at h
  refine ev_iload_n dX11_ways_0 rfl ?_
  refine ev_bipush (v := (10 : Int32)) dX11_ways_1 (by decide) ?_
  refine ev_cSi mv_X11_273 dX11_ways_3 c_X11_isBelow rfl rfl (Nat.le_of_ble_eq_true rfl) (by rfl) (Nat.le_of_ble_eq_true rfl) (Nat.le_of_ble_eq_true rfl) (Nat.le_of_ble_eq_true rfl) ?_
  refine ev_if_eq (tgt := 23) dX11_ways_6 (by decide) (fun hc1 => ?_) (fun hc1 => ?_)
  · replace h := ite_t hc1 h
    refine ev_iconst (v := (-1 : Int32)) dX11_ways_23 (by decide) ?_
    exact ev_iret rfl rfl (by decide) (by decide) dX11_ways_24 (eqP_E h)
  · replace h := ite_f hc1 h
    refine ev_iload_n dX11_ways_9 rfl ?_
    refine ev_bipush (v := (10 : Int32)) dX11_ways_10 (by decide) ?_
    refine ev_cSi mv_X11_273 dX11_ways_12 c_X11_isBelow rfl rfl (Nat.le_of_ble_eq_true rfl) (by rfl) (Nat.le_of_ble_eq_true rfl) (Nat.le_of_ble_eq_true rfl) (Nat.le_of_ble_eq_true rfl) ?_
    refine ev_if_eq (tgt := 23) dX11_ways_15 (by decide) (fun hc2 => ?_) (fun hc2 => ?_)
    · replace h := ite_t hc2 h
      refine ev_iconst (v := (-1 : Int32)) dX11_ways_23 (by decide) ?_
      exact ev_iret rfl rfl (by decide) (by decide) dX11_ways_24 (eqP_E h)
    · replace h := ite_f hc2 h
      refine ev_iload_n dX11_ways_18 rfl ?_
      refine ev_iload_n dX11_ways_19 rfl ?_
      refine ev_icmp_ne (tgt := 25) dX11_ways_20 (by decide) (fun hc3 => ?_) (fun hc3 => ?_)
      · replace h := ite_f hc3 h
        refine ev_aload_n dX11_ways_25 rfl ?_
        refine ev_getR fr_X11_56 shC_0 rfl dX11_ways_26 ?_
        refine ev_aload_n dX11_ways_29 rfl ?_
        refine ev_getR fr_X11_12 shC_0 rfl dX11_ways_30 ?_
        refine ev_getR fr_X11_313 shC_1 rfl dX11_ways_33 ?_
        obtain ⟨m5, hq4, h⟩ := bndV_t h
        refine ev_cVv mv_X11_316 dX11_ways_36 (c_X9_lay hq4) rfl shC_110 rfl rfl (Nat.le_of_ble_eq_true rfl) (by rfl) (Nat.le_of_ble_eq_true rfl) (Nat.le_of_ble_eq_true rfl) (Nat.le_of_ble_eq_true rfl) ?_
        refine ev_iload_n dX11_ways_39 rfl ?_
        refine ev_em (v := (0 : Int32)) (fun hc6 => ?_) (fun hc6 => ?_)
        · replace h := ite_t hc6 h
          refine ev_lsC (v := (0 : Int32)) (off := 28) (tgt := 68) dX11_ways_40 (by decide) hc6 (by decide) (by decide) ?_
          refine ev_aload_n dX11_ways_68 rfl ?_
          refine ev_getR fr_X11_56 shC_0 rfl dX11_ways_69 ?_
          refine ev_iload_n dX11_ways_72 rfl ?_
          refine ev_iload_n dX11_ways_73 rfl ?_
          obtain ⟨w9, m8, hq7, h⟩ := bndE_t h
          refine ev_cVi mv_X11_319 dX11_ways_74 (c_X9_apart hq7) rfl shC_110 rfl rfl (Nat.le_of_ble_eq_true rfl) (by rfl) (Nat.le_of_ble_eq_true rfl) (Nat.le_of_ble_eq_true rfl) (Nat.le_of_ble_eq_true rfl) ?_
          exact ev_iret rfl rfl (by decide) (by decide) dX11_ways_77 (eqP_E h)
        · replace h := ite_f hc6 h
          refine ev_em (v := (1 : Int32)) (fun hc10 => ?_) (fun hc10 => ?_)
          · replace h := ite_t hc10 h
            refine ev_lsC (v := (1 : Int32)) (off := 38) (tgt := 78) dX11_ways_40 (by decide) hc10 (by decide) (by decide) ?_
            refine ev_aload_n dX11_ways_78 rfl ?_
            refine ev_getR fr_X11_56 shC_0 rfl dX11_ways_79 ?_
            refine ev_iload_n dX11_ways_82 rfl ?_
            refine ev_iload_n dX11_ways_83 rfl ?_
            obtain ⟨w12, hq11, h⟩ := bndO_t h
            refine ev_cVi mv_X11_322 dX11_ways_84 (c_X9_shortest hq11) rfl shC_110 rfl rfl (Nat.le_of_ble_eq_true rfl) (by rfl) (Nat.le_of_ble_eq_true rfl) (Nat.le_of_ble_eq_true rfl) (Nat.le_of_ble_eq_true rfl) ?_
            exact ev_iret rfl rfl (by decide) (by decide) dX11_ways_87 (eqP_E h)
          · replace h := ite_f hc10 h
            refine ev_lsE (tgt := 88) dX11_ways_40 (by decide) ⟨hc6, ⟨hc10, trivial⟩⟩ (by decide) ?_
            refine ev_iconst (v := (-1 : Int32)) dX11_ways_88 (by decide) ?_
            exact ev_iret rfl rfl (by decide) (by decide) dX11_ways_89 (eqP_E h)
      · replace h := ite_t hc3 h
        refine ev_iconst (v := (-1 : Int32)) dX11_ways_23 (by decide) ?_
        exact ev_iret rfl rfl (by decide) (by decide) dX11_ways_24 (eqP_E h)
def f_X11_kin_L31 (G : Nat) (μ : Mem)  : Nat → Int32 → Int32 → Int32 → Option Int32
  | 0, _, _, _ => none
  | g + 1, v2, v3, v4 =>
  (if (12 : Int32) ≤ v4 then
  some (-1 : Int32)
  else
  (if (f_X11_has v3 v2) = (0 : Int32) then
  bndO (f_X0_sistersOf G μ v3) (fun w6 =>
  (f_X11_kin_L31 G μ g) v2 (v3 ||| w6) (v4 + (1 : Int32)))
  else
  some v4))
set_option maxHeartbeats 4000000 in
set_option maxRecDepth 100000 in
theorem f_X11_kin_L31_ok {bb : Bool} {G : Nat} {μ : Mem} {r : Int32}    : ∀ (g : Nat) (v2 v3 v4 : Int32), f_X11_kin_L31 G μ g v2 v3 v4 = some r → Ev RX11 cX11_kin 5 (some .int) false 4 0 0 (eqP (some r) (shC bb) μ) 31 [some (.ref 0), none, some (.int v2), some (.int v3), some (.int v4)] [] (shC bb) μ 0 0 := by
  intro g
  induction g with
  | zero =>
    intro v2 v3 v4 h
    cases h
  | succ g ih =>
    intro v2 v3 v4 h
    rw [f_X11_kin_L31] at h
    refine ev_iload dX11_kin_31 rfl ?_
    refine ev_bipush (v := (12 : Int32)) dX11_kin_33 (by decide) ?_
    refine ev_icmp_ge (tgt := 66) dX11_kin_35 (by decide) (fun hc3 => ?_) (fun hc3 => ?_)
    · replace h := ite_t hc3 h
      refine ev_iconst (v := (-1 : Int32)) dX11_kin_66 (by decide) ?_
      exact ev_iret rfl rfl (by decide) (by decide) dX11_kin_67 (eqP_O h)
    · replace h := ite_f hc3 h
      refine ev_iload_n dX11_kin_38 rfl ?_
      refine ev_iload_n dX11_kin_39 rfl ?_
      refine ev_cSi mv_X11_325 dX11_kin_40 c_X11_has rfl rfl (Nat.le_of_ble_eq_true rfl) (by rfl) (Nat.le_of_ble_eq_true rfl) (Nat.le_of_ble_eq_true rfl) (Nat.le_of_ble_eq_true rfl) ?_
      refine ev_if_eq (tgt := 49) dX11_kin_43 (by decide) (fun hc4 => ?_) (fun hc4 => ?_)
      · replace h := ite_t hc4 h
        refine ev_iload_n dX11_kin_49 rfl ?_
        refine ev_aload_n dX11_kin_50 rfl ?_
        refine ev_getR fr_X11_12 shC_0 rfl dX11_kin_51 ?_
        refine ev_iload_n dX11_kin_54 rfl ?_
        obtain ⟨w6, hq5, h⟩ := bndO_t h
        refine ev_cVi mv_X11_196 dX11_kin_55 (c_X0_sistersOf hq5) rfl shC_1 rfl rfl (Nat.le_of_ble_eq_true rfl) (by rfl) (Nat.le_of_ble_eq_true rfl) (Nat.le_of_ble_eq_true rfl) (Nat.le_of_ble_eq_true rfl) ?_
        refine ev_ior dX11_kin_58 ?_
        refine ev_istore_n (loc' := [_, _, _, _, _]) dX11_kin_59 rfl (by decide) (by rfl) ?_
        refine ev_iinc (cq := (1 : Int32)) (loc' := [_, _, _, _, _]) dX11_kin_60 rfl (by decide) rfl (by decide) (by rfl) ?_
        refine ev_goto (tgt := 31) dX11_kin_63 (by decide) ?_
        exact ev_lt (ih _ _ _ h) ⟨rfl, ⟨rfl, ⟨rfl, ⟨rfl, trivial⟩⟩⟩⟩
      · replace h := ite_f hc4 h
        refine ev_iload dX11_kin_46 rfl ?_
        exact ev_iret rfl rfl (by decide) (by decide) dX11_kin_48 (eqP_O h)
def f_X11_kin (G : Nat) (μ : Mem) (p1 p2 : Int32) : Option Int32 :=
  (if (f_X0_isWoman μ p1) = (0 : Int32) then
  some (-1 : Int32)
  else
  (if (f_X0_isWoman μ p2) = (0 : Int32) then
  some (-1 : Int32)
  else
  f_X11_kin_L31 G μ G p2 (sl (1 : Int32) p1) (0 : Int32)))
set_option maxHeartbeats 4000000 in
set_option maxRecDepth 100000 in
theorem c_X11_kin {bb : Bool} {G : Nat} {μ : Mem}  {p1 p2 : Int32} {r : Int32}  (h : f_X11_kin G μ p1 p2 = some r) : Cn yX11_kin cX11_kin 5 (some .int) 4 0 0 [.ref 0, .int p1, .int p2] (shC bb) μ (eqP (some r) (shC bb) μ) := by
  refine cn_of (own := RX11) (ini := false) (loc := [some (.ref 0), some (.int p1), some (.int p2), none, none]) rfl (by decide) (fun q => by cases q) (Nat.le_of_ble_eq_true rfl) (by rfl) rfl ?_
  unfold f_X11_kin at h
  refine ev_aload_n dX11_kin_0 rfl ?_
  refine ev_getR fr_X11_12 shC_0 rfl dX11_kin_1 ?_
  refine ev_iload_n dX11_kin_4 rfl ?_
  refine ev_cVi mv_X11_81 dX11_kin_5 c_X0_isWoman rfl shC_1 rfl rfl (Nat.le_of_ble_eq_true rfl) (by rfl) (Nat.le_of_ble_eq_true rfl) (Nat.le_of_ble_eq_true rfl) (Nat.le_of_ble_eq_true rfl) ?_
  refine ev_if_eq (tgt := 22) dX11_kin_8 (by decide) (fun hc1 => ?_) (fun hc1 => ?_)
  · replace h := ite_t hc1 h
    refine ev_iconst (v := (-1 : Int32)) dX11_kin_22 (by decide) ?_
    exact ev_iret rfl rfl (by decide) (by decide) dX11_kin_23 (eqP_O h)
  · replace h := ite_f hc1 h
    refine ev_aload_n dX11_kin_11 rfl ?_
    refine ev_getR fr_X11_12 shC_0 rfl dX11_kin_12 ?_
    refine ev_iload_n dX11_kin_15 rfl ?_
    refine ev_cVi mv_X11_81 dX11_kin_16 c_X0_isWoman rfl shC_1 rfl rfl (Nat.le_of_ble_eq_true rfl) (by rfl) (Nat.le_of_ble_eq_true rfl) (Nat.le_of_ble_eq_true rfl) (Nat.le_of_ble_eq_true rfl) ?_
    refine ev_if_ne (tgt := 24) dX11_kin_19 (by decide) (fun hc2 => ?_) (fun hc2 => ?_)
    · replace h := ite_f hc2 h
      refine ev_iconst (v := (1 : Int32)) dX11_kin_24 (by decide) ?_
      refine ev_iload_n dX11_kin_25 rfl ?_
      refine ev_ishl dX11_kin_26 ?_
      refine ev_istore_n (loc' := [_, _, _, _, _]) dX11_kin_27 rfl (by decide) (by rfl) ?_
      refine ev_iconst (v := (0 : Int32)) dX11_kin_28 (by decide) ?_
      refine ev_istore (loc' := [_, _, _, _, _]) dX11_kin_29 rfl (by decide) (by rfl) ?_
      exact ev_lt (f_X11_kin_L31_ok _ _ _ _ h) ⟨rfl, ⟨rfl, ⟨rfl, ⟨rfl, trivial⟩⟩⟩⟩
    · replace h := ite_t hc2 h
      refine ev_iconst (v := (-1 : Int32)) dX11_kin_22 (by decide) ?_
      exact ev_iret rfl rfl (by decide) (by decide) dX11_kin_23 (eqP_O h)
def f_X11_groups_j70 (G : Nat) (μ : Mem) (r16 : Int32 → Int32 → Int32 → Int32 → Int32 → Option Int32) (k16_76 : Int32 → Int32 → Int32 → Option Int32) (v1 v2 v3 v4 v5 : Int32) : Option Int32 :=
  r16 v1 v2 v3 v4 (v5 + (1 : Int32))
set_option maxHeartbeats 4000000 in
set_option maxRecDepth 100000 in
theorem f_X11_groups_j70_ok {bb : Bool} {G : Nat} {μ : Mem} {r : Int32}  {r16 : Int32 → Int32 → Int32 → Int32 → Int32 → Option Int32} {k16_76 : Int32 → Int32 → Int32 → Option Int32} (hr16 : ∀ (v1 : Int32) (v2 : Int32) (v3 : Int32) (v4 : Int32) (v5 : Int32), r16 v1 v2 v3 v4 v5 = some r → Ev RX11 cX11_groups 7 (some .int) false 5 0 0 (eqP (some r) (shC bb) μ) 16 [some (.ref 0), some (.int v1), some (.int v2), some (.int v3), some (.int v4), some (.int v5), none] [] (shC bb) μ 0 0) (hk16_76 : ∀ (v1 : Int32) (v3 : Int32) (v4 : Int32), k16_76 v1 v3 v4 = some r → Ev RX11 cX11_groups 7 (some .int) false 5 0 0 (eqP (some r) (shC bb) μ) 76 [none, some (.int v1), none, some (.int v3), some (.int v4), none, none] [] (shC bb) μ 0 0) {v1 v2 v3 v4 v5 : Int32}  (h : f_X11_groups_j70 G μ r16 k16_76 v1 v2 v3 v4 v5 = some r) : Ev RX11 cX11_groups 7 (some .int) false 5 0 0 (eqP (some r) (shC bb) μ) 70 [some (.ref 0), some (.int v1), some (.int v2), some (.int v3), some (.int v4), some (.int v5), none] [] (shC bb) μ 0 0 := by
  unfold f_X11_groups_j70 at h
  refine ev_iinc (cq := (1 : Int32)) (loc' := [_, _, _, _, _, _, _]) dX11_groups_70 rfl (by decide) rfl (by decide) (by rfl) ?_
  refine ev_goto (tgt := 16) dX11_groups_73 (by decide) ?_
  exact ev_lt (hr16 _ _ _ _ _ h) ⟨rfl, ⟨rfl, ⟨rfl, ⟨rfl, ⟨rfl, ⟨rfl, trivial⟩⟩⟩⟩⟩⟩
def f_X11_groups_L16 (G : Nat) (μ : Mem) (k16_76 : Int32 → Int32 → Int32 → Option Int32) : Nat → Int32 → Int32 → Int32 → Int32 → Int32 → Option Int32
  | 0, _, _, _, _, _ => none
  | g + 1, v1, v2, v3, v4, v5 =>
  (if (12 : Int32) ≤ v5 then
  k16_76 v1 v3 v4
  else
  (if (f_X11_has v2 v5) = (0 : Int32) then
  f_X11_groups_j70 G μ (f_X11_groups_L16 G μ k16_76 g) k16_76 v1 v2 v3 v4 v5
  else
  bndO (f_X0_groupOf G μ v5) (fun w4 =>
  (if (f_J6_bitCount_0f7a4 w4) ≤ (f_J6_bitCount_0f7a4 v4) then
  f_X11_groups_j70 G μ (f_X11_groups_L16 G μ k16_76 g) k16_76 v1 (v2 &&& (w4 ^^^ (-1 : Int32))) (v3 + (1 : Int32)) v4 v5
  else
  f_X11_groups_j70 G μ (f_X11_groups_L16 G μ k16_76 g) k16_76 v1 (v2 &&& (w4 ^^^ (-1 : Int32))) (v3 + (1 : Int32)) w4 v5))))
set_option maxHeartbeats 4000000 in
set_option maxRecDepth 100000 in
theorem f_X11_groups_L16_ok {bb : Bool} {G : Nat} {μ : Mem} {r : Int32}  {k16_76 : Int32 → Int32 → Int32 → Option Int32} (hk16_76 : ∀ (v1 : Int32) (v3 : Int32) (v4 : Int32), k16_76 v1 v3 v4 = some r → Ev RX11 cX11_groups 7 (some .int) false 5 0 0 (eqP (some r) (shC bb) μ) 76 [none, some (.int v1), none, some (.int v3), some (.int v4), none, none] [] (shC bb) μ 0 0) : ∀ (g : Nat) (v1 v2 v3 v4 v5 : Int32), f_X11_groups_L16 G μ k16_76 g v1 v2 v3 v4 v5 = some r → Ev RX11 cX11_groups 7 (some .int) false 5 0 0 (eqP (some r) (shC bb) μ) 16 [some (.ref 0), some (.int v1), some (.int v2), some (.int v3), some (.int v4), some (.int v5), none] [] (shC bb) μ 0 0 := by
  intro g
  induction g with
  | zero =>
    intro v1 v2 v3 v4 v5 h
    cases h
  | succ g ih =>
    intro v1 v2 v3 v4 v5 h
    rw [f_X11_groups_L16] at h
    refine ev_iload dX11_groups_16 rfl ?_
    refine ev_bipush (v := (12 : Int32)) dX11_groups_18 (by decide) ?_
    refine ev_icmp_ge (tgt := 76) dX11_groups_20 (by decide) (fun hc1 => ?_) (fun hc1 => ?_)
    · replace h := ite_t hc1 h
      exact ev_lt (hk16_76 _ _ _ h) ⟨rfl, ⟨rfl, ⟨rfl, trivial⟩⟩⟩
    · replace h := ite_f hc1 h
      refine ev_iload_n dX11_groups_23 rfl ?_
      refine ev_iload dX11_groups_24 rfl ?_
      refine ev_cSi mv_X11_325 dX11_groups_26 c_X11_has rfl rfl (Nat.le_of_ble_eq_true rfl) (by rfl) (Nat.le_of_ble_eq_true rfl) (Nat.le_of_ble_eq_true rfl) (Nat.le_of_ble_eq_true rfl) ?_
      refine ev_if_eq (tgt := 70) dX11_groups_29 (by decide) (fun hc2 => ?_) (fun hc2 => ?_)
      · replace h := ite_t hc2 h
        exact ev_lt (f_X11_groups_j70_ok ih hk16_76 h) ⟨rfl, ⟨rfl, ⟨rfl, ⟨rfl, ⟨rfl, ⟨rfl, trivial⟩⟩⟩⟩⟩⟩
      · replace h := ite_f hc2 h
        refine ev_aload_n dX11_groups_32 rfl ?_
        refine ev_getR fr_X11_12 shC_0 rfl dX11_groups_33 ?_
        refine ev_iload dX11_groups_36 rfl ?_
        obtain ⟨w4, hq3, h⟩ := bndO_t h
        refine ev_cVi mv_X11_331 dX11_groups_38 (c_X0_groupOf hq3) rfl shC_1 rfl rfl (Nat.le_of_ble_eq_true rfl) (by rfl) (Nat.le_of_ble_eq_true rfl) (Nat.le_of_ble_eq_true rfl) (Nat.le_of_ble_eq_true rfl) ?_
        refine ev_istore (loc' := [_, _, _, _, _, _, _]) dX11_groups_41 rfl (by decide) (by rfl) ?_
        refine ev_iload_n dX11_groups_43 rfl ?_
        refine ev_iload dX11_groups_44 rfl ?_
        refine ev_iconst (v := (-1 : Int32)) dX11_groups_46 (by decide) ?_
        refine ev_ixor dX11_groups_47 ?_
        refine ev_iand dX11_groups_48 ?_
        refine ev_istore_n (loc' := [_, _, _, _, _, _, _]) dX11_groups_49 rfl (by decide) (by rfl) ?_
        refine ev_iinc (cq := (1 : Int32)) (loc' := [_, _, _, _, _, _, _]) dX11_groups_50 rfl (by decide) rfl (by decide) (by rfl) ?_
        refine ev_iload dX11_groups_53 rfl ?_
        refine ev_cSi mv_X11_334 dX11_groups_55 c_J6_bitCount_0f7a4 rfl rfl (Nat.le_of_ble_eq_true rfl) (by rfl) (Nat.le_of_ble_eq_true rfl) (Nat.le_of_ble_eq_true rfl) (Nat.le_of_ble_eq_true rfl) ?_
        refine ev_iload dX11_groups_58 rfl ?_
        refine ev_cSi mv_X11_334 dX11_groups_60 c_J6_bitCount_0f7a4 rfl rfl (Nat.le_of_ble_eq_true rfl) (by rfl) (Nat.le_of_ble_eq_true rfl) (Nat.le_of_ble_eq_true rfl) (Nat.le_of_ble_eq_true rfl) ?_
        refine ev_icmp_le (tgt := 70) dX11_groups_63 (by decide) (fun hc5 => ?_) (fun hc5 => ?_)
        · replace h := ite_t hc5 h
          exact ev_lt (f_X11_groups_j70_ok ih hk16_76 h) ⟨rfl, ⟨rfl, ⟨rfl, ⟨rfl, ⟨rfl, ⟨rfl, trivial⟩⟩⟩⟩⟩⟩
        · replace h := ite_f hc5 h
          refine ev_iload dX11_groups_66 rfl ?_
          refine ev_istore (loc' := [_, _, _, _, _, _, _]) dX11_groups_68 rfl (by decide) (by rfl) ?_
          exact ev_lt (f_X11_groups_j70_ok ih hk16_76 h) ⟨rfl, ⟨rfl, ⟨rfl, ⟨rfl, ⟨rfl, ⟨rfl, trivial⟩⟩⟩⟩⟩⟩
def f_X11_groups_j76 (G : Nat) (μ : Mem)  (v1 v3 v4 : Int32) : Option Int32 :=
  (if v1 = (0 : Int32) then
  some v3
  else
  (if v1 = (1 : Int32) then
  some v4
  else
  some (-1 : Int32)))
set_option maxHeartbeats 4000000 in
set_option maxRecDepth 100000 in
theorem f_X11_groups_j76_ok {bb : Bool} {G : Nat} {μ : Mem} {r : Int32}    {v1 v3 v4 : Int32}  (h : f_X11_groups_j76 G μ v1 v3 v4 = some r) : Ev RX11 cX11_groups 7 (some .int) false 5 0 0 (eqP (some r) (shC bb) μ) 76 [none, some (.int v1), none, some (.int v3), some (.int v4), none, none] [] (shC bb) μ 0 0 := by
  unfold f_X11_groups_j76 at h
  refine ev_iload_n dX11_groups_76 rfl ?_
  refine ev_em (v := (0 : Int32)) (fun hc6 => ?_) (fun hc6 => ?_)
  · replace h := ite_t hc6 h
    refine ev_lsC (v := (0 : Int32)) (off := 27) (tgt := 104) dX11_groups_77 (by decide) hc6 (by decide) (by decide) ?_
    refine ev_iload_n dX11_groups_104 rfl ?_
    exact ev_iret rfl rfl (by decide) (by decide) dX11_groups_105 (eqP_O h)
  · replace h := ite_f hc6 h
    refine ev_em (v := (1 : Int32)) (fun hc7 => ?_) (fun hc7 => ?_)
    · replace h := ite_t hc7 h
      refine ev_lsC (v := (1 : Int32)) (off := 29) (tgt := 106) dX11_groups_77 (by decide) hc7 (by decide) (by decide) ?_
      refine ev_iload dX11_groups_106 rfl ?_
      exact ev_iret rfl rfl (by decide) (by decide) dX11_groups_108 (eqP_O h)
    · replace h := ite_f hc7 h
      refine ev_lsE (tgt := 109) dX11_groups_77 (by decide) ⟨hc6, ⟨hc7, trivial⟩⟩ (by decide) ?_
      refine ev_iconst (v := (-1 : Int32)) dX11_groups_109 (by decide) ?_
      exact ev_iret rfl rfl (by decide) (by decide) dX11_groups_110 (eqP_O h)
def f_X11_groups (G : Nat) (μ : Mem) (p1 : Int32) : Option Int32 :=
  f_X11_groups_L16 G μ (f_X11_groups_j76 G μ) G p1 (f_X0_allWomen μ) (0 : Int32) (0 : Int32) (0 : Int32)
set_option maxHeartbeats 4000000 in
set_option maxRecDepth 100000 in
theorem c_X11_groups {bb : Bool} {G : Nat} {μ : Mem}  {p1 : Int32} {r : Int32}  (h : f_X11_groups G μ p1 = some r) : Cn yX11_groups cX11_groups 7 (some .int) 5 0 0 [.ref 0, .int p1] (shC bb) μ (eqP (some r) (shC bb) μ) := by
  refine cn_of (own := RX11) (ini := false) (loc := [some (.ref 0), some (.int p1), none, none, none, none, none]) rfl (by decide) (fun q => by cases q) (Nat.le_of_ble_eq_true rfl) (by rfl) rfl ?_
  unfold f_X11_groups at h
  refine ev_aload_n dX11_groups_0 rfl ?_
  refine ev_getR fr_X11_12 shC_0 rfl dX11_groups_1 ?_
  refine ev_cVi mv_X11_328 dX11_groups_4 c_X0_allWomen rfl shC_1 rfl rfl (Nat.le_of_ble_eq_true rfl) (by rfl) (Nat.le_of_ble_eq_true rfl) (Nat.le_of_ble_eq_true rfl) (Nat.le_of_ble_eq_true rfl) ?_
  refine ev_istore_n (loc' := [_, _, _, _, _, _, _]) dX11_groups_7 rfl (by decide) (by rfl) ?_
  refine ev_iconst (v := (0 : Int32)) dX11_groups_8 (by decide) ?_
  refine ev_istore_n (loc' := [_, _, _, _, _, _, _]) dX11_groups_9 rfl (by decide) (by rfl) ?_
  refine ev_iconst (v := (0 : Int32)) dX11_groups_10 (by decide) ?_
  refine ev_istore (loc' := [_, _, _, _, _, _, _]) dX11_groups_11 rfl (by decide) (by rfl) ?_
  refine ev_iconst (v := (0 : Int32)) dX11_groups_13 (by decide) ?_
  refine ev_istore (loc' := [_, _, _, _, _, _, _]) dX11_groups_14 rfl (by decide) (by rfl) ?_
  exact ev_lt (f_X11_groups_L16_ok (fun _ _ _ hh => f_X11_groups_j76_ok hh) _ _ _ _ _ _ h) ⟨rfl, ⟨rfl, ⟨rfl, ⟨rfl, ⟨rfl, ⟨rfl, trivial⟩⟩⟩⟩⟩⟩
def f_X11_step (G : Nat) (p1 : Int32) (μ : Mem) : Option (Int32 × Mem) :=
  (if p1 = (-1 : Int32) then
  bndE (f_X2_clear G 36 12 μ) (fun w8 m7 =>
  some (w8, m7))
  else
  (if (f_X11_isBelow p1 (100 : Int32)) = (0 : Int32) then
  some ((-1 : Int32), μ)
  else
  bndE (f_X2_add G 36 12 p1 (0 : Int32) (0 : Int32) (0 : Int32) μ) (fun w5 m4 =>
  some (w5, m4))))
set_option maxHeartbeats 4000000 in
set_option maxRecDepth 100000 in
theorem c_X11_step {bb : Bool} {G : Nat} {μ : Mem} {p1 : Int32} {r : Int32} {μr : Mem}  (h : f_X11_step G p1 μ = some (r, μr)) : Cn yX11_step cX11_step 2 (some .int) 4 0 0 [.ref 0, .int p1] (shC bb) μ (eqP (some r) (shC bb) μr) := by
  refine cn_of (own := RX11) (ini := false) (loc := [some (.ref 0), some (.int p1)]) rfl (by decide) (fun q => by cases q) (Nat.le_of_ble_eq_true rfl) (by rfl) rfl ?_
  unfold f_X11_step at h
  refine ev_iload_n dX11_step_0 rfl ?_
  refine ev_iconst (v := (-1 : Int32)) dX11_step_1 (by decide) ?_
  refine ev_icmp_ne (tgt := 16) dX11_step_2 (by decide) (fun hc1 => ?_) (fun hc1 => ?_)
  · replace h := ite_f hc1 h
    refine ev_iload_n dX11_step_16 rfl ?_
    refine ev_bipush (v := (100 : Int32)) dX11_step_17 (by decide) ?_
    refine ev_cSi mv_X11_273 dX11_step_19 c_X11_isBelow rfl rfl (Nat.le_of_ble_eq_true rfl) (by rfl) (Nat.le_of_ble_eq_true rfl) (Nat.le_of_ble_eq_true rfl) (Nat.le_of_ble_eq_true rfl) ?_
    refine ev_if_ne (tgt := 27) dX11_step_22 (by decide) (fun hc2 => ?_) (fun hc2 => ?_)
    · replace h := ite_f hc2 h
      refine ev_aload_n dX11_step_27 rfl ?_
      refine ev_getR fr_X11_12 shC_0 rfl dX11_step_28 ?_
      refine ev_getR fr_X11_339 shC_1 rfl dX11_step_31 ?_
      refine ev_iload_n dX11_step_34 rfl ?_
      refine ev_iconst (v := (0 : Int32)) dX11_step_35 (by decide) ?_
      refine ev_iconst (v := (0 : Int32)) dX11_step_36 (by decide) ?_
      refine ev_iconst (v := (0 : Int32)) dX11_step_37 (by decide) ?_
      obtain ⟨w5, m4, hq3, h⟩ := bndE_t h
      refine ev_cVi mv_X11_277 dX11_step_38 (c_X2_add atC_36 hq3) rfl shC_36 rfl rfl (Nat.le_of_ble_eq_true rfl) (by rfl) (Nat.le_of_ble_eq_true rfl) (Nat.le_of_ble_eq_true rfl) (Nat.le_of_ble_eq_true rfl) ?_
      exact ev_iret rfl rfl (by decide) (by decide) dX11_step_41 (eqP_E h)
    · replace h := ite_t hc2 h
      refine ev_iconst (v := (-1 : Int32)) dX11_step_25 (by decide) ?_
      exact ev_iret rfl rfl (by decide) (by decide) dX11_step_26 (eqP_E h)
  · replace h := ite_t hc1 h
    refine ev_aload_n dX11_step_5 rfl ?_
    refine ev_getR fr_X11_12 shC_0 rfl dX11_step_6 ?_
    refine ev_getR fr_X11_339 shC_1 rfl dX11_step_9 ?_
    obtain ⟨w8, m7, hq6, h⟩ := bndE_t h
    refine ev_cVi mv_X11_270 dX11_step_12 (c_X2_clear atC_36 hq6) rfl shC_36 rfl rfl (Nat.le_of_ble_eq_true rfl) (by rfl) (Nat.le_of_ble_eq_true rfl) (Nat.le_of_ble_eq_true rfl) (Nat.le_of_ble_eq_true rfl) ?_
    exact ev_iret rfl rfl (by decide) (by decide) dX11_step_15 (eqP_E h)
def f_X11_alike (G : Nat) (μ : Mem) (p1 p2 : Int32) : Option Int32 :=
  (if (f_X11_isBelow p1 (100 : Int32)) = (0 : Int32) then
  some (-1 : Int32)
  else
  (if p2 = (0 : Int32) then
  bndO (f_X6_mostAlike G μ p1) (fun w4 =>
  some w4)
  else
  (if p2 = (1 : Int32) then
  bndO (f_X6_couplesAlike G μ p1) (fun w7 =>
  some w7)
  else
  some (-1 : Int32))))
set_option maxHeartbeats 4000000 in
set_option maxRecDepth 100000 in
theorem c_X11_alike {bb : Bool} {G : Nat} {μ : Mem}  {p1 p2 : Int32} {r : Int32}  (h : f_X11_alike G μ p1 p2 = some r) : Cn yX11_alike cX11_alike 3 (some .int) 4 0 0 [.ref 0, .int p1, .int p2] (shC bb) μ (eqP (some r) (shC bb) μ) := by
  refine cn_of (own := RX11) (ini := false) (loc := [some (.ref 0), some (.int p1), some (.int p2)]) rfl (by decide) (fun q => by cases q) (Nat.le_of_ble_eq_true rfl) (by rfl) rfl ?_
  unfold f_X11_alike at h
  refine ev_iload_n dX11_alike_0 rfl ?_
  refine ev_bipush (v := (100 : Int32)) dX11_alike_1 (by decide) ?_
  refine ev_cSi mv_X11_273 dX11_alike_3 c_X11_isBelow rfl rfl (Nat.le_of_ble_eq_true rfl) (by rfl) (Nat.le_of_ble_eq_true rfl) (Nat.le_of_ble_eq_true rfl) (Nat.le_of_ble_eq_true rfl) ?_
  refine ev_if_ne (tgt := 11) dX11_alike_6 (by decide) (fun hc1 => ?_) (fun hc1 => ?_)
  · replace h := ite_f hc1 h
    refine ev_iload_n dX11_alike_11 rfl ?_
    refine ev_em (v := (0 : Int32)) (fun hc2 => ?_) (fun hc2 => ?_)
    · replace h := ite_t hc2 h
      refine ev_lsC (v := (0 : Int32)) (off := 28) (tgt := 40) dX11_alike_12 (by decide) hc2 (by decide) (by decide) ?_
      refine ev_aload_n dX11_alike_40 rfl ?_
      refine ev_getR fr_X11_12 shC_0 rfl dX11_alike_41 ?_
      refine ev_getR fr_X11_339 shC_1 rfl dX11_alike_44 ?_
      refine ev_iload_n dX11_alike_47 rfl ?_
      obtain ⟨w4, hq3, h⟩ := bndO_t h
      refine ev_cSi mv_X11_342 dX11_alike_48 (c_X6_mostAlike hq3) rfl rfl (Nat.le_of_ble_eq_true rfl) (by rfl) (Nat.le_of_ble_eq_true rfl) (Nat.le_of_ble_eq_true rfl) (Nat.le_of_ble_eq_true rfl) ?_
      exact ev_iret rfl rfl (by decide) (by decide) dX11_alike_51 (eqP_O h)
    · replace h := ite_f hc2 h
      refine ev_em (v := (1 : Int32)) (fun hc5 => ?_) (fun hc5 => ?_)
      · replace h := ite_t hc5 h
        refine ev_lsC (v := (1 : Int32)) (off := 40) (tgt := 52) dX11_alike_12 (by decide) hc5 (by decide) (by decide) ?_
        refine ev_aload_n dX11_alike_52 rfl ?_
        refine ev_getR fr_X11_12 shC_0 rfl dX11_alike_53 ?_
        refine ev_getR fr_X11_339 shC_1 rfl dX11_alike_56 ?_
        refine ev_iload_n dX11_alike_59 rfl ?_
        obtain ⟨w7, hq6, h⟩ := bndO_t h
        refine ev_cSi mv_X11_345 dX11_alike_60 (c_X6_couplesAlike hq6) rfl rfl (Nat.le_of_ble_eq_true rfl) (by rfl) (Nat.le_of_ble_eq_true rfl) (Nat.le_of_ble_eq_true rfl) (Nat.le_of_ble_eq_true rfl) ?_
        exact ev_iret rfl rfl (by decide) (by decide) dX11_alike_63 (eqP_O h)
      · replace h := ite_f hc5 h
        refine ev_lsE (tgt := 64) dX11_alike_12 (by decide) ⟨hc2, ⟨hc5, trivial⟩⟩ (by decide) ?_
        refine ev_iconst (v := (-1 : Int32)) dX11_alike_64 (by decide) ?_
        exact ev_iret rfl rfl (by decide) (by decide) dX11_alike_65 (eqP_O h)
  · replace h := ite_t hc1 h
    refine ev_iconst (v := (-1 : Int32)) dX11_alike_9 (by decide) ?_
    exact ev_iret rfl rfl (by decide) (by decide) dX11_alike_10 (eqP_O h)
def f_X11_carriage (G : Nat) (p1 p2 p3 : Int32) (μ : Mem) : Option (Int32 × Mem) :=
  (if (f_X11_isBelow p1 (3 : Int32)) = (0 : Int32) then
  some ((0 : Int32), μ)
  else
  (if p2 < (1 : Int32) then
  some ((0 : Int32), μ)
  else
  (if (30 : Int32) < p2 then
  some ((0 : Int32), μ)
  else
  (if p3 < (0 : Int32) then
  some ((0 : Int32), μ)
  else
  (if p3 ≤ (30 : Int32) then
  chk ((2 : Int32) * p1) 6 (let m6 := wr μ 40 (ix ((2 : Int32) * p1)) p2
  chk (((2 : Int32) * p1) + (1 : Int32)) 6 (let m8 := wr m6 40 (ix (((2 : Int32) * p1) + (1 : Int32))) p3
  some ((1 : Int32), m8)))
  else
  some ((0 : Int32), μ))))))
set_option maxHeartbeats 4000000 in
set_option maxRecDepth 100000 in
theorem c_X11_carriage {bb : Bool} {G : Nat} {μ : Mem} {p1 p2 p3 : Int32} {r : Int32} {μr : Mem}  (h : f_X11_carriage G p1 p2 p3 μ = some (r, μr)) : Cn yX11_carriage cX11_carriage 4 (some .boolean) 2 0 0 [.ref 0, .int p1, .int p2, .int p3] (shC bb) μ (eqP (some r) (shC bb) μr) := by
  refine cn_of (own := RX11) (ini := false) (loc := [some (.ref 0), some (.int p1), some (.int p2), some (.int p3)]) rfl (by decide) (fun q => by cases q) (Nat.le_of_ble_eq_true rfl) (by rfl) rfl ?_
  unfold f_X11_carriage at h
  refine ev_iload_n dX11_carriage_0 rfl ?_
  refine ev_iconst (v := (3 : Int32)) dX11_carriage_1 (by decide) ?_
  refine ev_cSi mv_X11_273 dX11_carriage_2 c_X11_isBelow rfl rfl (Nat.le_of_ble_eq_true rfl) (by rfl) (Nat.le_of_ble_eq_true rfl) (Nat.le_of_ble_eq_true rfl) (Nat.le_of_ble_eq_true rfl) ?_
  refine ev_if_eq (tgt := 29) dX11_carriage_5 (by decide) (fun hc1 => ?_) (fun hc1 => ?_)
  · replace h := ite_t hc1 h
    refine ev_iconst (v := (0 : Int32)) dX11_carriage_29 (by decide) ?_
    exact ev_iret rfl rfl (by decide) (by decide) dX11_carriage_30 (eqP_E h)
  · replace h := ite_f hc1 h
    refine ev_iload_n dX11_carriage_8 rfl ?_
    refine ev_iconst (v := (1 : Int32)) dX11_carriage_9 (by decide) ?_
    refine ev_icmp_lt (tgt := 29) dX11_carriage_10 (by decide) (fun hc2 => ?_) (fun hc2 => ?_)
    · replace h := ite_t hc2 h
      refine ev_iconst (v := (0 : Int32)) dX11_carriage_29 (by decide) ?_
      exact ev_iret rfl rfl (by decide) (by decide) dX11_carriage_30 (eqP_E h)
    · replace h := ite_f hc2 h
      refine ev_iload_n dX11_carriage_13 rfl ?_
      refine ev_bipush (v := (30 : Int32)) dX11_carriage_14 (by decide) ?_
      refine ev_icmp_gt (tgt := 29) dX11_carriage_16 (by decide) (fun hc3 => ?_) (fun hc3 => ?_)
      · replace h := ite_t hc3 h
        refine ev_iconst (v := (0 : Int32)) dX11_carriage_29 (by decide) ?_
        exact ev_iret rfl rfl (by decide) (by decide) dX11_carriage_30 (eqP_E h)
      · replace h := ite_f hc3 h
        refine ev_iload_n dX11_carriage_19 rfl ?_
        refine ev_if_lt (tgt := 29) dX11_carriage_20 (by decide) (fun hc4 => ?_) (fun hc4 => ?_)
        · replace h := ite_t hc4 h
          refine ev_iconst (v := (0 : Int32)) dX11_carriage_29 (by decide) ?_
          exact ev_iret rfl rfl (by decide) (by decide) dX11_carriage_30 (eqP_E h)
        · replace h := ite_f hc4 h
          refine ev_iload_n dX11_carriage_23 rfl ?_
          refine ev_bipush (v := (30 : Int32)) dX11_carriage_24 (by decide) ?_
          refine ev_icmp_le (tgt := 31) dX11_carriage_26 (by decide) (fun hc5 => ?_) (fun hc5 => ?_)
          · replace h := ite_t hc5 h
            refine ev_aload_n dX11_carriage_31 rfl ?_
            refine ev_getR fr_X11_12 shC_0 rfl dX11_carriage_32 ?_
            refine ev_getR fr_X11_348 shC_1 rfl dX11_carriage_35 ?_
            refine ev_iconst (v := (2 : Int32)) dX11_carriage_38 (by decide) ?_
            refine ev_iload_n dX11_carriage_39 rfl ?_
            refine ev_imul dX11_carriage_40 ?_
            refine ev_iload_n dX11_carriage_41 rfl ?_
            obtain ⟨hi7, h⟩ := chk_t h
            refine ev_iast shC_40 hi7 dX11_carriage_42 ?_
            refine ev_aload_n dX11_carriage_43 rfl ?_
            refine ev_getR fr_X11_12 shC_0 rfl dX11_carriage_44 ?_
            refine ev_getR fr_X11_348 shC_1 rfl dX11_carriage_47 ?_
            refine ev_iconst (v := (2 : Int32)) dX11_carriage_50 (by decide) ?_
            refine ev_iload_n dX11_carriage_51 rfl ?_
            refine ev_imul dX11_carriage_52 ?_
            refine ev_iconst (v := (1 : Int32)) dX11_carriage_53 (by decide) ?_
            refine ev_iadd dX11_carriage_54 ?_
            refine ev_iload_n dX11_carriage_55 rfl ?_
            obtain ⟨hi9, h⟩ := chk_t h
            refine ev_iast shC_40 hi9 dX11_carriage_56 ?_
            refine ev_iconst (v := (1 : Int32)) dX11_carriage_57 (by decide) ?_
            exact ev_iret rfl rfl (by decide) (by decide) dX11_carriage_58 (eqP_E h)
          · replace h := ite_f hc5 h
            refine ev_iconst (v := (0 : Int32)) dX11_carriage_29 (by decide) ?_
            exact ev_iret rfl rfl (by decide) (by decide) dX11_carriage_30 (eqP_E h)
def f_X11_down (G : Nat) (μ : Mem) (p1 : Int32) : Option Int32 :=
  (if p1 = (0 : Int32) then
  bndO (f_X6_orderDown G μ (0 : Int32)) (fun w3 =>
  some w3)
  else
  (if p1 = (1 : Int32) then
  bndO (f_X6_orderDown G μ (1 : Int32)) (fun w6 =>
  some w6)
  else
  some (-1 : Int32)))
set_option maxHeartbeats 4000000 in
set_option maxRecDepth 100000 in
theorem c_X11_down {bb : Bool} {G : Nat} {μ : Mem}  {p1 : Int32} {r : Int32}  (h : f_X11_down G μ p1 = some r) : Cn yX11_down cX11_down 2 (some .int) 3 0 0 [.ref 0, .int p1] (shC bb) μ (eqP (some r) (shC bb) μ) := by
  refine cn_of (own := RX11) (ini := false) (loc := [some (.ref 0), some (.int p1)]) rfl (by decide) (fun q => by cases q) (Nat.le_of_ble_eq_true rfl) (by rfl) rfl ?_
  unfold f_X11_down at h
  refine ev_iload_n dX11_down_0 rfl ?_
  refine ev_em (v := (0 : Int32)) (fun hc1 => ?_) (fun hc1 => ?_)
  · replace h := ite_t hc1 h
    refine ev_lsC (v := (0 : Int32)) (off := 27) (tgt := 28) dX11_down_1 (by decide) hc1 (by decide) (by decide) ?_
    refine ev_aload_n dX11_down_28 rfl ?_
    refine ev_getR fr_X11_12 shC_0 rfl dX11_down_29 ?_
    refine ev_getR fr_X11_348 shC_1 rfl dX11_down_32 ?_
    refine ev_iconst (v := (0 : Int32)) dX11_down_35 (by decide) ?_
    obtain ⟨w3, hq2, h⟩ := bndO_t h
    refine ev_cSi mv_X11_351 dX11_down_36 (c_X6_orderDown hq2) rfl rfl (Nat.le_of_ble_eq_true rfl) (by rfl) (Nat.le_of_ble_eq_true rfl) (Nat.le_of_ble_eq_true rfl) (Nat.le_of_ble_eq_true rfl) ?_
    exact ev_iret rfl rfl (by decide) (by decide) dX11_down_39 (eqP_O h)
  · replace h := ite_f hc1 h
    refine ev_em (v := (1 : Int32)) (fun hc4 => ?_) (fun hc4 => ?_)
    · replace h := ite_t hc4 h
      refine ev_lsC (v := (1 : Int32)) (off := 39) (tgt := 40) dX11_down_1 (by decide) hc4 (by decide) (by decide) ?_
      refine ev_aload_n dX11_down_40 rfl ?_
      refine ev_getR fr_X11_12 shC_0 rfl dX11_down_41 ?_
      refine ev_getR fr_X11_348 shC_1 rfl dX11_down_44 ?_
      refine ev_iconst (v := (1 : Int32)) dX11_down_47 (by decide) ?_
      obtain ⟨w6, hq5, h⟩ := bndO_t h
      refine ev_cSi mv_X11_351 dX11_down_48 (c_X6_orderDown hq5) rfl rfl (Nat.le_of_ble_eq_true rfl) (by rfl) (Nat.le_of_ble_eq_true rfl) (Nat.le_of_ble_eq_true rfl) (Nat.le_of_ble_eq_true rfl) ?_
      exact ev_iret rfl rfl (by decide) (by decide) dX11_down_51 (eqP_O h)
    · replace h := ite_f hc4 h
      refine ev_lsE (tgt := 52) dX11_down_1 (by decide) ⟨hc1, ⟨hc4, trivial⟩⟩ (by decide) ?_
      refine ev_iconst (v := (-1 : Int32)) dX11_down_52 (by decide) ?_
      exact ev_iret rfl rfl (by decide) (by decide) dX11_down_53 (eqP_O h)
def f_X11_offer (G : Nat) (p1 : Int32) (μ : Mem) : Option (Int32 × Mem) :=
  (if p1 = (-1 : Int32) then
  bndE (f_X2_clear G 38 7 μ) (fun w8 m7 =>
  some (w8, m7))
  else
  (if (f_X11_isBelow p1 (100 : Int32)) = (0 : Int32) then
  some ((-1 : Int32), μ)
  else
  bndE (f_X2_add G 38 7 p1 (0 : Int32) (0 : Int32) (0 : Int32) μ) (fun w5 m4 =>
  some (w5, m4))))
set_option maxHeartbeats 4000000 in
set_option maxRecDepth 100000 in
theorem c_X11_offer {bb : Bool} {G : Nat} {μ : Mem} {p1 : Int32} {r : Int32} {μr : Mem}  (h : f_X11_offer G p1 μ = some (r, μr)) : Cn yX11_offer cX11_offer 2 (some .int) 4 0 0 [.ref 0, .int p1] (shC bb) μ (eqP (some r) (shC bb) μr) := by
  refine cn_of (own := RX11) (ini := false) (loc := [some (.ref 0), some (.int p1)]) rfl (by decide) (fun q => by cases q) (Nat.le_of_ble_eq_true rfl) (by rfl) rfl ?_
  unfold f_X11_offer at h
  refine ev_iload_n dX11_offer_0 rfl ?_
  refine ev_iconst (v := (-1 : Int32)) dX11_offer_1 (by decide) ?_
  refine ev_icmp_ne (tgt := 16) dX11_offer_2 (by decide) (fun hc1 => ?_) (fun hc1 => ?_)
  · replace h := ite_f hc1 h
    refine ev_iload_n dX11_offer_16 rfl ?_
    refine ev_bipush (v := (100 : Int32)) dX11_offer_17 (by decide) ?_
    refine ev_cSi mv_X11_273 dX11_offer_19 c_X11_isBelow rfl rfl (Nat.le_of_ble_eq_true rfl) (by rfl) (Nat.le_of_ble_eq_true rfl) (Nat.le_of_ble_eq_true rfl) (Nat.le_of_ble_eq_true rfl) ?_
    refine ev_if_ne (tgt := 27) dX11_offer_22 (by decide) (fun hc2 => ?_) (fun hc2 => ?_)
    · replace h := ite_f hc2 h
      refine ev_aload_n dX11_offer_27 rfl ?_
      refine ev_getR fr_X11_12 shC_0 rfl dX11_offer_28 ?_
      refine ev_getR fr_X11_355 shC_1 rfl dX11_offer_31 ?_
      refine ev_iload_n dX11_offer_34 rfl ?_
      refine ev_iconst (v := (0 : Int32)) dX11_offer_35 (by decide) ?_
      refine ev_iconst (v := (0 : Int32)) dX11_offer_36 (by decide) ?_
      refine ev_iconst (v := (0 : Int32)) dX11_offer_37 (by decide) ?_
      obtain ⟨w5, m4, hq3, h⟩ := bndE_t h
      refine ev_cVi mv_X11_277 dX11_offer_38 (c_X2_add atC_38 hq3) rfl shC_38 rfl rfl (Nat.le_of_ble_eq_true rfl) (by rfl) (Nat.le_of_ble_eq_true rfl) (Nat.le_of_ble_eq_true rfl) (Nat.le_of_ble_eq_true rfl) ?_
      exact ev_iret rfl rfl (by decide) (by decide) dX11_offer_41 (eqP_E h)
    · replace h := ite_t hc2 h
      refine ev_iconst (v := (-1 : Int32)) dX11_offer_25 (by decide) ?_
      exact ev_iret rfl rfl (by decide) (by decide) dX11_offer_26 (eqP_E h)
  · replace h := ite_t hc1 h
    refine ev_aload_n dX11_offer_5 rfl ?_
    refine ev_getR fr_X11_12 shC_0 rfl dX11_offer_6 ?_
    refine ev_getR fr_X11_355 shC_1 rfl dX11_offer_9 ?_
    obtain ⟨w8, m7, hq6, h⟩ := bndE_t h
    refine ev_cVi mv_X11_270 dX11_offer_12 (c_X2_clear atC_38 hq6) rfl shC_38 rfl rfl (Nat.le_of_ble_eq_true rfl) (by rfl) (Nat.le_of_ble_eq_true rfl) (Nat.le_of_ble_eq_true rfl) (Nat.le_of_ble_eq_true rfl) ?_
    exact ev_iret rfl rfl (by decide) (by decide) dX11_offer_15 (eqP_E h)
def f_X11_stop (G : Nat) (μ : Mem) (p1 : Int32) : Option Int32 :=
  (if (μ 38 3) = (0 : Int32) then
  some (-1 : Int32)
  else
  (if p1 < (0 : Int32) then
  some (-1 : Int32)
  else
  (if p1 ≤ (1 : Int32) then
  (if p1 = (1 : Int32) then
  bndO (f_X6_bestSilence G μ (1 : Int32)) (fun w8 =>
  some w8)
  else
  bndO (f_X6_bestSilence G μ (0 : Int32)) (fun w6 =>
  some w6))
  else
  some (-1 : Int32))))
set_option maxHeartbeats 4000000 in
set_option maxRecDepth 100000 in
theorem c_X11_stop {bb : Bool} {G : Nat} {μ : Mem}  {p1 : Int32} {r : Int32}  (h : f_X11_stop G μ p1 = some r) : Cn yX11_stop cX11_stop 2 (some .int) 5 0 0 [.ref 0, .int p1] (shC bb) μ (eqP (some r) (shC bb) μ) := by
  refine cn_of (own := RX11) (ini := false) (loc := [some (.ref 0), some (.int p1)]) rfl (by decide) (fun q => by cases q) (Nat.le_of_ble_eq_true rfl) (by rfl) rfl ?_
  unfold f_X11_stop at h
  refine ev_aload_n dX11_stop_0 rfl ?_
  refine ev_getR fr_X11_12 shC_0 rfl dX11_stop_1 ?_
  refine ev_getR fr_X11_355 shC_1 rfl dX11_stop_4 ?_
  refine ev_getI fr_X11_240 shC_38 rfl dX11_stop_7 ?_
  refine ev_if_eq (tgt := 22) dX11_stop_10 (by decide) (fun hc1 => ?_) (fun hc1 => ?_)
  · replace h := ite_t hc1 h
    refine ev_iconst (v := (-1 : Int32)) dX11_stop_22 (by decide) ?_
    exact ev_iret rfl rfl (by decide) (by decide) dX11_stop_23 (eqP_O h)
  · replace h := ite_f hc1 h
    refine ev_iload_n dX11_stop_13 rfl ?_
    refine ev_if_lt (tgt := 22) dX11_stop_14 (by decide) (fun hc2 => ?_) (fun hc2 => ?_)
    · replace h := ite_t hc2 h
      refine ev_iconst (v := (-1 : Int32)) dX11_stop_22 (by decide) ?_
      exact ev_iret rfl rfl (by decide) (by decide) dX11_stop_23 (eqP_O h)
    · replace h := ite_f hc2 h
      refine ev_iload_n dX11_stop_17 rfl ?_
      refine ev_iconst (v := (1 : Int32)) dX11_stop_18 (by decide) ?_
      refine ev_icmp_le (tgt := 24) dX11_stop_19 (by decide) (fun hc3 => ?_) (fun hc3 => ?_)
      · replace h := ite_t hc3 h
        refine ev_aload_n dX11_stop_24 rfl ?_
        refine ev_getR fr_X11_12 shC_0 rfl dX11_stop_25 ?_
        refine ev_getR fr_X11_355 shC_1 rfl dX11_stop_28 ?_
        refine ev_iload_n dX11_stop_31 rfl ?_
        refine ev_iconst (v := (1 : Int32)) dX11_stop_32 (by decide) ?_
        refine ev_icmp_ne (tgt := 40) dX11_stop_33 (by decide) (fun hc4 => ?_) (fun hc4 => ?_)
        · replace h := ite_f hc4 h
          refine ev_iconst (v := (0 : Int32)) dX11_stop_40 (by decide) ?_
          obtain ⟨w6, hq5, h⟩ := bndO_t h
          refine ev_cSi mv_X11_358 dX11_stop_41 (c_X6_bestSilence hq5) rfl rfl (Nat.le_of_ble_eq_true rfl) (by rfl) (Nat.le_of_ble_eq_true rfl) (Nat.le_of_ble_eq_true rfl) (Nat.le_of_ble_eq_true rfl) ?_
          exact ev_iret rfl rfl (by decide) (by decide) dX11_stop_44 (eqP_O h)
        · replace h := ite_t hc4 h
          refine ev_iconst (v := (1 : Int32)) dX11_stop_36 (by decide) ?_
          refine ev_goto (tgt := 41) dX11_stop_37 (by decide) ?_
          obtain ⟨w8, hq7, h⟩ := bndO_t h
          refine ev_cSi mv_X11_358 dX11_stop_41 (c_X6_bestSilence hq7) rfl rfl (Nat.le_of_ble_eq_true rfl) (by rfl) (Nat.le_of_ble_eq_true rfl) (Nat.le_of_ble_eq_true rfl) (Nat.le_of_ble_eq_true rfl) ?_
          exact ev_iret rfl rfl (by decide) (by decide) dX11_stop_44 (eqP_O h)
      · replace h := ite_f hc3 h
        refine ev_iconst (v := (-1 : Int32)) dX11_stop_22 (by decide) ?_
        exact ev_iret rfl rfl (by decide) (by decide) dX11_stop_23 (eqP_O h)
def f_X11_game (G : Nat) (μ : Mem) (p1 : Int32) : Option Int32 :=
  (if p1 < (0 : Int32) then
  some (-1 : Int32)
  else
  (if p1 ≤ (1 : Int32) then
  (if p1 = (1 : Int32) then
  bndO (f_X6_goodTaking G μ (1 : Int32)) (fun w7 =>
  some w7)
  else
  bndO (f_X6_goodTaking G μ (0 : Int32)) (fun w5 =>
  some w5))
  else
  some (-1 : Int32)))
set_option maxHeartbeats 4000000 in
set_option maxRecDepth 100000 in
theorem c_X11_game {bb : Bool} {G : Nat} {μ : Mem}  {p1 : Int32} {r : Int32}  (h : f_X11_game G μ p1 = some r) : Cn yX11_game cX11_game 2 (some .int) 3 0 0 [.ref 0, .int p1] (shC bb) μ (eqP (some r) (shC bb) μ) := by
  refine cn_of (own := RX11) (ini := false) (loc := [some (.ref 0), some (.int p1)]) rfl (by decide) (fun q => by cases q) (Nat.le_of_ble_eq_true rfl) (by rfl) rfl ?_
  unfold f_X11_game at h
  refine ev_iload_n dX11_game_0 rfl ?_
  refine ev_if_lt (tgt := 9) dX11_game_1 (by decide) (fun hc1 => ?_) (fun hc1 => ?_)
  · replace h := ite_t hc1 h
    refine ev_iconst (v := (-1 : Int32)) dX11_game_9 (by decide) ?_
    exact ev_iret rfl rfl (by decide) (by decide) dX11_game_10 (eqP_O h)
  · replace h := ite_f hc1 h
    refine ev_iload_n dX11_game_4 rfl ?_
    refine ev_iconst (v := (1 : Int32)) dX11_game_5 (by decide) ?_
    refine ev_icmp_le (tgt := 11) dX11_game_6 (by decide) (fun hc2 => ?_) (fun hc2 => ?_)
    · replace h := ite_t hc2 h
      refine ev_aload_n dX11_game_11 rfl ?_
      refine ev_getR fr_X11_12 shC_0 rfl dX11_game_12 ?_
      refine ev_getR fr_X11_63 shC_1 rfl dX11_game_15 ?_
      refine ev_getR fr_X11_209 shC_2 rfl dX11_game_18 ?_
      refine ev_iload_n dX11_game_21 rfl ?_
      refine ev_iconst (v := (1 : Int32)) dX11_game_22 (by decide) ?_
      refine ev_icmp_ne (tgt := 30) dX11_game_23 (by decide) (fun hc3 => ?_) (fun hc3 => ?_)
      · replace h := ite_f hc3 h
        refine ev_iconst (v := (0 : Int32)) dX11_game_30 (by decide) ?_
        obtain ⟨w5, hq4, h⟩ := bndO_t h
        refine ev_cSi mv_X11_362 dX11_game_31 (c_X6_goodTaking hq4) rfl rfl (Nat.le_of_ble_eq_true rfl) (by rfl) (Nat.le_of_ble_eq_true rfl) (Nat.le_of_ble_eq_true rfl) (Nat.le_of_ble_eq_true rfl) ?_
        exact ev_iret rfl rfl (by decide) (by decide) dX11_game_34 (eqP_O h)
      · replace h := ite_t hc3 h
        refine ev_iconst (v := (1 : Int32)) dX11_game_26 (by decide) ?_
        refine ev_goto (tgt := 31) dX11_game_27 (by decide) ?_
        obtain ⟨w7, hq6, h⟩ := bndO_t h
        refine ev_cSi mv_X11_362 dX11_game_31 (c_X6_goodTaking hq6) rfl rfl (Nat.le_of_ble_eq_true rfl) (by rfl) (Nat.le_of_ble_eq_true rfl) (Nat.le_of_ble_eq_true rfl) (Nat.le_of_ble_eq_true rfl) ?_
        exact ev_iret rfl rfl (by decide) (by decide) dX11_game_34 (eqP_O h)
    · replace h := ite_f hc2 h
      refine ev_iconst (v := (-1 : Int32)) dX11_game_9 (by decide) ?_
      exact ev_iret rfl rfl (by decide) (by decide) dX11_game_10 (eqP_O h)
def f_X11_undo (G : Nat) (μ : Mem) : Option (Int32 × Mem) :=
  bndE (f_X3_goBack G μ) (fun w3 m2 =>
  bkk w3 (some (w3, m2)))
set_option maxHeartbeats 4000000 in
set_option maxRecDepth 100000 in
theorem c_X11_undo {bb : Bool} {G : Nat} {μ : Mem} {r : Int32} {μr : Mem}  (h : f_X11_undo G μ = some (r, μr)) : Cn yX11_undo cX11_undo 1 (some .boolean) 5 0 0 [.ref 0] (shC bb) μ (eqP (some r) (shC bb) μr) := by
  refine cn_of (own := RX11) (ini := false) (loc := [some (.ref 0)]) rfl (by decide) (fun q => by cases q) (Nat.le_of_ble_eq_true rfl) (by rfl) rfl ?_
  unfold f_X11_undo at h
  refine ev_aload_n dX11_undo_0 rfl ?_
  refine ev_getR fr_X11_26 shC_0 rfl dX11_undo_1 ?_
  refine ev_aload_n dX11_undo_4 rfl ?_
  refine ev_getR fr_X11_12 shC_0 rfl dX11_undo_5 ?_
  obtain ⟨w3, m2, hq1, h⟩ := bndE_t h
  refine ev_cVi mv_X11_365 dX11_undo_8 (c_X3_goBack hq1) rfl shC_54 rfl rfl (Nat.le_of_ble_eq_true rfl) (by rfl) (Nat.le_of_ble_eq_true rfl) (Nat.le_of_ble_eq_true rfl) (Nat.le_of_ble_eq_true rfl) ?_
  obtain ⟨hz4, h⟩ := bkk_t h
  exact ev_iret rfl (nzb hz4) (by decide) (by decide) dX11_undo_11 (eqP_E h)
def f_X11_look (G : Nat) (μ : Mem) (p1 : Int32) : Option Int32 :=
  (if p1 = (0 : Int32) then
  some (μ 1 6)
  else
  (if p1 = (1 : Int32) then
  some (μ 1 7)
  else
  (if p1 = (2 : Int32) then
  some (μ 2 5)
  else
  (if p1 = (3 : Int32) then
  some (μ 2 6)
  else
  (if p1 = (4 : Int32) then
  some (μ 2 7)
  else
  (if p1 = (5 : Int32) then
  bndO (f_X0_freeWomen G μ) (fun w8 =>
  some w8)
  else
  (if p1 = (6 : Int32) then
  some (μ 26 3)
  else
  (if p1 = (7 : Int32) then
  some (μ 2 8)
  else
  (if p1 = (8 : Int32) then
  some (μ 13 6)
  else
  (if p1 = (9 : Int32) then
  some (μ 20 3)
  else
  (if p1 = (10 : Int32) then
  some (μ 22 3)
  else
  (if p1 = (11 : Int32) then
  some (μ 24 3)
  else
  (if p1 = (12 : Int32) then
  some (μ 54 3)
  else
  some (-10000 : Int32))))))))))))))
set_option maxHeartbeats 4000000 in
set_option maxRecDepth 100000 in
theorem c_X11_look {bb : Bool} {G : Nat} {μ : Mem}  {p1 : Int32} {r : Int32}  (h : f_X11_look G μ p1 = some r) : Cn yX11_look cX11_look 2 (some .int) 2 0 0 [.ref 0, .int p1] (shC bb) μ (eqP (some r) (shC bb) μ) := by
  refine cn_of (own := RX11) (ini := false) (loc := [some (.ref 0), some (.int p1)]) rfl (by decide) (fun q => by cases q) (Nat.le_of_ble_eq_true rfl) (by rfl) rfl ?_
  unfold f_X11_look at h
  refine ev_iload_n dX11_look_0 rfl ?_
  refine ev_em (v := (0 : Int32)) (fun hc1 => ?_) (fun hc1 => ?_)
  · replace h := ite_t hc1 h
    refine ev_tsC (v := (0 : Int32)) (off := 67) (tgt := 68) dX11_look_1 (by decide) hc1 (by decide) (by decide) ?_
    refine ev_aload_n dX11_look_68 rfl ?_
    refine ev_getR fr_X11_12 shC_0 rfl dX11_look_69 ?_
    refine ev_getI fr_X11_140 shC_1 rfl dX11_look_72 ?_
    exact ev_iret rfl rfl (by decide) (by decide) dX11_look_75 (eqP_O h)
  · replace h := ite_f hc1 h
    refine ev_em (v := (1 : Int32)) (fun hc2 => ?_) (fun hc2 => ?_)
    · replace h := ite_t hc2 h
      refine ev_tsC (v := (1 : Int32)) (off := 75) (tgt := 76) dX11_look_1 (by decide) hc2 (by decide) (by decide) ?_
      refine ev_aload_n dX11_look_76 rfl ?_
      refine ev_getR fr_X11_12 shC_0 rfl dX11_look_77 ?_
      refine ev_getI fr_X11_143 shC_1 rfl dX11_look_80 ?_
      exact ev_iret rfl rfl (by decide) (by decide) dX11_look_83 (eqP_O h)
    · replace h := ite_f hc2 h
      refine ev_em (v := (2 : Int32)) (fun hc3 => ?_) (fun hc3 => ?_)
      · replace h := ite_t hc3 h
        refine ev_tsC (v := (2 : Int32)) (off := 83) (tgt := 84) dX11_look_1 (by decide) hc3 (by decide) (by decide) ?_
        refine ev_aload_n dX11_look_84 rfl ?_
        refine ev_getR fr_X11_12 shC_0 rfl dX11_look_85 ?_
        refine ev_getR fr_X11_63 shC_1 rfl dX11_look_88 ?_
        refine ev_getI fr_X11_123 shC_2 rfl dX11_look_91 ?_
        exact ev_iret rfl rfl (by decide) (by decide) dX11_look_94 (eqP_O h)
      · replace h := ite_f hc3 h
        refine ev_em (v := (3 : Int32)) (fun hc4 => ?_) (fun hc4 => ?_)
        · replace h := ite_t hc4 h
          refine ev_tsC (v := (3 : Int32)) (off := 94) (tgt := 95) dX11_look_1 (by decide) hc4 (by decide) (by decide) ?_
          refine ev_aload_n dX11_look_95 rfl ?_
          refine ev_getR fr_X11_12 shC_0 rfl dX11_look_96 ?_
          refine ev_getR fr_X11_63 shC_1 rfl dX11_look_99 ?_
          refine ev_getI fr_X11_250 shC_2 rfl dX11_look_102 ?_
          exact ev_iret rfl rfl (by decide) (by decide) dX11_look_105 (eqP_O h)
        · replace h := ite_f hc4 h
          refine ev_em (v := (4 : Int32)) (fun hc5 => ?_) (fun hc5 => ?_)
          · replace h := ite_t hc5 h
            refine ev_tsC (v := (4 : Int32)) (off := 105) (tgt := 106) dX11_look_1 (by decide) hc5 (by decide) (by decide) ?_
            refine ev_aload_n dX11_look_106 rfl ?_
            refine ev_getR fr_X11_12 shC_0 rfl dX11_look_107 ?_
            refine ev_getR fr_X11_63 shC_1 rfl dX11_look_110 ?_
            refine ev_getI fr_X11_120 shC_2 rfl dX11_look_113 ?_
            exact ev_iret rfl rfl (by decide) (by decide) dX11_look_116 (eqP_O h)
          · replace h := ite_f hc5 h
            refine ev_em (v := (5 : Int32)) (fun hc6 => ?_) (fun hc6 => ?_)
            · replace h := ite_t hc6 h
              refine ev_tsC (v := (5 : Int32)) (off := 116) (tgt := 117) dX11_look_1 (by decide) hc6 (by decide) (by decide) ?_
              refine ev_aload_n dX11_look_117 rfl ?_
              refine ev_getR fr_X11_12 shC_0 rfl dX11_look_118 ?_
              obtain ⟨w8, hq7, h⟩ := bndO_t h
              refine ev_cVi mv_X11_371 dX11_look_121 (c_X0_freeWomen hq7) rfl shC_1 rfl rfl (Nat.le_of_ble_eq_true rfl) (by rfl) (Nat.le_of_ble_eq_true rfl) (Nat.le_of_ble_eq_true rfl) (Nat.le_of_ble_eq_true rfl) ?_
              exact ev_iret rfl rfl (by decide) (by decide) dX11_look_124 (eqP_O h)
            · replace h := ite_f hc6 h
              refine ev_em (v := (6 : Int32)) (fun hc9 => ?_) (fun hc9 => ?_)
              · replace h := ite_t hc9 h
                refine ev_tsC (v := (6 : Int32)) (off := 124) (tgt := 125) dX11_look_1 (by decide) hc9 (by decide) (by decide) ?_
                refine ev_aload_n dX11_look_125 rfl ?_
                refine ev_getR fr_X11_12 shC_0 rfl dX11_look_126 ?_
                refine ev_getR fr_X11_237 shC_1 rfl dX11_look_129 ?_
                refine ev_getI fr_X11_240 shC_26 rfl dX11_look_132 ?_
                exact ev_iret rfl rfl (by decide) (by decide) dX11_look_135 (eqP_O h)
              · replace h := ite_f hc9 h
                refine ev_em (v := (7 : Int32)) (fun hc10 => ?_) (fun hc10 => ?_)
                · replace h := ite_t hc10 h
                  refine ev_tsC (v := (7 : Int32)) (off := 135) (tgt := 136) dX11_look_1 (by decide) hc10 (by decide) (by decide) ?_
                  refine ev_aload_n dX11_look_136 rfl ?_
                  refine ev_getR fr_X11_12 shC_0 rfl dX11_look_137 ?_
                  refine ev_getR fr_X11_63 shC_1 rfl dX11_look_140 ?_
                  refine ev_getI fr_X11_66 shC_2 rfl dX11_look_143 ?_
                  exact ev_iret rfl rfl (by decide) (by decide) dX11_look_146 (eqP_O h)
                · replace h := ite_f hc10 h
                  refine ev_em (v := (8 : Int32)) (fun hc11 => ?_) (fun hc11 => ?_)
                  · replace h := ite_t hc11 h
                    refine ev_tsC (v := (8 : Int32)) (off := 146) (tgt := 147) dX11_look_1 (by decide) hc11 (by decide) (by decide) ?_
                    refine ev_aload_n dX11_look_147 rfl ?_
                    refine ev_getR fr_X11_12 shC_0 rfl dX11_look_148 ?_
                    refine ev_getR fr_X11_149 shC_1 rfl dX11_look_151 ?_
                    refine ev_getI fr_X11_374 shC_13 rfl dX11_look_154 ?_
                    exact ev_iret rfl rfl (by decide) (by decide) dX11_look_157 (eqP_O h)
                  · replace h := ite_f hc11 h
                    refine ev_em (v := (9 : Int32)) (fun hc12 => ?_) (fun hc12 => ?_)
                    · replace h := ite_t hc12 h
                      refine ev_tsC (v := (9 : Int32)) (off := 157) (tgt := 158) dX11_look_1 (by decide) hc12 (by decide) (by decide) ?_
                      refine ev_aload_n dX11_look_158 rfl ?_
                      refine ev_getR fr_X11_12 shC_0 rfl dX11_look_159 ?_
                      refine ev_getR fr_X11_160 shC_1 rfl dX11_look_162 ?_
                      refine ev_getI fr_X11_240 shC_20 rfl dX11_look_165 ?_
                      exact ev_iret rfl rfl (by decide) (by decide) dX11_look_168 (eqP_O h)
                    · replace h := ite_f hc12 h
                      refine ev_em (v := (10 : Int32)) (fun hc13 => ?_) (fun hc13 => ?_)
                      · replace h := ite_t hc13 h
                        refine ev_tsC (v := (10 : Int32)) (off := 168) (tgt := 169) dX11_look_1 (by decide) hc13 (by decide) (by decide) ?_
                        refine ev_aload_n dX11_look_169 rfl ?_
                        refine ev_getR fr_X11_12 shC_0 rfl dX11_look_170 ?_
                        refine ev_getR fr_X11_172 shC_1 rfl dX11_look_173 ?_
                        refine ev_getI fr_X11_240 shC_22 rfl dX11_look_176 ?_
                        exact ev_iret rfl rfl (by decide) (by decide) dX11_look_179 (eqP_O h)
                      · replace h := ite_f hc13 h
                        refine ev_em (v := (11 : Int32)) (fun hc14 => ?_) (fun hc14 => ?_)
                        · replace h := ite_t hc14 h
                          refine ev_tsC (v := (11 : Int32)) (off := 179) (tgt := 180) dX11_look_1 (by decide) hc14 (by decide) (by decide) ?_
                          refine ev_aload_n dX11_look_180 rfl ?_
                          refine ev_getR fr_X11_12 shC_0 rfl dX11_look_181 ?_
                          refine ev_getR fr_X11_175 shC_1 rfl dX11_look_184 ?_
                          refine ev_getI fr_X11_240 shC_24 rfl dX11_look_187 ?_
                          exact ev_iret rfl rfl (by decide) (by decide) dX11_look_190 (eqP_O h)
                        · replace h := ite_f hc14 h
                          refine ev_em (v := (12 : Int32)) (fun hc15 => ?_) (fun hc15 => ?_)
                          · replace h := ite_t hc15 h
                            refine ev_tsC (v := (12 : Int32)) (off := 190) (tgt := 191) dX11_look_1 (by decide) hc15 (by decide) (by decide) ?_
                            refine ev_aload_n dX11_look_191 rfl ?_
                            refine ev_getR fr_X11_26 shC_0 rfl dX11_look_192 ?_
                            refine ev_getI fr_X11_377 shC_54 rfl dX11_look_195 ?_
                            exact ev_iret rfl rfl (by decide) (by decide) dX11_look_198 (eqP_O h)
                          · replace h := ite_f hc15 h
                            refine ev_tsE (tgt := 199) dX11_look_1 (by decide) ⟨Or.inr hc1, ⟨Or.inr hc2, ⟨Or.inr hc3, ⟨Or.inr hc4, ⟨Or.inr hc5, ⟨Or.inr hc6, ⟨Or.inr hc9, ⟨Or.inr hc10, ⟨Or.inr hc11, ⟨Or.inr hc12, ⟨Or.inr hc13, ⟨Or.inr hc14, ⟨Or.inr hc15, trivial⟩⟩⟩⟩⟩⟩⟩⟩⟩⟩⟩⟩⟩ (by decide) ?_
                            refine ev_sipush (v := (-10000 : Int32)) dX11_look_199 (by decide) ?_
                            exact ev_iret rfl rfl (by decide) (by decide) dX11_look_202 (eqP_O h)
end
