section
def f_X12_canAskOf (μ : Mem) (p1 p2 p3 p4 : Int32) : Int32 :=
  (if (f_X12_isGroom μ p1) = (0 : Int32) then
  (0 : Int32)
  else
  (if (f_X12_isWoman μ p2) = (0 : Int32) then
  (0 : Int32)
  else
  (if (f_X12_isIn p3 (0 : Int32) ((μ 0 37) - (1 : Int32))) = (0 : Int32) then
  (0 : Int32)
  else
  (if (f_X12_isIn p4 (0 : Int32) (2 : Int32)) = (0 : Int32) then
  (0 : Int32)
  else
  (1 : Int32)))))
set_option maxHeartbeats 4000000 in
set_option maxRecDepth 100000 in
theorem c_X12_canAskOf  {μ : Mem}  {p1 p2 p3 p4 : Int32}  : Cn yX12_canAskOf cX12_canAskOf 5 (some .boolean) 2 0 0 [.ref 0, .int p1, .int p2, .int p3, .int p4] shR μ (eqP (some (f_X12_canAskOf μ p1 p2 p3 p4)) shR μ) := by
  obtain ⟨r, h⟩ : ∃ r, f_X12_canAskOf μ p1 p2 p3 p4 = r := ⟨_, rfl⟩
  rw [h]
  refine cn_of (own := RX12) (ini := false) (loc := [some (.ref 0), some (.int p1), some (.int p2), some (.int p3), some (.int p4)]) rfl (by decide) (fun q => by cases q) (Nat.le_of_ble_eq_true rfl) (by rfl) rfl ?_
  unfold f_X12_canAskOf at h
  refine ev_aload_n dX12_canAskOf_0 rfl ?_
  refine ev_iload_n dX12_canAskOf_1 rfl ?_
  refine ev_cVi mv_X12_175 dX12_canAskOf_2 c_X12_isGroom rfl shR_0 rfl rfl (Nat.le_of_ble_eq_true rfl) (by rfl) (Nat.le_of_ble_eq_true rfl) (Nat.le_of_ble_eq_true rfl) (Nat.le_of_ble_eq_true rfl) ?_
  refine ev_if_eq (tgt := 46) dX12_canAskOf_5 (by decide) (fun hc1 => ?_) (fun hc1 => ?_)
  · replace h := ite_t hc1 h
    refine ev_iconst (v := (0 : Int32)) dX12_canAskOf_46 (by decide) ?_
    exact ev_iret rfl rfl (by decide) (by decide) dX12_canAskOf_47 (eqP_P h)
  · replace h := ite_f hc1 h
    refine ev_aload_n dX12_canAskOf_8 rfl ?_
    refine ev_iload_n dX12_canAskOf_9 rfl ?_
    refine ev_cVi mv_X12_171 dX12_canAskOf_10 c_X12_isWoman rfl shR_0 rfl rfl (Nat.le_of_ble_eq_true rfl) (by rfl) (Nat.le_of_ble_eq_true rfl) (Nat.le_of_ble_eq_true rfl) (Nat.le_of_ble_eq_true rfl) ?_
    refine ev_if_eq (tgt := 46) dX12_canAskOf_13 (by decide) (fun hc2 => ?_) (fun hc2 => ?_)
    · replace h := ite_t hc2 h
      refine ev_iconst (v := (0 : Int32)) dX12_canAskOf_46 (by decide) ?_
      exact ev_iret rfl rfl (by decide) (by decide) dX12_canAskOf_47 (eqP_P h)
    · replace h := ite_f hc2 h
      refine ev_aload_n dX12_canAskOf_16 rfl ?_
      refine ev_iload_n dX12_canAskOf_17 rfl ?_
      refine ev_iconst (v := (0 : Int32)) dX12_canAskOf_18 (by decide) ?_
      refine ev_aload_n dX12_canAskOf_19 rfl ?_
      refine ev_getI fr_X12_317 shR_0 rfl dX12_canAskOf_20 ?_
      refine ev_iconst (v := (1 : Int32)) dX12_canAskOf_23 (by decide) ?_
      refine ev_isub dX12_canAskOf_24 ?_
      refine ev_cVi mv_X12_167 dX12_canAskOf_25 c_X12_isIn rfl shR_0 rfl rfl (Nat.le_of_ble_eq_true rfl) (by rfl) (Nat.le_of_ble_eq_true rfl) (Nat.le_of_ble_eq_true rfl) (Nat.le_of_ble_eq_true rfl) ?_
      refine ev_if_eq (tgt := 46) dX12_canAskOf_28 (by decide) (fun hc3 => ?_) (fun hc3 => ?_)
      · replace h := ite_t hc3 h
        refine ev_iconst (v := (0 : Int32)) dX12_canAskOf_46 (by decide) ?_
        exact ev_iret rfl rfl (by decide) (by decide) dX12_canAskOf_47 (eqP_P h)
      · replace h := ite_f hc3 h
        refine ev_aload_n dX12_canAskOf_31 rfl ?_
        refine ev_iload dX12_canAskOf_32 rfl ?_
        refine ev_iconst (v := (0 : Int32)) dX12_canAskOf_34 (by decide) ?_
        refine ev_iconst (v := (2 : Int32)) dX12_canAskOf_35 (by decide) ?_
        refine ev_cVi mv_X12_167 dX12_canAskOf_36 c_X12_isIn rfl shR_0 rfl rfl (Nat.le_of_ble_eq_true rfl) (by rfl) (Nat.le_of_ble_eq_true rfl) (Nat.le_of_ble_eq_true rfl) (Nat.le_of_ble_eq_true rfl) ?_
        refine ev_if_eq (tgt := 46) dX12_canAskOf_39 (by decide) (fun hc4 => ?_) (fun hc4 => ?_)
        · replace h := ite_t hc4 h
          refine ev_iconst (v := (0 : Int32)) dX12_canAskOf_46 (by decide) ?_
          exact ev_iret rfl rfl (by decide) (by decide) dX12_canAskOf_47 (eqP_P h)
        · replace h := ite_f hc4 h
          refine ev_iconst (v := (1 : Int32)) dX12_canAskOf_42 (by decide) ?_
          refine ev_goto (tgt := 47) dX12_canAskOf_43 (by decide) ?_
          exact ev_iret rfl rfl (by decide) (by decide) dX12_canAskOf_47 (eqP_P h)
def f_X12_yes (G : Nat) (p1 p2 p3 p4 : Int32) (μ : Mem) : Option (Int32 × Mem) :=
  (let m1 := wr μ 0 0 (0 : Int32)
  (if (f_X12_canAskOf m1 p1 p2 p3 p4) = (0 : Int32) then
  some ((-1 : Int32), m1)
  else
  bndE (f_X12_yesOf G p1 p2 p3 p4 m1) (fun w5 m4 =>
  some (w5, m4))))
set_option maxHeartbeats 4000000 in
set_option maxRecDepth 100000 in
theorem c_X12_yes  {G : Nat} {μ : Mem} {p1 p2 p3 p4 : Int32} {r : Int32} {μr : Mem}  (h : f_X12_yes G p1 p2 p3 p4 μ = some (r, μr)) : Cn yX12_yes cX12_yes 5 (some .int) 6 0 0 [.ref 0, .int p1, .int p2, .int p3, .int p4] shR μ (eqP (some r) shR μr) := by
  refine cn_of (own := RX12) (ini := false) (loc := [some (.ref 0), some (.int p1), some (.int p2), some (.int p3), some (.int p4)]) rfl (by decide) (fun q => by cases q) (Nat.le_of_ble_eq_true rfl) (by rfl) rfl ?_
  unfold f_X12_yes at h
  refine ev_aload_n dX12_yes_0 rfl ?_
  refine ev_iconst (v := (0 : Int32)) dX12_yes_1 (by decide) ?_
  refine ev_putI fr_X12_149 shR_0 rfl rfl rfl dX12_yes_2 ?_
  refine ev_aload_n dX12_yes_5 rfl ?_
  refine ev_iload_n dX12_yes_6 rfl ?_
  refine ev_iload_n dX12_yes_7 rfl ?_
  refine ev_iload_n dX12_yes_8 rfl ?_
  refine ev_iload dX12_yes_9 rfl ?_
  refine ev_cVi mv_X12_415 dX12_yes_11 c_X12_canAskOf rfl shR_0 rfl rfl (Nat.le_of_ble_eq_true rfl) (by rfl) (Nat.le_of_ble_eq_true rfl) (Nat.le_of_ble_eq_true rfl) (Nat.le_of_ble_eq_true rfl) ?_
  refine ev_if_eq (tgt := 29) dX12_yes_14 (by decide) (fun hc2 => ?_) (fun hc2 => ?_)
  · replace h := ite_t hc2 h
    refine ev_iconst (v := (-1 : Int32)) dX12_yes_29 (by decide) ?_
    exact ev_iret rfl rfl (by decide) (by decide) dX12_yes_30 (eqP_E h)
  · replace h := ite_f hc2 h
    refine ev_aload_n dX12_yes_17 rfl ?_
    refine ev_iload_n dX12_yes_18 rfl ?_
    refine ev_iload_n dX12_yes_19 rfl ?_
    refine ev_iload_n dX12_yes_20 rfl ?_
    refine ev_iload dX12_yes_21 rfl ?_
    obtain ⟨w5, m4, hq3, h⟩ := bndE_t h
    refine ev_cVi mv_X12_354 dX12_yes_23 (c_X12_yesOf hq3) rfl shR_0 rfl rfl (Nat.le_of_ble_eq_true rfl) (by rfl) (Nat.le_of_ble_eq_true rfl) (Nat.le_of_ble_eq_true rfl) (Nat.le_of_ble_eq_true rfl) ?_
    refine ev_goto (tgt := 30) dX12_yes_26 (by decide) ?_
    exact ev_iret rfl rfl (by decide) (by decide) dX12_yes_30 (eqP_E h)
def f_X12_counts (G : Nat) (p1 p2 p3 p4 p5 : Int32) (μ : Mem) : Option (Int32 × Mem) :=
  (let m1 := wr μ 0 0 (0 : Int32)
  (if (f_X12_canAskOf m1 p1 p2 p3 p4) = (0 : Int32) then
  some ((-100 : Int32), m1)
  else
  (if p5 = (0 : Int32) then
  bndE (f_X12_countsOf G p1 p2 p3 p4 (0 : Int32) m1) (fun w6 m5 =>
  some (w6, m5))
  else
  bndE (f_X12_countsOf G p1 p2 p3 p4 (1 : Int32) m1) (fun w9 m8 =>
  some (w9, m8)))))
set_option maxHeartbeats 4000000 in
set_option maxRecDepth 100000 in
theorem c_X12_counts  {G : Nat} {μ : Mem} {p1 p2 p3 p4 p5 : Int32} {r : Int32} {μr : Mem}  (h : f_X12_counts G p1 p2 p3 p4 p5 μ = some (r, μr)) : Cn yX12_counts cX12_counts 6 (some .int) 6 0 0 [.ref 0, .int p1, .int p2, .int p3, .int p4, .int p5] shR μ (eqP (some r) shR μr) := by
  refine cn_of (own := RX12) (ini := false) (loc := [some (.ref 0), some (.int p1), some (.int p2), some (.int p3), some (.int p4), some (.int p5)]) rfl (by decide) (fun q => by cases q) (Nat.le_of_ble_eq_true rfl) (by rfl) rfl ?_
  unfold f_X12_counts at h
  refine ev_aload_n dX12_counts_0 rfl ?_
  refine ev_iconst (v := (0 : Int32)) dX12_counts_1 (by decide) ?_
  refine ev_putI fr_X12_149 shR_0 rfl rfl rfl dX12_counts_2 ?_
  refine ev_aload_n dX12_counts_5 rfl ?_
  refine ev_iload_n dX12_counts_6 rfl ?_
  refine ev_iload_n dX12_counts_7 rfl ?_
  refine ev_iload_n dX12_counts_8 rfl ?_
  refine ev_iload dX12_counts_9 rfl ?_
  refine ev_cVi mv_X12_415 dX12_counts_11 c_X12_canAskOf rfl shR_0 rfl rfl (Nat.le_of_ble_eq_true rfl) (by rfl) (Nat.le_of_ble_eq_true rfl) (Nat.le_of_ble_eq_true rfl) (Nat.le_of_ble_eq_true rfl) ?_
  refine ev_if_eq (tgt := 39) dX12_counts_14 (by decide) (fun hc2 => ?_) (fun hc2 => ?_)
  · replace h := ite_t hc2 h
    refine ev_bipush (v := (-100 : Int32)) dX12_counts_39 (by decide) ?_
    exact ev_iret rfl rfl (by decide) (by decide) dX12_counts_41 (eqP_E h)
  · replace h := ite_f hc2 h
    refine ev_aload_n dX12_counts_17 rfl ?_
    refine ev_iload_n dX12_counts_18 rfl ?_
    refine ev_iload_n dX12_counts_19 rfl ?_
    refine ev_iload_n dX12_counts_20 rfl ?_
    refine ev_iload dX12_counts_21 rfl ?_
    refine ev_iload dX12_counts_23 rfl ?_
    refine ev_if_eq (tgt := 32) dX12_counts_25 (by decide) (fun hc3 => ?_) (fun hc3 => ?_)
    · replace h := ite_t hc3 h
      refine ev_iconst (v := (0 : Int32)) dX12_counts_32 (by decide) ?_
      obtain ⟨w6, m5, hq4, h⟩ := bndE_t h
      refine ev_cVi mv_X12_364 dX12_counts_33 (c_X12_countsOf hq4) rfl shR_0 rfl rfl (Nat.le_of_ble_eq_true rfl) (by rfl) (Nat.le_of_ble_eq_true rfl) (Nat.le_of_ble_eq_true rfl) (Nat.le_of_ble_eq_true rfl) ?_
      refine ev_goto (tgt := 41) dX12_counts_36 (by decide) ?_
      exact ev_iret rfl rfl (by decide) (by decide) dX12_counts_41 (eqP_E h)
    · replace h := ite_f hc3 h
      refine ev_iconst (v := (1 : Int32)) dX12_counts_28 (by decide) ?_
      refine ev_goto (tgt := 33) dX12_counts_29 (by decide) ?_
      obtain ⟨w9, m8, hq7, h⟩ := bndE_t h
      refine ev_cVi mv_X12_364 dX12_counts_33 (c_X12_countsOf hq7) rfl shR_0 rfl rfl (Nat.le_of_ble_eq_true rfl) (by rfl) (Nat.le_of_ble_eq_true rfl) (Nat.le_of_ble_eq_true rfl) (Nat.le_of_ble_eq_true rfl) ?_
      refine ev_goto (tgt := 41) dX12_counts_36 (by decide) ?_
      exact ev_iret rfl rfl (by decide) (by decide) dX12_counts_41 (eqP_E h)
def f_X12_book (G : Nat) (p1 p2 : Int32) (μ : Mem) : Option (Int32 × Mem) :=
  (let m1 := wr μ 0 0 (0 : Int32)
  (if (f_X12_isIn p1 (0 : Int32) ((m1 1 2) - (1 : Int32))) = (0 : Int32) then
  some ((-10000 : Int32), m1)
  else
  (if (f_X12_isIn p2 (0 : Int32) (3 : Int32)) = (0 : Int32) then
  some ((-10000 : Int32), m1)
  else
  chk (((4 : Int32) * p1) + p2) 600 (some ((m1 9 (ix (((4 : Int32) * p1) + p2))), m1)))))
set_option maxHeartbeats 4000000 in
set_option maxRecDepth 100000 in
theorem c_X12_book  {G : Nat} {μ : Mem} {p1 p2 : Int32} {r : Int32} {μr : Mem}  (h : f_X12_book G p1 p2 μ = some (r, μr)) : Cn yX12_book cX12_book 3 (some .int) 2 0 0 [.ref 0, .int p1, .int p2] shR μ (eqP (some r) shR μr) := by
  refine cn_of (own := RX12) (ini := false) (loc := [some (.ref 0), some (.int p1), some (.int p2)]) rfl (by decide) (fun q => by cases q) (Nat.le_of_ble_eq_true rfl) (by rfl) rfl ?_
  unfold f_X12_book at h
  refine ev_aload_n dX12_book_0 rfl ?_
  refine ev_iconst (v := (0 : Int32)) dX12_book_1 (by decide) ?_
  refine ev_putI fr_X12_149 shR_0 rfl rfl rfl dX12_book_2 ?_
  refine ev_aload_n dX12_book_5 rfl ?_
  refine ev_iload_n dX12_book_6 rfl ?_
  refine ev_iconst (v := (0 : Int32)) dX12_book_7 (by decide) ?_
  refine ev_aload_n dX12_book_8 rfl ?_
  refine ev_getR fr_X12_7 shR_0 rfl dX12_book_9 ?_
  refine ev_iconst (v := (2 : Int32)) dX12_book_12 (by decide) ?_
  refine ev_ialdL (j := 2) shR_1 (by decide) (vpl _ _ (by decide)) dX12_book_13 ?_
  refine ev_iconst (v := (1 : Int32)) dX12_book_14 (by decide) ?_
  refine ev_isub dX12_book_15 ?_
  refine ev_cVi mv_X12_167 dX12_book_16 c_X12_isIn rfl shR_0 rfl rfl (Nat.le_of_ble_eq_true rfl) (by rfl) (Nat.le_of_ble_eq_true rfl) (Nat.le_of_ble_eq_true rfl) (Nat.le_of_ble_eq_true rfl) ?_
  refine ev_if_eq (tgt := 45) dX12_book_19 (by decide) (fun hc2 => ?_) (fun hc2 => ?_)
  · replace h := ite_t hc2 h
    refine ev_sipush (v := (-10000 : Int32)) dX12_book_45 (by decide) ?_
    exact ev_iret rfl rfl (by decide) (by decide) dX12_book_48 (eqP_E h)
  · replace h := ite_f hc2 h
    refine ev_aload_n dX12_book_22 rfl ?_
    refine ev_iload_n dX12_book_23 rfl ?_
    refine ev_iconst (v := (0 : Int32)) dX12_book_24 (by decide) ?_
    refine ev_iconst (v := (3 : Int32)) dX12_book_25 (by decide) ?_
    refine ev_cVi mv_X12_167 dX12_book_26 c_X12_isIn rfl shR_0 rfl rfl (Nat.le_of_ble_eq_true rfl) (by rfl) (Nat.le_of_ble_eq_true rfl) (Nat.le_of_ble_eq_true rfl) (Nat.le_of_ble_eq_true rfl) ?_
    refine ev_if_eq (tgt := 45) dX12_book_29 (by decide) (fun hc3 => ?_) (fun hc3 => ?_)
    · replace h := ite_t hc3 h
      refine ev_sipush (v := (-10000 : Int32)) dX12_book_45 (by decide) ?_
      exact ev_iret rfl rfl (by decide) (by decide) dX12_book_48 (eqP_E h)
    · replace h := ite_f hc3 h
      refine ev_aload_n dX12_book_32 rfl ?_
      refine ev_getR fr_X12_34 shR_0 rfl dX12_book_33 ?_
      refine ev_iconst (v := (4 : Int32)) dX12_book_36 (by decide) ?_
      refine ev_iload_n dX12_book_37 rfl ?_
      refine ev_imul dX12_book_38 ?_
      refine ev_iload_n dX12_book_39 rfl ?_
      refine ev_iadd dX12_book_40 ?_
      obtain ⟨hi4, h⟩ := chk_t h
      refine ev_iald shR_9 hi4 dX12_book_41 ?_
      refine ev_goto (tgt := 48) dX12_book_42 (by decide) ?_
      exact ev_iret rfl rfl (by decide) (by decide) dX12_book_48 (eqP_E h)
def f_X12_would (G : Nat) (p1 p2 p3 p4 p5 : Int32) (μ : Mem) : Option (Int32 × Mem) :=
  (let m1 := wr μ 0 0 (0 : Int32)
  (if (f_X12_isGroom m1 p1) = (0 : Int32) then
  some ((-10000 : Int32), m1)
  else
  (if (f_X12_areUnlike m1 p2 p3 p4) = (0 : Int32) then
  some ((-10000 : Int32), m1)
  else
  (if (f_X12_isIn p5 (0 : Int32) (1 : Int32)) = (0 : Int32) then
  some ((-10000 : Int32), m1)
  else
  bndV (f_X12_thinks G m1) (fun m6 =>
  bndV (f_X12_isSent G p2 p3 p4 m6) (fun m8 =>
  bndE (f_X12_takes G p1 m8) (fun w11 m10 =>
  bndV (f_X12_endsThought G m10) (fun m13 =>
  (if p5 = (0 : Int32) then
  chk w11 3 (some ((m13 25 (ix w11)), m13))
  else
  chk w11 3 (some ((m13 26 (ix w11)), m13)))))))))))
set_option maxHeartbeats 4000000 in
set_option maxRecDepth 100000 in
theorem c_X12_would  {G : Nat} {μ : Mem} {p1 p2 p3 p4 p5 : Int32} {r : Int32} {μr : Mem}  (h : f_X12_would G p1 p2 p3 p4 p5 μ = some (r, μr)) : Cn yX12_would cX12_would 7 (some .int) 8 0 0 [.ref 0, .int p1, .int p2, .int p3, .int p4, .int p5] shR μ (eqP (some r) shR μr) := by
  refine cn_of (own := RX12) (ini := false) (loc := [some (.ref 0), some (.int p1), some (.int p2), some (.int p3), some (.int p4), some (.int p5), none]) rfl (by decide) (fun q => by cases q) (Nat.le_of_ble_eq_true rfl) (by rfl) rfl ?_
  unfold f_X12_would at h
  refine ev_aload_n dX12_would_0 rfl ?_
  refine ev_iconst (v := (0 : Int32)) dX12_would_1 (by decide) ?_
  refine ev_putI fr_X12_149 shR_0 rfl rfl rfl dX12_would_2 ?_
  refine ev_aload_n dX12_would_5 rfl ?_
  refine ev_iload_n dX12_would_6 rfl ?_
  refine ev_cVi mv_X12_175 dX12_would_7 c_X12_isGroom rfl shR_0 rfl rfl (Nat.le_of_ble_eq_true rfl) (by rfl) (Nat.le_of_ble_eq_true rfl) (Nat.le_of_ble_eq_true rfl) (Nat.le_of_ble_eq_true rfl) ?_
  refine ev_if_eq (tgt := 35) dX12_would_10 (by decide) (fun hc2 => ?_) (fun hc2 => ?_)
  · replace h := ite_t hc2 h
    refine ev_sipush (v := (-10000 : Int32)) dX12_would_35 (by decide) ?_
    exact ev_iret rfl rfl (by decide) (by decide) dX12_would_38 (eqP_E h)
  · replace h := ite_f hc2 h
    refine ev_aload_n dX12_would_13 rfl ?_
    refine ev_iload_n dX12_would_14 rfl ?_
    refine ev_iload_n dX12_would_15 rfl ?_
    refine ev_iload dX12_would_16 rfl ?_
    refine ev_cVi mv_X12_387 dX12_would_18 c_X12_areUnlike rfl shR_0 rfl rfl (Nat.le_of_ble_eq_true rfl) (by rfl) (Nat.le_of_ble_eq_true rfl) (Nat.le_of_ble_eq_true rfl) (Nat.le_of_ble_eq_true rfl) ?_
    refine ev_if_eq (tgt := 35) dX12_would_21 (by decide) (fun hc3 => ?_) (fun hc3 => ?_)
    · replace h := ite_t hc3 h
      refine ev_sipush (v := (-10000 : Int32)) dX12_would_35 (by decide) ?_
      exact ev_iret rfl rfl (by decide) (by decide) dX12_would_38 (eqP_E h)
    · replace h := ite_f hc3 h
      refine ev_aload_n dX12_would_24 rfl ?_
      refine ev_iload dX12_would_25 rfl ?_
      refine ev_iconst (v := (0 : Int32)) dX12_would_27 (by decide) ?_
      refine ev_iconst (v := (1 : Int32)) dX12_would_28 (by decide) ?_
      refine ev_cVi mv_X12_167 dX12_would_29 c_X12_isIn rfl shR_0 rfl rfl (Nat.le_of_ble_eq_true rfl) (by rfl) (Nat.le_of_ble_eq_true rfl) (Nat.le_of_ble_eq_true rfl) (Nat.le_of_ble_eq_true rfl) ?_
      refine ev_if_ne (tgt := 39) dX12_would_32 (by decide) (fun hc4 => ?_) (fun hc4 => ?_)
      · replace h := ite_f hc4 h
        refine ev_aload_n dX12_would_39 rfl ?_
        obtain ⟨m6, hq5, h⟩ := bndV_t h
        refine ev_cVv mv_X12_418 dX12_would_40 (c_X12_thinks hq5) rfl shR_0 rfl rfl (Nat.le_of_ble_eq_true rfl) (by rfl) (Nat.le_of_ble_eq_true rfl) (Nat.le_of_ble_eq_true rfl) (Nat.le_of_ble_eq_true rfl) ?_
        refine ev_aload_n dX12_would_43 rfl ?_
        refine ev_iload_n dX12_would_44 rfl ?_
        refine ev_iload_n dX12_would_45 rfl ?_
        refine ev_iload dX12_would_46 rfl ?_
        obtain ⟨m8, hq7, h⟩ := bndV_t h
        refine ev_cVv mv_X12_375 dX12_would_48 (c_X12_isSent hq7) rfl shR_0 rfl rfl (Nat.le_of_ble_eq_true rfl) (by rfl) (Nat.le_of_ble_eq_true rfl) (Nat.le_of_ble_eq_true rfl) (Nat.le_of_ble_eq_true rfl) ?_
        refine ev_aload_n dX12_would_51 rfl ?_
        refine ev_iload_n dX12_would_52 rfl ?_
        obtain ⟨w11, m10, hq9, h⟩ := bndE_t h
        refine ev_cVi mv_X12_378 dX12_would_53 (c_X12_takes hq9) rfl shR_0 rfl rfl (Nat.le_of_ble_eq_true rfl) (by rfl) (Nat.le_of_ble_eq_true rfl) (Nat.le_of_ble_eq_true rfl) (Nat.le_of_ble_eq_true rfl) ?_
        refine ev_istore (loc' := [_, _, _, _, _, _, _]) dX12_would_56 rfl (by decide) (by rfl) ?_
        refine ev_aload_n dX12_would_58 rfl ?_
        obtain ⟨m13, hq12, h⟩ := bndV_t h
        refine ev_cVv mv_X12_421 dX12_would_59 (c_X12_endsThought hq12) rfl shR_0 rfl rfl (Nat.le_of_ble_eq_true rfl) (by rfl) (Nat.le_of_ble_eq_true rfl) (Nat.le_of_ble_eq_true rfl) (Nat.le_of_ble_eq_true rfl) ?_
        refine ev_iload dX12_would_62 rfl ?_
        refine ev_if_ne (tgt := 77) dX12_would_64 (by decide) (fun hc14 => ?_) (fun hc14 => ?_)
        · replace h := ite_f hc14 h
          refine ev_aload_n dX12_would_77 rfl ?_
          refine ev_getR fr_X12_89 shR_0 rfl dX12_would_78 ?_
          refine ev_iload dX12_would_81 rfl ?_
          obtain ⟨hi15, h⟩ := chk_t h
          refine ev_iald shR_26 hi15 dX12_would_83 ?_
          exact ev_iret rfl rfl (by decide) (by decide) dX12_would_84 (eqP_E h)
        · replace h := ite_t hc14 h
          refine ev_aload_n dX12_would_67 rfl ?_
          refine ev_getR fr_X12_86 shR_0 rfl dX12_would_68 ?_
          refine ev_iload dX12_would_71 rfl ?_
          obtain ⟨hi16, h⟩ := chk_t h
          refine ev_iald shR_25 hi16 dX12_would_73 ?_
          refine ev_goto (tgt := 84) dX12_would_74 (by decide) ?_
          exact ev_iret rfl rfl (by decide) (by decide) dX12_would_84 (eqP_E h)
      · replace h := ite_t hc4 h
        refine ev_sipush (v := (-10000 : Int32)) dX12_would_35 (by decide) ?_
        exact ev_iret rfl rfl (by decide) (by decide) dX12_would_38 (eqP_E h)
def f_X12_goes_L36 (G : Nat) (k36_52 : Int32 → Mem → Option (Int32 × Mem)) : Nat → Int32 → Int32 → Int32 → Mem → Option (Int32 × Mem)
  | 0, _, _, _, _ => none
  | g + 1, v1, v2, v3, μ =>
  (if v1 ≤ v3 then
  k36_52 v2 μ
  else
  bndE (f_X12_goesBy G μ) (fun w9 m8 =>
  (f_X12_goes_L36 G k36_52 g) v1 v2 (v3 + (1 : Int32)) m8))
set_option maxHeartbeats 4000000 in
set_option maxRecDepth 100000 in
theorem f_X12_goes_L36_ok  {G : Nat} {r : Int32} {μr : Mem}  {k36_52 : Int32 → Mem → Option (Int32 × Mem)} (hk36_52 : ∀ (v2 : Int32) (m : Mem), k36_52 v2 m = some (r, μr) → Ev RX12 cX12_goes 7 (some .int) false 11 0 0 (eqP (some r) shR μr) 52 [some (.ref 0), none, some (.int v2), none, none, none, none] [] shR m 0 0) : ∀ (g : Nat) (v1 v2 v3 : Int32) (μ : Mem), f_X12_goes_L36 G k36_52 g v1 v2 v3 μ = some (r, μr) → Ev RX12 cX12_goes 7 (some .int) false 11 0 0 (eqP (some r) shR μr) 36 [some (.ref 0), some (.int v1), some (.int v2), some (.int v3), none, none, none] [] shR μ 0 0 := by
  intro g
  induction g with
  | zero =>
    intro v1 v2 v3 μ h
    cases h
  | succ g ih =>
    intro v1 v2 v3 μ h
    rw [f_X12_goes_L36] at h
    refine ev_iload_n dX12_goes_36 rfl ?_
    refine ev_iload_n dX12_goes_37 rfl ?_
    refine ev_icmp_ge (tgt := 52) dX12_goes_38 (by decide) (fun hc6 => ?_) (fun hc6 => ?_)
    · replace h := ite_t hc6 h
      exact ev_lt (hk36_52 _ _ h) ⟨rfl, ⟨rfl, trivial⟩⟩
    · replace h := ite_f hc6 h
      refine ev_aload_n dX12_goes_41 rfl ?_
      obtain ⟨w9, m8, hq7, h⟩ := bndE_t h
      refine ev_cVi mv_X12_412 dX12_goes_42 (c_X12_goesBy hq7) rfl shR_0 rfl rfl (Nat.le_of_ble_eq_true rfl) (by rfl) (Nat.le_of_ble_eq_true rfl) (Nat.le_of_ble_eq_true rfl) (Nat.le_of_ble_eq_true rfl) ?_
      refine ev_pop dX12_goes_45 (by rfl) ?_
      refine ev_iinc (cq := (1 : Int32)) (loc' := [_, _, _, _, _, _, _]) dX12_goes_46 rfl (by decide) rfl (by decide) (by rfl) ?_
      refine ev_goto (tgt := 36) dX12_goes_49 (by decide) ?_
      exact ev_lt (ih _ _ _ _ h) ⟨rfl, ⟨rfl, ⟨rfl, ⟨rfl, trivial⟩⟩⟩⟩
def f_X12_goes_j116 (G : Nat) (r63 : Int32 → Int32 → Int32 → Int32 → Int32 → Mem → Option (Int32 × Mem)) (k63_122 : Int32 → Int32 → Int32 → Int32 → Mem → Option (Int32 × Mem)) (v2 v3 v4 v5 v6 : Int32) (μ : Mem) : Option (Int32 × Mem) :=
  r63 v2 v3 v4 v5 (v6 + (1 : Int32)) μ
set_option maxHeartbeats 4000000 in
set_option maxRecDepth 100000 in
theorem f_X12_goes_j116_ok  {G : Nat} {r : Int32} {μr : Mem}  {r63 : Int32 → Int32 → Int32 → Int32 → Int32 → Mem → Option (Int32 × Mem)} {k63_122 : Int32 → Int32 → Int32 → Int32 → Mem → Option (Int32 × Mem)} (hr63 : ∀ (v2 : Int32) (v3 : Int32) (v4 : Int32) (v5 : Int32) (v6 : Int32) (m : Mem), r63 v2 v3 v4 v5 v6 m = some (r, μr) → Ev RX12 cX12_goes 7 (some .int) false 11 0 0 (eqP (some r) shR μr) 63 [some (.ref 0), none, some (.int v2), some (.int v3), some (.int v4), some (.int v5), some (.int v6)] [] shR m 0 0) (hk63_122 : ∀ (v2 : Int32) (v3 : Int32) (v4 : Int32) (v5 : Int32) (m : Mem), k63_122 v2 v3 v4 v5 m = some (r, μr) → Ev RX12 cX12_goes 7 (some .int) false 11 0 0 (eqP (some r) shR μr) 122 [some (.ref 0), none, some (.int v2), some (.int v3), some (.int v4), some (.int v5), none] [] shR m 0 0) {v2 v3 v4 v5 v6 : Int32} {μ : Mem} (h : f_X12_goes_j116 G r63 k63_122 v2 v3 v4 v5 v6 μ = some (r, μr)) : Ev RX12 cX12_goes 7 (some .int) false 11 0 0 (eqP (some r) shR μr) 116 [some (.ref 0), none, some (.int v2), some (.int v3), some (.int v4), some (.int v5), some (.int v6)] [] shR μ 0 0 := by
  unfold f_X12_goes_j116 at h
  refine ev_iinc (cq := (1 : Int32)) (loc' := [_, _, _, _, _, _, _]) dX12_goes_116 rfl (by decide) rfl (by decide) (by rfl) ?_
  refine ev_goto (tgt := 63) dX12_goes_119 (by decide) ?_
  exact ev_lt (hr63 _ _ _ _ _ _ h) ⟨rfl, ⟨rfl, ⟨rfl, ⟨rfl, ⟨rfl, ⟨rfl, trivial⟩⟩⟩⟩⟩⟩
def f_X12_goes_L63 (G : Nat) (k63_122 : Int32 → Int32 → Int32 → Int32 → Mem → Option (Int32 × Mem)) : Nat → Int32 → Int32 → Int32 → Int32 → Int32 → Mem → Option (Int32 × Mem)
  | 0, _, _, _, _, _, _ => none
  | g + 1, v2, v3, v4, v5, v6, μ =>
  (if (μ 0 7) ≤ v6 then
  k63_122 v2 v3 v4 v5 μ
  else
  chk ((33 : Int32) + v6) 49 (chk ((25 : Int32) + v6) 49 (bndO (f_X12_wifeOf G μ v6) (fun w14 =>
  (if w14 = (-1 : Int32) then
  f_X12_goes_j116 G (f_X12_goes_L63 G k63_122 g) k63_122 v2 (v3 + (μ 1 (ix ((33 : Int32) + v6)))) (v4 + (μ 1 (ix ((25 : Int32) + v6)))) v5 v6 μ
  else
  f_X12_goes_j116 G (f_X12_goes_L63 G k63_122 g) k63_122 v2 (v3 + (μ 1 (ix ((33 : Int32) + v6)))) (v4 + (μ 1 (ix ((25 : Int32) + v6)))) (v5 + (1 : Int32)) v6 μ)))))
set_option maxHeartbeats 4000000 in
set_option maxRecDepth 100000 in
theorem f_X12_goes_L63_ok  {G : Nat} {r : Int32} {μr : Mem}  {k63_122 : Int32 → Int32 → Int32 → Int32 → Mem → Option (Int32 × Mem)} (hk63_122 : ∀ (v2 : Int32) (v3 : Int32) (v4 : Int32) (v5 : Int32) (m : Mem), k63_122 v2 v3 v4 v5 m = some (r, μr) → Ev RX12 cX12_goes 7 (some .int) false 11 0 0 (eqP (some r) shR μr) 122 [some (.ref 0), none, some (.int v2), some (.int v3), some (.int v4), some (.int v5), none] [] shR m 0 0) : ∀ (g : Nat) (v2 v3 v4 v5 v6 : Int32) (μ : Mem), f_X12_goes_L63 G k63_122 g v2 v3 v4 v5 v6 μ = some (r, μr) → Ev RX12 cX12_goes 7 (some .int) false 11 0 0 (eqP (some r) shR μr) 63 [some (.ref 0), none, some (.int v2), some (.int v3), some (.int v4), some (.int v5), some (.int v6)] [] shR μ 0 0 := by
  intro g
  induction g with
  | zero =>
    intro v2 v3 v4 v5 v6 μ h
    cases h
  | succ g ih =>
    intro v2 v3 v4 v5 v6 μ h
    rw [f_X12_goes_L63] at h
    refine ev_iload dX12_goes_63 rfl ?_
    refine ev_aload_n dX12_goes_65 rfl ?_
    refine ev_getI fr_X12_164 shR_0 rfl dX12_goes_66 ?_
    refine ev_icmp_ge (tgt := 122) dX12_goes_69 (by decide) (fun hc10 => ?_) (fun hc10 => ?_)
    · replace h := ite_t hc10 h
      exact ev_lt (hk63_122 _ _ _ _ _ h) ⟨rfl, ⟨rfl, ⟨rfl, ⟨rfl, ⟨rfl, trivial⟩⟩⟩⟩⟩
    · replace h := ite_f hc10 h
      refine ev_iload_n dX12_goes_72 rfl ?_
      refine ev_aload_n dX12_goes_73 rfl ?_
      refine ev_getR fr_X12_7 shR_0 rfl dX12_goes_74 ?_
      refine ev_bipush (v := (33 : Int32)) dX12_goes_77 (by decide) ?_
      refine ev_iload dX12_goes_79 rfl ?_
      refine ev_iadd dX12_goes_81 ?_
      obtain ⟨hi11, h⟩ := chk_t h
      refine ev_iald shR_1 hi11 dX12_goes_82 ?_
      refine ev_iadd dX12_goes_83 ?_
      refine ev_istore_n (loc' := [_, _, _, _, _, _, _]) dX12_goes_84 rfl (by decide) (by rfl) ?_
      refine ev_iload dX12_goes_85 rfl ?_
      refine ev_aload_n dX12_goes_87 rfl ?_
      refine ev_getR fr_X12_7 shR_0 rfl dX12_goes_88 ?_
      refine ev_bipush (v := (25 : Int32)) dX12_goes_91 (by decide) ?_
      refine ev_iload dX12_goes_93 rfl ?_
      refine ev_iadd dX12_goes_95 ?_
      obtain ⟨hi12, h⟩ := chk_t h
      refine ev_iald shR_1 hi12 dX12_goes_96 ?_
      refine ev_iadd dX12_goes_97 ?_
      refine ev_istore (loc' := [_, _, _, _, _, _, _]) dX12_goes_98 rfl (by decide) (by rfl) ?_
      refine ev_aload_n dX12_goes_100 rfl ?_
      refine ev_iload dX12_goes_101 rfl ?_
      obtain ⟨w14, hq13, h⟩ := bndO_t h
      refine ev_cVi mv_X12_381 dX12_goes_103 (c_X12_wifeOf hq13) rfl shR_0 rfl rfl (Nat.le_of_ble_eq_true rfl) (by rfl) (Nat.le_of_ble_eq_true rfl) (Nat.le_of_ble_eq_true rfl) (Nat.le_of_ble_eq_true rfl) ?_
      refine ev_iconst (v := (-1 : Int32)) dX12_goes_106 (by decide) ?_
      refine ev_icmp_eq (tgt := 116) dX12_goes_107 (by decide) (fun hc15 => ?_) (fun hc15 => ?_)
      · replace h := ite_t hc15 h
        exact ev_lt (f_X12_goes_j116_ok ih hk63_122 h) ⟨rfl, ⟨rfl, ⟨rfl, ⟨rfl, ⟨rfl, ⟨rfl, trivial⟩⟩⟩⟩⟩⟩
      · replace h := ite_f hc15 h
        refine ev_iload dX12_goes_110 rfl ?_
        refine ev_iconst (v := (1 : Int32)) dX12_goes_112 (by decide) ?_
        refine ev_iadd dX12_goes_113 ?_
        refine ev_istore (loc' := [_, _, _, _, _, _, _]) dX12_goes_114 rfl (by decide) (by rfl) ?_
        exact ev_lt (f_X12_goes_j116_ok ih hk63_122 h) ⟨rfl, ⟨rfl, ⟨rfl, ⟨rfl, ⟨rfl, ⟨rfl, trivial⟩⟩⟩⟩⟩⟩
def f_X12_goes_j122 (G : Nat)  (v2 v3 v4 v5 : Int32) (μ : Mem) : Option (Int32 × Mem) :=
  (if v2 = (0 : Int32) then
  bndV (f_X12_endsThought G μ) (fun m26 =>
  some ((μ 1 3), m26))
  else
  (if v2 = (1 : Int32) then
  bndV (f_X12_endsThought G μ) (fun m24 =>
  some (v3, m24))
  else
  (if v2 = (2 : Int32) then
  bndV (f_X12_endsThought G μ) (fun m22 =>
  some (v4, m22))
  else
  bndV (f_X12_endsThought G μ) (fun m20 =>
  some (v5, m20)))))
set_option maxHeartbeats 4000000 in
set_option maxRecDepth 100000 in
theorem f_X12_goes_j122_ok  {G : Nat} {r : Int32} {μr : Mem}    {v2 v3 v4 v5 : Int32} {μ : Mem} (h : f_X12_goes_j122 G v2 v3 v4 v5 μ = some (r, μr)) : Ev RX12 cX12_goes 7 (some .int) false 11 0 0 (eqP (some r) shR μr) 122 [some (.ref 0), none, some (.int v2), some (.int v3), some (.int v4), some (.int v5), none] [] shR μ 0 0 := by
  unfold f_X12_goes_j122 at h
  refine ev_iload_n dX12_goes_122 rfl ?_
  refine ev_if_ne (tgt := 135) dX12_goes_123 (by decide) (fun hc16 => ?_) (fun hc16 => ?_)
  · replace h := ite_f hc16 h
    refine ev_iload_n dX12_goes_135 rfl ?_
    refine ev_iconst (v := (1 : Int32)) dX12_goes_136 (by decide) ?_
    refine ev_icmp_ne (tgt := 144) dX12_goes_137 (by decide) (fun hc17 => ?_) (fun hc17 => ?_)
    · replace h := ite_f hc17 h
      refine ev_iload_n dX12_goes_144 rfl ?_
      refine ev_iconst (v := (2 : Int32)) dX12_goes_145 (by decide) ?_
      refine ev_icmp_ne (tgt := 154) dX12_goes_146 (by decide) (fun hc18 => ?_) (fun hc18 => ?_)
      · replace h := ite_f hc18 h
        refine ev_iload dX12_goes_154 rfl ?_
        refine ev_istore (loc' := [_, _, _, _, _, _, _]) dX12_goes_156 rfl (by decide) (by rfl) ?_
        refine ev_aload_n dX12_goes_158 rfl ?_
        obtain ⟨m20, hq19, h⟩ := bndV_t h
        refine ev_cVv mv_X12_421 dX12_goes_159 (c_X12_endsThought hq19) rfl shR_0 rfl rfl (Nat.le_of_ble_eq_true rfl) (by rfl) (Nat.le_of_ble_eq_true rfl) (Nat.le_of_ble_eq_true rfl) (Nat.le_of_ble_eq_true rfl) ?_
        refine ev_iload dX12_goes_162 rfl ?_
        exact ev_iret rfl rfl (by decide) (by decide) dX12_goes_164 (eqP_E h)
      · replace h := ite_t hc18 h
        refine ev_iload dX12_goes_149 rfl ?_
        refine ev_goto (tgt := 156) dX12_goes_151 (by decide) ?_
        refine ev_istore (loc' := [_, _, _, _, _, _, _]) dX12_goes_156 rfl (by decide) (by rfl) ?_
        refine ev_aload_n dX12_goes_158 rfl ?_
        obtain ⟨m22, hq21, h⟩ := bndV_t h
        refine ev_cVv mv_X12_421 dX12_goes_159 (c_X12_endsThought hq21) rfl shR_0 rfl rfl (Nat.le_of_ble_eq_true rfl) (by rfl) (Nat.le_of_ble_eq_true rfl) (Nat.le_of_ble_eq_true rfl) (Nat.le_of_ble_eq_true rfl) ?_
        refine ev_iload dX12_goes_162 rfl ?_
        exact ev_iret rfl rfl (by decide) (by decide) dX12_goes_164 (eqP_E h)
    · replace h := ite_t hc17 h
      refine ev_iload_n dX12_goes_140 rfl ?_
      refine ev_goto (tgt := 156) dX12_goes_141 (by decide) ?_
      refine ev_istore (loc' := [_, _, _, _, _, _, _]) dX12_goes_156 rfl (by decide) (by rfl) ?_
      refine ev_aload_n dX12_goes_158 rfl ?_
      obtain ⟨m24, hq23, h⟩ := bndV_t h
      refine ev_cVv mv_X12_421 dX12_goes_159 (c_X12_endsThought hq23) rfl shR_0 rfl rfl (Nat.le_of_ble_eq_true rfl) (by rfl) (Nat.le_of_ble_eq_true rfl) (Nat.le_of_ble_eq_true rfl) (Nat.le_of_ble_eq_true rfl) ?_
      refine ev_iload dX12_goes_162 rfl ?_
      exact ev_iret rfl rfl (by decide) (by decide) dX12_goes_164 (eqP_E h)
  · replace h := ite_t hc16 h
    refine ev_aload_n dX12_goes_126 rfl ?_
    refine ev_getR fr_X12_7 shR_0 rfl dX12_goes_127 ?_
    refine ev_iconst (v := (3 : Int32)) dX12_goes_130 (by decide) ?_
    refine ev_ialdL (j := 3) shR_1 (by decide) (vpl _ _ (by decide)) dX12_goes_131 ?_
    refine ev_goto (tgt := 156) dX12_goes_132 (by decide) ?_
    refine ev_istore (loc' := [_, _, _, _, _, _, _]) dX12_goes_156 rfl (by decide) (by rfl) ?_
    refine ev_aload_n dX12_goes_158 rfl ?_
    obtain ⟨m26, hq25, h⟩ := bndV_t h
    refine ev_cVv mv_X12_421 dX12_goes_159 (c_X12_endsThought hq25) rfl shR_0 rfl rfl (Nat.le_of_ble_eq_true rfl) (by rfl) (Nat.le_of_ble_eq_true rfl) (Nat.le_of_ble_eq_true rfl) (Nat.le_of_ble_eq_true rfl) ?_
    refine ev_iload dX12_goes_162 rfl ?_
    exact ev_iret rfl rfl (by decide) (by decide) dX12_goes_164 (eqP_E h)
def f_X12_goes_j52 (G : Nat)  (v2 : Int32) (μ : Mem) : Option (Int32 × Mem) :=
  f_X12_goes_L63 G (f_X12_goes_j122 G) G v2 (0 : Int32) (0 : Int32) (0 : Int32) (0 : Int32) μ
set_option maxHeartbeats 4000000 in
set_option maxRecDepth 100000 in
theorem f_X12_goes_j52_ok  {G : Nat} {r : Int32} {μr : Mem}    {v2 : Int32} {μ : Mem} (h : f_X12_goes_j52 G v2 μ = some (r, μr)) : Ev RX12 cX12_goes 7 (some .int) false 11 0 0 (eqP (some r) shR μr) 52 [some (.ref 0), none, some (.int v2), none, none, none, none] [] shR μ 0 0 := by
  unfold f_X12_goes_j52 at h
  refine ev_iconst (v := (0 : Int32)) dX12_goes_52 (by decide) ?_
  refine ev_istore_n (loc' := [_, _, _, _, _, _, _]) dX12_goes_53 rfl (by decide) (by rfl) ?_
  refine ev_iconst (v := (0 : Int32)) dX12_goes_54 (by decide) ?_
  refine ev_istore (loc' := [_, _, _, _, _, _, _]) dX12_goes_55 rfl (by decide) (by rfl) ?_
  refine ev_iconst (v := (0 : Int32)) dX12_goes_57 (by decide) ?_
  refine ev_istore (loc' := [_, _, _, _, _, _, _]) dX12_goes_58 rfl (by decide) (by rfl) ?_
  refine ev_iconst (v := (0 : Int32)) dX12_goes_60 (by decide) ?_
  refine ev_istore (loc' := [_, _, _, _, _, _, _]) dX12_goes_61 rfl (by decide) (by rfl) ?_
  exact ev_lt (f_X12_goes_L63_ok (fun _ _ _ _ _ hh => f_X12_goes_j122_ok hh) _ _ _ _ _ _ _ h) ⟨rfl, ⟨rfl, ⟨rfl, ⟨rfl, ⟨rfl, ⟨rfl, trivial⟩⟩⟩⟩⟩⟩
def f_X12_goes (G : Nat) (p1 p2 : Int32) (μ : Mem) : Option (Int32 × Mem) :=
  (let m1 := wr μ 0 0 (0 : Int32)
  (if (f_X12_isIn p1 (1 : Int32) (60 : Int32)) = (0 : Int32) then
  some ((-10000 : Int32), m1)
  else
  (if (f_X12_isIn p2 (0 : Int32) (3 : Int32)) = (0 : Int32) then
  some ((-10000 : Int32), m1)
  else
  bndV (f_X12_thinks G m1) (fun m5 =>
  f_X12_goes_L36 G (f_X12_goes_j52 G) G p1 p2 (0 : Int32) m5))))
set_option maxHeartbeats 4000000 in
set_option maxRecDepth 100000 in
theorem c_X12_goes  {G : Nat} {μ : Mem} {p1 p2 : Int32} {r : Int32} {μr : Mem}  (h : f_X12_goes G p1 p2 μ = some (r, μr)) : Cn yX12_goes cX12_goes 7 (some .int) 11 0 0 [.ref 0, .int p1, .int p2] shR μ (eqP (some r) shR μr) := by
  refine cn_of (own := RX12) (ini := false) (loc := [some (.ref 0), some (.int p1), some (.int p2), none, none, none, none]) rfl (by decide) (fun q => by cases q) (Nat.le_of_ble_eq_true rfl) (by rfl) rfl ?_
  unfold f_X12_goes at h
  refine ev_aload_n dX12_goes_0 rfl ?_
  refine ev_iconst (v := (0 : Int32)) dX12_goes_1 (by decide) ?_
  refine ev_putI fr_X12_149 shR_0 rfl rfl rfl dX12_goes_2 ?_
  refine ev_aload_n dX12_goes_5 rfl ?_
  refine ev_iload_n dX12_goes_6 rfl ?_
  refine ev_iconst (v := (1 : Int32)) dX12_goes_7 (by decide) ?_
  refine ev_bipush (v := (60 : Int32)) dX12_goes_8 (by decide) ?_
  refine ev_cVi mv_X12_167 dX12_goes_10 c_X12_isIn rfl shR_0 rfl rfl (Nat.le_of_ble_eq_true rfl) (by rfl) (Nat.le_of_ble_eq_true rfl) (Nat.le_of_ble_eq_true rfl) (Nat.le_of_ble_eq_true rfl) ?_
  refine ev_if_eq (tgt := 26) dX12_goes_13 (by decide) (fun hc2 => ?_) (fun hc2 => ?_)
  · replace h := ite_t hc2 h
    refine ev_sipush (v := (-10000 : Int32)) dX12_goes_26 (by decide) ?_
    exact ev_iret rfl rfl (by decide) (by decide) dX12_goes_29 (eqP_E h)
  · replace h := ite_f hc2 h
    refine ev_aload_n dX12_goes_16 rfl ?_
    refine ev_iload_n dX12_goes_17 rfl ?_
    refine ev_iconst (v := (0 : Int32)) dX12_goes_18 (by decide) ?_
    refine ev_iconst (v := (3 : Int32)) dX12_goes_19 (by decide) ?_
    refine ev_cVi mv_X12_167 dX12_goes_20 c_X12_isIn rfl shR_0 rfl rfl (Nat.le_of_ble_eq_true rfl) (by rfl) (Nat.le_of_ble_eq_true rfl) (Nat.le_of_ble_eq_true rfl) (Nat.le_of_ble_eq_true rfl) ?_
    refine ev_if_ne (tgt := 30) dX12_goes_23 (by decide) (fun hc3 => ?_) (fun hc3 => ?_)
    · replace h := ite_f hc3 h
      refine ev_aload_n dX12_goes_30 rfl ?_
      obtain ⟨m5, hq4, h⟩ := bndV_t h
      refine ev_cVv mv_X12_418 dX12_goes_31 (c_X12_thinks hq4) rfl shR_0 rfl rfl (Nat.le_of_ble_eq_true rfl) (by rfl) (Nat.le_of_ble_eq_true rfl) (Nat.le_of_ble_eq_true rfl) (Nat.le_of_ble_eq_true rfl) ?_
      refine ev_iconst (v := (0 : Int32)) dX12_goes_34 (by decide) ?_
      refine ev_istore_n (loc' := [_, _, _, _, _, _, _]) dX12_goes_35 rfl (by decide) (by rfl) ?_
      exact ev_lt (f_X12_goes_L36_ok (fun _ _ hh => f_X12_goes_j52_ok hh) _ _ _ _ _ h) ⟨rfl, ⟨rfl, ⟨rfl, ⟨rfl, trivial⟩⟩⟩⟩
    · replace h := ite_t hc3 h
      refine ev_sipush (v := (-10000 : Int32)) dX12_goes_26 (by decide) ?_
      exact ev_iret rfl rfl (by decide) (by decide) dX12_goes_29 (eqP_E h)
def f_X12_tellsBy_j64 (G : Nat) (r23 : Int32 → Int32 → Int32 → Int32 → Int32 → Int32 → Mem → Option (Int32 × Mem)) (v1 v2 v3 v4 v5 v6 : Int32) (μ : Mem) : Option (Int32 × Mem) :=
  r23 v1 v2 v3 v4 v5 (v6 + (1 : Int32)) μ
set_option maxHeartbeats 4000000 in
set_option maxRecDepth 100000 in
theorem f_X12_tellsBy_j64_ok  {G : Nat} {r : Int32} {μr : Mem}  {r23 : Int32 → Int32 → Int32 → Int32 → Int32 → Int32 → Mem → Option (Int32 × Mem)} (hr23 : ∀ (v1 : Int32) (v2 : Int32) (v3 : Int32) (v4 : Int32) (v5 : Int32) (v6 : Int32) (m : Mem), r23 v1 v2 v3 v4 v5 v6 m = some (r, μr) → Ev RX12 cX12_tellsBy 7 (some .int) false 6 0 0 (eqP (some r) shR μr) 23 [some (.ref 0), some (.int v1), some (.int v2), some (.int v3), some (.int v4), some (.int v5), some (.int v6)] [] shR m 0 0) {v1 v2 v3 v4 v5 v6 : Int32} {μ : Mem} (h : f_X12_tellsBy_j64 G r23 v1 v2 v3 v4 v5 v6 μ = some (r, μr)) : Ev RX12 cX12_tellsBy 7 (some .int) false 6 0 0 (eqP (some r) shR μr) 64 [some (.ref 0), some (.int v1), some (.int v2), some (.int v3), some (.int v4), some (.int v5), some (.int v6)] [] shR μ 0 0 := by
  unfold f_X12_tellsBy_j64 at h
  refine ev_iinc (cq := (1 : Int32)) (loc' := [_, _, _, _, _, _, _]) dX12_tellsBy_64 rfl (by decide) rfl (by decide) (by rfl) ?_
  refine ev_goto (tgt := 23) dX12_tellsBy_67 (by decide) ?_
  exact ev_lt (hr23 _ _ _ _ _ _ _ h) ⟨rfl, ⟨rfl, ⟨rfl, ⟨rfl, ⟨rfl, ⟨rfl, ⟨rfl, trivial⟩⟩⟩⟩⟩⟩⟩
def f_X12_tellsBy_L23 (G : Nat)  : Nat → Int32 → Int32 → Int32 → Int32 → Int32 → Int32 → Mem → Option (Int32 × Mem)
  | 0, _, _, _, _, _, _, _ => none
  | g + 1, v1, v2, v3, v4, v5, v6, μ =>
  (if (3 : Int32) ≤ v6 then
  some (v4, μ)
  else
  (if v6 = v3 then
  f_X12_tellsBy_j64 G (f_X12_tellsBy_L23 G g) v1 v2 v3 v4 v5 v6 μ
  else
  chk v6 3 (bndE (f_X12_yesOf G v1 (μ 25 (ix v6)) v2 v6 μ) (fun w10 m9 =>
  f_X12_tellsBy_j64 G (f_X12_tellsBy_L23 G g) v1 v2 v3 (f_X12_lesser v4 (f_X12_apart v5 w10)) v5 v6 m9))))
set_option maxHeartbeats 4000000 in
set_option maxRecDepth 100000 in
theorem f_X12_tellsBy_L23_ok  {G : Nat} {r : Int32} {μr : Mem}    : ∀ (g : Nat) (v1 v2 v3 v4 v5 v6 : Int32) (μ : Mem), f_X12_tellsBy_L23 G g v1 v2 v3 v4 v5 v6 μ = some (r, μr) → Ev RX12 cX12_tellsBy 7 (some .int) false 6 0 0 (eqP (some r) shR μr) 23 [some (.ref 0), some (.int v1), some (.int v2), some (.int v3), some (.int v4), some (.int v5), some (.int v6)] [] shR μ 0 0 := by
  intro g
  induction g with
  | zero =>
    intro v1 v2 v3 v4 v5 v6 μ h
    cases h
  | succ g ih =>
    intro v1 v2 v3 v4 v5 v6 μ h
    rw [f_X12_tellsBy_L23] at h
    refine ev_iload dX12_tellsBy_23 rfl ?_
    refine ev_iconst (v := (3 : Int32)) dX12_tellsBy_25 (by decide) ?_
    refine ev_icmp_ge (tgt := 70) dX12_tellsBy_26 (by decide) (fun hc5 => ?_) (fun hc5 => ?_)
    · replace h := ite_t hc5 h
      refine ev_iload dX12_tellsBy_70 rfl ?_
      exact ev_iret rfl rfl (by decide) (by decide) dX12_tellsBy_72 (eqP_E h)
    · replace h := ite_f hc5 h
      refine ev_iload dX12_tellsBy_29 rfl ?_
      refine ev_iload_n dX12_tellsBy_31 rfl ?_
      refine ev_icmp_eq (tgt := 64) dX12_tellsBy_32 (by decide) (fun hc6 => ?_) (fun hc6 => ?_)
      · replace h := ite_t hc6 h
        exact ev_lt (f_X12_tellsBy_j64_ok ih h) ⟨rfl, ⟨rfl, ⟨rfl, ⟨rfl, ⟨rfl, ⟨rfl, ⟨rfl, trivial⟩⟩⟩⟩⟩⟩⟩
      · replace h := ite_f hc6 h
        refine ev_aload_n dX12_tellsBy_35 rfl ?_
        refine ev_iload dX12_tellsBy_36 rfl ?_
        refine ev_aload_n dX12_tellsBy_38 rfl ?_
        refine ev_iload dX12_tellsBy_39 rfl ?_
        refine ev_aload_n dX12_tellsBy_41 rfl ?_
        refine ev_iload_n dX12_tellsBy_42 rfl ?_
        refine ev_aload_n dX12_tellsBy_43 rfl ?_
        refine ev_getR fr_X12_86 shR_0 rfl dX12_tellsBy_44 ?_
        refine ev_iload dX12_tellsBy_47 rfl ?_
        obtain ⟨hi7, h⟩ := chk_t h
        refine ev_iald shR_25 hi7 dX12_tellsBy_49 ?_
        refine ev_iload_n dX12_tellsBy_50 rfl ?_
        refine ev_iload dX12_tellsBy_51 rfl ?_
        obtain ⟨w10, m9, hq8, h⟩ := bndE_t h
        refine ev_cVi mv_X12_354 dX12_tellsBy_53 (c_X12_yesOf hq8) rfl shR_0 rfl rfl (Nat.le_of_ble_eq_true rfl) (by rfl) (Nat.le_of_ble_eq_true rfl) (Nat.le_of_ble_eq_true rfl) (Nat.le_of_ble_eq_true rfl) ?_
        refine ev_cVi mv_X12_425 dX12_tellsBy_56 c_X12_apart rfl shR_0 rfl rfl (Nat.le_of_ble_eq_true rfl) (by rfl) (Nat.le_of_ble_eq_true rfl) (Nat.le_of_ble_eq_true rfl) (Nat.le_of_ble_eq_true rfl) ?_
        refine ev_cVi mv_X12_428 dX12_tellsBy_59 c_X12_lesser rfl shR_0 rfl rfl (Nat.le_of_ble_eq_true rfl) (by rfl) (Nat.le_of_ble_eq_true rfl) (Nat.le_of_ble_eq_true rfl) (Nat.le_of_ble_eq_true rfl) ?_
        refine ev_istore (loc' := [_, _, _, _, _, _, _]) dX12_tellsBy_62 rfl (by decide) (by rfl) ?_
        exact ev_lt (f_X12_tellsBy_j64_ok ih h) ⟨rfl, ⟨rfl, ⟨rfl, ⟨rfl, ⟨rfl, ⟨rfl, ⟨rfl, trivial⟩⟩⟩⟩⟩⟩⟩
def f_X12_tellsBy (G : Nat) (p1 p2 p3 : Int32) (μ : Mem) : Option (Int32 × Mem) :=
  chk p3 3 (bndE (f_X12_yesOf G p1 (μ 25 (ix p3)) p2 p3 μ) (fun w4 m3 =>
  f_X12_tellsBy_L23 G G p1 p2 p3 (100000000 : Int32) w4 (0 : Int32) m3))
set_option maxHeartbeats 4000000 in
set_option maxRecDepth 100000 in
theorem c_X12_tellsBy  {G : Nat} {μ : Mem} {p1 p2 p3 : Int32} {r : Int32} {μr : Mem}  (h : f_X12_tellsBy G p1 p2 p3 μ = some (r, μr)) : Cn yX12_tellsBy cX12_tellsBy 7 (some .int) 6 0 0 [.ref 0, .int p1, .int p2, .int p3] shR μ (eqP (some r) shR μr) := by
  refine cn_of (own := RX12) (ini := false) (loc := [some (.ref 0), some (.int p1), some (.int p2), some (.int p3), none, none, none]) rfl (by decide) (fun q => by cases q) (Nat.le_of_ble_eq_true rfl) (by rfl) rfl ?_
  unfold f_X12_tellsBy at h
  refine ev_ldcw dX12_tellsBy_0 kc_X12_424 ?_
  refine ev_istore (loc' := [_, _, _, _, _, _, _]) dX12_tellsBy_3 rfl (by decide) (by rfl) ?_
  refine ev_aload_n dX12_tellsBy_5 rfl ?_
  refine ev_iload_n dX12_tellsBy_6 rfl ?_
  refine ev_aload_n dX12_tellsBy_7 rfl ?_
  refine ev_getR fr_X12_86 shR_0 rfl dX12_tellsBy_8 ?_
  refine ev_iload_n dX12_tellsBy_11 rfl ?_
  obtain ⟨hi1, h⟩ := chk_t h
  refine ev_iald shR_25 hi1 dX12_tellsBy_12 ?_
  refine ev_iload_n dX12_tellsBy_13 rfl ?_
  refine ev_iload_n dX12_tellsBy_14 rfl ?_
  obtain ⟨w4, m3, hq2, h⟩ := bndE_t h
  refine ev_cVi mv_X12_354 dX12_tellsBy_15 (c_X12_yesOf hq2) rfl shR_0 rfl rfl (Nat.le_of_ble_eq_true rfl) (by rfl) (Nat.le_of_ble_eq_true rfl) (Nat.le_of_ble_eq_true rfl) (Nat.le_of_ble_eq_true rfl) ?_
  refine ev_istore (loc' := [_, _, _, _, _, _, _]) dX12_tellsBy_18 rfl (by decide) (by rfl) ?_
  refine ev_iconst (v := (0 : Int32)) dX12_tellsBy_20 (by decide) ?_
  refine ev_istore (loc' := [_, _, _, _, _, _, _]) dX12_tellsBy_21 rfl (by decide) (by rfl) ?_
  exact ev_lt (f_X12_tellsBy_L23_ok _ _ _ _ _ _ _ _ h) ⟨rfl, ⟨rfl, ⟨rfl, ⟨rfl, ⟨rfl, ⟨rfl, ⟨rfl, trivial⟩⟩⟩⟩⟩⟩⟩
def f_X12_tells_j84 (G : Nat) (r58 : Int32 → Int32 → Int32 → Int32 → Mem → Option (Int32 × Mem)) (k58_90 : Int32 → Int32 → Int32 → Mem → Option (Int32 × Mem)) (v1 v5 v6 v7 : Int32) (μ : Mem) : Option (Int32 × Mem) :=
  r58 v1 v5 v6 (v7 + (1 : Int32)) μ
set_option maxHeartbeats 4000000 in
set_option maxRecDepth 100000 in
theorem f_X12_tells_j84_ok  {G : Nat} {r : Int32} {μr : Mem}  {r58 : Int32 → Int32 → Int32 → Int32 → Mem → Option (Int32 × Mem)} {k58_90 : Int32 → Int32 → Int32 → Mem → Option (Int32 × Mem)} (hr58 : ∀ (v1 : Int32) (v5 : Int32) (v6 : Int32) (v7 : Int32) (m : Mem), r58 v1 v5 v6 v7 m = some (r, μr) → Ev RX12 cX12_tells 9 (some .int) false 7 0 0 (eqP (some r) shR μr) 58 [some (.ref 0), some (.int v1), none, none, none, some (.int v5), some (.int v6), some (.int v7), none] [] shR m 0 0) (hk58_90 : ∀ (v1 : Int32) (v5 : Int32) (v6 : Int32) (m : Mem), k58_90 v1 v5 v6 m = some (r, μr) → Ev RX12 cX12_tells 9 (some .int) false 7 0 0 (eqP (some r) shR μr) 90 [some (.ref 0), some (.int v1), none, none, none, some (.int v5), some (.int v6), none, none] [] shR m 0 0) {v1 v5 v6 v7 : Int32} {μ : Mem} (h : f_X12_tells_j84 G r58 k58_90 v1 v5 v6 v7 μ = some (r, μr)) : Ev RX12 cX12_tells 9 (some .int) false 7 0 0 (eqP (some r) shR μr) 84 [some (.ref 0), some (.int v1), none, none, none, some (.int v5), some (.int v6), some (.int v7), none] [] shR μ 0 0 := by
  unfold f_X12_tells_j84 at h
  refine ev_iinc (cq := (1 : Int32)) (loc' := [_, _, _, _, _, _, _, _, _]) dX12_tells_84 rfl (by decide) rfl (by decide) (by rfl) ?_
  refine ev_goto (tgt := 58) dX12_tells_87 (by decide) ?_
  exact ev_lt (hr58 _ _ _ _ _ h) ⟨rfl, ⟨rfl, ⟨rfl, ⟨rfl, ⟨rfl, trivial⟩⟩⟩⟩⟩
def f_X12_tells_L58 (G : Nat) (k58_90 : Int32 → Int32 → Int32 → Mem → Option (Int32 × Mem)) : Nat → Int32 → Int32 → Int32 → Int32 → Mem → Option (Int32 × Mem)
  | 0, _, _, _, _, _ => none
  | g + 1, v1, v5, v6, v7, μ =>
  (if (3 : Int32) ≤ v7 then
  k58_90 v1 v5 v6 μ
  else
  chk v7 3 (chk v1 8 ((if (μ 25 (ix v7)) = (μ 8 (ix v1)) then
  f_X12_tells_j84 G (f_X12_tells_L58 G k58_90 g) k58_90 v1 v5 v7 v7 μ
  else
  f_X12_tells_j84 G (f_X12_tells_L58 G k58_90 g) k58_90 v1 v5 v6 v7 μ))))
set_option maxHeartbeats 4000000 in
set_option maxRecDepth 100000 in
theorem f_X12_tells_L58_ok  {G : Nat} {r : Int32} {μr : Mem}  {k58_90 : Int32 → Int32 → Int32 → Mem → Option (Int32 × Mem)} (hk58_90 : ∀ (v1 : Int32) (v5 : Int32) (v6 : Int32) (m : Mem), k58_90 v1 v5 v6 m = some (r, μr) → Ev RX12 cX12_tells 9 (some .int) false 7 0 0 (eqP (some r) shR μr) 90 [some (.ref 0), some (.int v1), none, none, none, some (.int v5), some (.int v6), none, none] [] shR m 0 0) : ∀ (g : Nat) (v1 v5 v6 v7 : Int32) (μ : Mem), f_X12_tells_L58 G k58_90 g v1 v5 v6 v7 μ = some (r, μr) → Ev RX12 cX12_tells 9 (some .int) false 7 0 0 (eqP (some r) shR μr) 58 [some (.ref 0), some (.int v1), none, none, none, some (.int v5), some (.int v6), some (.int v7), none] [] shR μ 0 0 := by
  intro g
  induction g with
  | zero =>
    intro v1 v5 v6 v7 μ h
    cases h
  | succ g ih =>
    intro v1 v5 v6 v7 μ h
    rw [f_X12_tells_L58] at h
    refine ev_iload dX12_tells_58 rfl ?_
    refine ev_iconst (v := (3 : Int32)) dX12_tells_60 (by decide) ?_
    refine ev_icmp_ge (tgt := 90) dX12_tells_61 (by decide) (fun hc8 => ?_) (fun hc8 => ?_)
    · replace h := ite_t hc8 h
      exact ev_lt (hk58_90 _ _ _ _ h) ⟨rfl, ⟨rfl, ⟨rfl, ⟨rfl, trivial⟩⟩⟩⟩
    · replace h := ite_f hc8 h
      refine ev_aload_n dX12_tells_64 rfl ?_
      refine ev_getR fr_X12_86 shR_0 rfl dX12_tells_65 ?_
      refine ev_iload dX12_tells_68 rfl ?_
      obtain ⟨hi9, h⟩ := chk_t h
      refine ev_iald shR_25 hi9 dX12_tells_70 ?_
      refine ev_aload_n dX12_tells_71 rfl ?_
      refine ev_getR fr_X12_31 shR_0 rfl dX12_tells_72 ?_
      refine ev_iload_n dX12_tells_75 rfl ?_
      obtain ⟨hi10, h⟩ := chk_t h
      refine ev_iald shR_8 hi10 dX12_tells_76 ?_
      refine ev_icmp_ne (tgt := 84) dX12_tells_77 (by decide) (fun hc11 => ?_) (fun hc11 => ?_)
      · replace h := ite_f hc11 h
        exact ev_lt (f_X12_tells_j84_ok ih hk58_90 h) ⟨rfl, ⟨rfl, ⟨rfl, ⟨rfl, ⟨rfl, trivial⟩⟩⟩⟩⟩
      · replace h := ite_t hc11 h
        refine ev_iload dX12_tells_80 rfl ?_
        refine ev_istore (loc' := [_, _, _, _, _, _, _, _, _]) dX12_tells_82 rfl (by decide) (by rfl) ?_
        exact ev_lt (f_X12_tells_j84_ok ih hk58_90 h) ⟨rfl, ⟨rfl, ⟨rfl, ⟨rfl, ⟨rfl, trivial⟩⟩⟩⟩⟩
def f_X12_tells_j138 (G : Nat) (r104 : Int32 → Int32 → Int32 → Int32 → Int32 → Mem → Option (Int32 × Mem)) (k104_144 : Int32 → Int32 → Int32 → Int32 → Mem → Option (Int32 × Mem)) (v1 v5 v6 v7 v8 : Int32) (μ : Mem) : Option (Int32 × Mem) :=
  r104 v1 v5 v6 v7 (v8 + (1 : Int32)) μ
set_option maxHeartbeats 4000000 in
set_option maxRecDepth 100000 in
theorem f_X12_tells_j138_ok  {G : Nat} {r : Int32} {μr : Mem}  {r104 : Int32 → Int32 → Int32 → Int32 → Int32 → Mem → Option (Int32 × Mem)} {k104_144 : Int32 → Int32 → Int32 → Int32 → Mem → Option (Int32 × Mem)} (hr104 : ∀ (v1 : Int32) (v5 : Int32) (v6 : Int32) (v7 : Int32) (v8 : Int32) (m : Mem), r104 v1 v5 v6 v7 v8 m = some (r, μr) → Ev RX12 cX12_tells 9 (some .int) false 7 0 0 (eqP (some r) shR μr) 104 [some (.ref 0), some (.int v1), none, none, none, some (.int v5), some (.int v6), some (.int v7), some (.int v8)] [] shR m 0 0) (hk104_144 : ∀ (v1 : Int32) (v5 : Int32) (v6 : Int32) (v7 : Int32) (m : Mem), k104_144 v1 v5 v6 v7 m = some (r, μr) → Ev RX12 cX12_tells 9 (some .int) false 7 0 0 (eqP (some r) shR μr) 144 [some (.ref 0), some (.int v1), none, none, none, some (.int v5), some (.int v6), some (.int v7), none] [] shR m 0 0) {v1 v5 v6 v7 v8 : Int32} {μ : Mem} (h : f_X12_tells_j138 G r104 k104_144 v1 v5 v6 v7 v8 μ = some (r, μr)) : Ev RX12 cX12_tells 9 (some .int) false 7 0 0 (eqP (some r) shR μr) 138 [some (.ref 0), some (.int v1), none, none, none, some (.int v5), some (.int v6), some (.int v7), some (.int v8)] [] shR μ 0 0 := by
  unfold f_X12_tells_j138 at h
  refine ev_iinc (cq := (1 : Int32)) (loc' := [_, _, _, _, _, _, _, _, _]) dX12_tells_138 rfl (by decide) rfl (by decide) (by rfl) ?_
  refine ev_goto (tgt := 104) dX12_tells_141 (by decide) ?_
  exact ev_lt (hr104 _ _ _ _ _ _ h) ⟨rfl, ⟨rfl, ⟨rfl, ⟨rfl, ⟨rfl, ⟨rfl, trivial⟩⟩⟩⟩⟩⟩
def f_X12_tells_L104 (G : Nat) (k104_144 : Int32 → Int32 → Int32 → Int32 → Mem → Option (Int32 × Mem)) : Nat → Int32 → Int32 → Int32 → Int32 → Int32 → Mem → Option (Int32 × Mem)
  | 0, _, _, _, _, _, _ => none
  | g + 1, v1, v5, v6, v7, v8, μ =>
  (if (μ 0 37) ≤ v8 then
  k104_144 v1 v5 v6 v7 μ
  else
  bndE (f_X12_tellsBy G v1 v8 v6 μ) (fun w16 m15 =>
  bndE (f_X12_tellsBy G v1 v7 v6 m15) (fun w19 m18 =>
  (if w16 ≤ w19 then
  f_X12_tells_j138 G (f_X12_tells_L104 G k104_144 g) k104_144 v1 v5 v6 v7 v8 m18
  else
  f_X12_tells_j138 G (f_X12_tells_L104 G k104_144 g) k104_144 v1 v5 v6 v8 v8 m18))))
set_option maxHeartbeats 4000000 in
set_option maxRecDepth 100000 in
theorem f_X12_tells_L104_ok  {G : Nat} {r : Int32} {μr : Mem}  {k104_144 : Int32 → Int32 → Int32 → Int32 → Mem → Option (Int32 × Mem)} (hk104_144 : ∀ (v1 : Int32) (v5 : Int32) (v6 : Int32) (v7 : Int32) (m : Mem), k104_144 v1 v5 v6 v7 m = some (r, μr) → Ev RX12 cX12_tells 9 (some .int) false 7 0 0 (eqP (some r) shR μr) 144 [some (.ref 0), some (.int v1), none, none, none, some (.int v5), some (.int v6), some (.int v7), none] [] shR m 0 0) : ∀ (g : Nat) (v1 v5 v6 v7 v8 : Int32) (μ : Mem), f_X12_tells_L104 G k104_144 g v1 v5 v6 v7 v8 μ = some (r, μr) → Ev RX12 cX12_tells 9 (some .int) false 7 0 0 (eqP (some r) shR μr) 104 [some (.ref 0), some (.int v1), none, none, none, some (.int v5), some (.int v6), some (.int v7), some (.int v8)] [] shR μ 0 0 := by
  intro g
  induction g with
  | zero =>
    intro v1 v5 v6 v7 v8 μ h
    cases h
  | succ g ih =>
    intro v1 v5 v6 v7 v8 μ h
    rw [f_X12_tells_L104] at h
    refine ev_iload dX12_tells_104 rfl ?_
    refine ev_aload_n dX12_tells_106 rfl ?_
    refine ev_getI fr_X12_317 shR_0 rfl dX12_tells_107 ?_
    refine ev_icmp_ge (tgt := 144) dX12_tells_110 (by decide) (fun hc13 => ?_) (fun hc13 => ?_)
    · replace h := ite_t hc13 h
      exact ev_lt (hk104_144 _ _ _ _ _ h) ⟨rfl, ⟨rfl, ⟨rfl, ⟨rfl, ⟨rfl, trivial⟩⟩⟩⟩⟩
    · replace h := ite_f hc13 h
      refine ev_aload_n dX12_tells_113 rfl ?_
      refine ev_iload_n dX12_tells_114 rfl ?_
      refine ev_iload dX12_tells_115 rfl ?_
      refine ev_iload dX12_tells_117 rfl ?_
      obtain ⟨w16, m15, hq14, h⟩ := bndE_t h
      refine ev_cVi mv_X12_431 dX12_tells_119 (c_X12_tellsBy hq14) rfl shR_0 rfl rfl (Nat.le_of_ble_eq_true rfl) (by rfl) (Nat.le_of_ble_eq_true rfl) (Nat.le_of_ble_eq_true rfl) (Nat.le_of_ble_eq_true rfl) ?_
      refine ev_aload_n dX12_tells_122 rfl ?_
      refine ev_iload_n dX12_tells_123 rfl ?_
      refine ev_iload dX12_tells_124 rfl ?_
      refine ev_iload dX12_tells_126 rfl ?_
      obtain ⟨w19, m18, hq17, h⟩ := bndE_t h
      refine ev_cVi mv_X12_431 dX12_tells_128 (c_X12_tellsBy hq17) rfl shR_0 rfl rfl (Nat.le_of_ble_eq_true rfl) (by rfl) (Nat.le_of_ble_eq_true rfl) (Nat.le_of_ble_eq_true rfl) (Nat.le_of_ble_eq_true rfl) ?_
      refine ev_icmp_le (tgt := 138) dX12_tells_131 (by decide) (fun hc20 => ?_) (fun hc20 => ?_)
      · replace h := ite_t hc20 h
        exact ev_lt (f_X12_tells_j138_ok ih hk104_144 h) ⟨rfl, ⟨rfl, ⟨rfl, ⟨rfl, ⟨rfl, ⟨rfl, trivial⟩⟩⟩⟩⟩⟩
      · replace h := ite_f hc20 h
        refine ev_iload dX12_tells_134 rfl ?_
        refine ev_istore (loc' := [_, _, _, _, _, _, _, _, _]) dX12_tells_136 rfl (by decide) (by rfl) ?_
        exact ev_lt (f_X12_tells_j138_ok ih hk104_144 h) ⟨rfl, ⟨rfl, ⟨rfl, ⟨rfl, ⟨rfl, ⟨rfl, trivial⟩⟩⟩⟩⟩⟩
def f_X12_tells_j144 (G : Nat)  (v1 v5 v6 v7 : Int32) (μ : Mem) : Option (Int32 × Mem) :=
  (if v5 = (0 : Int32) then
  some (v7, μ)
  else
  bndE (f_X12_tellsBy G v1 v7 v6 μ) (fun w24 m23 =>
  some (w24, m23)))
set_option maxHeartbeats 4000000 in
set_option maxRecDepth 100000 in
theorem f_X12_tells_j144_ok  {G : Nat} {r : Int32} {μr : Mem}    {v1 v5 v6 v7 : Int32} {μ : Mem} (h : f_X12_tells_j144 G v1 v5 v6 v7 μ = some (r, μr)) : Ev RX12 cX12_tells 9 (some .int) false 7 0 0 (eqP (some r) shR μr) 144 [some (.ref 0), some (.int v1), none, none, none, some (.int v5), some (.int v6), some (.int v7), none] [] shR μ 0 0 := by
  unfold f_X12_tells_j144 at h
  refine ev_iload dX12_tells_144 rfl ?_
  refine ev_if_ne (tgt := 154) dX12_tells_146 (by decide) (fun hc21 => ?_) (fun hc21 => ?_)
  · replace h := ite_f hc21 h
    refine ev_aload_n dX12_tells_154 rfl ?_
    refine ev_iload_n dX12_tells_155 rfl ?_
    refine ev_iload dX12_tells_156 rfl ?_
    refine ev_iload dX12_tells_158 rfl ?_
    obtain ⟨w24, m23, hq22, h⟩ := bndE_t h
    refine ev_cVi mv_X12_431 dX12_tells_160 (c_X12_tellsBy hq22) rfl shR_0 rfl rfl (Nat.le_of_ble_eq_true rfl) (by rfl) (Nat.le_of_ble_eq_true rfl) (Nat.le_of_ble_eq_true rfl) (Nat.le_of_ble_eq_true rfl) ?_
    exact ev_iret rfl rfl (by decide) (by decide) dX12_tells_163 (eqP_E h)
  · replace h := ite_t hc21 h
    refine ev_iload dX12_tells_149 rfl ?_
    refine ev_goto (tgt := 163) dX12_tells_151 (by decide) ?_
    exact ev_iret rfl rfl (by decide) (by decide) dX12_tells_163 (eqP_E h)
def f_X12_tells_j90 (G : Nat)  (v1 v5 v6 : Int32) (μ : Mem) : Option (Int32 × Mem) :=
  (if v6 = (-1 : Int32) then
  some ((-1 : Int32), μ)
  else
  f_X12_tells_L104 G (f_X12_tells_j144 G) G v1 v5 v6 (0 : Int32) (1 : Int32) μ)
set_option maxHeartbeats 4000000 in
set_option maxRecDepth 100000 in
theorem f_X12_tells_j90_ok  {G : Nat} {r : Int32} {μr : Mem}    {v1 v5 v6 : Int32} {μ : Mem} (h : f_X12_tells_j90 G v1 v5 v6 μ = some (r, μr)) : Ev RX12 cX12_tells 9 (some .int) false 7 0 0 (eqP (some r) shR μr) 90 [some (.ref 0), some (.int v1), none, none, none, some (.int v5), some (.int v6), none, none] [] shR μ 0 0 := by
  unfold f_X12_tells_j90 at h
  refine ev_iload dX12_tells_90 rfl ?_
  refine ev_iconst (v := (-1 : Int32)) dX12_tells_92 (by decide) ?_
  refine ev_icmp_ne (tgt := 98) dX12_tells_93 (by decide) (fun hc12 => ?_) (fun hc12 => ?_)
  · replace h := ite_f hc12 h
    refine ev_iconst (v := (0 : Int32)) dX12_tells_98 (by decide) ?_
    refine ev_istore (loc' := [_, _, _, _, _, _, _, _, _]) dX12_tells_99 rfl (by decide) (by rfl) ?_
    refine ev_iconst (v := (1 : Int32)) dX12_tells_101 (by decide) ?_
    refine ev_istore (loc' := [_, _, _, _, _, _, _, _, _]) dX12_tells_102 rfl (by decide) (by rfl) ?_
    exact ev_lt (f_X12_tells_L104_ok (fun _ _ _ _ _ hh => f_X12_tells_j144_ok hh) _ _ _ _ _ _ _ h) ⟨rfl, ⟨rfl, ⟨rfl, ⟨rfl, ⟨rfl, ⟨rfl, trivial⟩⟩⟩⟩⟩⟩
  · replace h := ite_t hc12 h
    refine ev_iconst (v := (-1 : Int32)) dX12_tells_96 (by decide) ?_
    exact ev_iret rfl rfl (by decide) (by decide) dX12_tells_97 (eqP_E h)
def f_X12_tells (G : Nat) (p1 p2 p3 p4 p5 : Int32) (μ : Mem) : Option (Int32 × Mem) :=
  (let m1 := wr μ 0 0 (0 : Int32)
  (if (f_X12_isGroom m1 p1) = (0 : Int32) then
  some ((-1 : Int32), m1)
  else
  (if (f_X12_areUnlike m1 p2 p3 p4) = (0 : Int32) then
  some ((-1 : Int32), m1)
  else
  (if (m1 0 37) = (0 : Int32) then
  some ((-1 : Int32), m1)
  else
  (if (f_X12_isIn p5 (0 : Int32) (1 : Int32)) = (0 : Int32) then
  some ((-1 : Int32), m1)
  else
  bndV (f_X12_isSent G p2 p3 p4 m1) (fun m7 =>
  f_X12_tells_L58 G (f_X12_tells_j90 G) G p1 p5 (-1 : Int32) (0 : Int32) m7))))))
set_option maxHeartbeats 4000000 in
set_option maxRecDepth 100000 in
theorem c_X12_tells  {G : Nat} {μ : Mem} {p1 p2 p3 p4 p5 : Int32} {r : Int32} {μr : Mem}  (h : f_X12_tells G p1 p2 p3 p4 p5 μ = some (r, μr)) : Cn yX12_tells cX12_tells 9 (some .int) 7 0 0 [.ref 0, .int p1, .int p2, .int p3, .int p4, .int p5] shR μ (eqP (some r) shR μr) := by
  refine cn_of (own := RX12) (ini := false) (loc := [some (.ref 0), some (.int p1), some (.int p2), some (.int p3), some (.int p4), some (.int p5), none, none, none]) rfl (by decide) (fun q => by cases q) (Nat.le_of_ble_eq_true rfl) (by rfl) rfl ?_
  unfold f_X12_tells at h
  refine ev_aload_n dX12_tells_0 rfl ?_
  refine ev_iconst (v := (0 : Int32)) dX12_tells_1 (by decide) ?_
  refine ev_putI fr_X12_149 shR_0 rfl rfl rfl dX12_tells_2 ?_
  refine ev_aload_n dX12_tells_5 rfl ?_
  refine ev_iload_n dX12_tells_6 rfl ?_
  refine ev_cVi mv_X12_175 dX12_tells_7 c_X12_isGroom rfl shR_0 rfl rfl (Nat.le_of_ble_eq_true rfl) (by rfl) (Nat.le_of_ble_eq_true rfl) (Nat.le_of_ble_eq_true rfl) (Nat.le_of_ble_eq_true rfl) ?_
  refine ev_if_eq (tgt := 42) dX12_tells_10 (by decide) (fun hc2 => ?_) (fun hc2 => ?_)
  · replace h := ite_t hc2 h
    refine ev_iconst (v := (-1 : Int32)) dX12_tells_42 (by decide) ?_
    exact ev_iret rfl rfl (by decide) (by decide) dX12_tells_43 (eqP_E h)
  · replace h := ite_f hc2 h
    refine ev_aload_n dX12_tells_13 rfl ?_
    refine ev_iload_n dX12_tells_14 rfl ?_
    refine ev_iload_n dX12_tells_15 rfl ?_
    refine ev_iload dX12_tells_16 rfl ?_
    refine ev_cVi mv_X12_387 dX12_tells_18 c_X12_areUnlike rfl shR_0 rfl rfl (Nat.le_of_ble_eq_true rfl) (by rfl) (Nat.le_of_ble_eq_true rfl) (Nat.le_of_ble_eq_true rfl) (Nat.le_of_ble_eq_true rfl) ?_
    refine ev_if_eq (tgt := 42) dX12_tells_21 (by decide) (fun hc3 => ?_) (fun hc3 => ?_)
    · replace h := ite_t hc3 h
      refine ev_iconst (v := (-1 : Int32)) dX12_tells_42 (by decide) ?_
      exact ev_iret rfl rfl (by decide) (by decide) dX12_tells_43 (eqP_E h)
    · replace h := ite_f hc3 h
      refine ev_aload_n dX12_tells_24 rfl ?_
      refine ev_getI fr_X12_317 shR_0 rfl dX12_tells_25 ?_
      refine ev_if_eq (tgt := 42) dX12_tells_28 (by decide) (fun hc4 => ?_) (fun hc4 => ?_)
      · replace h := ite_t hc4 h
        refine ev_iconst (v := (-1 : Int32)) dX12_tells_42 (by decide) ?_
        exact ev_iret rfl rfl (by decide) (by decide) dX12_tells_43 (eqP_E h)
      · replace h := ite_f hc4 h
        refine ev_aload_n dX12_tells_31 rfl ?_
        refine ev_iload dX12_tells_32 rfl ?_
        refine ev_iconst (v := (0 : Int32)) dX12_tells_34 (by decide) ?_
        refine ev_iconst (v := (1 : Int32)) dX12_tells_35 (by decide) ?_
        refine ev_cVi mv_X12_167 dX12_tells_36 c_X12_isIn rfl shR_0 rfl rfl (Nat.le_of_ble_eq_true rfl) (by rfl) (Nat.le_of_ble_eq_true rfl) (Nat.le_of_ble_eq_true rfl) (Nat.le_of_ble_eq_true rfl) ?_
        refine ev_if_ne (tgt := 44) dX12_tells_39 (by decide) (fun hc5 => ?_) (fun hc5 => ?_)
        · replace h := ite_f hc5 h
          refine ev_aload_n dX12_tells_44 rfl ?_
          refine ev_iload_n dX12_tells_45 rfl ?_
          refine ev_iload_n dX12_tells_46 rfl ?_
          refine ev_iload dX12_tells_47 rfl ?_
          obtain ⟨m7, hq6, h⟩ := bndV_t h
          refine ev_cVv mv_X12_375 dX12_tells_49 (c_X12_isSent hq6) rfl shR_0 rfl rfl (Nat.le_of_ble_eq_true rfl) (by rfl) (Nat.le_of_ble_eq_true rfl) (Nat.le_of_ble_eq_true rfl) (Nat.le_of_ble_eq_true rfl) ?_
          refine ev_iconst (v := (-1 : Int32)) dX12_tells_52 (by decide) ?_
          refine ev_istore (loc' := [_, _, _, _, _, _, _, _, _]) dX12_tells_53 rfl (by decide) (by rfl) ?_
          refine ev_iconst (v := (0 : Int32)) dX12_tells_55 (by decide) ?_
          refine ev_istore (loc' := [_, _, _, _, _, _, _, _, _]) dX12_tells_56 rfl (by decide) (by rfl) ?_
          exact ev_lt (f_X12_tells_L58_ok (fun _ _ _ _ hh => f_X12_tells_j90_ok hh) _ _ _ _ _ _ h) ⟨rfl, ⟨rfl, ⟨rfl, ⟨rfl, ⟨rfl, trivial⟩⟩⟩⟩⟩
        · replace h := ite_t hc5 h
          refine ev_iconst (v := (-1 : Int32)) dX12_tells_42 (by decide) ?_
          exact ev_iret rfl rfl (by decide) (by decide) dX12_tells_43 (eqP_E h)
def f_X12_moreBy (G : Nat) (p1 p2 p3 : Int32) (μ : Mem) : Option (Int32 × Mem) :=
  bndV (f_X12_thinks G μ) (fun m2 =>
  chk p1 8 (bndV (f_X12_isSent G p2 (m2 8 (ix p1)) p3 m2) (fun m5 =>
  bndE (f_X12_takes G p1 m5) (fun w8 m7 =>
  bndV (f_X12_endsThought G m7) (fun m10 =>
  some (((m10 26 1) - (f_X12_greater (m10 26 0) (m10 26 2))), m10))))))
set_option maxHeartbeats 4000000 in
set_option maxRecDepth 100000 in
theorem c_X12_moreBy  {G : Nat} {μ : Mem} {p1 p2 p3 : Int32} {r : Int32} {μr : Mem}  (h : f_X12_moreBy G p1 p2 p3 μ = some (r, μr)) : Cn yX12_moreBy cX12_moreBy 4 (some .int) 8 0 0 [.ref 0, .int p1, .int p2, .int p3] shR μ (eqP (some r) shR μr) := by
  refine cn_of (own := RX12) (ini := false) (loc := [some (.ref 0), some (.int p1), some (.int p2), some (.int p3)]) rfl (by decide) (fun q => by cases q) (Nat.le_of_ble_eq_true rfl) (by rfl) rfl ?_
  unfold f_X12_moreBy at h
  refine ev_aload_n dX12_moreBy_0 rfl ?_
  obtain ⟨m2, hq1, h⟩ := bndV_t h
  refine ev_cVv mv_X12_418 dX12_moreBy_1 (c_X12_thinks hq1) rfl shR_0 rfl rfl (Nat.le_of_ble_eq_true rfl) (by rfl) (Nat.le_of_ble_eq_true rfl) (Nat.le_of_ble_eq_true rfl) (Nat.le_of_ble_eq_true rfl) ?_
  refine ev_aload_n dX12_moreBy_4 rfl ?_
  refine ev_iload_n dX12_moreBy_5 rfl ?_
  refine ev_aload_n dX12_moreBy_6 rfl ?_
  refine ev_getR fr_X12_31 shR_0 rfl dX12_moreBy_7 ?_
  refine ev_iload_n dX12_moreBy_10 rfl ?_
  obtain ⟨hi3, h⟩ := chk_t h
  refine ev_iald shR_8 hi3 dX12_moreBy_11 ?_
  refine ev_iload_n dX12_moreBy_12 rfl ?_
  obtain ⟨m5, hq4, h⟩ := bndV_t h
  refine ev_cVv mv_X12_375 dX12_moreBy_13 (c_X12_isSent hq4) rfl shR_0 rfl rfl (Nat.le_of_ble_eq_true rfl) (by rfl) (Nat.le_of_ble_eq_true rfl) (Nat.le_of_ble_eq_true rfl) (Nat.le_of_ble_eq_true rfl) ?_
  refine ev_aload_n dX12_moreBy_16 rfl ?_
  refine ev_iload_n dX12_moreBy_17 rfl ?_
  obtain ⟨w8, m7, hq6, h⟩ := bndE_t h
  refine ev_cVi mv_X12_378 dX12_moreBy_18 (c_X12_takes hq6) rfl shR_0 rfl rfl (Nat.le_of_ble_eq_true rfl) (by rfl) (Nat.le_of_ble_eq_true rfl) (Nat.le_of_ble_eq_true rfl) (Nat.le_of_ble_eq_true rfl) ?_
  refine ev_pop dX12_moreBy_21 (by rfl) ?_
  refine ev_aload_n dX12_moreBy_22 rfl ?_
  obtain ⟨m10, hq9, h⟩ := bndV_t h
  refine ev_cVv mv_X12_421 dX12_moreBy_23 (c_X12_endsThought hq9) rfl shR_0 rfl rfl (Nat.le_of_ble_eq_true rfl) (by rfl) (Nat.le_of_ble_eq_true rfl) (Nat.le_of_ble_eq_true rfl) (Nat.le_of_ble_eq_true rfl) ?_
  refine ev_aload_n dX12_moreBy_26 rfl ?_
  refine ev_getR fr_X12_89 shR_0 rfl dX12_moreBy_27 ?_
  refine ev_iconst (v := (1 : Int32)) dX12_moreBy_30 (by decide) ?_
  refine ev_ialdL (j := 1) shR_26 (by decide) (vpl _ _ (by decide)) dX12_moreBy_31 ?_
  refine ev_aload_n dX12_moreBy_32 rfl ?_
  refine ev_aload_n dX12_moreBy_33 rfl ?_
  refine ev_getR fr_X12_89 shR_0 rfl dX12_moreBy_34 ?_
  refine ev_iconst (v := (0 : Int32)) dX12_moreBy_37 (by decide) ?_
  refine ev_ialdL (j := 0) shR_26 (by decide) (vpl _ _ (by decide)) dX12_moreBy_38 ?_
  refine ev_aload_n dX12_moreBy_39 rfl ?_
  refine ev_getR fr_X12_89 shR_0 rfl dX12_moreBy_40 ?_
  refine ev_iconst (v := (2 : Int32)) dX12_moreBy_43 (by decide) ?_
  refine ev_ialdL (j := 2) shR_26 (by decide) (vpl _ _ (by decide)) dX12_moreBy_44 ?_
  refine ev_cVi mv_X12_434 dX12_moreBy_45 c_X12_greater rfl shR_0 rfl rfl (Nat.le_of_ble_eq_true rfl) (by rfl) (Nat.le_of_ble_eq_true rfl) (Nat.le_of_ble_eq_true rfl) (Nat.le_of_ble_eq_true rfl) ?_
  refine ev_isub dX12_moreBy_48 ?_
  exact ev_iret rfl rfl (by decide) (by decide) dX12_moreBy_49 (eqP_E h)
def f_X12_sent_j162 (G : Nat) (r40 : Int32 → Int32 → Int32 → Int32 → Int32 → Mem → Option (Int32 × Mem)) (k40_174 : Int32 → Int32 → Int32 → Mem → Option (Int32 × Mem)) (r52 : Int32 → Int32 → Int32 → Int32 → Int32 → Int32 → Mem → Option (Int32 × Mem)) (k52_168 : Int32 → Int32 → Int32 → Int32 → Int32 → Mem → Option (Int32 × Mem)) (v1 v2 v3 v4 v6 v7 : Int32) (μ : Mem) : Option (Int32 × Mem) :=
  r52 v1 v2 v3 v4 v6 (v7 + (1 : Int32)) μ
set_option maxHeartbeats 4000000 in
set_option maxRecDepth 100000 in
theorem f_X12_sent_j162_ok  {G : Nat} {r : Int32} {μr : Mem}  {r40 : Int32 → Int32 → Int32 → Int32 → Int32 → Mem → Option (Int32 × Mem)} {k40_174 : Int32 → Int32 → Int32 → Mem → Option (Int32 × Mem)} {r52 : Int32 → Int32 → Int32 → Int32 → Int32 → Int32 → Mem → Option (Int32 × Mem)} {k52_168 : Int32 → Int32 → Int32 → Int32 → Int32 → Mem → Option (Int32 × Mem)} (hr40 : ∀ (v1 : Int32) (v2 : Int32) (v3 : Int32) (v4 : Int32) (v6 : Int32) (m : Mem), r40 v1 v2 v3 v4 v6 m = some (r, μr) → Ev RX12 cX12_sent 9 (some .int) false 9 0 0 (eqP (some r) shR μr) 40 [some (.ref 0), some (.int v1), some (.int v2), some (.int v3), some (.int v4), none, some (.int v6), none, none] [] shR m 0 0) (hk40_174 : ∀ (v2 : Int32) (v3 : Int32) (v4 : Int32) (m : Mem), k40_174 v2 v3 v4 m = some (r, μr) → Ev RX12 cX12_sent 9 (some .int) false 9 0 0 (eqP (some r) shR μr) 174 [none, none, some (.int v2), some (.int v3), some (.int v4), none, none, none, none] [] shR m 0 0) (hr52 : ∀ (v1 : Int32) (v2 : Int32) (v3 : Int32) (v4 : Int32) (v6 : Int32) (v7 : Int32) (m : Mem), r52 v1 v2 v3 v4 v6 v7 m = some (r, μr) → Ev RX12 cX12_sent 9 (some .int) false 9 0 0 (eqP (some r) shR μr) 52 [some (.ref 0), some (.int v1), some (.int v2), some (.int v3), some (.int v4), none, some (.int v6), some (.int v7), none] [] shR m 0 0) (hk52_168 : ∀ (v1 : Int32) (v2 : Int32) (v3 : Int32) (v4 : Int32) (v6 : Int32) (m : Mem), k52_168 v1 v2 v3 v4 v6 m = some (r, μr) → Ev RX12 cX12_sent 9 (some .int) false 9 0 0 (eqP (some r) shR μr) 168 [some (.ref 0), some (.int v1), some (.int v2), some (.int v3), some (.int v4), none, some (.int v6), none, none] [] shR m 0 0) {v1 v2 v3 v4 v6 v7 : Int32} {μ : Mem} (h : f_X12_sent_j162 G r40 k40_174 r52 k52_168 v1 v2 v3 v4 v6 v7 μ = some (r, μr)) : Ev RX12 cX12_sent 9 (some .int) false 9 0 0 (eqP (some r) shR μr) 162 [some (.ref 0), some (.int v1), some (.int v2), some (.int v3), some (.int v4), none, some (.int v6), some (.int v7), none] [] shR μ 0 0 := by
  unfold f_X12_sent_j162 at h
  refine ev_iinc (cq := (1 : Int32)) (loc' := [_, _, _, _, _, _, _, _, _]) dX12_sent_162 rfl (by decide) rfl (by decide) (by rfl) ?_
  refine ev_goto (tgt := 52) dX12_sent_165 (by decide) ?_
  exact ev_lt (hr52 _ _ _ _ _ _ _ h) ⟨rfl, ⟨rfl, ⟨rfl, ⟨rfl, ⟨rfl, ⟨rfl, ⟨rfl, trivial⟩⟩⟩⟩⟩⟩⟩
def f_X12_sent_j152 (G : Nat) (r40 : Int32 → Int32 → Int32 → Int32 → Int32 → Mem → Option (Int32 × Mem)) (k40_174 : Int32 → Int32 → Int32 → Mem → Option (Int32 × Mem)) (r52 : Int32 → Int32 → Int32 → Int32 → Int32 → Int32 → Mem → Option (Int32 × Mem)) (k52_168 : Int32 → Int32 → Int32 → Int32 → Int32 → Mem → Option (Int32 × Mem)) (v1 v2 v3 v4 v6 v7 v8 : Int32) (μ : Mem) : Option (Int32 × Mem) :=
  f_X12_sent_j162 G r40 k40_174 r52 k52_168 v1 v2 v3 (f_X12_greater v4 v8) v6 v7 μ
set_option maxHeartbeats 4000000 in
set_option maxRecDepth 100000 in
theorem f_X12_sent_j152_ok  {G : Nat} {r : Int32} {μr : Mem}  {r40 : Int32 → Int32 → Int32 → Int32 → Int32 → Mem → Option (Int32 × Mem)} {k40_174 : Int32 → Int32 → Int32 → Mem → Option (Int32 × Mem)} {r52 : Int32 → Int32 → Int32 → Int32 → Int32 → Int32 → Mem → Option (Int32 × Mem)} {k52_168 : Int32 → Int32 → Int32 → Int32 → Int32 → Mem → Option (Int32 × Mem)} (hr40 : ∀ (v1 : Int32) (v2 : Int32) (v3 : Int32) (v4 : Int32) (v6 : Int32) (m : Mem), r40 v1 v2 v3 v4 v6 m = some (r, μr) → Ev RX12 cX12_sent 9 (some .int) false 9 0 0 (eqP (some r) shR μr) 40 [some (.ref 0), some (.int v1), some (.int v2), some (.int v3), some (.int v4), none, some (.int v6), none, none] [] shR m 0 0) (hk40_174 : ∀ (v2 : Int32) (v3 : Int32) (v4 : Int32) (m : Mem), k40_174 v2 v3 v4 m = some (r, μr) → Ev RX12 cX12_sent 9 (some .int) false 9 0 0 (eqP (some r) shR μr) 174 [none, none, some (.int v2), some (.int v3), some (.int v4), none, none, none, none] [] shR m 0 0) (hr52 : ∀ (v1 : Int32) (v2 : Int32) (v3 : Int32) (v4 : Int32) (v6 : Int32) (v7 : Int32) (m : Mem), r52 v1 v2 v3 v4 v6 v7 m = some (r, μr) → Ev RX12 cX12_sent 9 (some .int) false 9 0 0 (eqP (some r) shR μr) 52 [some (.ref 0), some (.int v1), some (.int v2), some (.int v3), some (.int v4), none, some (.int v6), some (.int v7), none] [] shR m 0 0) (hk52_168 : ∀ (v1 : Int32) (v2 : Int32) (v3 : Int32) (v4 : Int32) (v6 : Int32) (m : Mem), k52_168 v1 v2 v3 v4 v6 m = some (r, μr) → Ev RX12 cX12_sent 9 (some .int) false 9 0 0 (eqP (some r) shR μr) 168 [some (.ref 0), some (.int v1), some (.int v2), some (.int v3), some (.int v4), none, some (.int v6), none, none] [] shR m 0 0) {v1 v2 v3 v4 v6 v7 v8 : Int32} {μ : Mem} (h : f_X12_sent_j152 G r40 k40_174 r52 k52_168 v1 v2 v3 v4 v6 v7 v8 μ = some (r, μr)) : Ev RX12 cX12_sent 9 (some .int) false 9 0 0 (eqP (some r) shR μr) 152 [some (.ref 0), some (.int v1), some (.int v2), some (.int v3), some (.int v4), none, some (.int v6), some (.int v7), some (.int v8)] [] shR μ 0 0 := by
  unfold f_X12_sent_j152 at h
  refine ev_aload_n dX12_sent_152 rfl ?_
  refine ev_iload dX12_sent_153 rfl ?_
  refine ev_iload dX12_sent_155 rfl ?_
  refine ev_cVi mv_X12_434 dX12_sent_157 c_X12_greater rfl shR_0 rfl rfl (Nat.le_of_ble_eq_true rfl) (by rfl) (Nat.le_of_ble_eq_true rfl) (Nat.le_of_ble_eq_true rfl) (Nat.le_of_ble_eq_true rfl) ?_
  refine ev_istore (loc' := [_, _, _, _, _, _, _, _, _]) dX12_sent_160 rfl (by decide) (by rfl) ?_
  exact ev_lt (f_X12_sent_j162_ok hr40 hk40_174 hr52 hk52_168 h) ⟨rfl, ⟨rfl, ⟨rfl, ⟨rfl, ⟨rfl, ⟨rfl, ⟨rfl, trivial⟩⟩⟩⟩⟩⟩⟩
def f_X12_sent_j149 (G : Nat) (r40 : Int32 → Int32 → Int32 → Int32 → Int32 → Mem → Option (Int32 × Mem)) (k40_174 : Int32 → Int32 → Int32 → Mem → Option (Int32 × Mem)) (r52 : Int32 → Int32 → Int32 → Int32 → Int32 → Int32 → Mem → Option (Int32 × Mem)) (k52_168 : Int32 → Int32 → Int32 → Int32 → Int32 → Mem → Option (Int32 × Mem)) (v1 v2 v4 v5 v6 v7 v8 : Int32) (μ : Mem) : Option (Int32 × Mem) :=
  f_X12_sent_j152 G r40 k40_174 r52 k52_168 v1 v2 v5 v4 v6 v7 v8 μ
set_option maxHeartbeats 4000000 in
set_option maxRecDepth 100000 in
theorem f_X12_sent_j149_ok  {G : Nat} {r : Int32} {μr : Mem}  {r40 : Int32 → Int32 → Int32 → Int32 → Int32 → Mem → Option (Int32 × Mem)} {k40_174 : Int32 → Int32 → Int32 → Mem → Option (Int32 × Mem)} {r52 : Int32 → Int32 → Int32 → Int32 → Int32 → Int32 → Mem → Option (Int32 × Mem)} {k52_168 : Int32 → Int32 → Int32 → Int32 → Int32 → Mem → Option (Int32 × Mem)} (hr40 : ∀ (v1 : Int32) (v2 : Int32) (v3 : Int32) (v4 : Int32) (v6 : Int32) (m : Mem), r40 v1 v2 v3 v4 v6 m = some (r, μr) → Ev RX12 cX12_sent 9 (some .int) false 9 0 0 (eqP (some r) shR μr) 40 [some (.ref 0), some (.int v1), some (.int v2), some (.int v3), some (.int v4), none, some (.int v6), none, none] [] shR m 0 0) (hk40_174 : ∀ (v2 : Int32) (v3 : Int32) (v4 : Int32) (m : Mem), k40_174 v2 v3 v4 m = some (r, μr) → Ev RX12 cX12_sent 9 (some .int) false 9 0 0 (eqP (some r) shR μr) 174 [none, none, some (.int v2), some (.int v3), some (.int v4), none, none, none, none] [] shR m 0 0) (hr52 : ∀ (v1 : Int32) (v2 : Int32) (v3 : Int32) (v4 : Int32) (v6 : Int32) (v7 : Int32) (m : Mem), r52 v1 v2 v3 v4 v6 v7 m = some (r, μr) → Ev RX12 cX12_sent 9 (some .int) false 9 0 0 (eqP (some r) shR μr) 52 [some (.ref 0), some (.int v1), some (.int v2), some (.int v3), some (.int v4), none, some (.int v6), some (.int v7), none] [] shR m 0 0) (hk52_168 : ∀ (v1 : Int32) (v2 : Int32) (v3 : Int32) (v4 : Int32) (v6 : Int32) (m : Mem), k52_168 v1 v2 v3 v4 v6 m = some (r, μr) → Ev RX12 cX12_sent 9 (some .int) false 9 0 0 (eqP (some r) shR μr) 168 [some (.ref 0), some (.int v1), some (.int v2), some (.int v3), some (.int v4), none, some (.int v6), none, none] [] shR m 0 0) {v1 v2 v4 v5 v6 v7 v8 : Int32} {μ : Mem} (h : f_X12_sent_j149 G r40 k40_174 r52 k52_168 v1 v2 v4 v5 v6 v7 v8 μ = some (r, μr)) : Ev RX12 cX12_sent 9 (some .int) false 9 0 0 (eqP (some r) shR μr) 149 [some (.ref 0), some (.int v1), some (.int v2), none, some (.int v4), some (.int v5), some (.int v6), some (.int v7), some (.int v8)] [] shR μ 0 0 := by
  unfold f_X12_sent_j149 at h
  refine ev_iload dX12_sent_149 rfl ?_
  refine ev_istore_n (loc' := [_, _, _, _, _, _, _, _, _]) dX12_sent_151 rfl (by decide) (by rfl) ?_
  exact ev_lt (f_X12_sent_j152_ok hr40 hk40_174 hr52 hk52_168 h) ⟨rfl, ⟨rfl, ⟨rfl, ⟨rfl, ⟨rfl, ⟨rfl, ⟨rfl, ⟨rfl, trivial⟩⟩⟩⟩⟩⟩⟩⟩
def f_X12_sent_L52 (G : Nat) (r40 : Int32 → Int32 → Int32 → Int32 → Int32 → Mem → Option (Int32 × Mem)) (k40_174 : Int32 → Int32 → Int32 → Mem → Option (Int32 × Mem)) (k52_168 : Int32 → Int32 → Int32 → Int32 → Int32 → Mem → Option (Int32 × Mem)) : Nat → Int32 → Int32 → Int32 → Int32 → Int32 → Int32 → Mem → Option (Int32 × Mem)
  | 0, _, _, _, _, _, _, _ => none
  | g + 1, v1, v2, v3, v4, v6, v7, μ =>
  (if v6 ≤ v7 then
  k52_168 v1 v2 v3 v4 v6 μ
  else
  bndO (f_X12_isFree G μ v7) (fun w7 =>
  (if w7 = (0 : Int32) then
  f_X12_sent_j162 G r40 k40_174 (f_X12_sent_L52 G r40 k40_174 k52_168 g) k52_168 v1 v2 v3 v4 v6 v7 μ
  else
  bndO (f_X12_isFree G μ v6) (fun w10 =>
  (if w10 = (0 : Int32) then
  f_X12_sent_j162 G r40 k40_174 (f_X12_sent_L52 G r40 k40_174 k52_168 g) k52_168 v1 v2 v3 v4 v6 v7 μ
  else
  chk v1 8 ((if v7 = (μ 8 (ix v1)) then
  f_X12_sent_j162 G r40 k40_174 (f_X12_sent_L52 G r40 k40_174 k52_168 g) k52_168 v1 v2 v3 v4 v6 v7 μ
  else
  chk v1 8 ((if v6 = (μ 8 (ix v1)) then
  f_X12_sent_j162 G r40 k40_174 (f_X12_sent_L52 G r40 k40_174 k52_168 g) k52_168 v1 v2 v3 v4 v6 v7 μ
  else
  bndE (f_X12_moreBy G v1 v7 v6 μ) (fun w18 m17 =>
  (if v3 = (-1 : Int32) then
  f_X12_sent_j149 G r40 k40_174 (f_X12_sent_L52 G r40 k40_174 k52_168 g) k52_168 v1 v2 v4 ((sl (1 : Int32) v7) ||| (sl (1 : Int32) v6)) v6 v7 w18 m17
  else
  (if v4 < w18 then
  f_X12_sent_j149 G r40 k40_174 (f_X12_sent_L52 G r40 k40_174 k52_168 g) k52_168 v1 v2 v4 ((sl (1 : Int32) v7) ||| (sl (1 : Int32) v6)) v6 v7 w18 m17
  else
  (if w18 = v4 then
  (if v3 ≤ ((sl (1 : Int32) v7) ||| (sl (1 : Int32) v6)) then
  f_X12_sent_j152 G r40 k40_174 (f_X12_sent_L52 G r40 k40_174 k52_168 g) k52_168 v1 v2 v3 v4 v6 v7 w18 m17
  else
  f_X12_sent_j149 G r40 k40_174 (f_X12_sent_L52 G r40 k40_174 k52_168 g) k52_168 v1 v2 v4 ((sl (1 : Int32) v7) ||| (sl (1 : Int32) v6)) v6 v7 w18 m17)
  else
  f_X12_sent_j152 G r40 k40_174 (f_X12_sent_L52 G r40 k40_174 k52_168 g) k52_168 v1 v2 v3 v4 v6 v7 w18 m17)))))))))))))
set_option maxHeartbeats 4000000 in
set_option maxRecDepth 100000 in
theorem f_X12_sent_L52_ok  {G : Nat} {r : Int32} {μr : Mem}  {r40 : Int32 → Int32 → Int32 → Int32 → Int32 → Mem → Option (Int32 × Mem)} {k40_174 : Int32 → Int32 → Int32 → Mem → Option (Int32 × Mem)} {k52_168 : Int32 → Int32 → Int32 → Int32 → Int32 → Mem → Option (Int32 × Mem)} (hr40 : ∀ (v1 : Int32) (v2 : Int32) (v3 : Int32) (v4 : Int32) (v6 : Int32) (m : Mem), r40 v1 v2 v3 v4 v6 m = some (r, μr) → Ev RX12 cX12_sent 9 (some .int) false 9 0 0 (eqP (some r) shR μr) 40 [some (.ref 0), some (.int v1), some (.int v2), some (.int v3), some (.int v4), none, some (.int v6), none, none] [] shR m 0 0) (hk40_174 : ∀ (v2 : Int32) (v3 : Int32) (v4 : Int32) (m : Mem), k40_174 v2 v3 v4 m = some (r, μr) → Ev RX12 cX12_sent 9 (some .int) false 9 0 0 (eqP (some r) shR μr) 174 [none, none, some (.int v2), some (.int v3), some (.int v4), none, none, none, none] [] shR m 0 0) (hk52_168 : ∀ (v1 : Int32) (v2 : Int32) (v3 : Int32) (v4 : Int32) (v6 : Int32) (m : Mem), k52_168 v1 v2 v3 v4 v6 m = some (r, μr) → Ev RX12 cX12_sent 9 (some .int) false 9 0 0 (eqP (some r) shR μr) 168 [some (.ref 0), some (.int v1), some (.int v2), some (.int v3), some (.int v4), none, some (.int v6), none, none] [] shR m 0 0) : ∀ (g : Nat) (v1 v2 v3 v4 v6 v7 : Int32) (μ : Mem), f_X12_sent_L52 G r40 k40_174 k52_168 g v1 v2 v3 v4 v6 v7 μ = some (r, μr) → Ev RX12 cX12_sent 9 (some .int) false 9 0 0 (eqP (some r) shR μr) 52 [some (.ref 0), some (.int v1), some (.int v2), some (.int v3), some (.int v4), none, some (.int v6), some (.int v7), none] [] shR μ 0 0 := by
  intro g
  induction g with
  | zero =>
    intro v1 v2 v3 v4 v6 v7 μ h
    cases h
  | succ g ih =>
    intro v1 v2 v3 v4 v6 v7 μ h
    rw [f_X12_sent_L52] at h
    refine ev_iload dX12_sent_52 rfl ?_
    refine ev_iload dX12_sent_54 rfl ?_
    refine ev_icmp_ge (tgt := 168) dX12_sent_56 (by decide) (fun hc5 => ?_) (fun hc5 => ?_)
    · replace h := ite_t hc5 h
      exact ev_lt (hk52_168 _ _ _ _ _ _ h) ⟨rfl, ⟨rfl, ⟨rfl, ⟨rfl, ⟨rfl, ⟨rfl, trivial⟩⟩⟩⟩⟩⟩
    · replace h := ite_f hc5 h
      refine ev_aload_n dX12_sent_59 rfl ?_
      refine ev_iload dX12_sent_60 rfl ?_
      obtain ⟨w7, hq6, h⟩ := bndO_t h
      refine ev_cVi mv_X12_384 dX12_sent_62 (c_X12_isFree hq6) rfl shR_0 rfl rfl (Nat.le_of_ble_eq_true rfl) (by rfl) (Nat.le_of_ble_eq_true rfl) (Nat.le_of_ble_eq_true rfl) (Nat.le_of_ble_eq_true rfl) ?_
      refine ev_if_eq (tgt := 162) dX12_sent_65 (by decide) (fun hc8 => ?_) (fun hc8 => ?_)
      · replace h := ite_t hc8 h
        exact ev_lt (f_X12_sent_j162_ok hr40 hk40_174 ih hk52_168 h) ⟨rfl, ⟨rfl, ⟨rfl, ⟨rfl, ⟨rfl, ⟨rfl, ⟨rfl, trivial⟩⟩⟩⟩⟩⟩⟩
      · replace h := ite_f hc8 h
        refine ev_aload_n dX12_sent_68 rfl ?_
        refine ev_iload dX12_sent_69 rfl ?_
        obtain ⟨w10, hq9, h⟩ := bndO_t h
        refine ev_cVi mv_X12_384 dX12_sent_71 (c_X12_isFree hq9) rfl shR_0 rfl rfl (Nat.le_of_ble_eq_true rfl) (by rfl) (Nat.le_of_ble_eq_true rfl) (Nat.le_of_ble_eq_true rfl) (Nat.le_of_ble_eq_true rfl) ?_
        refine ev_if_eq (tgt := 162) dX12_sent_74 (by decide) (fun hc11 => ?_) (fun hc11 => ?_)
        · replace h := ite_t hc11 h
          exact ev_lt (f_X12_sent_j162_ok hr40 hk40_174 ih hk52_168 h) ⟨rfl, ⟨rfl, ⟨rfl, ⟨rfl, ⟨rfl, ⟨rfl, ⟨rfl, trivial⟩⟩⟩⟩⟩⟩⟩
        · replace h := ite_f hc11 h
          refine ev_iload dX12_sent_77 rfl ?_
          refine ev_aload_n dX12_sent_79 rfl ?_
          refine ev_getR fr_X12_31 shR_0 rfl dX12_sent_80 ?_
          refine ev_iload_n dX12_sent_83 rfl ?_
          obtain ⟨hi12, h⟩ := chk_t h
          refine ev_iald shR_8 hi12 dX12_sent_84 ?_
          refine ev_icmp_eq (tgt := 162) dX12_sent_85 (by decide) (fun hc13 => ?_) (fun hc13 => ?_)
          · replace h := ite_t hc13 h
            exact ev_lt (f_X12_sent_j162_ok hr40 hk40_174 ih hk52_168 h) ⟨rfl, ⟨rfl, ⟨rfl, ⟨rfl, ⟨rfl, ⟨rfl, ⟨rfl, trivial⟩⟩⟩⟩⟩⟩⟩
          · replace h := ite_f hc13 h
            refine ev_iload dX12_sent_88 rfl ?_
            refine ev_aload_n dX12_sent_90 rfl ?_
            refine ev_getR fr_X12_31 shR_0 rfl dX12_sent_91 ?_
            refine ev_iload_n dX12_sent_94 rfl ?_
            obtain ⟨hi14, h⟩ := chk_t h
            refine ev_iald shR_8 hi14 dX12_sent_95 ?_
            refine ev_icmp_ne (tgt := 102) dX12_sent_96 (by decide) (fun hc15 => ?_) (fun hc15 => ?_)
            · replace h := ite_f hc15 h
              refine ev_aload_n dX12_sent_102 rfl ?_
              refine ev_iload_n dX12_sent_103 rfl ?_
              refine ev_iload dX12_sent_104 rfl ?_
              refine ev_iload dX12_sent_106 rfl ?_
              obtain ⟨w18, m17, hq16, h⟩ := bndE_t h
              refine ev_cVi mv_X12_438 dX12_sent_108 (c_X12_moreBy hq16) rfl shR_0 rfl rfl (Nat.le_of_ble_eq_true rfl) (by rfl) (Nat.le_of_ble_eq_true rfl) (Nat.le_of_ble_eq_true rfl) (Nat.le_of_ble_eq_true rfl) ?_
              refine ev_istore (loc' := [_, _, _, _, _, _, _, _, _]) dX12_sent_111 rfl (by decide) (by rfl) ?_
              refine ev_iconst (v := (1 : Int32)) dX12_sent_113 (by decide) ?_
              refine ev_iload dX12_sent_114 rfl ?_
              refine ev_ishl dX12_sent_116 ?_
              refine ev_iconst (v := (1 : Int32)) dX12_sent_117 (by decide) ?_
              refine ev_iload dX12_sent_118 rfl ?_
              refine ev_ishl dX12_sent_120 ?_
              refine ev_ior dX12_sent_121 ?_
              refine ev_istore (loc' := [_, _, _, _, _, _, _, _, _]) dX12_sent_122 rfl (by decide) (by rfl) ?_
              refine ev_iload_n dX12_sent_124 rfl ?_
              refine ev_iconst (v := (-1 : Int32)) dX12_sent_125 (by decide) ?_
              refine ev_icmp_eq (tgt := 149) dX12_sent_126 (by decide) (fun hc19 => ?_) (fun hc19 => ?_)
              · replace h := ite_t hc19 h
                exact ev_lt (f_X12_sent_j149_ok hr40 hk40_174 ih hk52_168 h) ⟨rfl, ⟨rfl, ⟨rfl, ⟨rfl, ⟨rfl, ⟨rfl, ⟨rfl, ⟨rfl, trivial⟩⟩⟩⟩⟩⟩⟩⟩
              · replace h := ite_f hc19 h
                refine ev_iload dX12_sent_129 rfl ?_
                refine ev_iload dX12_sent_131 rfl ?_
                refine ev_icmp_gt (tgt := 149) dX12_sent_133 (by decide) (fun hc20 => ?_) (fun hc20 => ?_)
                · replace h := ite_t hc20 h
                  exact ev_lt (f_X12_sent_j149_ok hr40 hk40_174 ih hk52_168 h) ⟨rfl, ⟨rfl, ⟨rfl, ⟨rfl, ⟨rfl, ⟨rfl, ⟨rfl, ⟨rfl, trivial⟩⟩⟩⟩⟩⟩⟩⟩
                · replace h := ite_f hc20 h
                  refine ev_iload dX12_sent_136 rfl ?_
                  refine ev_iload dX12_sent_138 rfl ?_
                  refine ev_icmp_ne (tgt := 152) dX12_sent_140 (by decide) (fun hc21 => ?_) (fun hc21 => ?_)
                  · replace h := ite_f hc21 h
                    exact ev_lt (f_X12_sent_j152_ok hr40 hk40_174 ih hk52_168 h) ⟨rfl, ⟨rfl, ⟨rfl, ⟨rfl, ⟨rfl, ⟨rfl, ⟨rfl, ⟨rfl, trivial⟩⟩⟩⟩⟩⟩⟩⟩
                  · replace h := ite_t hc21 h
                    refine ev_iload dX12_sent_143 rfl ?_
                    refine ev_iload_n dX12_sent_145 rfl ?_
                    refine ev_icmp_ge (tgt := 152) dX12_sent_146 (by decide) (fun hc22 => ?_) (fun hc22 => ?_)
                    · replace h := ite_t hc22 h
                      exact ev_lt (f_X12_sent_j152_ok hr40 hk40_174 ih hk52_168 h) ⟨rfl, ⟨rfl, ⟨rfl, ⟨rfl, ⟨rfl, ⟨rfl, ⟨rfl, ⟨rfl, trivial⟩⟩⟩⟩⟩⟩⟩⟩
                    · replace h := ite_f hc22 h
                      exact ev_lt (f_X12_sent_j149_ok hr40 hk40_174 ih hk52_168 h) ⟨rfl, ⟨rfl, ⟨rfl, ⟨rfl, ⟨rfl, ⟨rfl, ⟨rfl, ⟨rfl, trivial⟩⟩⟩⟩⟩⟩⟩⟩
            · replace h := ite_t hc15 h
              refine ev_goto (tgt := 162) dX12_sent_99 (by decide) ?_
              exact ev_lt (f_X12_sent_j162_ok hr40 hk40_174 ih hk52_168 h) ⟨rfl, ⟨rfl, ⟨rfl, ⟨rfl, ⟨rfl, ⟨rfl, ⟨rfl, trivial⟩⟩⟩⟩⟩⟩⟩
def f_X12_sent_j168 (G : Nat) (r40 : Int32 → Int32 → Int32 → Int32 → Int32 → Mem → Option (Int32 × Mem)) (k40_174 : Int32 → Int32 → Int32 → Mem → Option (Int32 × Mem)) (v1 v2 v3 v4 v6 : Int32) (μ : Mem) : Option (Int32 × Mem) :=
  r40 v1 v2 v3 v4 (v6 + (1 : Int32)) μ
set_option maxHeartbeats 4000000 in
set_option maxRecDepth 100000 in
theorem f_X12_sent_j168_ok  {G : Nat} {r : Int32} {μr : Mem}  {r40 : Int32 → Int32 → Int32 → Int32 → Int32 → Mem → Option (Int32 × Mem)} {k40_174 : Int32 → Int32 → Int32 → Mem → Option (Int32 × Mem)} (hr40 : ∀ (v1 : Int32) (v2 : Int32) (v3 : Int32) (v4 : Int32) (v6 : Int32) (m : Mem), r40 v1 v2 v3 v4 v6 m = some (r, μr) → Ev RX12 cX12_sent 9 (some .int) false 9 0 0 (eqP (some r) shR μr) 40 [some (.ref 0), some (.int v1), some (.int v2), some (.int v3), some (.int v4), none, some (.int v6), none, none] [] shR m 0 0) (hk40_174 : ∀ (v2 : Int32) (v3 : Int32) (v4 : Int32) (m : Mem), k40_174 v2 v3 v4 m = some (r, μr) → Ev RX12 cX12_sent 9 (some .int) false 9 0 0 (eqP (some r) shR μr) 174 [none, none, some (.int v2), some (.int v3), some (.int v4), none, none, none, none] [] shR m 0 0) {v1 v2 v3 v4 v6 : Int32} {μ : Mem} (h : f_X12_sent_j168 G r40 k40_174 v1 v2 v3 v4 v6 μ = some (r, μr)) : Ev RX12 cX12_sent 9 (some .int) false 9 0 0 (eqP (some r) shR μr) 168 [some (.ref 0), some (.int v1), some (.int v2), some (.int v3), some (.int v4), none, some (.int v6), none, none] [] shR μ 0 0 := by
  unfold f_X12_sent_j168 at h
  refine ev_iinc (cq := (1 : Int32)) (loc' := [_, _, _, _, _, _, _, _, _]) dX12_sent_168 rfl (by decide) rfl (by decide) (by rfl) ?_
  refine ev_goto (tgt := 40) dX12_sent_171 (by decide) ?_
  exact ev_lt (hr40 _ _ _ _ _ _ h) ⟨rfl, ⟨rfl, ⟨rfl, ⟨rfl, ⟨rfl, ⟨rfl, trivial⟩⟩⟩⟩⟩⟩
def f_X12_sent_L40 (G : Nat) (k40_174 : Int32 → Int32 → Int32 → Mem → Option (Int32 × Mem)) : Nat → Int32 → Int32 → Int32 → Int32 → Int32 → Mem → Option (Int32 × Mem)
  | 0, _, _, _, _, _, _ => none
  | g + 1, v1, v2, v3, v4, v6, μ =>
  (if (μ 0 6) ≤ v6 then
  k40_174 v2 v3 v4 μ
  else
  f_X12_sent_L52 G (f_X12_sent_L40 G k40_174 g) k40_174 (f_X12_sent_j168 G (f_X12_sent_L40 G k40_174 g) k40_174) G v1 v2 v3 v4 v6 (0 : Int32) μ)
set_option maxHeartbeats 4000000 in
set_option maxRecDepth 100000 in
theorem f_X12_sent_L40_ok  {G : Nat} {r : Int32} {μr : Mem}  {k40_174 : Int32 → Int32 → Int32 → Mem → Option (Int32 × Mem)} (hk40_174 : ∀ (v2 : Int32) (v3 : Int32) (v4 : Int32) (m : Mem), k40_174 v2 v3 v4 m = some (r, μr) → Ev RX12 cX12_sent 9 (some .int) false 9 0 0 (eqP (some r) shR μr) 174 [none, none, some (.int v2), some (.int v3), some (.int v4), none, none, none, none] [] shR m 0 0) : ∀ (g : Nat) (v1 v2 v3 v4 v6 : Int32) (μ : Mem), f_X12_sent_L40 G k40_174 g v1 v2 v3 v4 v6 μ = some (r, μr) → Ev RX12 cX12_sent 9 (some .int) false 9 0 0 (eqP (some r) shR μr) 40 [some (.ref 0), some (.int v1), some (.int v2), some (.int v3), some (.int v4), none, some (.int v6), none, none] [] shR μ 0 0 := by
  intro g
  induction g with
  | zero =>
    intro v1 v2 v3 v4 v6 μ h
    cases h
  | succ g ih =>
    intro v1 v2 v3 v4 v6 μ h
    rw [f_X12_sent_L40] at h
    refine ev_iload dX12_sent_40 rfl ?_
    refine ev_aload_n dX12_sent_42 rfl ?_
    refine ev_getI fr_X12_161 shR_0 rfl dX12_sent_43 ?_
    refine ev_icmp_ge (tgt := 174) dX12_sent_46 (by decide) (fun hc4 => ?_) (fun hc4 => ?_)
    · replace h := ite_t hc4 h
      exact ev_lt (hk40_174 _ _ _ _ h) ⟨rfl, ⟨rfl, ⟨rfl, trivial⟩⟩⟩
    · replace h := ite_f hc4 h
      refine ev_iconst (v := (0 : Int32)) dX12_sent_49 (by decide) ?_
      refine ev_istore (loc' := [_, _, _, _, _, _, _, _, _]) dX12_sent_50 rfl (by decide) (by rfl) ?_
      exact ev_lt (f_X12_sent_L52_ok ih hk40_174 (fun _ _ _ _ _ _ hh => f_X12_sent_j168_ok ih hk40_174 hh) _ _ _ _ _ _ _ _ h) ⟨rfl, ⟨rfl, ⟨rfl, ⟨rfl, ⟨rfl, ⟨rfl, ⟨rfl, trivial⟩⟩⟩⟩⟩⟩⟩
def f_X12_sent_j174 (G : Nat)  (v2 v3 v4 : Int32) (μ : Mem) : Option (Int32 × Mem) :=
  (if v3 = (-1 : Int32) then
  some ((-10000 : Int32), μ)
  else
  (if v2 = (0 : Int32) then
  some (v3, μ)
  else
  some (v4, μ)))
set_option maxHeartbeats 4000000 in
set_option maxRecDepth 100000 in
theorem f_X12_sent_j174_ok  {G : Nat} {r : Int32} {μr : Mem}    {v2 v3 v4 : Int32} {μ : Mem} (h : f_X12_sent_j174 G v2 v3 v4 μ = some (r, μr)) : Ev RX12 cX12_sent 9 (some .int) false 9 0 0 (eqP (some r) shR μr) 174 [none, none, some (.int v2), some (.int v3), some (.int v4), none, none, none, none] [] shR μ 0 0 := by
  unfold f_X12_sent_j174 at h
  refine ev_iload_n dX12_sent_174 rfl ?_
  refine ev_iconst (v := (-1 : Int32)) dX12_sent_175 (by decide) ?_
  refine ev_icmp_ne (tgt := 185) dX12_sent_176 (by decide) (fun hc23 => ?_) (fun hc23 => ?_)
  · replace h := ite_f hc23 h
    refine ev_iload_n dX12_sent_185 rfl ?_
    refine ev_if_ne (tgt := 193) dX12_sent_186 (by decide) (fun hc24 => ?_) (fun hc24 => ?_)
    · replace h := ite_f hc24 h
      refine ev_iload dX12_sent_193 rfl ?_
      exact ev_iret rfl rfl (by decide) (by decide) dX12_sent_195 (eqP_E h)
    · replace h := ite_t hc24 h
      refine ev_iload_n dX12_sent_189 rfl ?_
      refine ev_goto (tgt := 195) dX12_sent_190 (by decide) ?_
      exact ev_iret rfl rfl (by decide) (by decide) dX12_sent_195 (eqP_E h)
  · replace h := ite_t hc23 h
    refine ev_sipush (v := (-10000 : Int32)) dX12_sent_179 (by decide) ?_
    refine ev_goto (tgt := 195) dX12_sent_182 (by decide) ?_
    exact ev_iret rfl rfl (by decide) (by decide) dX12_sent_195 (eqP_E h)
def f_X12_sent (G : Nat) (p1 p2 : Int32) (μ : Mem) : Option (Int32 × Mem) :=
  (let m1 := wr μ 0 0 (0 : Int32)
  (if (f_X12_isGroom m1 p1) = (0 : Int32) then
  some ((-10000 : Int32), m1)
  else
  (if (f_X12_isIn p2 (0 : Int32) (1 : Int32)) = (0 : Int32) then
  some ((-10000 : Int32), m1)
  else
  f_X12_sent_L40 G (f_X12_sent_j174 G) G p1 p2 (-1 : Int32) (-100000000 : Int32) (0 : Int32) m1)))
set_option maxHeartbeats 4000000 in
set_option maxRecDepth 100000 in
theorem c_X12_sent  {G : Nat} {μ : Mem} {p1 p2 : Int32} {r : Int32} {μr : Mem}  (h : f_X12_sent G p1 p2 μ = some (r, μr)) : Cn yX12_sent cX12_sent 9 (some .int) 9 0 0 [.ref 0, .int p1, .int p2] shR μ (eqP (some r) shR μr) := by
  refine cn_of (own := RX12) (ini := false) (loc := [some (.ref 0), some (.int p1), some (.int p2), none, none, none, none, none, none]) rfl (by decide) (fun q => by cases q) (Nat.le_of_ble_eq_true rfl) (by rfl) rfl ?_
  unfold f_X12_sent at h
  refine ev_aload_n dX12_sent_0 rfl ?_
  refine ev_iconst (v := (0 : Int32)) dX12_sent_1 (by decide) ?_
  refine ev_putI fr_X12_149 shR_0 rfl rfl rfl dX12_sent_2 ?_
  refine ev_aload_n dX12_sent_5 rfl ?_
  refine ev_iload_n dX12_sent_6 rfl ?_
  refine ev_cVi mv_X12_175 dX12_sent_7 c_X12_isGroom rfl shR_0 rfl rfl (Nat.le_of_ble_eq_true rfl) (by rfl) (Nat.le_of_ble_eq_true rfl) (Nat.le_of_ble_eq_true rfl) (Nat.le_of_ble_eq_true rfl) ?_
  refine ev_if_eq (tgt := 23) dX12_sent_10 (by decide) (fun hc2 => ?_) (fun hc2 => ?_)
  · replace h := ite_t hc2 h
    refine ev_sipush (v := (-10000 : Int32)) dX12_sent_23 (by decide) ?_
    exact ev_iret rfl rfl (by decide) (by decide) dX12_sent_26 (eqP_E h)
  · replace h := ite_f hc2 h
    refine ev_aload_n dX12_sent_13 rfl ?_
    refine ev_iload_n dX12_sent_14 rfl ?_
    refine ev_iconst (v := (0 : Int32)) dX12_sent_15 (by decide) ?_
    refine ev_iconst (v := (1 : Int32)) dX12_sent_16 (by decide) ?_
    refine ev_cVi mv_X12_167 dX12_sent_17 c_X12_isIn rfl shR_0 rfl rfl (Nat.le_of_ble_eq_true rfl) (by rfl) (Nat.le_of_ble_eq_true rfl) (Nat.le_of_ble_eq_true rfl) (Nat.le_of_ble_eq_true rfl) ?_
    refine ev_if_ne (tgt := 27) dX12_sent_20 (by decide) (fun hc3 => ?_) (fun hc3 => ?_)
    · replace h := ite_f hc3 h
      refine ev_iconst (v := (-1 : Int32)) dX12_sent_27 (by decide) ?_
      refine ev_istore_n (loc' := [_, _, _, _, _, _, _, _, _]) dX12_sent_28 rfl (by decide) (by rfl) ?_
      refine ev_ldcw dX12_sent_29 kc_X12_437 ?_
      refine ev_istore (loc' := [_, _, _, _, _, _, _, _, _]) dX12_sent_32 rfl (by decide) (by rfl) ?_
      refine ev_iconst (v := (0 : Int32)) dX12_sent_34 (by decide) ?_
      refine ev_istore (loc' := [_, _, _, _, _, _, _, _, _]) dX12_sent_35 rfl (by decide) (by rfl) ?_
      refine ev_iconst (v := (0 : Int32)) dX12_sent_37 (by decide) ?_
      refine ev_istore (loc' := [_, _, _, _, _, _, _, _, _]) dX12_sent_38 rfl (by decide) (by rfl) ?_
      exact ev_lt (f_X12_sent_L40_ok (fun _ _ _ _ hh => f_X12_sent_j174_ok hh) _ _ _ _ _ _ _ h) ⟨rfl, ⟨rfl, ⟨rfl, ⟨rfl, ⟨rfl, ⟨rfl, trivial⟩⟩⟩⟩⟩⟩
    · replace h := ite_t hc3 h
      refine ev_sipush (v := (-10000 : Int32)) dX12_sent_23 (by decide) ?_
      exact ev_iret rfl rfl (by decide) (by decide) dX12_sent_26 (eqP_E h)
def f_X12_man_j85 (G : Nat)  (s0 s1 : Int32) (μ : Mem) : Option (Int32 × Mem) :=
  chk s1 10 (let m11 := wr μ 29 (ix s1) s0
  (let m13 := wr m11 0 47 ((m11 0 47) + (1 : Int32))
  some ((m13 0 47), m13)))
set_option maxHeartbeats 4000000 in
set_option maxRecDepth 100000 in
theorem f_X12_man_j85_ok  {G : Nat} {r : Int32} {μr : Mem}    {s0 s1 : Int32} {μ : Mem} (h : f_X12_man_j85 G s0 s1 μ = some (r, μr)) : Ev RX12 cX12_man 4 (some .int) false 2 0 0 (eqP (some r) shR μr) 85 [some (.ref 0), none, none, none] [.int s0, .int s1, .ref 29] shR μ 0 0 := by
  unfold f_X12_man_j85 at h
  obtain ⟨hi12, h⟩ := chk_t h
  refine ev_iast shR_29 hi12 dX12_man_85 ?_
  refine ev_aload_n dX12_man_86 rfl ?_
  refine ev_aload_n dX12_man_87 rfl ?_
  refine ev_getI fr_X12_441 shR_0 rfl dX12_man_88 ?_
  refine ev_iconst (v := (1 : Int32)) dX12_man_91 (by decide) ?_
  refine ev_iadd dX12_man_92 ?_
  refine ev_putI fr_X12_441 shR_0 rfl rfl rfl dX12_man_93 ?_
  refine ev_aload_n dX12_man_96 rfl ?_
  refine ev_getI fr_X12_441 shR_0 rfl dX12_man_97 ?_
  exact ev_iret rfl rfl (by decide) (by decide) dX12_man_100 (eqP_E h)
def f_X12_man (G : Nat) (p1 p2 p3 : Int32) (μ : Mem) : Option (Int32 × Mem) :=
  (let m1 := wr μ 0 0 (0 : Int32)
  (if p1 = (-1 : Int32) then
  (let m14 := wr m1 0 47 (0 : Int32)
  some ((0 : Int32), m14))
  else
  (if (f_X12_isIn p1 (0 : Int32) (5 : Int32)) = (0 : Int32) then
  some ((-1 : Int32), m1)
  else
  (if (f_X12_isIn p2 (0 : Int32) (5 : Int32)) = (0 : Int32) then
  some ((-1 : Int32), m1)
  else
  (if (m1 0 47) = (10 : Int32) then
  some ((-1 : Int32), m1)
  else
  chk (m1 0 47) 10 (let m6 := wr m1 27 (ix (m1 0 47)) p1
  chk (m6 0 47) 10 (let m8 := wr m6 28 (ix (m6 0 47)) p2
  (if p3 = (0 : Int32) then
  f_X12_man_j85 G (0 : Int32) (m8 0 47) m8
  else
  f_X12_man_j85 G (1 : Int32) (m8 0 47) m8))))))))
set_option maxHeartbeats 4000000 in
set_option maxRecDepth 100000 in
theorem c_X12_man  {G : Nat} {μ : Mem} {p1 p2 p3 : Int32} {r : Int32} {μr : Mem}  (h : f_X12_man G p1 p2 p3 μ = some (r, μr)) : Cn yX12_man cX12_man 4 (some .int) 2 0 0 [.ref 0, .int p1, .int p2, .int p3] shR μ (eqP (some r) shR μr) := by
  refine cn_of (own := RX12) (ini := false) (loc := [some (.ref 0), some (.int p1), some (.int p2), some (.int p3)]) rfl (by decide) (fun q => by cases q) (Nat.le_of_ble_eq_true rfl) (by rfl) rfl ?_
  unfold f_X12_man at h
  refine ev_aload_n dX12_man_0 rfl ?_
  refine ev_iconst (v := (0 : Int32)) dX12_man_1 (by decide) ?_
  refine ev_putI fr_X12_149 shR_0 rfl rfl rfl dX12_man_2 ?_
  refine ev_iload_n dX12_man_5 rfl ?_
  refine ev_iconst (v := (-1 : Int32)) dX12_man_6 (by decide) ?_
  refine ev_icmp_ne (tgt := 17) dX12_man_7 (by decide) (fun hc2 => ?_) (fun hc2 => ?_)
  · replace h := ite_f hc2 h
    refine ev_aload_n dX12_man_17 rfl ?_
    refine ev_iload_n dX12_man_18 rfl ?_
    refine ev_iconst (v := (0 : Int32)) dX12_man_19 (by decide) ?_
    refine ev_iconst (v := (5 : Int32)) dX12_man_20 (by decide) ?_
    refine ev_cVi mv_X12_167 dX12_man_21 c_X12_isIn rfl shR_0 rfl rfl (Nat.le_of_ble_eq_true rfl) (by rfl) (Nat.le_of_ble_eq_true rfl) (Nat.le_of_ble_eq_true rfl) (Nat.le_of_ble_eq_true rfl) ?_
    refine ev_if_eq (tgt := 46) dX12_man_24 (by decide) (fun hc3 => ?_) (fun hc3 => ?_)
    · replace h := ite_t hc3 h
      refine ev_iconst (v := (-1 : Int32)) dX12_man_46 (by decide) ?_
      exact ev_iret rfl rfl (by decide) (by decide) dX12_man_47 (eqP_E h)
    · replace h := ite_f hc3 h
      refine ev_aload_n dX12_man_27 rfl ?_
      refine ev_iload_n dX12_man_28 rfl ?_
      refine ev_iconst (v := (0 : Int32)) dX12_man_29 (by decide) ?_
      refine ev_iconst (v := (5 : Int32)) dX12_man_30 (by decide) ?_
      refine ev_cVi mv_X12_167 dX12_man_31 c_X12_isIn rfl shR_0 rfl rfl (Nat.le_of_ble_eq_true rfl) (by rfl) (Nat.le_of_ble_eq_true rfl) (Nat.le_of_ble_eq_true rfl) (Nat.le_of_ble_eq_true rfl) ?_
      refine ev_if_eq (tgt := 46) dX12_man_34 (by decide) (fun hc4 => ?_) (fun hc4 => ?_)
      · replace h := ite_t hc4 h
        refine ev_iconst (v := (-1 : Int32)) dX12_man_46 (by decide) ?_
        exact ev_iret rfl rfl (by decide) (by decide) dX12_man_47 (eqP_E h)
      · replace h := ite_f hc4 h
        refine ev_aload_n dX12_man_37 rfl ?_
        refine ev_getI fr_X12_441 shR_0 rfl dX12_man_38 ?_
        refine ev_bipush (v := (10 : Int32)) dX12_man_41 (by decide) ?_
        refine ev_icmp_ne (tgt := 48) dX12_man_43 (by decide) (fun hc5 => ?_) (fun hc5 => ?_)
        · replace h := ite_f hc5 h
          refine ev_aload_n dX12_man_48 rfl ?_
          refine ev_getR fr_X12_92 shR_0 rfl dX12_man_49 ?_
          refine ev_aload_n dX12_man_52 rfl ?_
          refine ev_getI fr_X12_441 shR_0 rfl dX12_man_53 ?_
          refine ev_iload_n dX12_man_56 rfl ?_
          obtain ⟨hi7, h⟩ := chk_t h
          refine ev_iast shR_27 hi7 dX12_man_57 ?_
          refine ev_aload_n dX12_man_58 rfl ?_
          refine ev_getR fr_X12_95 shR_0 rfl dX12_man_59 ?_
          refine ev_aload_n dX12_man_62 rfl ?_
          refine ev_getI fr_X12_441 shR_0 rfl dX12_man_63 ?_
          refine ev_iload_n dX12_man_66 rfl ?_
          obtain ⟨hi9, h⟩ := chk_t h
          refine ev_iast shR_28 hi9 dX12_man_67 ?_
          refine ev_aload_n dX12_man_68 rfl ?_
          refine ev_getR fr_X12_98 shR_0 rfl dX12_man_69 ?_
          refine ev_aload_n dX12_man_72 rfl ?_
          refine ev_getI fr_X12_441 shR_0 rfl dX12_man_73 ?_
          refine ev_iload_n dX12_man_76 rfl ?_
          refine ev_if_eq (tgt := 84) dX12_man_77 (by decide) (fun hc10 => ?_) (fun hc10 => ?_)
          · replace h := ite_t hc10 h
            refine ev_iconst (v := (0 : Int32)) dX12_man_84 (by decide) ?_
            exact ev_lt (f_X12_man_j85_ok h) ⟨rfl, trivial⟩
          · replace h := ite_f hc10 h
            refine ev_iconst (v := (1 : Int32)) dX12_man_80 (by decide) ?_
            refine ev_goto (tgt := 85) dX12_man_81 (by decide) ?_
            exact ev_lt (f_X12_man_j85_ok h) ⟨rfl, trivial⟩
        · replace h := ite_t hc5 h
          refine ev_iconst (v := (-1 : Int32)) dX12_man_46 (by decide) ?_
          exact ev_iret rfl rfl (by decide) (by decide) dX12_man_47 (eqP_E h)
  · replace h := ite_t hc2 h
    refine ev_aload_n dX12_man_10 rfl ?_
    refine ev_iconst (v := (0 : Int32)) dX12_man_11 (by decide) ?_
    refine ev_putI fr_X12_441 shR_0 rfl rfl rfl dX12_man_12 ?_
    refine ev_iconst (v := (0 : Int32)) dX12_man_15 (by decide) ?_
    exact ev_iret rfl rfl (by decide) (by decide) dX12_man_16 (eqP_E h)
def f_X12_canLie_j44 (G : Nat) (μ : Mem) (r2 : Int32 → Int32 → Option Int32) (v1 v2 s0 : Int32) : Option Int32 :=
  chk v2 10 ((if s0 = (f_X12_has v1 (μ 27 (ix v2))) then
  some (0 : Int32)
  else
  r2 v1 (v2 + (1 : Int32))))
set_option maxHeartbeats 4000000 in
set_option maxRecDepth 100000 in
theorem f_X12_canLie_j44_ok  {G : Nat} {μ : Mem} {r : Int32}  {r2 : Int32 → Int32 → Option Int32} (hr2 : ∀ (v1 : Int32) (v2 : Int32), r2 v1 v2 = some r → Ev RX12 cX12_canLie 4 (some .boolean) false 2 0 0 (eqP (some r) shR μ) 2 [some (.ref 0), some (.int v1), some (.int v2), none] [] shR μ 0 0) {v1 v2 s0 : Int32}  (h : f_X12_canLie_j44 G μ r2 v1 v2 s0 = some r) : Ev RX12 cX12_canLie 4 (some .boolean) false 2 0 0 (eqP (some r) shR μ) 44 [some (.ref 0), some (.int v1), some (.int v2), none] [.int s0] shR μ 0 0 := by
  unfold f_X12_canLie_j44 at h
  refine ev_istore_n (loc' := [_, _, _, _]) dX12_canLie_44 rfl (by decide) (by rfl) ?_
  refine ev_iload_n dX12_canLie_45 rfl ?_
  refine ev_aload_n dX12_canLie_46 rfl ?_
  refine ev_iload_n dX12_canLie_47 rfl ?_
  refine ev_aload_n dX12_canLie_48 rfl ?_
  refine ev_getR fr_X12_92 shR_0 rfl dX12_canLie_49 ?_
  refine ev_iload_n dX12_canLie_52 rfl ?_
  obtain ⟨hi6, h⟩ := chk_t h
  refine ev_iald shR_27 hi6 dX12_canLie_53 ?_
  refine ev_cVi mv_X12_371 dX12_canLie_54 c_X12_has rfl shR_0 rfl rfl (Nat.le_of_ble_eq_true rfl) (by rfl) (Nat.le_of_ble_eq_true rfl) (Nat.le_of_ble_eq_true rfl) (Nat.le_of_ble_eq_true rfl) ?_
  refine ev_icmp_ne (tgt := 62) dX12_canLie_57 (by decide) (fun hc7 => ?_) (fun hc7 => ?_)
  · replace h := ite_f hc7 h
    refine ev_iinc (cq := (1 : Int32)) (loc' := [_, _, _, _]) dX12_canLie_62 rfl (by decide) rfl (by decide) (by rfl) ?_
    refine ev_goto (tgt := 2) dX12_canLie_65 (by decide) ?_
    exact ev_lt (hr2 _ _ h) ⟨rfl, ⟨rfl, ⟨rfl, trivial⟩⟩⟩
  · replace h := ite_t hc7 h
    refine ev_iconst (v := (0 : Int32)) dX12_canLie_60 (by decide) ?_
    exact ev_iret rfl rfl (by decide) (by decide) dX12_canLie_61 (eqP_O h)
def f_X12_canLie_j36 (G : Nat) (μ : Mem) (r2 : Int32 → Int32 → Option Int32) (v1 v2 s0 s1 : Int32) : Option Int32 :=
  (if s1 = s0 then
  f_X12_canLie_j44 G μ r2 v1 v2 (1 : Int32)
  else
  f_X12_canLie_j44 G μ r2 v1 v2 (0 : Int32))
set_option maxHeartbeats 4000000 in
set_option maxRecDepth 100000 in
theorem f_X12_canLie_j36_ok  {G : Nat} {μ : Mem} {r : Int32}  {r2 : Int32 → Int32 → Option Int32} (hr2 : ∀ (v1 : Int32) (v2 : Int32), r2 v1 v2 = some r → Ev RX12 cX12_canLie 4 (some .boolean) false 2 0 0 (eqP (some r) shR μ) 2 [some (.ref 0), some (.int v1), some (.int v2), none] [] shR μ 0 0) {v1 v2 s0 s1 : Int32}  (h : f_X12_canLie_j36 G μ r2 v1 v2 s0 s1 = some r) : Ev RX12 cX12_canLie 4 (some .boolean) false 2 0 0 (eqP (some r) shR μ) 36 [some (.ref 0), some (.int v1), some (.int v2), none] [.int s0, .int s1] shR μ 0 0 := by
  unfold f_X12_canLie_j36 at h
  refine ev_icmp_ne (tgt := 43) dX12_canLie_36 (by decide) (fun hc5 => ?_) (fun hc5 => ?_)
  · replace h := ite_f hc5 h
    refine ev_iconst (v := (0 : Int32)) dX12_canLie_43 (by decide) ?_
    exact ev_lt (f_X12_canLie_j44_ok hr2 h) ⟨rfl, ⟨rfl, ⟨rfl, trivial⟩⟩⟩
  · replace h := ite_t hc5 h
    refine ev_iconst (v := (1 : Int32)) dX12_canLie_39 (by decide) ?_
    refine ev_goto (tgt := 44) dX12_canLie_40 (by decide) ?_
    exact ev_lt (f_X12_canLie_j44_ok hr2 h) ⟨rfl, ⟨rfl, ⟨rfl, trivial⟩⟩⟩
def f_X12_canLie_L2 (G : Nat) (μ : Mem)  : Nat → Int32 → Int32 → Option Int32
  | 0, _, _ => none
  | g + 1, v1, v2 =>
  (if (μ 0 47) ≤ v2 then
  some (1 : Int32)
  else
  chk v2 10 (chk v2 10 ((if (μ 29 (ix v2)) = (1 : Int32) then
  f_X12_canLie_j36 G μ (f_X12_canLie_L2 G μ g) v1 v2 (1 : Int32) (f_X12_has v1 (μ 28 (ix v2)))
  else
  f_X12_canLie_j36 G μ (f_X12_canLie_L2 G μ g) v1 v2 (0 : Int32) (f_X12_has v1 (μ 28 (ix v2)))))))
set_option maxHeartbeats 4000000 in
set_option maxRecDepth 100000 in
theorem f_X12_canLie_L2_ok  {G : Nat} {μ : Mem} {r : Int32}    : ∀ (g : Nat) (v1 v2 : Int32), f_X12_canLie_L2 G μ g v1 v2 = some r → Ev RX12 cX12_canLie 4 (some .boolean) false 2 0 0 (eqP (some r) shR μ) 2 [some (.ref 0), some (.int v1), some (.int v2), none] [] shR μ 0 0 := by
  intro g
  induction g with
  | zero =>
    intro v1 v2 h
    cases h
  | succ g ih =>
    intro v1 v2 h
    rw [f_X12_canLie_L2] at h
    refine ev_iload_n dX12_canLie_2 rfl ?_
    refine ev_aload_n dX12_canLie_3 rfl ?_
    refine ev_getI fr_X12_441 shR_0 rfl dX12_canLie_4 ?_
    refine ev_icmp_ge (tgt := 68) dX12_canLie_7 (by decide) (fun hc1 => ?_) (fun hc1 => ?_)
    · replace h := ite_t hc1 h
      refine ev_iconst (v := (1 : Int32)) dX12_canLie_68 (by decide) ?_
      exact ev_iret rfl rfl (by decide) (by decide) dX12_canLie_69 (eqP_O h)
    · replace h := ite_f hc1 h
      refine ev_aload_n dX12_canLie_10 rfl ?_
      refine ev_iload_n dX12_canLie_11 rfl ?_
      refine ev_aload_n dX12_canLie_12 rfl ?_
      refine ev_getR fr_X12_95 shR_0 rfl dX12_canLie_13 ?_
      refine ev_iload_n dX12_canLie_16 rfl ?_
      obtain ⟨hi2, h⟩ := chk_t h
      refine ev_iald shR_28 hi2 dX12_canLie_17 ?_
      refine ev_cVi mv_X12_371 dX12_canLie_18 c_X12_has rfl shR_0 rfl rfl (Nat.le_of_ble_eq_true rfl) (by rfl) (Nat.le_of_ble_eq_true rfl) (Nat.le_of_ble_eq_true rfl) (Nat.le_of_ble_eq_true rfl) ?_
      refine ev_aload_n dX12_canLie_21 rfl ?_
      refine ev_getR fr_X12_98 shR_0 rfl dX12_canLie_22 ?_
      refine ev_iload_n dX12_canLie_25 rfl ?_
      obtain ⟨hi3, h⟩ := chk_t h
      refine ev_iald shR_29 hi3 dX12_canLie_26 ?_
      refine ev_iconst (v := (1 : Int32)) dX12_canLie_27 (by decide) ?_
      refine ev_icmp_ne (tgt := 35) dX12_canLie_28 (by decide) (fun hc4 => ?_) (fun hc4 => ?_)
      · replace h := ite_f hc4 h
        refine ev_iconst (v := (0 : Int32)) dX12_canLie_35 (by decide) ?_
        exact ev_lt (f_X12_canLie_j36_ok ih h) ⟨rfl, ⟨rfl, ⟨rfl, trivial⟩⟩⟩
      · replace h := ite_t hc4 h
        refine ev_iconst (v := (1 : Int32)) dX12_canLie_31 (by decide) ?_
        refine ev_goto (tgt := 36) dX12_canLie_32 (by decide) ?_
        exact ev_lt (f_X12_canLie_j36_ok ih h) ⟨rfl, ⟨rfl, ⟨rfl, trivial⟩⟩⟩
def f_X12_canLie (G : Nat) (μ : Mem) (p1 : Int32) : Option Int32 :=
  f_X12_canLie_L2 G μ G p1 (0 : Int32)
set_option maxHeartbeats 4000000 in
set_option maxRecDepth 100000 in
theorem c_X12_canLie  {G : Nat} {μ : Mem}  {p1 : Int32} {r : Int32}  (h : f_X12_canLie G μ p1 = some r) : Cn yX12_canLie cX12_canLie 4 (some .boolean) 2 0 0 [.ref 0, .int p1] shR μ (eqP (some r) shR μ) := by
  refine cn_of (own := RX12) (ini := false) (loc := [some (.ref 0), some (.int p1), none, none]) rfl (by decide) (fun q => by cases q) (Nat.le_of_ble_eq_true rfl) (by rfl) rfl ?_
  unfold f_X12_canLie at h
  refine ev_iconst (v := (0 : Int32)) dX12_canLie_0 (by decide) ?_
  refine ev_istore_n (loc' := [_, _, _, _]) dX12_canLie_1 rfl (by decide) (by rfl) ?_
  exact ev_lt (f_X12_canLie_L2_ok _ _ _ h) ⟨rfl, ⟨rfl, ⟨rfl, trivial⟩⟩⟩
def f_X12_liars_j100 (G : Nat) (r41 : Int32 → Int32 → Int32 → Int32 → Int32 → Mem → Option (Int32 × Mem)) (k41_106 : Int32 → Int32 → Int32 → Int32 → Mem → Option (Int32 × Mem)) (v1 v2 v3 v4 v5 : Int32) (μ : Mem) : Option (Int32 × Mem) :=
  r41 v1 v2 v3 v4 (v5 + (1 : Int32)) μ
set_option maxHeartbeats 4000000 in
set_option maxRecDepth 100000 in
theorem f_X12_liars_j100_ok  {G : Nat} {r : Int32} {μr : Mem}  {r41 : Int32 → Int32 → Int32 → Int32 → Int32 → Mem → Option (Int32 × Mem)} {k41_106 : Int32 → Int32 → Int32 → Int32 → Mem → Option (Int32 × Mem)} (hr41 : ∀ (v1 : Int32) (v2 : Int32) (v3 : Int32) (v4 : Int32) (v5 : Int32) (m : Mem), r41 v1 v2 v3 v4 v5 m = some (r, μr) → Ev RX12 cX12_liars 6 (some .int) false 3 0 0 (eqP (some r) shR μr) 41 [some (.ref 0), some (.int v1), some (.int v2), some (.int v3), some (.int v4), some (.int v5)] [] shR m 0 0) (hk41_106 : ∀ (v1 : Int32) (v2 : Int32) (v3 : Int32) (v4 : Int32) (m : Mem), k41_106 v1 v2 v3 v4 m = some (r, μr) → Ev RX12 cX12_liars 6 (some .int) false 3 0 0 (eqP (some r) shR μr) 106 [none, some (.int v1), some (.int v2), some (.int v3), some (.int v4), none] [] shR m 0 0) {v1 v2 v3 v4 v5 : Int32} {μ : Mem} (h : f_X12_liars_j100 G r41 k41_106 v1 v2 v3 v4 v5 μ = some (r, μr)) : Ev RX12 cX12_liars 6 (some .int) false 3 0 0 (eqP (some r) shR μr) 100 [some (.ref 0), some (.int v1), some (.int v2), some (.int v3), some (.int v4), some (.int v5)] [] shR μ 0 0 := by
  unfold f_X12_liars_j100 at h
  refine ev_iinc (cq := (1 : Int32)) (loc' := [_, _, _, _, _, _]) dX12_liars_100 rfl (by decide) rfl (by decide) (by rfl) ?_
  refine ev_goto (tgt := 41) dX12_liars_103 (by decide) ?_
  exact ev_lt (hr41 _ _ _ _ _ _ h) ⟨rfl, ⟨rfl, ⟨rfl, ⟨rfl, ⟨rfl, ⟨rfl, trivial⟩⟩⟩⟩⟩⟩
def f_X12_liars_L41 (G : Nat) (k41_106 : Int32 → Int32 → Int32 → Int32 → Mem → Option (Int32 × Mem)) : Nat → Int32 → Int32 → Int32 → Int32 → Int32 → Mem → Option (Int32 × Mem)
  | 0, _, _, _, _, _, _ => none
  | g + 1, v1, v2, v3, v4, v5, μ =>
  (if (64 : Int32) ≤ v5 then
  k41_106 v1 v2 v3 v4 μ
  else
  bndO (f_X12_canLie G μ v5) (fun w5 =>
  (if w5 = (0 : Int32) then
  f_X12_liars_j100 G (f_X12_liars_L41 G k41_106 g) k41_106 v1 v2 v3 v4 v5 μ
  else
  bndO (f_X12_onesOf G μ v5) (fun w8 =>
  (if v1 ≤ (1 : Int32) then
  f_X12_liars_j100 G (f_X12_liars_L41 G k41_106 g) k41_106 v1 (v2 + (1 : Int32)) (f_X12_lesser v3 w8) v4 v5 μ
  else
  (if (f_X12_has v5 (v1 - (10 : Int32))) = (0 : Int32) then
  f_X12_liars_j100 G (f_X12_liars_L41 G k41_106 g) k41_106 v1 (v2 + (1 : Int32)) (f_X12_lesser v3 w8) v4 v5 μ
  else
  f_X12_liars_j100 G (f_X12_liars_L41 G k41_106 g) k41_106 v1 (v2 + (1 : Int32)) (f_X12_lesser v3 w8) (v4 + (1 : Int32)) v5 μ))))))
set_option maxHeartbeats 4000000 in
set_option maxRecDepth 100000 in
theorem f_X12_liars_L41_ok  {G : Nat} {r : Int32} {μr : Mem}  {k41_106 : Int32 → Int32 → Int32 → Int32 → Mem → Option (Int32 × Mem)} (hk41_106 : ∀ (v1 : Int32) (v2 : Int32) (v3 : Int32) (v4 : Int32) (m : Mem), k41_106 v1 v2 v3 v4 m = some (r, μr) → Ev RX12 cX12_liars 6 (some .int) false 3 0 0 (eqP (some r) shR μr) 106 [none, some (.int v1), some (.int v2), some (.int v3), some (.int v4), none] [] shR m 0 0) : ∀ (g : Nat) (v1 v2 v3 v4 v5 : Int32) (μ : Mem), f_X12_liars_L41 G k41_106 g v1 v2 v3 v4 v5 μ = some (r, μr) → Ev RX12 cX12_liars 6 (some .int) false 3 0 0 (eqP (some r) shR μr) 41 [some (.ref 0), some (.int v1), some (.int v2), some (.int v3), some (.int v4), some (.int v5)] [] shR μ 0 0 := by
  intro g
  induction g with
  | zero =>
    intro v1 v2 v3 v4 v5 μ h
    cases h
  | succ g ih =>
    intro v1 v2 v3 v4 v5 μ h
    rw [f_X12_liars_L41] at h
    refine ev_iload dX12_liars_41 rfl ?_
    refine ev_bipush (v := (64 : Int32)) dX12_liars_43 (by decide) ?_
    refine ev_icmp_ge (tgt := 106) dX12_liars_45 (by decide) (fun hc3 => ?_) (fun hc3 => ?_)
    · replace h := ite_t hc3 h
      exact ev_lt (hk41_106 _ _ _ _ _ h) ⟨rfl, ⟨rfl, ⟨rfl, ⟨rfl, trivial⟩⟩⟩⟩
    · replace h := ite_f hc3 h
      refine ev_aload_n dX12_liars_48 rfl ?_
      refine ev_iload dX12_liars_49 rfl ?_
      obtain ⟨w5, hq4, h⟩ := bndO_t h
      refine ev_cVi mv_X12_444 dX12_liars_51 (c_X12_canLie hq4) rfl shR_0 rfl rfl (Nat.le_of_ble_eq_true rfl) (by rfl) (Nat.le_of_ble_eq_true rfl) (Nat.le_of_ble_eq_true rfl) (Nat.le_of_ble_eq_true rfl) ?_
      refine ev_if_ne (tgt := 60) dX12_liars_54 (by decide) (fun hc6 => ?_) (fun hc6 => ?_)
      · replace h := ite_f hc6 h
        refine ev_iload_n dX12_liars_60 rfl ?_
        refine ev_iconst (v := (1 : Int32)) dX12_liars_61 (by decide) ?_
        refine ev_iadd dX12_liars_62 ?_
        refine ev_istore_n (loc' := [_, _, _, _, _, _]) dX12_liars_63 rfl (by decide) (by rfl) ?_
        refine ev_aload_n dX12_liars_64 rfl ?_
        refine ev_iload_n dX12_liars_65 rfl ?_
        refine ev_aload_n dX12_liars_66 rfl ?_
        refine ev_iload dX12_liars_67 rfl ?_
        obtain ⟨w8, hq7, h⟩ := bndO_t h
        refine ev_cVi mv_X12_447 dX12_liars_69 (c_X12_onesOf hq7) rfl shR_0 rfl rfl (Nat.le_of_ble_eq_true rfl) (by rfl) (Nat.le_of_ble_eq_true rfl) (Nat.le_of_ble_eq_true rfl) (Nat.le_of_ble_eq_true rfl) ?_
        refine ev_cVi mv_X12_428 dX12_liars_72 c_X12_lesser rfl shR_0 rfl rfl (Nat.le_of_ble_eq_true rfl) (by rfl) (Nat.le_of_ble_eq_true rfl) (Nat.le_of_ble_eq_true rfl) (Nat.le_of_ble_eq_true rfl) ?_
        refine ev_istore_n (loc' := [_, _, _, _, _, _]) dX12_liars_75 rfl (by decide) (by rfl) ?_
        refine ev_iload_n dX12_liars_76 rfl ?_
        refine ev_iconst (v := (1 : Int32)) dX12_liars_77 (by decide) ?_
        refine ev_icmp_le (tgt := 100) dX12_liars_78 (by decide) (fun hc9 => ?_) (fun hc9 => ?_)
        · replace h := ite_t hc9 h
          exact ev_lt (f_X12_liars_j100_ok ih hk41_106 h) ⟨rfl, ⟨rfl, ⟨rfl, ⟨rfl, ⟨rfl, ⟨rfl, trivial⟩⟩⟩⟩⟩⟩
        · replace h := ite_f hc9 h
          refine ev_aload_n dX12_liars_81 rfl ?_
          refine ev_iload dX12_liars_82 rfl ?_
          refine ev_iload_n dX12_liars_84 rfl ?_
          refine ev_bipush (v := (10 : Int32)) dX12_liars_85 (by decide) ?_
          refine ev_isub dX12_liars_87 ?_
          refine ev_cVi mv_X12_371 dX12_liars_88 c_X12_has rfl shR_0 rfl rfl (Nat.le_of_ble_eq_true rfl) (by rfl) (Nat.le_of_ble_eq_true rfl) (Nat.le_of_ble_eq_true rfl) (Nat.le_of_ble_eq_true rfl) ?_
          refine ev_if_eq (tgt := 100) dX12_liars_91 (by decide) (fun hc10 => ?_) (fun hc10 => ?_)
          · replace h := ite_t hc10 h
            exact ev_lt (f_X12_liars_j100_ok ih hk41_106 h) ⟨rfl, ⟨rfl, ⟨rfl, ⟨rfl, ⟨rfl, ⟨rfl, trivial⟩⟩⟩⟩⟩⟩
          · replace h := ite_f hc10 h
            refine ev_iload dX12_liars_94 rfl ?_
            refine ev_iconst (v := (1 : Int32)) dX12_liars_96 (by decide) ?_
            refine ev_iadd dX12_liars_97 ?_
            refine ev_istore (loc' := [_, _, _, _, _, _]) dX12_liars_98 rfl (by decide) (by rfl) ?_
            exact ev_lt (f_X12_liars_j100_ok ih hk41_106 h) ⟨rfl, ⟨rfl, ⟨rfl, ⟨rfl, ⟨rfl, ⟨rfl, trivial⟩⟩⟩⟩⟩⟩
      · replace h := ite_t hc6 h
        refine ev_goto (tgt := 100) dX12_liars_57 (by decide) ?_
        exact ev_lt (f_X12_liars_j100_ok ih hk41_106 h) ⟨rfl, ⟨rfl, ⟨rfl, ⟨rfl, ⟨rfl, ⟨rfl, trivial⟩⟩⟩⟩⟩⟩
def f_X12_liars_j106 (G : Nat)  (v1 v2 v3 v4 : Int32) (μ : Mem) : Option (Int32 × Mem) :=
  (if v1 = (0 : Int32) then
  some (v2, μ)
  else
  (if v2 = (0 : Int32) then
  some ((-1 : Int32), μ)
  else
  (if v1 = (1 : Int32) then
  some (v3, μ)
  else
  (if v4 = v2 then
  some ((1 : Int32), μ)
  else
  (if v4 = (0 : Int32) then
  some ((0 : Int32), μ)
  else
  some ((-1 : Int32), μ))))))
set_option maxHeartbeats 4000000 in
set_option maxRecDepth 100000 in
theorem f_X12_liars_j106_ok  {G : Nat} {r : Int32} {μr : Mem}    {v1 v2 v3 v4 : Int32} {μ : Mem} (h : f_X12_liars_j106 G v1 v2 v3 v4 μ = some (r, μr)) : Ev RX12 cX12_liars 6 (some .int) false 3 0 0 (eqP (some r) shR μr) 106 [none, some (.int v1), some (.int v2), some (.int v3), some (.int v4), none] [] shR μ 0 0 := by
  unfold f_X12_liars_j106 at h
  refine ev_iload_n dX12_liars_106 rfl ?_
  refine ev_if_ne (tgt := 112) dX12_liars_107 (by decide) (fun hc11 => ?_) (fun hc11 => ?_)
  · replace h := ite_f hc11 h
    refine ev_iload_n dX12_liars_112 rfl ?_
    refine ev_if_ne (tgt := 118) dX12_liars_113 (by decide) (fun hc12 => ?_) (fun hc12 => ?_)
    · replace h := ite_f hc12 h
      refine ev_iload_n dX12_liars_118 rfl ?_
      refine ev_iconst (v := (1 : Int32)) dX12_liars_119 (by decide) ?_
      refine ev_icmp_ne (tgt := 127) dX12_liars_120 (by decide) (fun hc13 => ?_) (fun hc13 => ?_)
      · replace h := ite_f hc13 h
        refine ev_iload dX12_liars_127 rfl ?_
        refine ev_iload_n dX12_liars_129 rfl ?_
        refine ev_icmp_ne (tgt := 137) dX12_liars_130 (by decide) (fun hc14 => ?_) (fun hc14 => ?_)
        · replace h := ite_f hc14 h
          refine ev_iload dX12_liars_137 rfl ?_
          refine ev_if_ne (tgt := 146) dX12_liars_139 (by decide) (fun hc15 => ?_) (fun hc15 => ?_)
          · replace h := ite_f hc15 h
            refine ev_iconst (v := (-1 : Int32)) dX12_liars_146 (by decide) ?_
            exact ev_iret rfl rfl (by decide) (by decide) dX12_liars_147 (eqP_E h)
          · replace h := ite_t hc15 h
            refine ev_iconst (v := (0 : Int32)) dX12_liars_142 (by decide) ?_
            refine ev_goto (tgt := 147) dX12_liars_143 (by decide) ?_
            exact ev_iret rfl rfl (by decide) (by decide) dX12_liars_147 (eqP_E h)
        · replace h := ite_t hc14 h
          refine ev_iconst (v := (1 : Int32)) dX12_liars_133 (by decide) ?_
          refine ev_goto (tgt := 147) dX12_liars_134 (by decide) ?_
          exact ev_iret rfl rfl (by decide) (by decide) dX12_liars_147 (eqP_E h)
      · replace h := ite_t hc13 h
        refine ev_iload_n dX12_liars_123 rfl ?_
        refine ev_goto (tgt := 147) dX12_liars_124 (by decide) ?_
        exact ev_iret rfl rfl (by decide) (by decide) dX12_liars_147 (eqP_E h)
    · replace h := ite_t hc12 h
      refine ev_iconst (v := (-1 : Int32)) dX12_liars_116 (by decide) ?_
      exact ev_iret rfl rfl (by decide) (by decide) dX12_liars_117 (eqP_E h)
  · replace h := ite_t hc11 h
    refine ev_iload_n dX12_liars_110 rfl ?_
    exact ev_iret rfl rfl (by decide) (by decide) dX12_liars_111 (eqP_E h)
def f_X12_liars_j29 (G : Nat)  (v1 : Int32) (μ : Mem) : Option (Int32 × Mem) :=
  f_X12_liars_L41 G (f_X12_liars_j106 G) G v1 (0 : Int32) (100000000 : Int32) (0 : Int32) (0 : Int32) μ
set_option maxHeartbeats 4000000 in
set_option maxRecDepth 100000 in
theorem f_X12_liars_j29_ok  {G : Nat} {r : Int32} {μr : Mem}    {v1 : Int32} {μ : Mem} (h : f_X12_liars_j29 G v1 μ = some (r, μr)) : Ev RX12 cX12_liars 6 (some .int) false 3 0 0 (eqP (some r) shR μr) 29 [some (.ref 0), some (.int v1), none, none, none, none] [] shR μ 0 0 := by
  unfold f_X12_liars_j29 at h
  refine ev_iconst (v := (0 : Int32)) dX12_liars_29 (by decide) ?_
  refine ev_istore_n (loc' := [_, _, _, _, _, _]) dX12_liars_30 rfl (by decide) (by rfl) ?_
  refine ev_ldcw dX12_liars_31 kc_X12_424 ?_
  refine ev_istore_n (loc' := [_, _, _, _, _, _]) dX12_liars_34 rfl (by decide) (by rfl) ?_
  refine ev_iconst (v := (0 : Int32)) dX12_liars_35 (by decide) ?_
  refine ev_istore (loc' := [_, _, _, _, _, _]) dX12_liars_36 rfl (by decide) (by rfl) ?_
  refine ev_iconst (v := (0 : Int32)) dX12_liars_38 (by decide) ?_
  refine ev_istore (loc' := [_, _, _, _, _, _]) dX12_liars_39 rfl (by decide) (by rfl) ?_
  exact ev_lt (f_X12_liars_L41_ok (fun _ _ _ _ _ hh => f_X12_liars_j106_ok hh) _ _ _ _ _ _ _ h) ⟨rfl, ⟨rfl, ⟨rfl, ⟨rfl, ⟨rfl, ⟨rfl, trivial⟩⟩⟩⟩⟩⟩
def f_X12_liars (G : Nat) (p1 : Int32) (μ : Mem) : Option (Int32 × Mem) :=
  (let m1 := wr μ 0 0 (0 : Int32)
  (if (f_X12_isIn p1 (0 : Int32) (1 : Int32)) = (0 : Int32) then
  (if (f_X12_isIn p1 (10 : Int32) (15 : Int32)) = (0 : Int32) then
  some ((-1 : Int32), m1)
  else
  f_X12_liars_j29 G p1 m1)
  else
  f_X12_liars_j29 G p1 m1))
set_option maxHeartbeats 4000000 in
set_option maxRecDepth 100000 in
theorem c_X12_liars  {G : Nat} {μ : Mem} {p1 : Int32} {r : Int32} {μr : Mem}  (h : f_X12_liars G p1 μ = some (r, μr)) : Cn yX12_liars cX12_liars 6 (some .int) 3 0 0 [.ref 0, .int p1] shR μ (eqP (some r) shR μr) := by
  refine cn_of (own := RX12) (ini := false) (loc := [some (.ref 0), some (.int p1), none, none, none, none]) rfl (by decide) (fun q => by cases q) (Nat.le_of_ble_eq_true rfl) (by rfl) rfl ?_
  unfold f_X12_liars at h
  refine ev_aload_n dX12_liars_0 rfl ?_
  refine ev_iconst (v := (0 : Int32)) dX12_liars_1 (by decide) ?_
  refine ev_putI fr_X12_149 shR_0 rfl rfl rfl dX12_liars_2 ?_
  refine ev_aload_n dX12_liars_5 rfl ?_
  refine ev_iload_n dX12_liars_6 rfl ?_
  refine ev_iconst (v := (0 : Int32)) dX12_liars_7 (by decide) ?_
  refine ev_iconst (v := (1 : Int32)) dX12_liars_8 (by decide) ?_
  refine ev_cVi mv_X12_167 dX12_liars_9 c_X12_isIn rfl shR_0 rfl rfl (Nat.le_of_ble_eq_true rfl) (by rfl) (Nat.le_of_ble_eq_true rfl) (Nat.le_of_ble_eq_true rfl) (Nat.le_of_ble_eq_true rfl) ?_
  refine ev_if_ne (tgt := 29) dX12_liars_12 (by decide) (fun hc2 => ?_) (fun hc2 => ?_)
  · replace h := ite_f hc2 h
    exact ev_lt (f_X12_liars_j29_ok h) ⟨rfl, ⟨rfl, trivial⟩⟩
  · replace h := ite_t hc2 h
    refine ev_aload_n dX12_liars_15 rfl ?_
    refine ev_iload_n dX12_liars_16 rfl ?_
    refine ev_bipush (v := (10 : Int32)) dX12_liars_17 (by decide) ?_
    refine ev_bipush (v := (15 : Int32)) dX12_liars_19 (by decide) ?_
    refine ev_cVi mv_X12_167 dX12_liars_21 c_X12_isIn rfl shR_0 rfl rfl (Nat.le_of_ble_eq_true rfl) (by rfl) (Nat.le_of_ble_eq_true rfl) (Nat.le_of_ble_eq_true rfl) (Nat.le_of_ble_eq_true rfl) ?_
    refine ev_if_ne (tgt := 29) dX12_liars_24 (by decide) (fun hc16 => ?_) (fun hc16 => ?_)
    · replace h := ite_f hc16 h
      exact ev_lt (f_X12_liars_j29_ok h) ⟨rfl, ⟨rfl, trivial⟩⟩
    · replace h := ite_t hc16 h
      refine ev_iconst (v := (-1 : Int32)) dX12_liars_27 (by decide) ?_
      exact ev_iret rfl rfl (by decide) (by decide) dX12_liars_28 (eqP_E h)
def f_X12_plumeAt  (p1 p2 : Int32) : Int32 :=
  (if p2 = (0 : Int32) then
  (p1 / (100 : Int32))
  else
  (if p2 = (1 : Int32) then
  (irm (p1 / (10 : Int32)) (10 : Int32))
  else
  (irm p1 (10 : Int32))))
set_option maxHeartbeats 4000000 in
set_option maxRecDepth 100000 in
theorem c_X12_plumeAt   {μ : Mem} {p1 p2 : Int32}  : Cn yX12_plumeAt cX12_plumeAt 3 (some .int) 1 0 0 [.ref 0, .int p1, .int p2] shR μ (eqP (some (f_X12_plumeAt p1 p2)) shR μ) := by
  obtain ⟨r, h⟩ : ∃ r, f_X12_plumeAt p1 p2 = r := ⟨_, rfl⟩
  rw [h]
  refine cn_of (own := RX12) (ini := false) (loc := [some (.ref 0), some (.int p1), some (.int p2)]) rfl (by decide) (fun q => by cases q) (Nat.le_of_ble_eq_true rfl) (by rfl) rfl ?_
  unfold f_X12_plumeAt at h
  refine ev_iload_n dX12_plumeAt_0 rfl ?_
  refine ev_if_ne (tgt := 11) dX12_plumeAt_1 (by decide) (fun hc1 => ?_) (fun hc1 => ?_)
  · replace h := ite_f hc1 h
    refine ev_iload_n dX12_plumeAt_11 rfl ?_
    refine ev_iconst (v := (1 : Int32)) dX12_plumeAt_12 (by decide) ?_
    refine ev_icmp_ne (tgt := 26) dX12_plumeAt_13 (by decide) (fun hc2 => ?_) (fun hc2 => ?_)
    · replace h := ite_f hc2 h
      refine ev_iload_n dX12_plumeAt_26 rfl ?_
      refine ev_bipush (v := (10 : Int32)) dX12_plumeAt_27 (by decide) ?_
      refine ev_irem dX12_plumeAt_29 (by decide) ?_
      exact ev_iret rfl rfl (by decide) (by decide) dX12_plumeAt_30 (eqP_P h)
    · replace h := ite_t hc2 h
      refine ev_iload_n dX12_plumeAt_16 rfl ?_
      refine ev_bipush (v := (10 : Int32)) dX12_plumeAt_17 (by decide) ?_
      refine ev_idiv dX12_plumeAt_19 (by decide) ?_
      refine ev_bipush (v := (10 : Int32)) dX12_plumeAt_20 (by decide) ?_
      refine ev_irem dX12_plumeAt_22 (by decide) ?_
      refine ev_goto (tgt := 30) dX12_plumeAt_23 (by decide) ?_
      exact ev_iret rfl rfl (by decide) (by decide) dX12_plumeAt_30 (eqP_P h)
  · replace h := ite_t hc1 h
    refine ev_iload_n dX12_plumeAt_4 rfl ?_
    refine ev_bipush (v := (100 : Int32)) dX12_plumeAt_5 (by decide) ?_
    refine ev_idiv dX12_plumeAt_7 (by decide) ?_
    refine ev_goto (tgt := 30) dX12_plumeAt_8 (by decide) ?_
    exact ev_iret rfl rfl (by decide) (by decide) dX12_plumeAt_30 (eqP_P h)
def f_X12_isRow  (p1 : Int32) : Int32 :=
  (if (f_X12_isIn p1 (0 : Int32) (555 : Int32)) = (0 : Int32) then
  (0 : Int32)
  else
  (if (6 : Int32) ≤ (f_X12_plumeAt p1 (1 : Int32)) then
  (0 : Int32)
  else
  (if (6 : Int32) ≤ (f_X12_plumeAt p1 (2 : Int32)) then
  (0 : Int32)
  else
  (1 : Int32))))
set_option maxHeartbeats 4000000 in
set_option maxRecDepth 100000 in
theorem c_X12_isRow   {μ : Mem} {p1 : Int32}  : Cn yX12_isRow cX12_isRow 2 (some .boolean) 2 0 0 [.ref 0, .int p1] shR μ (eqP (some (f_X12_isRow p1)) shR μ) := by
  obtain ⟨r, h⟩ : ∃ r, f_X12_isRow p1 = r := ⟨_, rfl⟩
  rw [h]
  refine cn_of (own := RX12) (ini := false) (loc := [some (.ref 0), some (.int p1)]) rfl (by decide) (fun q => by cases q) (Nat.le_of_ble_eq_true rfl) (by rfl) rfl ?_
  unfold f_X12_isRow at h
  refine ev_aload_n dX12_isRow_0 rfl ?_
  refine ev_iload_n dX12_isRow_1 rfl ?_
  refine ev_iconst (v := (0 : Int32)) dX12_isRow_2 (by decide) ?_
  refine ev_sipush (v := (555 : Int32)) dX12_isRow_3 (by decide) ?_
  refine ev_cVi mv_X12_167 dX12_isRow_6 c_X12_isIn rfl shR_0 rfl rfl (Nat.le_of_ble_eq_true rfl) (by rfl) (Nat.le_of_ble_eq_true rfl) (Nat.le_of_ble_eq_true rfl) (Nat.le_of_ble_eq_true rfl) ?_
  refine ev_if_eq (tgt := 38) dX12_isRow_9 (by decide) (fun hc1 => ?_) (fun hc1 => ?_)
  · replace h := ite_t hc1 h
    refine ev_iconst (v := (0 : Int32)) dX12_isRow_38 (by decide) ?_
    exact ev_iret rfl rfl (by decide) (by decide) dX12_isRow_39 (eqP_P h)
  · replace h := ite_f hc1 h
    refine ev_aload_n dX12_isRow_12 rfl ?_
    refine ev_iload_n dX12_isRow_13 rfl ?_
    refine ev_iconst (v := (1 : Int32)) dX12_isRow_14 (by decide) ?_
    refine ev_cVi mv_X12_450 dX12_isRow_15 c_X12_plumeAt rfl shR_0 rfl rfl (Nat.le_of_ble_eq_true rfl) (by rfl) (Nat.le_of_ble_eq_true rfl) (Nat.le_of_ble_eq_true rfl) (Nat.le_of_ble_eq_true rfl) ?_
    refine ev_bipush (v := (6 : Int32)) dX12_isRow_18 (by decide) ?_
    refine ev_icmp_ge (tgt := 38) dX12_isRow_20 (by decide) (fun hc2 => ?_) (fun hc2 => ?_)
    · replace h := ite_t hc2 h
      refine ev_iconst (v := (0 : Int32)) dX12_isRow_38 (by decide) ?_
      exact ev_iret rfl rfl (by decide) (by decide) dX12_isRow_39 (eqP_P h)
    · replace h := ite_f hc2 h
      refine ev_aload_n dX12_isRow_23 rfl ?_
      refine ev_iload_n dX12_isRow_24 rfl ?_
      refine ev_iconst (v := (2 : Int32)) dX12_isRow_25 (by decide) ?_
      refine ev_cVi mv_X12_450 dX12_isRow_26 c_X12_plumeAt rfl shR_0 rfl rfl (Nat.le_of_ble_eq_true rfl) (by rfl) (Nat.le_of_ble_eq_true rfl) (Nat.le_of_ble_eq_true rfl) (Nat.le_of_ble_eq_true rfl) ?_
      refine ev_bipush (v := (6 : Int32)) dX12_isRow_29 (by decide) ?_
      refine ev_icmp_ge (tgt := 38) dX12_isRow_31 (by decide) (fun hc3 => ?_) (fun hc3 => ?_)
      · replace h := ite_t hc3 h
        refine ev_iconst (v := (0 : Int32)) dX12_isRow_38 (by decide) ?_
        exact ev_iret rfl rfl (by decide) (by decide) dX12_isRow_39 (eqP_P h)
      · replace h := ite_f hc3 h
        refine ev_iconst (v := (1 : Int32)) dX12_isRow_34 (by decide) ?_
        refine ev_goto (tgt := 39) dX12_isRow_35 (by decide) ?_
        exact ev_iret rfl rfl (by decide) (by decide) dX12_isRow_39 (eqP_P h)
def f_X12_saidOf_j35 (G : Nat) (μ : Mem) (r8 : Int32 → Int32 → Int32 → Int32 → Int32 → Option Int32) (k8_41 : Int32 → Int32 → Int32 → Int32 → Option Int32) (v1 v2 v3 v4 v5 : Int32) : Option Int32 :=
  r8 v1 v2 v3 v4 (v5 + (1 : Int32))
set_option maxHeartbeats 4000000 in
set_option maxRecDepth 100000 in
theorem f_X12_saidOf_j35_ok  {G : Nat} {μ : Mem} {r : Int32}  {r8 : Int32 → Int32 → Int32 → Int32 → Int32 → Option Int32} {k8_41 : Int32 → Int32 → Int32 → Int32 → Option Int32} (hr8 : ∀ (v1 : Int32) (v2 : Int32) (v3 : Int32) (v4 : Int32) (v5 : Int32), r8 v1 v2 v3 v4 v5 = some r → Ev RX12 cX12_saidOf 9 (some .int) false 2 0 0 (eqP (some r) shR μ) 8 [some (.ref 0), some (.int v1), some (.int v2), some (.int v3), some (.int v4), some (.int v5), none, none, none] [] shR μ 0 0) (hk8_41 : ∀ (v1 : Int32) (v2 : Int32) (v3 : Int32) (v4 : Int32), k8_41 v1 v2 v3 v4 = some r → Ev RX12 cX12_saidOf 9 (some .int) false 2 0 0 (eqP (some r) shR μ) 41 [some (.ref 0), some (.int v1), some (.int v2), some (.int v3), some (.int v4), none, none, none, none] [] shR μ 0 0) {v1 v2 v3 v4 v5 : Int32}  (h : f_X12_saidOf_j35 G μ r8 k8_41 v1 v2 v3 v4 v5 = some r) : Ev RX12 cX12_saidOf 9 (some .int) false 2 0 0 (eqP (some r) shR μ) 35 [some (.ref 0), some (.int v1), some (.int v2), some (.int v3), some (.int v4), some (.int v5), none, none, none] [] shR μ 0 0 := by
  unfold f_X12_saidOf_j35 at h
  refine ev_iinc (cq := (1 : Int32)) (loc' := [_, _, _, _, _, _, _, _, _]) dX12_saidOf_35 rfl (by decide) rfl (by decide) (by rfl) ?_
  refine ev_goto (tgt := 8) dX12_saidOf_38 (by decide) ?_
  exact ev_lt (hr8 _ _ _ _ _ h) ⟨rfl, ⟨rfl, ⟨rfl, ⟨rfl, ⟨rfl, ⟨rfl, trivial⟩⟩⟩⟩⟩⟩
def f_X12_saidOf_L8 (G : Nat) (μ : Mem) (k8_41 : Int32 → Int32 → Int32 → Int32 → Option Int32) : Nat → Int32 → Int32 → Int32 → Int32 → Int32 → Option Int32
  | 0, _, _, _, _, _ => none
  | g + 1, v1, v2, v3, v4, v5 =>
  (if (3 : Int32) ≤ v5 then
  k8_41 v1 v2 v3 v4
  else
  (if (f_X12_plumeAt v1 v5) = (f_X12_plumeAt v2 v5) then
  f_X12_saidOf_j35 G μ (f_X12_saidOf_L8 G μ k8_41 g) k8_41 v1 v2 (v3 + (1 : Int32)) v4 v5
  else
  f_X12_saidOf_j35 G μ (f_X12_saidOf_L8 G μ k8_41 g) k8_41 v1 v2 v3 v4 v5))
set_option maxHeartbeats 4000000 in
set_option maxRecDepth 100000 in
theorem f_X12_saidOf_L8_ok  {G : Nat} {μ : Mem} {r : Int32}  {k8_41 : Int32 → Int32 → Int32 → Int32 → Option Int32} (hk8_41 : ∀ (v1 : Int32) (v2 : Int32) (v3 : Int32) (v4 : Int32), k8_41 v1 v2 v3 v4 = some r → Ev RX12 cX12_saidOf 9 (some .int) false 2 0 0 (eqP (some r) shR μ) 41 [some (.ref 0), some (.int v1), some (.int v2), some (.int v3), some (.int v4), none, none, none, none] [] shR μ 0 0) : ∀ (g : Nat) (v1 v2 v3 v4 v5 : Int32), f_X12_saidOf_L8 G μ k8_41 g v1 v2 v3 v4 v5 = some r → Ev RX12 cX12_saidOf 9 (some .int) false 2 0 0 (eqP (some r) shR μ) 8 [some (.ref 0), some (.int v1), some (.int v2), some (.int v3), some (.int v4), some (.int v5), none, none, none] [] shR μ 0 0 := by
  intro g
  induction g with
  | zero =>
    intro v1 v2 v3 v4 v5 h
    cases h
  | succ g ih =>
    intro v1 v2 v3 v4 v5 h
    rw [f_X12_saidOf_L8] at h
    refine ev_iload dX12_saidOf_8 rfl ?_
    refine ev_iconst (v := (3 : Int32)) dX12_saidOf_10 (by decide) ?_
    refine ev_icmp_ge (tgt := 41) dX12_saidOf_11 (by decide) (fun hc1 => ?_) (fun hc1 => ?_)
    · replace h := ite_t hc1 h
      exact ev_lt (hk8_41 _ _ _ _ h) ⟨rfl, ⟨rfl, ⟨rfl, ⟨rfl, ⟨rfl, trivial⟩⟩⟩⟩⟩
    · replace h := ite_f hc1 h
      refine ev_aload_n dX12_saidOf_14 rfl ?_
      refine ev_iload_n dX12_saidOf_15 rfl ?_
      refine ev_iload dX12_saidOf_16 rfl ?_
      refine ev_cVi mv_X12_450 dX12_saidOf_18 c_X12_plumeAt rfl shR_0 rfl rfl (Nat.le_of_ble_eq_true rfl) (by rfl) (Nat.le_of_ble_eq_true rfl) (Nat.le_of_ble_eq_true rfl) (Nat.le_of_ble_eq_true rfl) ?_
      refine ev_aload_n dX12_saidOf_21 rfl ?_
      refine ev_iload_n dX12_saidOf_22 rfl ?_
      refine ev_iload dX12_saidOf_23 rfl ?_
      refine ev_cVi mv_X12_450 dX12_saidOf_25 c_X12_plumeAt rfl shR_0 rfl rfl (Nat.le_of_ble_eq_true rfl) (by rfl) (Nat.le_of_ble_eq_true rfl) (Nat.le_of_ble_eq_true rfl) (Nat.le_of_ble_eq_true rfl) ?_
      refine ev_icmp_ne (tgt := 35) dX12_saidOf_28 (by decide) (fun hc2 => ?_) (fun hc2 => ?_)
      · replace h := ite_f hc2 h
        exact ev_lt (f_X12_saidOf_j35_ok ih hk8_41 h) ⟨rfl, ⟨rfl, ⟨rfl, ⟨rfl, ⟨rfl, ⟨rfl, trivial⟩⟩⟩⟩⟩⟩
      · replace h := ite_t hc2 h
        refine ev_iload_n dX12_saidOf_31 rfl ?_
        refine ev_iconst (v := (1 : Int32)) dX12_saidOf_32 (by decide) ?_
        refine ev_iadd dX12_saidOf_33 ?_
        refine ev_istore_n (loc' := [_, _, _, _, _, _, _, _, _]) dX12_saidOf_34 rfl (by decide) (by rfl) ?_
        exact ev_lt (f_X12_saidOf_j35_ok ih hk8_41 h) ⟨rfl, ⟨rfl, ⟨rfl, ⟨rfl, ⟨rfl, ⟨rfl, trivial⟩⟩⟩⟩⟩⟩
def f_X12_saidOf_j102 (G : Nat) (μ : Mem) (r44 : Int32 → Int32 → Int32 → Int32 → Int32 → Option Int32) (r60 : Int32 → Int32 → Int32 → Int32 → Int32 → Int32 → Int32 → Int32 → Option Int32) (k60_108 : Int32 → Int32 → Int32 → Int32 → Int32 → Int32 → Int32 → Option Int32) (v1 v2 v3 v4 v5 v6 v7 v8 : Int32) : Option Int32 :=
  r60 v1 v2 v3 v4 v5 v6 v7 (v8 + (1 : Int32))
set_option maxHeartbeats 4000000 in
set_option maxRecDepth 100000 in
theorem f_X12_saidOf_j102_ok  {G : Nat} {μ : Mem} {r : Int32}  {r44 : Int32 → Int32 → Int32 → Int32 → Int32 → Option Int32} {r60 : Int32 → Int32 → Int32 → Int32 → Int32 → Int32 → Int32 → Int32 → Option Int32} {k60_108 : Int32 → Int32 → Int32 → Int32 → Int32 → Int32 → Int32 → Option Int32} (hr44 : ∀ (v1 : Int32) (v2 : Int32) (v3 : Int32) (v4 : Int32) (v5 : Int32), r44 v1 v2 v3 v4 v5 = some r → Ev RX12 cX12_saidOf 9 (some .int) false 2 0 0 (eqP (some r) shR μ) 44 [some (.ref 0), some (.int v1), some (.int v2), some (.int v3), some (.int v4), some (.int v5), none, none, none] [] shR μ 0 0) (hr60 : ∀ (v1 : Int32) (v2 : Int32) (v3 : Int32) (v4 : Int32) (v5 : Int32) (v6 : Int32) (v7 : Int32) (v8 : Int32), r60 v1 v2 v3 v4 v5 v6 v7 v8 = some r → Ev RX12 cX12_saidOf 9 (some .int) false 2 0 0 (eqP (some r) shR μ) 60 [some (.ref 0), some (.int v1), some (.int v2), some (.int v3), some (.int v4), some (.int v5), some (.int v6), some (.int v7), some (.int v8)] [] shR μ 0 0) (hk60_108 : ∀ (v1 : Int32) (v2 : Int32) (v3 : Int32) (v4 : Int32) (v5 : Int32) (v6 : Int32) (v7 : Int32), k60_108 v1 v2 v3 v4 v5 v6 v7 = some r → Ev RX12 cX12_saidOf 9 (some .int) false 2 0 0 (eqP (some r) shR μ) 108 [some (.ref 0), some (.int v1), some (.int v2), some (.int v3), some (.int v4), some (.int v5), some (.int v6), some (.int v7), none] [] shR μ 0 0) {v1 v2 v3 v4 v5 v6 v7 v8 : Int32}  (h : f_X12_saidOf_j102 G μ r44 r60 k60_108 v1 v2 v3 v4 v5 v6 v7 v8 = some r) : Ev RX12 cX12_saidOf 9 (some .int) false 2 0 0 (eqP (some r) shR μ) 102 [some (.ref 0), some (.int v1), some (.int v2), some (.int v3), some (.int v4), some (.int v5), some (.int v6), some (.int v7), some (.int v8)] [] shR μ 0 0 := by
  unfold f_X12_saidOf_j102 at h
  refine ev_iinc (cq := (1 : Int32)) (loc' := [_, _, _, _, _, _, _, _, _]) dX12_saidOf_102 rfl (by decide) rfl (by decide) (by rfl) ?_
  refine ev_goto (tgt := 60) dX12_saidOf_105 (by decide) ?_
  exact ev_lt (hr60 _ _ _ _ _ _ _ _ h) ⟨rfl, ⟨rfl, ⟨rfl, ⟨rfl, ⟨rfl, ⟨rfl, ⟨rfl, ⟨rfl, ⟨rfl, trivial⟩⟩⟩⟩⟩⟩⟩⟩⟩
def f_X12_saidOf_j84 (G : Nat) (μ : Mem) (r44 : Int32 → Int32 → Int32 → Int32 → Int32 → Option Int32) (r60 : Int32 → Int32 → Int32 → Int32 → Int32 → Int32 → Int32 → Int32 → Option Int32) (k60_108 : Int32 → Int32 → Int32 → Int32 → Int32 → Int32 → Int32 → Option Int32) (v1 v2 v3 v4 v5 v6 v7 v8 : Int32) : Option Int32 :=
  (if (f_X12_plumeAt v2 v8) = v5 then
  f_X12_saidOf_j102 G μ r44 r60 k60_108 v1 v2 v3 v4 v5 v6 (v7 + (1 : Int32)) v8
  else
  f_X12_saidOf_j102 G μ r44 r60 k60_108 v1 v2 v3 v4 v5 v6 v7 v8)
set_option maxHeartbeats 4000000 in
set_option maxRecDepth 100000 in
theorem f_X12_saidOf_j84_ok  {G : Nat} {μ : Mem} {r : Int32}  {r44 : Int32 → Int32 → Int32 → Int32 → Int32 → Option Int32} {r60 : Int32 → Int32 → Int32 → Int32 → Int32 → Int32 → Int32 → Int32 → Option Int32} {k60_108 : Int32 → Int32 → Int32 → Int32 → Int32 → Int32 → Int32 → Option Int32} (hr44 : ∀ (v1 : Int32) (v2 : Int32) (v3 : Int32) (v4 : Int32) (v5 : Int32), r44 v1 v2 v3 v4 v5 = some r → Ev RX12 cX12_saidOf 9 (some .int) false 2 0 0 (eqP (some r) shR μ) 44 [some (.ref 0), some (.int v1), some (.int v2), some (.int v3), some (.int v4), some (.int v5), none, none, none] [] shR μ 0 0) (hr60 : ∀ (v1 : Int32) (v2 : Int32) (v3 : Int32) (v4 : Int32) (v5 : Int32) (v6 : Int32) (v7 : Int32) (v8 : Int32), r60 v1 v2 v3 v4 v5 v6 v7 v8 = some r → Ev RX12 cX12_saidOf 9 (some .int) false 2 0 0 (eqP (some r) shR μ) 60 [some (.ref 0), some (.int v1), some (.int v2), some (.int v3), some (.int v4), some (.int v5), some (.int v6), some (.int v7), some (.int v8)] [] shR μ 0 0) (hk60_108 : ∀ (v1 : Int32) (v2 : Int32) (v3 : Int32) (v4 : Int32) (v5 : Int32) (v6 : Int32) (v7 : Int32), k60_108 v1 v2 v3 v4 v5 v6 v7 = some r → Ev RX12 cX12_saidOf 9 (some .int) false 2 0 0 (eqP (some r) shR μ) 108 [some (.ref 0), some (.int v1), some (.int v2), some (.int v3), some (.int v4), some (.int v5), some (.int v6), some (.int v7), none] [] shR μ 0 0) {v1 v2 v3 v4 v5 v6 v7 v8 : Int32}  (h : f_X12_saidOf_j84 G μ r44 r60 k60_108 v1 v2 v3 v4 v5 v6 v7 v8 = some r) : Ev RX12 cX12_saidOf 9 (some .int) false 2 0 0 (eqP (some r) shR μ) 84 [some (.ref 0), some (.int v1), some (.int v2), some (.int v3), some (.int v4), some (.int v5), some (.int v6), some (.int v7), some (.int v8)] [] shR μ 0 0 := by
  unfold f_X12_saidOf_j84 at h
  refine ev_aload_n dX12_saidOf_84 rfl ?_
  refine ev_iload_n dX12_saidOf_85 rfl ?_
  refine ev_iload dX12_saidOf_86 rfl ?_
  refine ev_cVi mv_X12_450 dX12_saidOf_88 c_X12_plumeAt rfl shR_0 rfl rfl (Nat.le_of_ble_eq_true rfl) (by rfl) (Nat.le_of_ble_eq_true rfl) (Nat.le_of_ble_eq_true rfl) (Nat.le_of_ble_eq_true rfl) ?_
  refine ev_iload dX12_saidOf_91 rfl ?_
  refine ev_icmp_ne (tgt := 102) dX12_saidOf_93 (by decide) (fun hc6 => ?_) (fun hc6 => ?_)
  · replace h := ite_f hc6 h
    exact ev_lt (f_X12_saidOf_j102_ok hr44 hr60 hk60_108 h) ⟨rfl, ⟨rfl, ⟨rfl, ⟨rfl, ⟨rfl, ⟨rfl, ⟨rfl, ⟨rfl, ⟨rfl, trivial⟩⟩⟩⟩⟩⟩⟩⟩⟩
  · replace h := ite_t hc6 h
    refine ev_iload dX12_saidOf_96 rfl ?_
    refine ev_iconst (v := (1 : Int32)) dX12_saidOf_98 (by decide) ?_
    refine ev_iadd dX12_saidOf_99 ?_
    refine ev_istore (loc' := [_, _, _, _, _, _, _, _, _]) dX12_saidOf_100 rfl (by decide) (by rfl) ?_
    exact ev_lt (f_X12_saidOf_j102_ok hr44 hr60 hk60_108 h) ⟨rfl, ⟨rfl, ⟨rfl, ⟨rfl, ⟨rfl, ⟨rfl, ⟨rfl, ⟨rfl, ⟨rfl, trivial⟩⟩⟩⟩⟩⟩⟩⟩⟩
def f_X12_saidOf_L60 (G : Nat) (μ : Mem) (r44 : Int32 → Int32 → Int32 → Int32 → Int32 → Option Int32) (k60_108 : Int32 → Int32 → Int32 → Int32 → Int32 → Int32 → Int32 → Option Int32) : Nat → Int32 → Int32 → Int32 → Int32 → Int32 → Int32 → Int32 → Int32 → Option Int32
  | 0, _, _, _, _, _, _, _, _ => none
  | g + 1, v1, v2, v3, v4, v5, v6, v7, v8 =>
  (if (3 : Int32) ≤ v8 then
  k60_108 v1 v2 v3 v4 v5 v6 v7
  else
  (if (f_X12_plumeAt v1 v8) = v5 then
  f_X12_saidOf_j84 G μ r44 (f_X12_saidOf_L60 G μ r44 k60_108 g) k60_108 v1 v2 v3 v4 v5 (v6 + (1 : Int32)) v7 v8
  else
  f_X12_saidOf_j84 G μ r44 (f_X12_saidOf_L60 G μ r44 k60_108 g) k60_108 v1 v2 v3 v4 v5 v6 v7 v8))
set_option maxHeartbeats 4000000 in
set_option maxRecDepth 100000 in
theorem f_X12_saidOf_L60_ok  {G : Nat} {μ : Mem} {r : Int32}  {r44 : Int32 → Int32 → Int32 → Int32 → Int32 → Option Int32} {k60_108 : Int32 → Int32 → Int32 → Int32 → Int32 → Int32 → Int32 → Option Int32} (hr44 : ∀ (v1 : Int32) (v2 : Int32) (v3 : Int32) (v4 : Int32) (v5 : Int32), r44 v1 v2 v3 v4 v5 = some r → Ev RX12 cX12_saidOf 9 (some .int) false 2 0 0 (eqP (some r) shR μ) 44 [some (.ref 0), some (.int v1), some (.int v2), some (.int v3), some (.int v4), some (.int v5), none, none, none] [] shR μ 0 0) (hk60_108 : ∀ (v1 : Int32) (v2 : Int32) (v3 : Int32) (v4 : Int32) (v5 : Int32) (v6 : Int32) (v7 : Int32), k60_108 v1 v2 v3 v4 v5 v6 v7 = some r → Ev RX12 cX12_saidOf 9 (some .int) false 2 0 0 (eqP (some r) shR μ) 108 [some (.ref 0), some (.int v1), some (.int v2), some (.int v3), some (.int v4), some (.int v5), some (.int v6), some (.int v7), none] [] shR μ 0 0) : ∀ (g : Nat) (v1 v2 v3 v4 v5 v6 v7 v8 : Int32), f_X12_saidOf_L60 G μ r44 k60_108 g v1 v2 v3 v4 v5 v6 v7 v8 = some r → Ev RX12 cX12_saidOf 9 (some .int) false 2 0 0 (eqP (some r) shR μ) 60 [some (.ref 0), some (.int v1), some (.int v2), some (.int v3), some (.int v4), some (.int v5), some (.int v6), some (.int v7), some (.int v8)] [] shR μ 0 0 := by
  intro g
  induction g with
  | zero =>
    intro v1 v2 v3 v4 v5 v6 v7 v8 h
    cases h
  | succ g ih =>
    intro v1 v2 v3 v4 v5 v6 v7 v8 h
    rw [f_X12_saidOf_L60] at h
    refine ev_iload dX12_saidOf_60 rfl ?_
    refine ev_iconst (v := (3 : Int32)) dX12_saidOf_62 (by decide) ?_
    refine ev_icmp_ge (tgt := 108) dX12_saidOf_63 (by decide) (fun hc4 => ?_) (fun hc4 => ?_)
    · replace h := ite_t hc4 h
      exact ev_lt (hk60_108 _ _ _ _ _ _ _ h) ⟨rfl, ⟨rfl, ⟨rfl, ⟨rfl, ⟨rfl, ⟨rfl, ⟨rfl, ⟨rfl, trivial⟩⟩⟩⟩⟩⟩⟩⟩
    · replace h := ite_f hc4 h
      refine ev_aload_n dX12_saidOf_66 rfl ?_
      refine ev_iload_n dX12_saidOf_67 rfl ?_
      refine ev_iload dX12_saidOf_68 rfl ?_
      refine ev_cVi mv_X12_450 dX12_saidOf_70 c_X12_plumeAt rfl shR_0 rfl rfl (Nat.le_of_ble_eq_true rfl) (by rfl) (Nat.le_of_ble_eq_true rfl) (Nat.le_of_ble_eq_true rfl) (Nat.le_of_ble_eq_true rfl) ?_
      refine ev_iload dX12_saidOf_73 rfl ?_
      refine ev_icmp_ne (tgt := 84) dX12_saidOf_75 (by decide) (fun hc5 => ?_) (fun hc5 => ?_)
      · replace h := ite_f hc5 h
        exact ev_lt (f_X12_saidOf_j84_ok hr44 ih hk60_108 h) ⟨rfl, ⟨rfl, ⟨rfl, ⟨rfl, ⟨rfl, ⟨rfl, ⟨rfl, ⟨rfl, ⟨rfl, trivial⟩⟩⟩⟩⟩⟩⟩⟩⟩
      · replace h := ite_t hc5 h
        refine ev_iload dX12_saidOf_78 rfl ?_
        refine ev_iconst (v := (1 : Int32)) dX12_saidOf_80 (by decide) ?_
        refine ev_iadd dX12_saidOf_81 ?_
        refine ev_istore (loc' := [_, _, _, _, _, _, _, _, _]) dX12_saidOf_82 rfl (by decide) (by rfl) ?_
        exact ev_lt (f_X12_saidOf_j84_ok hr44 ih hk60_108 h) ⟨rfl, ⟨rfl, ⟨rfl, ⟨rfl, ⟨rfl, ⟨rfl, ⟨rfl, ⟨rfl, ⟨rfl, trivial⟩⟩⟩⟩⟩⟩⟩⟩⟩
def f_X12_saidOf_j108 (G : Nat) (μ : Mem) (r44 : Int32 → Int32 → Int32 → Int32 → Int32 → Option Int32) (v1 v2 v3 v4 v5 v6 v7 : Int32) : Option Int32 :=
  r44 v1 v2 v3 (v4 + (f_X12_lesser v6 v7)) (v5 + (1 : Int32))
set_option maxHeartbeats 4000000 in
set_option maxRecDepth 100000 in
theorem f_X12_saidOf_j108_ok  {G : Nat} {μ : Mem} {r : Int32}  {r44 : Int32 → Int32 → Int32 → Int32 → Int32 → Option Int32} (hr44 : ∀ (v1 : Int32) (v2 : Int32) (v3 : Int32) (v4 : Int32) (v5 : Int32), r44 v1 v2 v3 v4 v5 = some r → Ev RX12 cX12_saidOf 9 (some .int) false 2 0 0 (eqP (some r) shR μ) 44 [some (.ref 0), some (.int v1), some (.int v2), some (.int v3), some (.int v4), some (.int v5), none, none, none] [] shR μ 0 0) {v1 v2 v3 v4 v5 v6 v7 : Int32}  (h : f_X12_saidOf_j108 G μ r44 v1 v2 v3 v4 v5 v6 v7 = some r) : Ev RX12 cX12_saidOf 9 (some .int) false 2 0 0 (eqP (some r) shR μ) 108 [some (.ref 0), some (.int v1), some (.int v2), some (.int v3), some (.int v4), some (.int v5), some (.int v6), some (.int v7), none] [] shR μ 0 0 := by
  unfold f_X12_saidOf_j108 at h
  refine ev_iload dX12_saidOf_108 rfl ?_
  refine ev_aload_n dX12_saidOf_110 rfl ?_
  refine ev_iload dX12_saidOf_111 rfl ?_
  refine ev_iload dX12_saidOf_113 rfl ?_
  refine ev_cVi mv_X12_428 dX12_saidOf_115 c_X12_lesser rfl shR_0 rfl rfl (Nat.le_of_ble_eq_true rfl) (by rfl) (Nat.le_of_ble_eq_true rfl) (Nat.le_of_ble_eq_true rfl) (Nat.le_of_ble_eq_true rfl) ?_
  refine ev_iadd dX12_saidOf_118 ?_
  refine ev_istore (loc' := [_, _, _, _, _, _, _, _, _]) dX12_saidOf_119 rfl (by decide) (by rfl) ?_
  refine ev_iinc (cq := (1 : Int32)) (loc' := [_, _, _, _, _, _, _, _, _]) dX12_saidOf_121 rfl (by decide) rfl (by decide) (by rfl) ?_
  refine ev_goto (tgt := 44) dX12_saidOf_124 (by decide) ?_
  exact ev_lt (hr44 _ _ _ _ _ h) ⟨rfl, ⟨rfl, ⟨rfl, ⟨rfl, ⟨rfl, ⟨rfl, trivial⟩⟩⟩⟩⟩⟩
def f_X12_saidOf_L44 (G : Nat) (μ : Mem)  : Nat → Int32 → Int32 → Int32 → Int32 → Int32 → Option Int32
  | 0, _, _, _, _, _ => none
  | g + 1, v1, v2, v3, v4, v5 =>
  (if (6 : Int32) ≤ v5 then
  some ((((4 : Int32) * v3) + v4) - v3)
  else
  f_X12_saidOf_L60 G μ (f_X12_saidOf_L44 G μ g) (f_X12_saidOf_j108 G μ (f_X12_saidOf_L44 G μ g)) G v1 v2 v3 v4 v5 (0 : Int32) (0 : Int32) (0 : Int32))
set_option maxHeartbeats 4000000 in
set_option maxRecDepth 100000 in
theorem f_X12_saidOf_L44_ok  {G : Nat} {μ : Mem} {r : Int32}    : ∀ (g : Nat) (v1 v2 v3 v4 v5 : Int32), f_X12_saidOf_L44 G μ g v1 v2 v3 v4 v5 = some r → Ev RX12 cX12_saidOf 9 (some .int) false 2 0 0 (eqP (some r) shR μ) 44 [some (.ref 0), some (.int v1), some (.int v2), some (.int v3), some (.int v4), some (.int v5), none, none, none] [] shR μ 0 0 := by
  intro g
  induction g with
  | zero =>
    intro v1 v2 v3 v4 v5 h
    cases h
  | succ g ih =>
    intro v1 v2 v3 v4 v5 h
    rw [f_X12_saidOf_L44] at h
    refine ev_iload dX12_saidOf_44 rfl ?_
    refine ev_bipush (v := (6 : Int32)) dX12_saidOf_46 (by decide) ?_
    refine ev_icmp_ge (tgt := 127) dX12_saidOf_48 (by decide) (fun hc3 => ?_) (fun hc3 => ?_)
    · replace h := ite_t hc3 h
      refine ev_iconst (v := (4 : Int32)) dX12_saidOf_127 (by decide) ?_
      refine ev_iload_n dX12_saidOf_128 rfl ?_
      refine ev_imul dX12_saidOf_129 ?_
      refine ev_iload dX12_saidOf_130 rfl ?_
      refine ev_iadd dX12_saidOf_132 ?_
      refine ev_iload_n dX12_saidOf_133 rfl ?_
      refine ev_isub dX12_saidOf_134 ?_
      exact ev_iret rfl rfl (by decide) (by decide) dX12_saidOf_135 (eqP_O h)
    · replace h := ite_f hc3 h
      refine ev_iconst (v := (0 : Int32)) dX12_saidOf_51 (by decide) ?_
      refine ev_istore (loc' := [_, _, _, _, _, _, _, _, _]) dX12_saidOf_52 rfl (by decide) (by rfl) ?_
      refine ev_iconst (v := (0 : Int32)) dX12_saidOf_54 (by decide) ?_
      refine ev_istore (loc' := [_, _, _, _, _, _, _, _, _]) dX12_saidOf_55 rfl (by decide) (by rfl) ?_
      refine ev_iconst (v := (0 : Int32)) dX12_saidOf_57 (by decide) ?_
      refine ev_istore (loc' := [_, _, _, _, _, _, _, _, _]) dX12_saidOf_58 rfl (by decide) (by rfl) ?_
      exact ev_lt (f_X12_saidOf_L60_ok ih (fun _ _ _ _ _ _ _ hh => f_X12_saidOf_j108_ok ih hh) _ _ _ _ _ _ _ _ _ h) ⟨rfl, ⟨rfl, ⟨rfl, ⟨rfl, ⟨rfl, ⟨rfl, ⟨rfl, ⟨rfl, ⟨rfl, trivial⟩⟩⟩⟩⟩⟩⟩⟩⟩
def f_X12_saidOf_j41 (G : Nat) (μ : Mem)  (v1 v2 v3 v4 : Int32) : Option Int32 :=
  f_X12_saidOf_L44 G μ G v1 v2 v3 v4 (0 : Int32)
set_option maxHeartbeats 4000000 in
set_option maxRecDepth 100000 in
theorem f_X12_saidOf_j41_ok  {G : Nat} {μ : Mem} {r : Int32}    {v1 v2 v3 v4 : Int32}  (h : f_X12_saidOf_j41 G μ v1 v2 v3 v4 = some r) : Ev RX12 cX12_saidOf 9 (some .int) false 2 0 0 (eqP (some r) shR μ) 41 [some (.ref 0), some (.int v1), some (.int v2), some (.int v3), some (.int v4), none, none, none, none] [] shR μ 0 0 := by
  unfold f_X12_saidOf_j41 at h
  refine ev_iconst (v := (0 : Int32)) dX12_saidOf_41 (by decide) ?_
  refine ev_istore (loc' := [_, _, _, _, _, _, _, _, _]) dX12_saidOf_42 rfl (by decide) (by rfl) ?_
  exact ev_lt (f_X12_saidOf_L44_ok _ _ _ _ _ _ h) ⟨rfl, ⟨rfl, ⟨rfl, ⟨rfl, ⟨rfl, ⟨rfl, trivial⟩⟩⟩⟩⟩⟩
def f_X12_saidOf (G : Nat) (μ : Mem) (p1 p2 : Int32) : Option Int32 :=
  f_X12_saidOf_L8 G μ (f_X12_saidOf_j41 G μ) G p1 p2 (0 : Int32) (0 : Int32) (0 : Int32)
set_option maxHeartbeats 4000000 in
set_option maxRecDepth 100000 in
theorem c_X12_saidOf  {G : Nat} {μ : Mem}  {p1 p2 : Int32} {r : Int32}  (h : f_X12_saidOf G μ p1 p2 = some r) : Cn yX12_saidOf cX12_saidOf 9 (some .int) 2 0 0 [.ref 0, .int p1, .int p2] shR μ (eqP (some r) shR μ) := by
  refine cn_of (own := RX12) (ini := false) (loc := [some (.ref 0), some (.int p1), some (.int p2), none, none, none, none, none, none]) rfl (by decide) (fun q => by cases q) (Nat.le_of_ble_eq_true rfl) (by rfl) rfl ?_
  unfold f_X12_saidOf at h
  refine ev_iconst (v := (0 : Int32)) dX12_saidOf_0 (by decide) ?_
  refine ev_istore_n (loc' := [_, _, _, _, _, _, _, _, _]) dX12_saidOf_1 rfl (by decide) (by rfl) ?_
  refine ev_iconst (v := (0 : Int32)) dX12_saidOf_2 (by decide) ?_
  refine ev_istore (loc' := [_, _, _, _, _, _, _, _, _]) dX12_saidOf_3 rfl (by decide) (by rfl) ?_
  refine ev_iconst (v := (0 : Int32)) dX12_saidOf_5 (by decide) ?_
  refine ev_istore (loc' := [_, _, _, _, _, _, _, _, _]) dX12_saidOf_6 rfl (by decide) (by rfl) ?_
  exact ev_lt (f_X12_saidOf_L8_ok (fun _ _ _ _ hh => f_X12_saidOf_j41_ok hh) _ _ _ _ _ _ h) ⟨rfl, ⟨rfl, ⟨rfl, ⟨rfl, ⟨rfl, ⟨rfl, trivial⟩⟩⟩⟩⟩⟩
def f_X12_guess (G : Nat) (p1 p2 p3 : Int32) (μ : Mem) : Option (Int32 × Mem) :=
  (let m1 := wr μ 0 0 (0 : Int32)
  (if p1 = (-1 : Int32) then
  (let m13 := wr m1 0 51 (0 : Int32)
  some ((0 : Int32), m13))
  else
  (if (f_X12_isRow p1) = (0 : Int32) then
  some ((-1 : Int32), m1)
  else
  (if (f_X12_isIn p2 (0 : Int32) (3 : Int32)) = (0 : Int32) then
  some ((-1 : Int32), m1)
  else
  (if (f_X12_isIn p3 (0 : Int32) (3 : Int32)) = (0 : Int32) then
  some ((-1 : Int32), m1)
  else
  (if (3 : Int32) < (p2 + p3) then
  some ((-1 : Int32), m1)
  else
  (if (m1 0 51) = (8 : Int32) then
  some ((-1 : Int32), m1)
  else
  chk (m1 0 51) 8 (let m8 := wr m1 30 (ix (m1 0 51)) p1
  chk (m8 0 51) 8 (let m10 := wr m8 31 (ix (m8 0 51)) (((4 : Int32) * p2) + p3)
  (let m12 := wr m10 0 51 ((m10 0 51) + (1 : Int32))
  some ((m12 0 51), m12)))))))))))
set_option maxHeartbeats 4000000 in
set_option maxRecDepth 100000 in
theorem c_X12_guess  {G : Nat} {μ : Mem} {p1 p2 p3 : Int32} {r : Int32} {μr : Mem}  (h : f_X12_guess G p1 p2 p3 μ = some (r, μr)) : Cn yX12_guess cX12_guess 4 (some .int) 3 0 0 [.ref 0, .int p1, .int p2, .int p3] shR μ (eqP (some r) shR μr) := by
  refine cn_of (own := RX12) (ini := false) (loc := [some (.ref 0), some (.int p1), some (.int p2), some (.int p3)]) rfl (by decide) (fun q => by cases q) (Nat.le_of_ble_eq_true rfl) (by rfl) rfl ?_
  unfold f_X12_guess at h
  refine ev_aload_n dX12_guess_0 rfl ?_
  refine ev_iconst (v := (0 : Int32)) dX12_guess_1 (by decide) ?_
  refine ev_putI fr_X12_149 shR_0 rfl rfl rfl dX12_guess_2 ?_
  refine ev_iload_n dX12_guess_5 rfl ?_
  refine ev_iconst (v := (-1 : Int32)) dX12_guess_6 (by decide) ?_
  refine ev_icmp_ne (tgt := 17) dX12_guess_7 (by decide) (fun hc2 => ?_) (fun hc2 => ?_)
  · replace h := ite_f hc2 h
    refine ev_aload_n dX12_guess_17 rfl ?_
    refine ev_iload_n dX12_guess_18 rfl ?_
    refine ev_cVi mv_X12_456 dX12_guess_19 c_X12_isRow rfl shR_0 rfl rfl (Nat.le_of_ble_eq_true rfl) (by rfl) (Nat.le_of_ble_eq_true rfl) (Nat.le_of_ble_eq_true rfl) (Nat.le_of_ble_eq_true rfl) ?_
    refine ev_if_eq (tgt := 61) dX12_guess_22 (by decide) (fun hc3 => ?_) (fun hc3 => ?_)
    · replace h := ite_t hc3 h
      refine ev_iconst (v := (-1 : Int32)) dX12_guess_61 (by decide) ?_
      exact ev_iret rfl rfl (by decide) (by decide) dX12_guess_62 (eqP_E h)
    · replace h := ite_f hc3 h
      refine ev_aload_n dX12_guess_25 rfl ?_
      refine ev_iload_n dX12_guess_26 rfl ?_
      refine ev_iconst (v := (0 : Int32)) dX12_guess_27 (by decide) ?_
      refine ev_iconst (v := (3 : Int32)) dX12_guess_28 (by decide) ?_
      refine ev_cVi mv_X12_167 dX12_guess_29 c_X12_isIn rfl shR_0 rfl rfl (Nat.le_of_ble_eq_true rfl) (by rfl) (Nat.le_of_ble_eq_true rfl) (Nat.le_of_ble_eq_true rfl) (Nat.le_of_ble_eq_true rfl) ?_
      refine ev_if_eq (tgt := 61) dX12_guess_32 (by decide) (fun hc4 => ?_) (fun hc4 => ?_)
      · replace h := ite_t hc4 h
        refine ev_iconst (v := (-1 : Int32)) dX12_guess_61 (by decide) ?_
        exact ev_iret rfl rfl (by decide) (by decide) dX12_guess_62 (eqP_E h)
      · replace h := ite_f hc4 h
        refine ev_aload_n dX12_guess_35 rfl ?_
        refine ev_iload_n dX12_guess_36 rfl ?_
        refine ev_iconst (v := (0 : Int32)) dX12_guess_37 (by decide) ?_
        refine ev_iconst (v := (3 : Int32)) dX12_guess_38 (by decide) ?_
        refine ev_cVi mv_X12_167 dX12_guess_39 c_X12_isIn rfl shR_0 rfl rfl (Nat.le_of_ble_eq_true rfl) (by rfl) (Nat.le_of_ble_eq_true rfl) (Nat.le_of_ble_eq_true rfl) (Nat.le_of_ble_eq_true rfl) ?_
        refine ev_if_eq (tgt := 61) dX12_guess_42 (by decide) (fun hc5 => ?_) (fun hc5 => ?_)
        · replace h := ite_t hc5 h
          refine ev_iconst (v := (-1 : Int32)) dX12_guess_61 (by decide) ?_
          exact ev_iret rfl rfl (by decide) (by decide) dX12_guess_62 (eqP_E h)
        · replace h := ite_f hc5 h
          refine ev_iload_n dX12_guess_45 rfl ?_
          refine ev_iload_n dX12_guess_46 rfl ?_
          refine ev_iadd dX12_guess_47 ?_
          refine ev_iconst (v := (3 : Int32)) dX12_guess_48 (by decide) ?_
          refine ev_icmp_gt (tgt := 61) dX12_guess_49 (by decide) (fun hc6 => ?_) (fun hc6 => ?_)
          · replace h := ite_t hc6 h
            refine ev_iconst (v := (-1 : Int32)) dX12_guess_61 (by decide) ?_
            exact ev_iret rfl rfl (by decide) (by decide) dX12_guess_62 (eqP_E h)
          · replace h := ite_f hc6 h
            refine ev_aload_n dX12_guess_52 rfl ?_
            refine ev_getI fr_X12_453 shR_0 rfl dX12_guess_53 ?_
            refine ev_bipush (v := (8 : Int32)) dX12_guess_56 (by decide) ?_
            refine ev_icmp_ne (tgt := 63) dX12_guess_58 (by decide) (fun hc7 => ?_) (fun hc7 => ?_)
            · replace h := ite_f hc7 h
              refine ev_aload_n dX12_guess_63 rfl ?_
              refine ev_getR fr_X12_101 shR_0 rfl dX12_guess_64 ?_
              refine ev_aload_n dX12_guess_67 rfl ?_
              refine ev_getI fr_X12_453 shR_0 rfl dX12_guess_68 ?_
              refine ev_iload_n dX12_guess_71 rfl ?_
              obtain ⟨hi9, h⟩ := chk_t h
              refine ev_iast shR_30 hi9 dX12_guess_72 ?_
              refine ev_aload_n dX12_guess_73 rfl ?_
              refine ev_getR fr_X12_104 shR_0 rfl dX12_guess_74 ?_
              refine ev_aload_n dX12_guess_77 rfl ?_
              refine ev_getI fr_X12_453 shR_0 rfl dX12_guess_78 ?_
              refine ev_iconst (v := (4 : Int32)) dX12_guess_81 (by decide) ?_
              refine ev_iload_n dX12_guess_82 rfl ?_
              refine ev_imul dX12_guess_83 ?_
              refine ev_iload_n dX12_guess_84 rfl ?_
              refine ev_iadd dX12_guess_85 ?_
              obtain ⟨hi11, h⟩ := chk_t h
              refine ev_iast shR_31 hi11 dX12_guess_86 ?_
              refine ev_aload_n dX12_guess_87 rfl ?_
              refine ev_aload_n dX12_guess_88 rfl ?_
              refine ev_getI fr_X12_453 shR_0 rfl dX12_guess_89 ?_
              refine ev_iconst (v := (1 : Int32)) dX12_guess_92 (by decide) ?_
              refine ev_iadd dX12_guess_93 ?_
              refine ev_putI fr_X12_453 shR_0 rfl rfl rfl dX12_guess_94 ?_
              refine ev_aload_n dX12_guess_97 rfl ?_
              refine ev_getI fr_X12_453 shR_0 rfl dX12_guess_98 ?_
              exact ev_iret rfl rfl (by decide) (by decide) dX12_guess_101 (eqP_E h)
            · replace h := ite_t hc7 h
              refine ev_iconst (v := (-1 : Int32)) dX12_guess_61 (by decide) ?_
              exact ev_iret rfl rfl (by decide) (by decide) dX12_guess_62 (eqP_E h)
  · replace h := ite_t hc2 h
    refine ev_aload_n dX12_guess_10 rfl ?_
    refine ev_iconst (v := (0 : Int32)) dX12_guess_11 (by decide) ?_
    refine ev_putI fr_X12_453 shR_0 rfl rfl rfl dX12_guess_12 ?_
    refine ev_iconst (v := (0 : Int32)) dX12_guess_15 (by decide) ?_
    exact ev_iret rfl rfl (by decide) (by decide) dX12_guess_16 (eqP_E h)
def f_X12_findsFits_j59 (G : Nat) (r7 : Int32 → Mem → Option Mem) (r22 : Int32 → Int32 → Int32 → Mem → Option Mem) (k22_66 : Int32 → Int32 → Mem → Option Mem) (v1 v3 s0 : Int32) (μ : Mem) : Option Mem :=
  r22 v1 s0 (v3 + (1 : Int32)) μ
set_option maxHeartbeats 4000000 in
set_option maxRecDepth 100000 in
theorem f_X12_findsFits_j59_ok  {G : Nat} {μr : Mem}  {r7 : Int32 → Mem → Option Mem} {r22 : Int32 → Int32 → Int32 → Mem → Option Mem} {k22_66 : Int32 → Int32 → Mem → Option Mem} (hr7 : ∀ (v1 : Int32) (m : Mem), r7 v1 m = some μr → Ev RX12 cX12_findsFits 4 none false 3 0 0 (eqP none shR μr) 7 [some (.ref 0), some (.int v1), none, none] [] shR m 0 0) (hr22 : ∀ (v1 : Int32) (v2 : Int32) (v3 : Int32) (m : Mem), r22 v1 v2 v3 m = some μr → Ev RX12 cX12_findsFits 4 none false 3 0 0 (eqP none shR μr) 22 [some (.ref 0), some (.int v1), some (.int v2), some (.int v3)] [] shR m 0 0) (hk22_66 : ∀ (v1 : Int32) (v2 : Int32) (m : Mem), k22_66 v1 v2 m = some μr → Ev RX12 cX12_findsFits 4 none false 3 0 0 (eqP none shR μr) 66 [some (.ref 0), some (.int v1), some (.int v2), none] [] shR m 0 0) {v1 v3 s0 : Int32} {μ : Mem} (h : f_X12_findsFits_j59 G r7 r22 k22_66 v1 v3 s0 μ = some μr) : Ev RX12 cX12_findsFits 4 none false 3 0 0 (eqP none shR μr) 59 [some (.ref 0), some (.int v1), none, some (.int v3)] [.int s0] shR μ 0 0 := by
  unfold f_X12_findsFits_j59 at h
  refine ev_istore_n (loc' := [_, _, _, _]) dX12_findsFits_59 rfl (by decide) (by rfl) ?_
  refine ev_iinc (cq := (1 : Int32)) (loc' := [_, _, _, _]) dX12_findsFits_60 rfl (by decide) rfl (by decide) (by rfl) ?_
  refine ev_goto (tgt := 22) dX12_findsFits_63 (by decide) ?_
  exact ev_lt (hr22 _ _ _ _ h) ⟨rfl, ⟨rfl, ⟨rfl, ⟨rfl, trivial⟩⟩⟩⟩
def f_X12_findsFits_L22 (G : Nat) (r7 : Int32 → Mem → Option Mem) (k22_66 : Int32 → Int32 → Mem → Option Mem) : Nat → Int32 → Int32 → Int32 → Mem → Option Mem
  | 0, _, _, _, _ => none
  | g + 1, v1, v2, v3, μ =>
  (if (μ 0 51) ≤ v3 then
  k22_66 v1 v2 μ
  else
  (if v2 = (0 : Int32) then
  k22_66 v1 v2 μ
  else
  chk v3 8 (bndO (f_X12_saidOf G μ v1 (μ 30 (ix v3))) (fun w7 =>
  chk v3 8 ((if w7 = (μ 31 (ix v3)) then
  f_X12_findsFits_j59 G r7 (f_X12_findsFits_L22 G r7 k22_66 g) k22_66 v1 v3 (1 : Int32) μ
  else
  f_X12_findsFits_j59 G r7 (f_X12_findsFits_L22 G r7 k22_66 g) k22_66 v1 v3 (0 : Int32) μ))))))
set_option maxHeartbeats 4000000 in
set_option maxRecDepth 100000 in
theorem f_X12_findsFits_L22_ok  {G : Nat} {μr : Mem}  {r7 : Int32 → Mem → Option Mem} {k22_66 : Int32 → Int32 → Mem → Option Mem} (hr7 : ∀ (v1 : Int32) (m : Mem), r7 v1 m = some μr → Ev RX12 cX12_findsFits 4 none false 3 0 0 (eqP none shR μr) 7 [some (.ref 0), some (.int v1), none, none] [] shR m 0 0) (hk22_66 : ∀ (v1 : Int32) (v2 : Int32) (m : Mem), k22_66 v1 v2 m = some μr → Ev RX12 cX12_findsFits 4 none false 3 0 0 (eqP none shR μr) 66 [some (.ref 0), some (.int v1), some (.int v2), none] [] shR m 0 0) : ∀ (g : Nat) (v1 v2 v3 : Int32) (μ : Mem), f_X12_findsFits_L22 G r7 k22_66 g v1 v2 v3 μ = some μr → Ev RX12 cX12_findsFits 4 none false 3 0 0 (eqP none shR μr) 22 [some (.ref 0), some (.int v1), some (.int v2), some (.int v3)] [] shR μ 0 0 := by
  intro g
  induction g with
  | zero =>
    intro v1 v2 v3 μ h
    cases h
  | succ g ih =>
    intro v1 v2 v3 μ h
    rw [f_X12_findsFits_L22] at h
    refine ev_iload_n dX12_findsFits_22 rfl ?_
    refine ev_aload_n dX12_findsFits_23 rfl ?_
    refine ev_getI fr_X12_453 shR_0 rfl dX12_findsFits_24 ?_
    refine ev_icmp_ge (tgt := 66) dX12_findsFits_27 (by decide) (fun hc3 => ?_) (fun hc3 => ?_)
    · replace h := ite_t hc3 h
      exact ev_lt (hk22_66 _ _ _ h) ⟨rfl, ⟨rfl, ⟨rfl, trivial⟩⟩⟩
    · replace h := ite_f hc3 h
      refine ev_iload_n dX12_findsFits_30 rfl ?_
      refine ev_if_eq (tgt := 66) dX12_findsFits_31 (by decide) (fun hc4 => ?_) (fun hc4 => ?_)
      · replace h := ite_t hc4 h
        exact ev_lt (hk22_66 _ _ _ h) ⟨rfl, ⟨rfl, ⟨rfl, trivial⟩⟩⟩
      · replace h := ite_f hc4 h
        refine ev_aload_n dX12_findsFits_34 rfl ?_
        refine ev_iload_n dX12_findsFits_35 rfl ?_
        refine ev_aload_n dX12_findsFits_36 rfl ?_
        refine ev_getR fr_X12_101 shR_0 rfl dX12_findsFits_37 ?_
        refine ev_iload_n dX12_findsFits_40 rfl ?_
        obtain ⟨hi5, h⟩ := chk_t h
        refine ev_iald shR_30 hi5 dX12_findsFits_41 ?_
        obtain ⟨w7, hq6, h⟩ := bndO_t h
        refine ev_cVi mv_X12_462 dX12_findsFits_42 (c_X12_saidOf hq6) rfl shR_0 rfl rfl (Nat.le_of_ble_eq_true rfl) (by rfl) (Nat.le_of_ble_eq_true rfl) (Nat.le_of_ble_eq_true rfl) (Nat.le_of_ble_eq_true rfl) ?_
        refine ev_aload_n dX12_findsFits_45 rfl ?_
        refine ev_getR fr_X12_104 shR_0 rfl dX12_findsFits_46 ?_
        refine ev_iload_n dX12_findsFits_49 rfl ?_
        obtain ⟨hi8, h⟩ := chk_t h
        refine ev_iald shR_31 hi8 dX12_findsFits_50 ?_
        refine ev_icmp_ne (tgt := 58) dX12_findsFits_51 (by decide) (fun hc9 => ?_) (fun hc9 => ?_)
        · replace h := ite_f hc9 h
          refine ev_iconst (v := (0 : Int32)) dX12_findsFits_58 (by decide) ?_
          exact ev_lt (f_X12_findsFits_j59_ok hr7 ih hk22_66 h) ⟨rfl, ⟨rfl, ⟨rfl, trivial⟩⟩⟩
        · replace h := ite_t hc9 h
          refine ev_iconst (v := (1 : Int32)) dX12_findsFits_54 (by decide) ?_
          refine ev_goto (tgt := 59) dX12_findsFits_55 (by decide) ?_
          exact ev_lt (f_X12_findsFits_j59_ok hr7 ih hk22_66 h) ⟨rfl, ⟨rfl, ⟨rfl, trivial⟩⟩⟩
def f_X12_findsFits_j93 (G : Nat) (r7 : Int32 → Mem → Option Mem) (v1 : Int32) (μ : Mem) : Option Mem :=
  r7 (v1 + (1 : Int32)) μ
set_option maxHeartbeats 4000000 in
set_option maxRecDepth 100000 in
theorem f_X12_findsFits_j93_ok  {G : Nat} {μr : Mem}  {r7 : Int32 → Mem → Option Mem} (hr7 : ∀ (v1 : Int32) (m : Mem), r7 v1 m = some μr → Ev RX12 cX12_findsFits 4 none false 3 0 0 (eqP none shR μr) 7 [some (.ref 0), some (.int v1), none, none] [] shR m 0 0) {v1 : Int32} {μ : Mem} (h : f_X12_findsFits_j93 G r7 v1 μ = some μr) : Ev RX12 cX12_findsFits 4 none false 3 0 0 (eqP none shR μr) 93 [some (.ref 0), some (.int v1), none, none] [] shR μ 0 0 := by
  unfold f_X12_findsFits_j93 at h
  refine ev_iinc (cq := (1 : Int32)) (loc' := [_, _, _, _]) dX12_findsFits_93 rfl (by decide) rfl (by decide) (by rfl) ?_
  refine ev_goto (tgt := 7) dX12_findsFits_96 (by decide) ?_
  exact ev_lt (hr7 _ _ h) ⟨rfl, ⟨rfl, trivial⟩⟩
def f_X12_findsFits_j66 (G : Nat) (r7 : Int32 → Mem → Option Mem) (v1 v2 : Int32) (μ : Mem) : Option Mem :=
  (if v2 = (0 : Int32) then
  f_X12_findsFits_j93 G r7 v1 μ
  else
  chk (μ 0 55) 216 (let m11 := wr μ 33 (ix (μ 0 55)) v1
  (let m13 := wr m11 0 55 ((m11 0 55) + (1 : Int32))
  f_X12_findsFits_j93 G r7 v1 m13)))
set_option maxHeartbeats 4000000 in
set_option maxRecDepth 100000 in
theorem f_X12_findsFits_j66_ok  {G : Nat} {μr : Mem}  {r7 : Int32 → Mem → Option Mem} (hr7 : ∀ (v1 : Int32) (m : Mem), r7 v1 m = some μr → Ev RX12 cX12_findsFits 4 none false 3 0 0 (eqP none shR μr) 7 [some (.ref 0), some (.int v1), none, none] [] shR m 0 0) {v1 v2 : Int32} {μ : Mem} (h : f_X12_findsFits_j66 G r7 v1 v2 μ = some μr) : Ev RX12 cX12_findsFits 4 none false 3 0 0 (eqP none shR μr) 66 [some (.ref 0), some (.int v1), some (.int v2), none] [] shR μ 0 0 := by
  unfold f_X12_findsFits_j66 at h
  refine ev_iload_n dX12_findsFits_66 rfl ?_
  refine ev_if_ne (tgt := 73) dX12_findsFits_67 (by decide) (fun hc10 => ?_) (fun hc10 => ?_)
  · replace h := ite_f hc10 h
    refine ev_aload_n dX12_findsFits_73 rfl ?_
    refine ev_getR fr_X12_110 shR_0 rfl dX12_findsFits_74 ?_
    refine ev_aload_n dX12_findsFits_77 rfl ?_
    refine ev_getI fr_X12_459 shR_0 rfl dX12_findsFits_78 ?_
    refine ev_iload_n dX12_findsFits_81 rfl ?_
    obtain ⟨hi12, h⟩ := chk_t h
    refine ev_iast shR_33 hi12 dX12_findsFits_82 ?_
    refine ev_aload_n dX12_findsFits_83 rfl ?_
    refine ev_aload_n dX12_findsFits_84 rfl ?_
    refine ev_getI fr_X12_459 shR_0 rfl dX12_findsFits_85 ?_
    refine ev_iconst (v := (1 : Int32)) dX12_findsFits_88 (by decide) ?_
    refine ev_iadd dX12_findsFits_89 ?_
    refine ev_putI fr_X12_459 shR_0 rfl rfl rfl dX12_findsFits_90 ?_
    exact ev_lt (f_X12_findsFits_j93_ok hr7 h) ⟨rfl, ⟨rfl, trivial⟩⟩
  · replace h := ite_t hc10 h
    refine ev_goto (tgt := 93) dX12_findsFits_70 (by decide) ?_
    exact ev_lt (f_X12_findsFits_j93_ok hr7 h) ⟨rfl, ⟨rfl, trivial⟩⟩
def f_X12_findsFits_L7 (G : Nat)  : Nat → Int32 → Mem → Option Mem
  | 0, _, _ => none
  | g + 1, v1, μ =>
  (if (556 : Int32) ≤ v1 then
  some μ
  else
  f_X12_findsFits_L22 G (f_X12_findsFits_L7 G g) (f_X12_findsFits_j66 G (f_X12_findsFits_L7 G g)) G v1 (f_X12_isRow v1) (0 : Int32) μ)
set_option maxHeartbeats 4000000 in
set_option maxRecDepth 100000 in
theorem f_X12_findsFits_L7_ok  {G : Nat} {μr : Mem}    : ∀ (g : Nat) (v1 : Int32) (μ : Mem), f_X12_findsFits_L7 G g v1 μ = some μr → Ev RX12 cX12_findsFits 4 none false 3 0 0 (eqP none shR μr) 7 [some (.ref 0), some (.int v1), none, none] [] shR μ 0 0 := by
  intro g
  induction g with
  | zero =>
    intro v1 μ h
    cases h
  | succ g ih =>
    intro v1 μ h
    rw [f_X12_findsFits_L7] at h
    refine ev_iload_n dX12_findsFits_7 rfl ?_
    refine ev_sipush (v := (556 : Int32)) dX12_findsFits_8 (by decide) ?_
    refine ev_icmp_ge (tgt := 99) dX12_findsFits_11 (by decide) (fun hc2 => ?_) (fun hc2 => ?_)
    · replace h := ite_t hc2 h
      exact ev_vret rfl (by decide) (by decide) dX12_findsFits_99 (eqP_V h)
    · replace h := ite_f hc2 h
      refine ev_aload_n dX12_findsFits_14 rfl ?_
      refine ev_iload_n dX12_findsFits_15 rfl ?_
      refine ev_cVi mv_X12_456 dX12_findsFits_16 c_X12_isRow rfl shR_0 rfl rfl (Nat.le_of_ble_eq_true rfl) (by rfl) (Nat.le_of_ble_eq_true rfl) (Nat.le_of_ble_eq_true rfl) (Nat.le_of_ble_eq_true rfl) ?_
      refine ev_istore_n (loc' := [_, _, _, _]) dX12_findsFits_19 rfl (by decide) (by rfl) ?_
      refine ev_iconst (v := (0 : Int32)) dX12_findsFits_20 (by decide) ?_
      refine ev_istore_n (loc' := [_, _, _, _]) dX12_findsFits_21 rfl (by decide) (by rfl) ?_
      exact ev_lt (f_X12_findsFits_L22_ok ih (fun _ _ _ hh => f_X12_findsFits_j66_ok ih hh) _ _ _ _ _ h) ⟨rfl, ⟨rfl, ⟨rfl, ⟨rfl, trivial⟩⟩⟩⟩
def f_X12_findsFits (G : Nat) (μ : Mem) : Option Mem :=
  (let m1 := wr μ 0 55 (0 : Int32)
  f_X12_findsFits_L7 G G (0 : Int32) m1)
set_option maxHeartbeats 4000000 in
set_option maxRecDepth 100000 in
theorem c_X12_findsFits  {G : Nat} {μ : Mem} {μr : Mem}  (h : f_X12_findsFits G μ = some μr) : Cn yX12_findsFits cX12_findsFits 4 none 3 0 0 [.ref 0] shR μ (eqP none shR μr) := by
  refine cn_of (own := RX12) (ini := false) (loc := [some (.ref 0), none, none, none]) rfl (by decide) (fun q => by cases q) (Nat.le_of_ble_eq_true rfl) (by rfl) rfl ?_
  unfold f_X12_findsFits at h
  refine ev_aload_n dX12_findsFits_0 rfl ?_
  refine ev_iconst (v := (0 : Int32)) dX12_findsFits_1 (by decide) ?_
  refine ev_putI fr_X12_459 shR_0 rfl rfl rfl dX12_findsFits_2 ?_
  refine ev_iconst (v := (0 : Int32)) dX12_findsFits_5 (by decide) ?_
  refine ev_istore_n (loc' := [_, _, _, _]) dX12_findsFits_6 rfl (by decide) (by rfl) ?_
  exact ev_lt (f_X12_findsFits_L7_ok _ _ _ h) ⟨rfl, ⟨rfl, trivial⟩⟩
def f_X12_mostLeft_L2 (G : Nat) (k2_21 : Int32 → Mem → Option (Int32 × Mem)) : Nat → Int32 → Int32 → Mem → Option (Int32 × Mem)
  | 0, _, _, _ => none
  | g + 1, v1, v2, μ =>
  (if (16 : Int32) ≤ v2 then
  k2_21 v1 μ
  else
  chk v2 16 (let m2 := wr μ 32 (ix v2) (0 : Int32)
  (f_X12_mostLeft_L2 G k2_21 g) v1 (v2 + (1 : Int32)) m2))
set_option maxHeartbeats 4000000 in
set_option maxRecDepth 100000 in
theorem f_X12_mostLeft_L2_ok  {G : Nat} {r : Int32} {μr : Mem}  {k2_21 : Int32 → Mem → Option (Int32 × Mem)} (hk2_21 : ∀ (v1 : Int32) (m : Mem), k2_21 v1 m = some (r, μr) → Ev RX12 cX12_mostLeft 5 (some .int) false 3 0 0 (eqP (some r) shR μr) 21 [some (.ref 0), some (.int v1), none, none, none] [] shR m 0 0) : ∀ (g : Nat) (v1 v2 : Int32) (μ : Mem), f_X12_mostLeft_L2 G k2_21 g v1 v2 μ = some (r, μr) → Ev RX12 cX12_mostLeft 5 (some .int) false 3 0 0 (eqP (some r) shR μr) 2 [some (.ref 0), some (.int v1), some (.int v2), none, none] [] shR μ 0 0 := by
  intro g
  induction g with
  | zero =>
    intro v1 v2 μ h
    cases h
  | succ g ih =>
    intro v1 v2 μ h
    rw [f_X12_mostLeft_L2] at h
    refine ev_iload_n dX12_mostLeft_2 rfl ?_
    refine ev_bipush (v := (16 : Int32)) dX12_mostLeft_3 (by decide) ?_
    refine ev_icmp_ge (tgt := 21) dX12_mostLeft_5 (by decide) (fun hc1 => ?_) (fun hc1 => ?_)
    · replace h := ite_t hc1 h
      exact ev_lt (hk2_21 _ _ h) ⟨rfl, ⟨rfl, trivial⟩⟩
    · replace h := ite_f hc1 h
      refine ev_aload_n dX12_mostLeft_8 rfl ?_
      refine ev_getR fr_X12_107 shR_0 rfl dX12_mostLeft_9 ?_
      refine ev_iload_n dX12_mostLeft_12 rfl ?_
      refine ev_iconst (v := (0 : Int32)) dX12_mostLeft_13 (by decide) ?_
      obtain ⟨hi3, h⟩ := chk_t h
      refine ev_iast shR_32 hi3 dX12_mostLeft_14 ?_
      refine ev_iinc (cq := (1 : Int32)) (loc' := [_, _, _, _, _]) dX12_mostLeft_15 rfl (by decide) rfl (by decide) (by rfl) ?_
      refine ev_goto (tgt := 2) dX12_mostLeft_18 (by decide) ?_
      exact ev_lt (ih _ _ _ h) ⟨rfl, ⟨rfl, ⟨rfl, trivial⟩⟩⟩
def f_X12_mostLeft_L25 (G : Nat)  : Nat → Int32 → Int32 → Int32 → Mem → Option (Int32 × Mem)
  | 0, _, _, _, _ => none
  | g + 1, v1, v2, v3, μ =>
  (if (μ 0 55) ≤ v3 then
  some (v2, μ)
  else
  chk v3 216 (bndO (f_X12_saidOf G μ (μ 33 (ix v3)) v1) (fun w7 =>
  chk w7 16 (chk w7 16 (let m9 := wr μ 32 (ix w7) ((μ 32 (ix w7)) + (1 : Int32))
  chk w7 16 ((f_X12_mostLeft_L25 G g) v1 (f_X12_greater v2 (m9 32 (ix w7))) (v3 + (1 : Int32)) m9))))))
set_option maxHeartbeats 4000000 in
set_option maxRecDepth 100000 in
theorem f_X12_mostLeft_L25_ok  {G : Nat} {r : Int32} {μr : Mem}    : ∀ (g : Nat) (v1 v2 v3 : Int32) (μ : Mem), f_X12_mostLeft_L25 G g v1 v2 v3 μ = some (r, μr) → Ev RX12 cX12_mostLeft 5 (some .int) false 3 0 0 (eqP (some r) shR μr) 25 [some (.ref 0), some (.int v1), some (.int v2), some (.int v3), none] [] shR μ 0 0 := by
  intro g
  induction g with
  | zero =>
    intro v1 v2 v3 μ h
    cases h
  | succ g ih =>
    intro v1 v2 v3 μ h
    rw [f_X12_mostLeft_L25] at h
    refine ev_iload_n dX12_mostLeft_25 rfl ?_
    refine ev_aload_n dX12_mostLeft_26 rfl ?_
    refine ev_getI fr_X12_459 shR_0 rfl dX12_mostLeft_27 ?_
    refine ev_icmp_ge (tgt := 81) dX12_mostLeft_30 (by decide) (fun hc4 => ?_) (fun hc4 => ?_)
    · replace h := ite_t hc4 h
      refine ev_iload_n dX12_mostLeft_81 rfl ?_
      exact ev_iret rfl rfl (by decide) (by decide) dX12_mostLeft_82 (eqP_E h)
    · replace h := ite_f hc4 h
      refine ev_aload_n dX12_mostLeft_33 rfl ?_
      refine ev_aload_n dX12_mostLeft_34 rfl ?_
      refine ev_getR fr_X12_110 shR_0 rfl dX12_mostLeft_35 ?_
      refine ev_iload_n dX12_mostLeft_38 rfl ?_
      obtain ⟨hi5, h⟩ := chk_t h
      refine ev_iald shR_33 hi5 dX12_mostLeft_39 ?_
      refine ev_iload_n dX12_mostLeft_40 rfl ?_
      obtain ⟨w7, hq6, h⟩ := bndO_t h
      refine ev_cVi mv_X12_462 dX12_mostLeft_41 (c_X12_saidOf hq6) rfl shR_0 rfl rfl (Nat.le_of_ble_eq_true rfl) (by rfl) (Nat.le_of_ble_eq_true rfl) (Nat.le_of_ble_eq_true rfl) (Nat.le_of_ble_eq_true rfl) ?_
      refine ev_istore (loc' := [_, _, _, _, _]) dX12_mostLeft_44 rfl (by decide) (by rfl) ?_
      refine ev_aload_n dX12_mostLeft_46 rfl ?_
      refine ev_getR fr_X12_107 shR_0 rfl dX12_mostLeft_47 ?_
      refine ev_iload dX12_mostLeft_50 rfl ?_
      refine ev_aload_n dX12_mostLeft_52 rfl ?_
      refine ev_getR fr_X12_107 shR_0 rfl dX12_mostLeft_53 ?_
      refine ev_iload dX12_mostLeft_56 rfl ?_
      obtain ⟨hi8, h⟩ := chk_t h
      refine ev_iald shR_32 hi8 dX12_mostLeft_58 ?_
      refine ev_iconst (v := (1 : Int32)) dX12_mostLeft_59 (by decide) ?_
      refine ev_iadd dX12_mostLeft_60 ?_
      obtain ⟨hi10, h⟩ := chk_t h
      refine ev_iast shR_32 hi10 dX12_mostLeft_61 ?_
      refine ev_aload_n dX12_mostLeft_62 rfl ?_
      refine ev_iload_n dX12_mostLeft_63 rfl ?_
      refine ev_aload_n dX12_mostLeft_64 rfl ?_
      refine ev_getR fr_X12_107 shR_0 rfl dX12_mostLeft_65 ?_
      refine ev_iload dX12_mostLeft_68 rfl ?_
      obtain ⟨hi11, h⟩ := chk_t h
      refine ev_iald shR_32 hi11 dX12_mostLeft_70 ?_
      refine ev_cVi mv_X12_434 dX12_mostLeft_71 c_X12_greater rfl shR_0 rfl rfl (Nat.le_of_ble_eq_true rfl) (by rfl) (Nat.le_of_ble_eq_true rfl) (Nat.le_of_ble_eq_true rfl) (Nat.le_of_ble_eq_true rfl) ?_
      refine ev_istore_n (loc' := [_, _, _, _, _]) dX12_mostLeft_74 rfl (by decide) (by rfl) ?_
      refine ev_iinc (cq := (1 : Int32)) (loc' := [_, _, _, _, _]) dX12_mostLeft_75 rfl (by decide) rfl (by decide) (by rfl) ?_
      refine ev_goto (tgt := 25) dX12_mostLeft_78 (by decide) ?_
      exact ev_lt (ih _ _ _ _ h) ⟨rfl, ⟨rfl, ⟨rfl, ⟨rfl, trivial⟩⟩⟩⟩
def f_X12_mostLeft_j21 (G : Nat)  (v1 : Int32) (μ : Mem) : Option (Int32 × Mem) :=
  f_X12_mostLeft_L25 G G v1 (0 : Int32) (0 : Int32) μ
set_option maxHeartbeats 4000000 in
set_option maxRecDepth 100000 in
theorem f_X12_mostLeft_j21_ok  {G : Nat} {r : Int32} {μr : Mem}    {v1 : Int32} {μ : Mem} (h : f_X12_mostLeft_j21 G v1 μ = some (r, μr)) : Ev RX12 cX12_mostLeft 5 (some .int) false 3 0 0 (eqP (some r) shR μr) 21 [some (.ref 0), some (.int v1), none, none, none] [] shR μ 0 0 := by
  unfold f_X12_mostLeft_j21 at h
  refine ev_iconst (v := (0 : Int32)) dX12_mostLeft_21 (by decide) ?_
  refine ev_istore_n (loc' := [_, _, _, _, _]) dX12_mostLeft_22 rfl (by decide) (by rfl) ?_
  refine ev_iconst (v := (0 : Int32)) dX12_mostLeft_23 (by decide) ?_
  refine ev_istore_n (loc' := [_, _, _, _, _]) dX12_mostLeft_24 rfl (by decide) (by rfl) ?_
  exact ev_lt (f_X12_mostLeft_L25_ok _ _ _ _ _ h) ⟨rfl, ⟨rfl, ⟨rfl, ⟨rfl, trivial⟩⟩⟩⟩
def f_X12_mostLeft (G : Nat) (p1 : Int32) (μ : Mem) : Option (Int32 × Mem) :=
  f_X12_mostLeft_L2 G (f_X12_mostLeft_j21 G) G p1 (0 : Int32) μ
set_option maxHeartbeats 4000000 in
set_option maxRecDepth 100000 in
theorem c_X12_mostLeft  {G : Nat} {μ : Mem} {p1 : Int32} {r : Int32} {μr : Mem}  (h : f_X12_mostLeft G p1 μ = some (r, μr)) : Cn yX12_mostLeft cX12_mostLeft 5 (some .int) 3 0 0 [.ref 0, .int p1] shR μ (eqP (some r) shR μr) := by
  refine cn_of (own := RX12) (ini := false) (loc := [some (.ref 0), some (.int p1), none, none, none]) rfl (by decide) (fun q => by cases q) (Nat.le_of_ble_eq_true rfl) (by rfl) rfl ?_
  unfold f_X12_mostLeft at h
  refine ev_iconst (v := (0 : Int32)) dX12_mostLeft_0 (by decide) ?_
  refine ev_istore_n (loc' := [_, _, _, _, _]) dX12_mostLeft_1 rfl (by decide) (by rfl) ?_
  exact ev_lt (f_X12_mostLeft_L2_ok (fun _ _ hh => f_X12_mostLeft_j21_ok hh) _ _ _ _ h) ⟨rfl, ⟨rfl, ⟨rfl, trivial⟩⟩⟩
def f_X12_nextGuess_j53 (G : Nat) (r8 : Int32 → Int32 → Int32 → Mem → Option (Int32 × Mem)) (v1 v2 v3 : Int32) (μ : Mem) : Option (Int32 × Mem) :=
  r8 v1 v2 (v3 + (1 : Int32)) μ
set_option maxHeartbeats 4000000 in
set_option maxRecDepth 100000 in
theorem f_X12_nextGuess_j53_ok  {G : Nat} {r : Int32} {μr : Mem}  {r8 : Int32 → Int32 → Int32 → Mem → Option (Int32 × Mem)} (hr8 : ∀ (v1 : Int32) (v2 : Int32) (v3 : Int32) (m : Mem), r8 v1 v2 v3 m = some (r, μr) → Ev RX12 cX12_nextGuess 5 (some .int) false 4 0 0 (eqP (some r) shR μr) 8 [some (.ref 0), some (.int v1), some (.int v2), some (.int v3), none] [] shR m 0 0) {v1 v2 v3 : Int32} {μ : Mem} (h : f_X12_nextGuess_j53 G r8 v1 v2 v3 μ = some (r, μr)) : Ev RX12 cX12_nextGuess 5 (some .int) false 4 0 0 (eqP (some r) shR μr) 53 [some (.ref 0), some (.int v1), some (.int v2), some (.int v3), none] [] shR μ 0 0 := by
  unfold f_X12_nextGuess_j53 at h
  refine ev_iinc (cq := (1 : Int32)) (loc' := [_, _, _, _, _]) dX12_nextGuess_53 rfl (by decide) rfl (by decide) (by rfl) ?_
  refine ev_goto (tgt := 8) dX12_nextGuess_56 (by decide) ?_
  exact ev_lt (hr8 _ _ _ _ h) ⟨rfl, ⟨rfl, ⟨rfl, ⟨rfl, trivial⟩⟩⟩⟩
def f_X12_nextGuess_j44 (G : Nat) (r8 : Int32 → Int32 → Int32 → Mem → Option (Int32 × Mem)) (v2 v3 v4 s0 : Int32) (μ : Mem) : Option (Int32 × Mem) :=
  f_X12_nextGuess_j53 G r8 s0 (f_X12_lesser v2 v4) v3 μ
set_option maxHeartbeats 4000000 in
set_option maxRecDepth 100000 in
theorem f_X12_nextGuess_j44_ok  {G : Nat} {r : Int32} {μr : Mem}  {r8 : Int32 → Int32 → Int32 → Mem → Option (Int32 × Mem)} (hr8 : ∀ (v1 : Int32) (v2 : Int32) (v3 : Int32) (m : Mem), r8 v1 v2 v3 m = some (r, μr) → Ev RX12 cX12_nextGuess 5 (some .int) false 4 0 0 (eqP (some r) shR μr) 8 [some (.ref 0), some (.int v1), some (.int v2), some (.int v3), none] [] shR m 0 0) {v2 v3 v4 s0 : Int32} {μ : Mem} (h : f_X12_nextGuess_j44 G r8 v2 v3 v4 s0 μ = some (r, μr)) : Ev RX12 cX12_nextGuess 5 (some .int) false 4 0 0 (eqP (some r) shR μr) 44 [some (.ref 0), none, some (.int v2), some (.int v3), some (.int v4)] [.int s0] shR μ 0 0 := by
  unfold f_X12_nextGuess_j44 at h
  refine ev_istore_n (loc' := [_, _, _, _, _]) dX12_nextGuess_44 rfl (by decide) (by rfl) ?_
  refine ev_aload_n dX12_nextGuess_45 rfl ?_
  refine ev_iload_n dX12_nextGuess_46 rfl ?_
  refine ev_iload dX12_nextGuess_47 rfl ?_
  refine ev_cVi mv_X12_428 dX12_nextGuess_49 c_X12_lesser rfl shR_0 rfl rfl (Nat.le_of_ble_eq_true rfl) (by rfl) (Nat.le_of_ble_eq_true rfl) (Nat.le_of_ble_eq_true rfl) (Nat.le_of_ble_eq_true rfl) ?_
  refine ev_istore_n (loc' := [_, _, _, _, _]) dX12_nextGuess_52 rfl (by decide) (by rfl) ?_
  exact ev_lt (f_X12_nextGuess_j53_ok hr8 h) ⟨rfl, ⟨rfl, ⟨rfl, ⟨rfl, trivial⟩⟩⟩⟩
def f_X12_nextGuess_L8 (G : Nat)  : Nat → Int32 → Int32 → Int32 → Mem → Option (Int32 × Mem)
  | 0, _, _, _, _ => none
  | g + 1, v1, v2, v3, μ =>
  (if (556 : Int32) ≤ v3 then
  some (v1, μ)
  else
  (if (f_X12_isRow v3) = (0 : Int32) then
  f_X12_nextGuess_j53 G (f_X12_nextGuess_L8 G g) v1 v2 v3 μ
  else
  bndE (f_X12_mostLeft G v3 μ) (fun w5 m4 =>
  (if v2 ≤ w5 then
  f_X12_nextGuess_j44 G (f_X12_nextGuess_L8 G g) v2 v3 w5 v1 m4
  else
  f_X12_nextGuess_j44 G (f_X12_nextGuess_L8 G g) v2 v3 w5 v3 m4))))
set_option maxHeartbeats 4000000 in
set_option maxRecDepth 100000 in
theorem f_X12_nextGuess_L8_ok  {G : Nat} {r : Int32} {μr : Mem}    : ∀ (g : Nat) (v1 v2 v3 : Int32) (μ : Mem), f_X12_nextGuess_L8 G g v1 v2 v3 μ = some (r, μr) → Ev RX12 cX12_nextGuess 5 (some .int) false 4 0 0 (eqP (some r) shR μr) 8 [some (.ref 0), some (.int v1), some (.int v2), some (.int v3), none] [] shR μ 0 0 := by
  intro g
  induction g with
  | zero =>
    intro v1 v2 v3 μ h
    cases h
  | succ g ih =>
    intro v1 v2 v3 μ h
    rw [f_X12_nextGuess_L8] at h
    refine ev_iload_n dX12_nextGuess_8 rfl ?_
    refine ev_sipush (v := (556 : Int32)) dX12_nextGuess_9 (by decide) ?_
    refine ev_icmp_ge (tgt := 59) dX12_nextGuess_12 (by decide) (fun hc1 => ?_) (fun hc1 => ?_)
    · replace h := ite_t hc1 h
      refine ev_iload_n dX12_nextGuess_59 rfl ?_
      exact ev_iret rfl rfl (by decide) (by decide) dX12_nextGuess_60 (eqP_E h)
    · replace h := ite_f hc1 h
      refine ev_aload_n dX12_nextGuess_15 rfl ?_
      refine ev_iload_n dX12_nextGuess_16 rfl ?_
      refine ev_cVi mv_X12_456 dX12_nextGuess_17 c_X12_isRow rfl shR_0 rfl rfl (Nat.le_of_ble_eq_true rfl) (by rfl) (Nat.le_of_ble_eq_true rfl) (Nat.le_of_ble_eq_true rfl) (Nat.le_of_ble_eq_true rfl) ?_
      refine ev_if_ne (tgt := 26) dX12_nextGuess_20 (by decide) (fun hc2 => ?_) (fun hc2 => ?_)
      · replace h := ite_f hc2 h
        refine ev_aload_n dX12_nextGuess_26 rfl ?_
        refine ev_iload_n dX12_nextGuess_27 rfl ?_
        obtain ⟨w5, m4, hq3, h⟩ := bndE_t h
        refine ev_cVi mv_X12_465 dX12_nextGuess_28 (c_X12_mostLeft hq3) rfl shR_0 rfl rfl (Nat.le_of_ble_eq_true rfl) (by rfl) (Nat.le_of_ble_eq_true rfl) (Nat.le_of_ble_eq_true rfl) (Nat.le_of_ble_eq_true rfl) ?_
        refine ev_istore (loc' := [_, _, _, _, _]) dX12_nextGuess_31 rfl (by decide) (by rfl) ?_
        refine ev_iload dX12_nextGuess_33 rfl ?_
        refine ev_iload_n dX12_nextGuess_35 rfl ?_
        refine ev_icmp_ge (tgt := 43) dX12_nextGuess_36 (by decide) (fun hc6 => ?_) (fun hc6 => ?_)
        · replace h := ite_t hc6 h
          refine ev_iload_n dX12_nextGuess_43 rfl ?_
          exact ev_lt (f_X12_nextGuess_j44_ok ih h) ⟨rfl, ⟨rfl, ⟨rfl, ⟨rfl, trivial⟩⟩⟩⟩
        · replace h := ite_f hc6 h
          refine ev_iload_n dX12_nextGuess_39 rfl ?_
          refine ev_goto (tgt := 44) dX12_nextGuess_40 (by decide) ?_
          exact ev_lt (f_X12_nextGuess_j44_ok ih h) ⟨rfl, ⟨rfl, ⟨rfl, ⟨rfl, trivial⟩⟩⟩⟩
      · replace h := ite_t hc2 h
        refine ev_goto (tgt := 53) dX12_nextGuess_23 (by decide) ?_
        exact ev_lt (f_X12_nextGuess_j53_ok ih h) ⟨rfl, ⟨rfl, ⟨rfl, ⟨rfl, trivial⟩⟩⟩⟩
def f_X12_nextGuess (G : Nat) (μ : Mem) : Option (Int32 × Mem) :=
  f_X12_nextGuess_L8 G G (-1 : Int32) (100000000 : Int32) (0 : Int32) μ
set_option maxHeartbeats 4000000 in
set_option maxRecDepth 100000 in
theorem c_X12_nextGuess  {G : Nat} {μ : Mem} {r : Int32} {μr : Mem}  (h : f_X12_nextGuess G μ = some (r, μr)) : Cn yX12_nextGuess cX12_nextGuess 5 (some .int) 4 0 0 [.ref 0] shR μ (eqP (some r) shR μr) := by
  refine cn_of (own := RX12) (ini := false) (loc := [some (.ref 0), none, none, none, none]) rfl (by decide) (fun q => by cases q) (Nat.le_of_ble_eq_true rfl) (by rfl) rfl ?_
  unfold f_X12_nextGuess at h
  refine ev_iconst (v := (-1 : Int32)) dX12_nextGuess_0 (by decide) ?_
  refine ev_istore_n (loc' := [_, _, _, _, _]) dX12_nextGuess_1 rfl (by decide) (by rfl) ?_
  refine ev_ldcw dX12_nextGuess_2 kc_X12_424 ?_
  refine ev_istore_n (loc' := [_, _, _, _, _]) dX12_nextGuess_5 rfl (by decide) (by rfl) ?_
  refine ev_iconst (v := (0 : Int32)) dX12_nextGuess_6 (by decide) ?_
  refine ev_istore_n (loc' := [_, _, _, _, _]) dX12_nextGuess_7 rfl (by decide) (by rfl) ?_
  exact ev_lt (f_X12_nextGuess_L8_ok _ _ _ _ _ h) ⟨rfl, ⟨rfl, ⟨rfl, ⟨rfl, trivial⟩⟩⟩⟩
def f_X12_plumes (G : Nat) (p1 : Int32) (μ : Mem) : Option (Int32 × Mem) :=
  (let m1 := wr μ 0 0 (0 : Int32)
  (if (f_X12_isIn p1 (0 : Int32) (2 : Int32)) = (0 : Int32) then
  some ((-1 : Int32), m1)
  else
  bndV (f_X12_findsFits G m1) (fun m4 =>
  (if p1 = (0 : Int32) then
  some ((m4 0 55), m4)
  else
  (if (m4 0 55) = (0 : Int32) then
  some ((-1 : Int32), m4)
  else
  (if p1 = (1 : Int32) then
  some ((m4 33 0), m4)
  else
  bndE (f_X12_nextGuess G m4) (fun w10 m9 =>
  some (w10, m9))))))))
set_option maxHeartbeats 4000000 in
set_option maxRecDepth 100000 in
theorem c_X12_plumes  {G : Nat} {μ : Mem} {p1 : Int32} {r : Int32} {μr : Mem}  (h : f_X12_plumes G p1 μ = some (r, μr)) : Cn yX12_plumes cX12_plumes 2 (some .int) 5 0 0 [.ref 0, .int p1] shR μ (eqP (some r) shR μr) := by
  refine cn_of (own := RX12) (ini := false) (loc := [some (.ref 0), some (.int p1)]) rfl (by decide) (fun q => by cases q) (Nat.le_of_ble_eq_true rfl) (by rfl) rfl ?_
  unfold f_X12_plumes at h
  refine ev_aload_n dX12_plumes_0 rfl ?_
  refine ev_iconst (v := (0 : Int32)) dX12_plumes_1 (by decide) ?_
  refine ev_putI fr_X12_149 shR_0 rfl rfl rfl dX12_plumes_2 ?_
  refine ev_aload_n dX12_plumes_5 rfl ?_
  refine ev_iload_n dX12_plumes_6 rfl ?_
  refine ev_iconst (v := (0 : Int32)) dX12_plumes_7 (by decide) ?_
  refine ev_iconst (v := (2 : Int32)) dX12_plumes_8 (by decide) ?_
  refine ev_cVi mv_X12_167 dX12_plumes_9 c_X12_isIn rfl shR_0 rfl rfl (Nat.le_of_ble_eq_true rfl) (by rfl) (Nat.le_of_ble_eq_true rfl) (Nat.le_of_ble_eq_true rfl) (Nat.le_of_ble_eq_true rfl) ?_
  refine ev_if_ne (tgt := 17) dX12_plumes_12 (by decide) (fun hc2 => ?_) (fun hc2 => ?_)
  · replace h := ite_f hc2 h
    refine ev_aload_n dX12_plumes_17 rfl ?_
    obtain ⟨m4, hq3, h⟩ := bndV_t h
    refine ev_cVv mv_X12_468 dX12_plumes_18 (c_X12_findsFits hq3) rfl shR_0 rfl rfl (Nat.le_of_ble_eq_true rfl) (by rfl) (Nat.le_of_ble_eq_true rfl) (Nat.le_of_ble_eq_true rfl) (Nat.le_of_ble_eq_true rfl) ?_
    refine ev_iload_n dX12_plumes_21 rfl ?_
    refine ev_if_ne (tgt := 30) dX12_plumes_22 (by decide) (fun hc5 => ?_) (fun hc5 => ?_)
    · replace h := ite_f hc5 h
      refine ev_aload_n dX12_plumes_30 rfl ?_
      refine ev_getI fr_X12_459 shR_0 rfl dX12_plumes_31 ?_
      refine ev_if_ne (tgt := 41) dX12_plumes_34 (by decide) (fun hc6 => ?_) (fun hc6 => ?_)
      · replace h := ite_f hc6 h
        refine ev_iload_n dX12_plumes_41 rfl ?_
        refine ev_iconst (v := (1 : Int32)) dX12_plumes_42 (by decide) ?_
        refine ev_icmp_ne (tgt := 55) dX12_plumes_43 (by decide) (fun hc7 => ?_) (fun hc7 => ?_)
        · replace h := ite_f hc7 h
          refine ev_aload_n dX12_plumes_55 rfl ?_
          obtain ⟨w10, m9, hq8, h⟩ := bndE_t h
          refine ev_cVi mv_X12_471 dX12_plumes_56 (c_X12_nextGuess hq8) rfl shR_0 rfl rfl (Nat.le_of_ble_eq_true rfl) (by rfl) (Nat.le_of_ble_eq_true rfl) (Nat.le_of_ble_eq_true rfl) (Nat.le_of_ble_eq_true rfl) ?_
          exact ev_iret rfl rfl (by decide) (by decide) dX12_plumes_59 (eqP_E h)
        · replace h := ite_t hc7 h
          refine ev_aload_n dX12_plumes_46 rfl ?_
          refine ev_getR fr_X12_110 shR_0 rfl dX12_plumes_47 ?_
          refine ev_iconst (v := (0 : Int32)) dX12_plumes_50 (by decide) ?_
          refine ev_ialdL (j := 0) shR_33 (by decide) (vpl _ _ (by decide)) dX12_plumes_51 ?_
          refine ev_goto (tgt := 59) dX12_plumes_52 (by decide) ?_
          exact ev_iret rfl rfl (by decide) (by decide) dX12_plumes_59 (eqP_E h)
      · replace h := ite_t hc6 h
        refine ev_iconst (v := (-1 : Int32)) dX12_plumes_37 (by decide) ?_
        refine ev_goto (tgt := 59) dX12_plumes_38 (by decide) ?_
        exact ev_iret rfl rfl (by decide) (by decide) dX12_plumes_59 (eqP_E h)
    · replace h := ite_t hc5 h
      refine ev_aload_n dX12_plumes_25 rfl ?_
      refine ev_getI fr_X12_459 shR_0 rfl dX12_plumes_26 ?_
      exact ev_iret rfl rfl (by decide) (by decide) dX12_plumes_29 (eqP_E h)
  · replace h := ite_t hc2 h
    refine ev_iconst (v := (-1 : Int32)) dX12_plumes_15 (by decide) ?_
    exact ev_iret rfl rfl (by decide) (by decide) dX12_plumes_16 (eqP_E h)
def f_X12_bet (G : Nat) (p1 p2 : Int32) (μ : Mem) : Option (Int32 × Mem) :=
  (let m1 := wr μ 0 0 (0 : Int32)
  (if p1 = (-1 : Int32) then
  (let m11 := wr m1 0 57 (0 : Int32)
  some ((0 : Int32), m11))
  else
  (if (f_X12_isIn p1 (0 : Int32) (2 : Int32)) = (0 : Int32) then
  some ((-1 : Int32), m1)
  else
  (if (f_X12_isIn p2 (101 : Int32) (9999 : Int32)) = (0 : Int32) then
  some ((-1 : Int32), m1)
  else
  (if (m1 0 57) = (6 : Int32) then
  some ((-1 : Int32), m1)
  else
  chk (m1 0 57) 6 (let m6 := wr m1 34 (ix (m1 0 57)) p1
  chk (m6 0 57) 6 (let m8 := wr m6 35 (ix (m6 0 57)) p2
  (let m10 := wr m8 0 57 ((m8 0 57) + (1 : Int32))
  some ((m10 0 57), m10)))))))))
set_option maxHeartbeats 4000000 in
set_option maxRecDepth 100000 in
theorem c_X12_bet  {G : Nat} {μ : Mem} {p1 p2 : Int32} {r : Int32} {μr : Mem}  (h : f_X12_bet G p1 p2 μ = some (r, μr)) : Cn yX12_bet cX12_bet 3 (some .int) 2 0 0 [.ref 0, .int p1, .int p2] shR μ (eqP (some r) shR μr) := by
  refine cn_of (own := RX12) (ini := false) (loc := [some (.ref 0), some (.int p1), some (.int p2)]) rfl (by decide) (fun q => by cases q) (Nat.le_of_ble_eq_true rfl) (by rfl) rfl ?_
  unfold f_X12_bet at h
  refine ev_aload_n dX12_bet_0 rfl ?_
  refine ev_iconst (v := (0 : Int32)) dX12_bet_1 (by decide) ?_
  refine ev_putI fr_X12_149 shR_0 rfl rfl rfl dX12_bet_2 ?_
  refine ev_iload_n dX12_bet_5 rfl ?_
  refine ev_iconst (v := (-1 : Int32)) dX12_bet_6 (by decide) ?_
  refine ev_icmp_ne (tgt := 17) dX12_bet_7 (by decide) (fun hc2 => ?_) (fun hc2 => ?_)
  · replace h := ite_f hc2 h
    refine ev_aload_n dX12_bet_17 rfl ?_
    refine ev_iload_n dX12_bet_18 rfl ?_
    refine ev_iconst (v := (0 : Int32)) dX12_bet_19 (by decide) ?_
    refine ev_iconst (v := (2 : Int32)) dX12_bet_20 (by decide) ?_
    refine ev_cVi mv_X12_167 dX12_bet_21 c_X12_isIn rfl shR_0 rfl rfl (Nat.le_of_ble_eq_true rfl) (by rfl) (Nat.le_of_ble_eq_true rfl) (Nat.le_of_ble_eq_true rfl) (Nat.le_of_ble_eq_true rfl) ?_
    refine ev_if_eq (tgt := 49) dX12_bet_24 (by decide) (fun hc3 => ?_) (fun hc3 => ?_)
    · replace h := ite_t hc3 h
      refine ev_iconst (v := (-1 : Int32)) dX12_bet_49 (by decide) ?_
      exact ev_iret rfl rfl (by decide) (by decide) dX12_bet_50 (eqP_E h)
    · replace h := ite_f hc3 h
      refine ev_aload_n dX12_bet_27 rfl ?_
      refine ev_iload_n dX12_bet_28 rfl ?_
      refine ev_bipush (v := (101 : Int32)) dX12_bet_29 (by decide) ?_
      refine ev_sipush (v := (9999 : Int32)) dX12_bet_31 (by decide) ?_
      refine ev_cVi mv_X12_167 dX12_bet_34 c_X12_isIn rfl shR_0 rfl rfl (Nat.le_of_ble_eq_true rfl) (by rfl) (Nat.le_of_ble_eq_true rfl) (Nat.le_of_ble_eq_true rfl) (Nat.le_of_ble_eq_true rfl) ?_
      refine ev_if_eq (tgt := 49) dX12_bet_37 (by decide) (fun hc4 => ?_) (fun hc4 => ?_)
      · replace h := ite_t hc4 h
        refine ev_iconst (v := (-1 : Int32)) dX12_bet_49 (by decide) ?_
        exact ev_iret rfl rfl (by decide) (by decide) dX12_bet_50 (eqP_E h)
      · replace h := ite_f hc4 h
        refine ev_aload_n dX12_bet_40 rfl ?_
        refine ev_getI fr_X12_474 shR_0 rfl dX12_bet_41 ?_
        refine ev_bipush (v := (6 : Int32)) dX12_bet_44 (by decide) ?_
        refine ev_icmp_ne (tgt := 51) dX12_bet_46 (by decide) (fun hc5 => ?_) (fun hc5 => ?_)
        · replace h := ite_f hc5 h
          refine ev_aload_n dX12_bet_51 rfl ?_
          refine ev_getR fr_X12_113 shR_0 rfl dX12_bet_52 ?_
          refine ev_aload_n dX12_bet_55 rfl ?_
          refine ev_getI fr_X12_474 shR_0 rfl dX12_bet_56 ?_
          refine ev_iload_n dX12_bet_59 rfl ?_
          obtain ⟨hi7, h⟩ := chk_t h
          refine ev_iast shR_34 hi7 dX12_bet_60 ?_
          refine ev_aload_n dX12_bet_61 rfl ?_
          refine ev_getR fr_X12_116 shR_0 rfl dX12_bet_62 ?_
          refine ev_aload_n dX12_bet_65 rfl ?_
          refine ev_getI fr_X12_474 shR_0 rfl dX12_bet_66 ?_
          refine ev_iload_n dX12_bet_69 rfl ?_
          obtain ⟨hi9, h⟩ := chk_t h
          refine ev_iast shR_35 hi9 dX12_bet_70 ?_
          refine ev_aload_n dX12_bet_71 rfl ?_
          refine ev_aload_n dX12_bet_72 rfl ?_
          refine ev_getI fr_X12_474 shR_0 rfl dX12_bet_73 ?_
          refine ev_iconst (v := (1 : Int32)) dX12_bet_76 (by decide) ?_
          refine ev_iadd dX12_bet_77 ?_
          refine ev_putI fr_X12_474 shR_0 rfl rfl rfl dX12_bet_78 ?_
          refine ev_aload_n dX12_bet_81 rfl ?_
          refine ev_getI fr_X12_474 shR_0 rfl dX12_bet_82 ?_
          exact ev_iret rfl rfl (by decide) (by decide) dX12_bet_85 (eqP_E h)
        · replace h := ite_t hc5 h
          refine ev_iconst (v := (-1 : Int32)) dX12_bet_49 (by decide) ?_
          exact ev_iret rfl rfl (by decide) (by decide) dX12_bet_50 (eqP_E h)
  · replace h := ite_t hc2 h
    refine ev_aload_n dX12_bet_10 rfl ?_
    refine ev_iconst (v := (0 : Int32)) dX12_bet_11 (by decide) ?_
    refine ev_putI fr_X12_474 shR_0 rfl rfl rfl dX12_bet_12 ?_
    refine ev_iconst (v := (0 : Int32)) dX12_bet_15 (by decide) ?_
    exact ev_iret rfl rfl (by decide) (by decide) dX12_bet_16 (eqP_E h)
def f_X12_backFrom_j38 (G : Nat) (μ : Mem) (r5 : Int32 → Int32 → Int32 → Int32 → Option Int32) (v1 v2 v3 v4 : Int32) : Option Int32 :=
  r5 v1 v2 v3 (v4 + (1 : Int32))
set_option maxHeartbeats 4000000 in
set_option maxRecDepth 100000 in
theorem f_X12_backFrom_j38_ok  {G : Nat} {μ : Mem} {r : Int32}  {r5 : Int32 → Int32 → Int32 → Int32 → Option Int32} (hr5 : ∀ (v1 : Int32) (v2 : Int32) (v3 : Int32) (v4 : Int32), r5 v1 v2 v3 v4 = some r → Ev RX12 cX12_backFrom 5 (some .int) false 2 0 0 (eqP (some r) shR μ) 5 [some (.ref 0), some (.int v1), some (.int v2), some (.int v3), some (.int v4)] [] shR μ 0 0) {v1 v2 v3 v4 : Int32}  (h : f_X12_backFrom_j38 G μ r5 v1 v2 v3 v4 = some r) : Ev RX12 cX12_backFrom 5 (some .int) false 2 0 0 (eqP (some r) shR μ) 38 [some (.ref 0), some (.int v1), some (.int v2), some (.int v3), some (.int v4)] [] shR μ 0 0 := by
  unfold f_X12_backFrom_j38 at h
  refine ev_iinc (cq := (1 : Int32)) (loc' := [_, _, _, _, _]) dX12_backFrom_38 rfl (by decide) rfl (by decide) (by rfl) ?_
  refine ev_goto (tgt := 5) dX12_backFrom_41 (by decide) ?_
  exact ev_lt (hr5 _ _ _ _ h) ⟨rfl, ⟨rfl, ⟨rfl, ⟨rfl, ⟨rfl, trivial⟩⟩⟩⟩⟩
def f_X12_backFrom_L5 (G : Nat) (μ : Mem)  : Nat → Int32 → Int32 → Int32 → Int32 → Option Int32
  | 0, _, _, _, _ => none
  | g + 1, v1, v2, v3, v4 =>
  (if (μ 0 57) ≤ v4 then
  some ((v2 * v3) / (100 : Int32))
  else
  chk v4 6 ((if (μ 34 (ix v4)) = v1 then
  chk v4 6 (f_X12_backFrom_j38 G μ (f_X12_backFrom_L5 G μ g) v1 v2 (f_X12_greater v3 (μ 35 (ix v4))) v4)
  else
  f_X12_backFrom_j38 G μ (f_X12_backFrom_L5 G μ g) v1 v2 v3 v4)))
set_option maxHeartbeats 4000000 in
set_option maxRecDepth 100000 in
theorem f_X12_backFrom_L5_ok  {G : Nat} {μ : Mem} {r : Int32}    : ∀ (g : Nat) (v1 v2 v3 v4 : Int32), f_X12_backFrom_L5 G μ g v1 v2 v3 v4 = some r → Ev RX12 cX12_backFrom 5 (some .int) false 2 0 0 (eqP (some r) shR μ) 5 [some (.ref 0), some (.int v1), some (.int v2), some (.int v3), some (.int v4)] [] shR μ 0 0 := by
  intro g
  induction g with
  | zero =>
    intro v1 v2 v3 v4 h
    cases h
  | succ g ih =>
    intro v1 v2 v3 v4 h
    rw [f_X12_backFrom_L5] at h
    refine ev_iload dX12_backFrom_5 rfl ?_
    refine ev_aload_n dX12_backFrom_7 rfl ?_
    refine ev_getI fr_X12_474 shR_0 rfl dX12_backFrom_8 ?_
    refine ev_icmp_ge (tgt := 44) dX12_backFrom_11 (by decide) (fun hc1 => ?_) (fun hc1 => ?_)
    · replace h := ite_t hc1 h
      refine ev_iload_n dX12_backFrom_44 rfl ?_
      refine ev_iload_n dX12_backFrom_45 rfl ?_
      refine ev_imul dX12_backFrom_46 ?_
      refine ev_bipush (v := (100 : Int32)) dX12_backFrom_47 (by decide) ?_
      refine ev_idiv dX12_backFrom_49 (by decide) ?_
      exact ev_iret rfl rfl (by decide) (by decide) dX12_backFrom_50 (eqP_O h)
    · replace h := ite_f hc1 h
      refine ev_aload_n dX12_backFrom_14 rfl ?_
      refine ev_getR fr_X12_113 shR_0 rfl dX12_backFrom_15 ?_
      refine ev_iload dX12_backFrom_18 rfl ?_
      obtain ⟨hi2, h⟩ := chk_t h
      refine ev_iald shR_34 hi2 dX12_backFrom_20 ?_
      refine ev_iload_n dX12_backFrom_21 rfl ?_
      refine ev_icmp_ne (tgt := 38) dX12_backFrom_22 (by decide) (fun hc3 => ?_) (fun hc3 => ?_)
      · replace h := ite_f hc3 h
        exact ev_lt (f_X12_backFrom_j38_ok ih h) ⟨rfl, ⟨rfl, ⟨rfl, ⟨rfl, ⟨rfl, trivial⟩⟩⟩⟩⟩
      · replace h := ite_t hc3 h
        refine ev_aload_n dX12_backFrom_25 rfl ?_
        refine ev_iload_n dX12_backFrom_26 rfl ?_
        refine ev_aload_n dX12_backFrom_27 rfl ?_
        refine ev_getR fr_X12_116 shR_0 rfl dX12_backFrom_28 ?_
        refine ev_iload dX12_backFrom_31 rfl ?_
        obtain ⟨hi4, h⟩ := chk_t h
        refine ev_iald shR_35 hi4 dX12_backFrom_33 ?_
        refine ev_cVi mv_X12_434 dX12_backFrom_34 c_X12_greater rfl shR_0 rfl rfl (Nat.le_of_ble_eq_true rfl) (by rfl) (Nat.le_of_ble_eq_true rfl) (Nat.le_of_ble_eq_true rfl) (Nat.le_of_ble_eq_true rfl) ?_
        refine ev_istore_n (loc' := [_, _, _, _, _]) dX12_backFrom_37 rfl (by decide) (by rfl) ?_
        exact ev_lt (f_X12_backFrom_j38_ok ih h) ⟨rfl, ⟨rfl, ⟨rfl, ⟨rfl, ⟨rfl, trivial⟩⟩⟩⟩⟩
def f_X12_backFrom (G : Nat) (μ : Mem) (p1 p2 : Int32) : Option Int32 :=
  f_X12_backFrom_L5 G μ G p1 p2 (0 : Int32) (0 : Int32)
set_option maxHeartbeats 4000000 in
set_option maxRecDepth 100000 in
theorem c_X12_backFrom  {G : Nat} {μ : Mem}  {p1 p2 : Int32} {r : Int32}  (h : f_X12_backFrom G μ p1 p2 = some r) : Cn yX12_backFrom cX12_backFrom 5 (some .int) 2 0 0 [.ref 0, .int p1, .int p2] shR μ (eqP (some r) shR μ) := by
  refine cn_of (own := RX12) (ini := false) (loc := [some (.ref 0), some (.int p1), some (.int p2), none, none]) rfl (by decide) (fun q => by cases q) (Nat.le_of_ble_eq_true rfl) (by rfl) rfl ?_
  unfold f_X12_backFrom at h
  refine ev_iconst (v := (0 : Int32)) dX12_backFrom_0 (by decide) ?_
  refine ev_istore_n (loc' := [_, _, _, _, _]) dX12_backFrom_1 rfl (by decide) (by rfl) ?_
  refine ev_iconst (v := (0 : Int32)) dX12_backFrom_2 (by decide) ?_
  refine ev_istore (loc' := [_, _, _, _, _]) dX12_backFrom_3 rfl (by decide) (by rfl) ?_
  exact ev_lt (f_X12_backFrom_L5_ok _ _ _ _ _ h) ⟨rfl, ⟨rfl, ⟨rfl, ⟨rfl, ⟨rfl, trivial⟩⟩⟩⟩⟩
def f_X12_leastBack (G : Nat) (μ : Mem) (p1 p2 p3 : Int32) : Option Int32 :=
  bndO (f_X12_backFrom G μ (0 : Int32) p1) (fun w2 =>
  bndO (f_X12_backFrom G μ (1 : Int32) p2) (fun w4 =>
  bndO (f_X12_backFrom G μ (2 : Int32) p3) (fun w6 =>
  some (f_X12_lesser w2 (f_X12_lesser w4 w6)))))
set_option maxHeartbeats 4000000 in
set_option maxRecDepth 100000 in
theorem c_X12_leastBack  {G : Nat} {μ : Mem}  {p1 p2 p3 : Int32} {r : Int32}  (h : f_X12_leastBack G μ p1 p2 p3 = some r) : Cn yX12_leastBack cX12_leastBack 4 (some .int) 3 0 0 [.ref 0, .int p1, .int p2, .int p3] shR μ (eqP (some r) shR μ) := by
  refine cn_of (own := RX12) (ini := false) (loc := [some (.ref 0), some (.int p1), some (.int p2), some (.int p3)]) rfl (by decide) (fun q => by cases q) (Nat.le_of_ble_eq_true rfl) (by rfl) rfl ?_
  unfold f_X12_leastBack at h
  refine ev_aload_n dX12_leastBack_0 rfl ?_
  refine ev_aload_n dX12_leastBack_1 rfl ?_
  refine ev_iconst (v := (0 : Int32)) dX12_leastBack_2 (by decide) ?_
  refine ev_iload_n dX12_leastBack_3 rfl ?_
  obtain ⟨w2, hq1, h⟩ := bndO_t h
  refine ev_cVi mv_X12_477 dX12_leastBack_4 (c_X12_backFrom hq1) rfl shR_0 rfl rfl (Nat.le_of_ble_eq_true rfl) (by rfl) (Nat.le_of_ble_eq_true rfl) (Nat.le_of_ble_eq_true rfl) (Nat.le_of_ble_eq_true rfl) ?_
  refine ev_aload_n dX12_leastBack_7 rfl ?_
  refine ev_aload_n dX12_leastBack_8 rfl ?_
  refine ev_iconst (v := (1 : Int32)) dX12_leastBack_9 (by decide) ?_
  refine ev_iload_n dX12_leastBack_10 rfl ?_
  obtain ⟨w4, hq3, h⟩ := bndO_t h
  refine ev_cVi mv_X12_477 dX12_leastBack_11 (c_X12_backFrom hq3) rfl shR_0 rfl rfl (Nat.le_of_ble_eq_true rfl) (by rfl) (Nat.le_of_ble_eq_true rfl) (Nat.le_of_ble_eq_true rfl) (Nat.le_of_ble_eq_true rfl) ?_
  refine ev_aload_n dX12_leastBack_14 rfl ?_
  refine ev_iconst (v := (2 : Int32)) dX12_leastBack_15 (by decide) ?_
  refine ev_iload_n dX12_leastBack_16 rfl ?_
  obtain ⟨w6, hq5, h⟩ := bndO_t h
  refine ev_cVi mv_X12_477 dX12_leastBack_17 (c_X12_backFrom hq5) rfl shR_0 rfl rfl (Nat.le_of_ble_eq_true rfl) (by rfl) (Nat.le_of_ble_eq_true rfl) (Nat.le_of_ble_eq_true rfl) (Nat.le_of_ble_eq_true rfl) ?_
  refine ev_cVi mv_X12_428 dX12_leastBack_20 c_X12_lesser rfl shR_0 rfl rfl (Nat.le_of_ble_eq_true rfl) (by rfl) (Nat.le_of_ble_eq_true rfl) (Nat.le_of_ble_eq_true rfl) (Nat.le_of_ble_eq_true rfl) ?_
  refine ev_cVi mv_X12_428 dX12_leastBack_23 c_X12_lesser rfl shR_0 rfl rfl (Nat.le_of_ble_eq_true rfl) (by rfl) (Nat.le_of_ble_eq_true rfl) (Nat.le_of_ble_eq_true rfl) (Nat.le_of_ble_eq_true rfl) ?_
  exact ev_iret rfl rfl (by decide) (by decide) dX12_leastBack_26 (eqP_O h)
def f_X12_safe_j102 (G : Nat) (r46 : Int32 → Int32 → Int32 → Int32 → Int32 → Int32 → Mem → Option (Int32 × Mem)) (k46_114 : Int32 → Int32 → Int32 → Int32 → Int32 → Mem → Option (Int32 × Mem)) (r55 : Int32 → Int32 → Int32 → Int32 → Int32 → Int32 → Int32 → Mem → Option (Int32 × Mem)) (k55_108 : Int32 → Int32 → Int32 → Int32 → Int32 → Int32 → Mem → Option (Int32 × Mem)) (v1 v2 v3 v4 v5 v6 v7 : Int32) (μ : Mem) : Option (Int32 × Mem) :=
  r55 v1 v2 v3 v4 v5 v6 (v7 + (1 : Int32)) μ
set_option maxHeartbeats 4000000 in
set_option maxRecDepth 100000 in
theorem f_X12_safe_j102_ok  {G : Nat} {r : Int32} {μr : Mem}  {r46 : Int32 → Int32 → Int32 → Int32 → Int32 → Int32 → Mem → Option (Int32 × Mem)} {k46_114 : Int32 → Int32 → Int32 → Int32 → Int32 → Mem → Option (Int32 × Mem)} {r55 : Int32 → Int32 → Int32 → Int32 → Int32 → Int32 → Int32 → Mem → Option (Int32 × Mem)} {k55_108 : Int32 → Int32 → Int32 → Int32 → Int32 → Int32 → Mem → Option (Int32 × Mem)} (hr46 : ∀ (v1 : Int32) (v2 : Int32) (v3 : Int32) (v4 : Int32) (v5 : Int32) (v6 : Int32) (m : Mem), r46 v1 v2 v3 v4 v5 v6 m = some (r, μr) → Ev RX12 cX12_safe 9 (some .int) false 4 0 0 (eqP (some r) shR μr) 46 [some (.ref 0), some (.int v1), some (.int v2), some (.int v3), some (.int v4), some (.int v5), some (.int v6), none, none] [] shR m 0 0) (hk46_114 : ∀ (v1 : Int32) (v2 : Int32) (v3 : Int32) (v4 : Int32) (v5 : Int32) (m : Mem), k46_114 v1 v2 v3 v4 v5 m = some (r, μr) → Ev RX12 cX12_safe 9 (some .int) false 4 0 0 (eqP (some r) shR μr) 114 [none, some (.int v1), some (.int v2), some (.int v3), some (.int v4), some (.int v5), none, none, none] [] shR m 0 0) (hr55 : ∀ (v1 : Int32) (v2 : Int32) (v3 : Int32) (v4 : Int32) (v5 : Int32) (v6 : Int32) (v7 : Int32) (m : Mem), r55 v1 v2 v3 v4 v5 v6 v7 m = some (r, μr) → Ev RX12 cX12_safe 9 (some .int) false 4 0 0 (eqP (some r) shR μr) 55 [some (.ref 0), some (.int v1), some (.int v2), some (.int v3), some (.int v4), some (.int v5), some (.int v6), some (.int v7), none] [] shR m 0 0) (hk55_108 : ∀ (v1 : Int32) (v2 : Int32) (v3 : Int32) (v4 : Int32) (v5 : Int32) (v6 : Int32) (m : Mem), k55_108 v1 v2 v3 v4 v5 v6 m = some (r, μr) → Ev RX12 cX12_safe 9 (some .int) false 4 0 0 (eqP (some r) shR μr) 108 [some (.ref 0), some (.int v1), some (.int v2), some (.int v3), some (.int v4), some (.int v5), some (.int v6), none, none] [] shR m 0 0) {v1 v2 v3 v4 v5 v6 v7 : Int32} {μ : Mem} (h : f_X12_safe_j102 G r46 k46_114 r55 k55_108 v1 v2 v3 v4 v5 v6 v7 μ = some (r, μr)) : Ev RX12 cX12_safe 9 (some .int) false 4 0 0 (eqP (some r) shR μr) 102 [some (.ref 0), some (.int v1), some (.int v2), some (.int v3), some (.int v4), some (.int v5), some (.int v6), some (.int v7), none] [] shR μ 0 0 := by
  unfold f_X12_safe_j102 at h
  refine ev_iinc (cq := (1 : Int32)) (loc' := [_, _, _, _, _, _, _, _, _]) dX12_safe_102 rfl (by decide) rfl (by decide) (by rfl) ?_
  refine ev_goto (tgt := 55) dX12_safe_105 (by decide) ?_
  exact ev_lt (hr55 _ _ _ _ _ _ _ _ h) ⟨rfl, ⟨rfl, ⟨rfl, ⟨rfl, ⟨rfl, ⟨rfl, ⟨rfl, ⟨rfl, trivial⟩⟩⟩⟩⟩⟩⟩⟩
def f_X12_safe_L55 (G : Nat) (r46 : Int32 → Int32 → Int32 → Int32 → Int32 → Int32 → Mem → Option (Int32 × Mem)) (k46_114 : Int32 → Int32 → Int32 → Int32 → Int32 → Mem → Option (Int32 × Mem)) (k55_108 : Int32 → Int32 → Int32 → Int32 → Int32 → Int32 → Mem → Option (Int32 × Mem)) : Nat → Int32 → Int32 → Int32 → Int32 → Int32 → Int32 → Int32 → Mem → Option (Int32 × Mem)
  | 0, _, _, _, _, _, _, _, _ => none
  | g + 1, v1, v2, v3, v4, v5, v6, v7, μ =>
  (if v1 < (v6 + v7) then
  k55_108 v1 v2 v3 v4 v5 v6 μ
  else
  bndO (f_X12_leastBack G μ v6 v7 ((v1 - v6) - v7)) (fun w7 =>
  (if v5 < w7 then
  f_X12_safe_j102 G r46 k46_114 (f_X12_safe_L55 G r46 k46_114 k55_108 g) k55_108 v1 v2 v6 v7 w7 v6 v7 μ
  else
  f_X12_safe_j102 G r46 k46_114 (f_X12_safe_L55 G r46 k46_114 k55_108 g) k55_108 v1 v2 v3 v4 v5 v6 v7 μ)))
set_option maxHeartbeats 4000000 in
set_option maxRecDepth 100000 in
theorem f_X12_safe_L55_ok  {G : Nat} {r : Int32} {μr : Mem}  {r46 : Int32 → Int32 → Int32 → Int32 → Int32 → Int32 → Mem → Option (Int32 × Mem)} {k46_114 : Int32 → Int32 → Int32 → Int32 → Int32 → Mem → Option (Int32 × Mem)} {k55_108 : Int32 → Int32 → Int32 → Int32 → Int32 → Int32 → Mem → Option (Int32 × Mem)} (hr46 : ∀ (v1 : Int32) (v2 : Int32) (v3 : Int32) (v4 : Int32) (v5 : Int32) (v6 : Int32) (m : Mem), r46 v1 v2 v3 v4 v5 v6 m = some (r, μr) → Ev RX12 cX12_safe 9 (some .int) false 4 0 0 (eqP (some r) shR μr) 46 [some (.ref 0), some (.int v1), some (.int v2), some (.int v3), some (.int v4), some (.int v5), some (.int v6), none, none] [] shR m 0 0) (hk46_114 : ∀ (v1 : Int32) (v2 : Int32) (v3 : Int32) (v4 : Int32) (v5 : Int32) (m : Mem), k46_114 v1 v2 v3 v4 v5 m = some (r, μr) → Ev RX12 cX12_safe 9 (some .int) false 4 0 0 (eqP (some r) shR μr) 114 [none, some (.int v1), some (.int v2), some (.int v3), some (.int v4), some (.int v5), none, none, none] [] shR m 0 0) (hk55_108 : ∀ (v1 : Int32) (v2 : Int32) (v3 : Int32) (v4 : Int32) (v5 : Int32) (v6 : Int32) (m : Mem), k55_108 v1 v2 v3 v4 v5 v6 m = some (r, μr) → Ev RX12 cX12_safe 9 (some .int) false 4 0 0 (eqP (some r) shR μr) 108 [some (.ref 0), some (.int v1), some (.int v2), some (.int v3), some (.int v4), some (.int v5), some (.int v6), none, none] [] shR m 0 0) : ∀ (g : Nat) (v1 v2 v3 v4 v5 v6 v7 : Int32) (μ : Mem), f_X12_safe_L55 G r46 k46_114 k55_108 g v1 v2 v3 v4 v5 v6 v7 μ = some (r, μr) → Ev RX12 cX12_safe 9 (some .int) false 4 0 0 (eqP (some r) shR μr) 55 [some (.ref 0), some (.int v1), some (.int v2), some (.int v3), some (.int v4), some (.int v5), some (.int v6), some (.int v7), none] [] shR μ 0 0 := by
  intro g
  induction g with
  | zero =>
    intro v1 v2 v3 v4 v5 v6 v7 μ h
    cases h
  | succ g ih =>
    intro v1 v2 v3 v4 v5 v6 v7 μ h
    rw [f_X12_safe_L55] at h
    refine ev_iload dX12_safe_55 rfl ?_
    refine ev_iload dX12_safe_57 rfl ?_
    refine ev_iadd dX12_safe_59 ?_
    refine ev_iload_n dX12_safe_60 rfl ?_
    refine ev_icmp_gt (tgt := 108) dX12_safe_61 (by decide) (fun hc5 => ?_) (fun hc5 => ?_)
    · replace h := ite_t hc5 h
      exact ev_lt (hk55_108 _ _ _ _ _ _ _ h) ⟨rfl, ⟨rfl, ⟨rfl, ⟨rfl, ⟨rfl, ⟨rfl, ⟨rfl, trivial⟩⟩⟩⟩⟩⟩⟩
    · replace h := ite_f hc5 h
      refine ev_aload_n dX12_safe_64 rfl ?_
      refine ev_iload dX12_safe_65 rfl ?_
      refine ev_iload dX12_safe_67 rfl ?_
      refine ev_iload_n dX12_safe_69 rfl ?_
      refine ev_iload dX12_safe_70 rfl ?_
      refine ev_isub dX12_safe_72 ?_
      refine ev_iload dX12_safe_73 rfl ?_
      refine ev_isub dX12_safe_75 ?_
      obtain ⟨w7, hq6, h⟩ := bndO_t h
      refine ev_cVi mv_X12_480 dX12_safe_76 (c_X12_leastBack hq6) rfl shR_0 rfl rfl (Nat.le_of_ble_eq_true rfl) (by rfl) (Nat.le_of_ble_eq_true rfl) (Nat.le_of_ble_eq_true rfl) (Nat.le_of_ble_eq_true rfl) ?_
      refine ev_istore (loc' := [_, _, _, _, _, _, _, _, _]) dX12_safe_79 rfl (by decide) (by rfl) ?_
      refine ev_iload dX12_safe_81 rfl ?_
      refine ev_iload dX12_safe_83 rfl ?_
      refine ev_icmp_gt (tgt := 91) dX12_safe_85 (by decide) (fun hc8 => ?_) (fun hc8 => ?_)
      · replace h := ite_t hc8 h
        refine ev_iload dX12_safe_91 rfl ?_
        refine ev_istore (loc' := [_, _, _, _, _, _, _, _, _]) dX12_safe_93 rfl (by decide) (by rfl) ?_
        refine ev_iload dX12_safe_95 rfl ?_
        refine ev_istore_n (loc' := [_, _, _, _, _, _, _, _, _]) dX12_safe_97 rfl (by decide) (by rfl) ?_
        refine ev_iload dX12_safe_98 rfl ?_
        refine ev_istore (loc' := [_, _, _, _, _, _, _, _, _]) dX12_safe_100 rfl (by decide) (by rfl) ?_
        exact ev_lt (f_X12_safe_j102_ok hr46 hk46_114 ih hk55_108 h) ⟨rfl, ⟨rfl, ⟨rfl, ⟨rfl, ⟨rfl, ⟨rfl, ⟨rfl, ⟨rfl, trivial⟩⟩⟩⟩⟩⟩⟩⟩
      · replace h := ite_f hc8 h
        refine ev_goto (tgt := 102) dX12_safe_88 (by decide) ?_
        exact ev_lt (f_X12_safe_j102_ok hr46 hk46_114 ih hk55_108 h) ⟨rfl, ⟨rfl, ⟨rfl, ⟨rfl, ⟨rfl, ⟨rfl, ⟨rfl, ⟨rfl, trivial⟩⟩⟩⟩⟩⟩⟩⟩
def f_X12_safe_j108 (G : Nat) (r46 : Int32 → Int32 → Int32 → Int32 → Int32 → Int32 → Mem → Option (Int32 × Mem)) (k46_114 : Int32 → Int32 → Int32 → Int32 → Int32 → Mem → Option (Int32 × Mem)) (v1 v2 v3 v4 v5 v6 : Int32) (μ : Mem) : Option (Int32 × Mem) :=
  r46 v1 v2 v3 v4 v5 (v6 + (1 : Int32)) μ
set_option maxHeartbeats 4000000 in
set_option maxRecDepth 100000 in
theorem f_X12_safe_j108_ok  {G : Nat} {r : Int32} {μr : Mem}  {r46 : Int32 → Int32 → Int32 → Int32 → Int32 → Int32 → Mem → Option (Int32 × Mem)} {k46_114 : Int32 → Int32 → Int32 → Int32 → Int32 → Mem → Option (Int32 × Mem)} (hr46 : ∀ (v1 : Int32) (v2 : Int32) (v3 : Int32) (v4 : Int32) (v5 : Int32) (v6 : Int32) (m : Mem), r46 v1 v2 v3 v4 v5 v6 m = some (r, μr) → Ev RX12 cX12_safe 9 (some .int) false 4 0 0 (eqP (some r) shR μr) 46 [some (.ref 0), some (.int v1), some (.int v2), some (.int v3), some (.int v4), some (.int v5), some (.int v6), none, none] [] shR m 0 0) (hk46_114 : ∀ (v1 : Int32) (v2 : Int32) (v3 : Int32) (v4 : Int32) (v5 : Int32) (m : Mem), k46_114 v1 v2 v3 v4 v5 m = some (r, μr) → Ev RX12 cX12_safe 9 (some .int) false 4 0 0 (eqP (some r) shR μr) 114 [none, some (.int v1), some (.int v2), some (.int v3), some (.int v4), some (.int v5), none, none, none] [] shR m 0 0) {v1 v2 v3 v4 v5 v6 : Int32} {μ : Mem} (h : f_X12_safe_j108 G r46 k46_114 v1 v2 v3 v4 v5 v6 μ = some (r, μr)) : Ev RX12 cX12_safe 9 (some .int) false 4 0 0 (eqP (some r) shR μr) 108 [some (.ref 0), some (.int v1), some (.int v2), some (.int v3), some (.int v4), some (.int v5), some (.int v6), none, none] [] shR μ 0 0 := by
  unfold f_X12_safe_j108 at h
  refine ev_iinc (cq := (1 : Int32)) (loc' := [_, _, _, _, _, _, _, _, _]) dX12_safe_108 rfl (by decide) rfl (by decide) (by rfl) ?_
  refine ev_goto (tgt := 46) dX12_safe_111 (by decide) ?_
  exact ev_lt (hr46 _ _ _ _ _ _ _ h) ⟨rfl, ⟨rfl, ⟨rfl, ⟨rfl, ⟨rfl, ⟨rfl, ⟨rfl, trivial⟩⟩⟩⟩⟩⟩⟩
def f_X12_safe_L46 (G : Nat) (k46_114 : Int32 → Int32 → Int32 → Int32 → Int32 → Mem → Option (Int32 × Mem)) : Nat → Int32 → Int32 → Int32 → Int32 → Int32 → Int32 → Mem → Option (Int32 × Mem)
  | 0, _, _, _, _, _, _, _ => none
  | g + 1, v1, v2, v3, v4, v5, v6, μ =>
  (if v1 < v6 then
  k46_114 v1 v2 v3 v4 v5 μ
  else
  f_X12_safe_L55 G (f_X12_safe_L46 G k46_114 g) k46_114 (f_X12_safe_j108 G (f_X12_safe_L46 G k46_114 g) k46_114) G v1 v2 v3 v4 v5 v6 (0 : Int32) μ)
set_option maxHeartbeats 4000000 in
set_option maxRecDepth 100000 in
theorem f_X12_safe_L46_ok  {G : Nat} {r : Int32} {μr : Mem}  {k46_114 : Int32 → Int32 → Int32 → Int32 → Int32 → Mem → Option (Int32 × Mem)} (hk46_114 : ∀ (v1 : Int32) (v2 : Int32) (v3 : Int32) (v4 : Int32) (v5 : Int32) (m : Mem), k46_114 v1 v2 v3 v4 v5 m = some (r, μr) → Ev RX12 cX12_safe 9 (some .int) false 4 0 0 (eqP (some r) shR μr) 114 [none, some (.int v1), some (.int v2), some (.int v3), some (.int v4), some (.int v5), none, none, none] [] shR m 0 0) : ∀ (g : Nat) (v1 v2 v3 v4 v5 v6 : Int32) (μ : Mem), f_X12_safe_L46 G k46_114 g v1 v2 v3 v4 v5 v6 μ = some (r, μr) → Ev RX12 cX12_safe 9 (some .int) false 4 0 0 (eqP (some r) shR μr) 46 [some (.ref 0), some (.int v1), some (.int v2), some (.int v3), some (.int v4), some (.int v5), some (.int v6), none, none] [] shR μ 0 0 := by
  intro g
  induction g with
  | zero =>
    intro v1 v2 v3 v4 v5 v6 μ h
    cases h
  | succ g ih =>
    intro v1 v2 v3 v4 v5 v6 μ h
    rw [f_X12_safe_L46] at h
    refine ev_iload dX12_safe_46 rfl ?_
    refine ev_iload_n dX12_safe_48 rfl ?_
    refine ev_icmp_gt (tgt := 114) dX12_safe_49 (by decide) (fun hc4 => ?_) (fun hc4 => ?_)
    · replace h := ite_t hc4 h
      exact ev_lt (hk46_114 _ _ _ _ _ _ h) ⟨rfl, ⟨rfl, ⟨rfl, ⟨rfl, ⟨rfl, trivial⟩⟩⟩⟩⟩
    · replace h := ite_f hc4 h
      refine ev_iconst (v := (0 : Int32)) dX12_safe_52 (by decide) ?_
      refine ev_istore (loc' := [_, _, _, _, _, _, _, _, _]) dX12_safe_53 rfl (by decide) (by rfl) ?_
      exact ev_lt (f_X12_safe_L55_ok ih hk46_114 (fun _ _ _ _ _ _ _ hh => f_X12_safe_j108_ok ih hk46_114 hh) _ _ _ _ _ _ _ _ _ h) ⟨rfl, ⟨rfl, ⟨rfl, ⟨rfl, ⟨rfl, ⟨rfl, ⟨rfl, ⟨rfl, trivial⟩⟩⟩⟩⟩⟩⟩⟩
def f_X12_safe_j114 (G : Nat)  (v1 v2 v3 v4 v5 : Int32) (μ : Mem) : Option (Int32 × Mem) :=
  (if v2 = (0 : Int32) then
  some (v5, μ)
  else
  (if v2 = (10 : Int32) then
  some (v3, μ)
  else
  (if v2 = (11 : Int32) then
  some (v4, μ)
  else
  some (((v1 - v3) - v4), μ))))
set_option maxHeartbeats 4000000 in
set_option maxRecDepth 100000 in
theorem f_X12_safe_j114_ok  {G : Nat} {r : Int32} {μr : Mem}    {v1 v2 v3 v4 v5 : Int32} {μ : Mem} (h : f_X12_safe_j114 G v1 v2 v3 v4 v5 μ = some (r, μr)) : Ev RX12 cX12_safe 9 (some .int) false 4 0 0 (eqP (some r) shR μr) 114 [none, some (.int v1), some (.int v2), some (.int v3), some (.int v4), some (.int v5), none, none, none] [] shR μ 0 0 := by
  unfold f_X12_safe_j114 at h
  refine ev_iload_n dX12_safe_114 rfl ?_
  refine ev_if_ne (tgt := 121) dX12_safe_115 (by decide) (fun hc9 => ?_) (fun hc9 => ?_)
  · replace h := ite_f hc9 h
    refine ev_iload_n dX12_safe_121 rfl ?_
    refine ev_bipush (v := (10 : Int32)) dX12_safe_122 (by decide) ?_
    refine ev_icmp_ne (tgt := 131) dX12_safe_124 (by decide) (fun hc10 => ?_) (fun hc10 => ?_)
    · replace h := ite_f hc10 h
      refine ev_iload_n dX12_safe_131 rfl ?_
      refine ev_bipush (v := (11 : Int32)) dX12_safe_132 (by decide) ?_
      refine ev_icmp_ne (tgt := 142) dX12_safe_134 (by decide) (fun hc11 => ?_) (fun hc11 => ?_)
      · replace h := ite_f hc11 h
        refine ev_iload_n dX12_safe_142 rfl ?_
        refine ev_iload_n dX12_safe_143 rfl ?_
        refine ev_isub dX12_safe_144 ?_
        refine ev_iload dX12_safe_145 rfl ?_
        refine ev_isub dX12_safe_147 ?_
        exact ev_iret rfl rfl (by decide) (by decide) dX12_safe_148 (eqP_E h)
      · replace h := ite_t hc11 h
        refine ev_iload dX12_safe_137 rfl ?_
        refine ev_goto (tgt := 148) dX12_safe_139 (by decide) ?_
        exact ev_iret rfl rfl (by decide) (by decide) dX12_safe_148 (eqP_E h)
    · replace h := ite_t hc10 h
      refine ev_iload_n dX12_safe_127 rfl ?_
      refine ev_goto (tgt := 148) dX12_safe_128 (by decide) ?_
      exact ev_iret rfl rfl (by decide) (by decide) dX12_safe_148 (eqP_E h)
  · replace h := ite_t hc9 h
    refine ev_iload dX12_safe_118 rfl ?_
    exact ev_iret rfl rfl (by decide) (by decide) dX12_safe_120 (eqP_E h)
def f_X12_safe_j35 (G : Nat)  (v1 v2 : Int32) (μ : Mem) : Option (Int32 × Mem) :=
  f_X12_safe_L46 G (f_X12_safe_j114 G) G v1 v2 (0 : Int32) (0 : Int32) (-1 : Int32) (0 : Int32) μ
set_option maxHeartbeats 4000000 in
set_option maxRecDepth 100000 in
theorem f_X12_safe_j35_ok  {G : Nat} {r : Int32} {μr : Mem}    {v1 v2 : Int32} {μ : Mem} (h : f_X12_safe_j35 G v1 v2 μ = some (r, μr)) : Ev RX12 cX12_safe 9 (some .int) false 4 0 0 (eqP (some r) shR μr) 35 [some (.ref 0), some (.int v1), some (.int v2), none, none, none, none, none, none] [] shR μ 0 0 := by
  unfold f_X12_safe_j35 at h
  refine ev_iconst (v := (0 : Int32)) dX12_safe_35 (by decide) ?_
  refine ev_istore_n (loc' := [_, _, _, _, _, _, _, _, _]) dX12_safe_36 rfl (by decide) (by rfl) ?_
  refine ev_iconst (v := (0 : Int32)) dX12_safe_37 (by decide) ?_
  refine ev_istore (loc' := [_, _, _, _, _, _, _, _, _]) dX12_safe_38 rfl (by decide) (by rfl) ?_
  refine ev_iconst (v := (-1 : Int32)) dX12_safe_40 (by decide) ?_
  refine ev_istore (loc' := [_, _, _, _, _, _, _, _, _]) dX12_safe_41 rfl (by decide) (by rfl) ?_
  refine ev_iconst (v := (0 : Int32)) dX12_safe_43 (by decide) ?_
  refine ev_istore (loc' := [_, _, _, _, _, _, _, _, _]) dX12_safe_44 rfl (by decide) (by rfl) ?_
  exact ev_lt (f_X12_safe_L46_ok (fun _ _ _ _ _ _ hh => f_X12_safe_j114_ok hh) _ _ _ _ _ _ _ _ h) ⟨rfl, ⟨rfl, ⟨rfl, ⟨rfl, ⟨rfl, ⟨rfl, ⟨rfl, trivial⟩⟩⟩⟩⟩⟩⟩
def f_X12_safe (G : Nat) (p1 p2 : Int32) (μ : Mem) : Option (Int32 × Mem) :=
  (let m1 := wr μ 0 0 (0 : Int32)
  (if (f_X12_isIn p1 (3 : Int32) (300 : Int32)) = (0 : Int32) then
  some ((-1 : Int32), m1)
  else
  (if p2 = (0 : Int32) then
  f_X12_safe_j35 G p1 p2 m1
  else
  (if (f_X12_isIn p2 (10 : Int32) (12 : Int32)) = (0 : Int32) then
  some ((-1 : Int32), m1)
  else
  f_X12_safe_j35 G p1 p2 m1))))
set_option maxHeartbeats 4000000 in
set_option maxRecDepth 100000 in
theorem c_X12_safe  {G : Nat} {μ : Mem} {p1 p2 : Int32} {r : Int32} {μr : Mem}  (h : f_X12_safe G p1 p2 μ = some (r, μr)) : Cn yX12_safe cX12_safe 9 (some .int) 4 0 0 [.ref 0, .int p1, .int p2] shR μ (eqP (some r) shR μr) := by
  refine cn_of (own := RX12) (ini := false) (loc := [some (.ref 0), some (.int p1), some (.int p2), none, none, none, none, none, none]) rfl (by decide) (fun q => by cases q) (Nat.le_of_ble_eq_true rfl) (by rfl) rfl ?_
  unfold f_X12_safe at h
  refine ev_aload_n dX12_safe_0 rfl ?_
  refine ev_iconst (v := (0 : Int32)) dX12_safe_1 (by decide) ?_
  refine ev_putI fr_X12_149 shR_0 rfl rfl rfl dX12_safe_2 ?_
  refine ev_aload_n dX12_safe_5 rfl ?_
  refine ev_iload_n dX12_safe_6 rfl ?_
  refine ev_iconst (v := (3 : Int32)) dX12_safe_7 (by decide) ?_
  refine ev_sipush (v := (300 : Int32)) dX12_safe_8 (by decide) ?_
  refine ev_cVi mv_X12_167 dX12_safe_11 c_X12_isIn rfl shR_0 rfl rfl (Nat.le_of_ble_eq_true rfl) (by rfl) (Nat.le_of_ble_eq_true rfl) (Nat.le_of_ble_eq_true rfl) (Nat.le_of_ble_eq_true rfl) ?_
  refine ev_if_eq (tgt := 33) dX12_safe_14 (by decide) (fun hc2 => ?_) (fun hc2 => ?_)
  · replace h := ite_t hc2 h
    refine ev_iconst (v := (-1 : Int32)) dX12_safe_33 (by decide) ?_
    exact ev_iret rfl rfl (by decide) (by decide) dX12_safe_34 (eqP_E h)
  · replace h := ite_f hc2 h
    refine ev_iload_n dX12_safe_17 rfl ?_
    refine ev_if_eq (tgt := 35) dX12_safe_18 (by decide) (fun hc3 => ?_) (fun hc3 => ?_)
    · replace h := ite_t hc3 h
      exact ev_lt (f_X12_safe_j35_ok h) ⟨rfl, ⟨rfl, ⟨rfl, trivial⟩⟩⟩
    · replace h := ite_f hc3 h
      refine ev_aload_n dX12_safe_21 rfl ?_
      refine ev_iload_n dX12_safe_22 rfl ?_
      refine ev_bipush (v := (10 : Int32)) dX12_safe_23 (by decide) ?_
      refine ev_bipush (v := (12 : Int32)) dX12_safe_25 (by decide) ?_
      refine ev_cVi mv_X12_167 dX12_safe_27 c_X12_isIn rfl shR_0 rfl rfl (Nat.le_of_ble_eq_true rfl) (by rfl) (Nat.le_of_ble_eq_true rfl) (Nat.le_of_ble_eq_true rfl) (Nat.le_of_ble_eq_true rfl) ?_
      refine ev_if_ne (tgt := 35) dX12_safe_30 (by decide) (fun hc12 => ?_) (fun hc12 => ?_)
      · replace h := ite_f hc12 h
        exact ev_lt (f_X12_safe_j35_ok h) ⟨rfl, ⟨rfl, ⟨rfl, trivial⟩⟩⟩
      · replace h := ite_t hc12 h
        refine ev_iconst (v := (-1 : Int32)) dX12_safe_33 (by decide) ?_
        exact ev_iret rfl rfl (by decide) (by decide) dX12_safe_34 (eqP_E h)
def f_X12_street_L17 (G : Nat)  : Nat → Int32 → Mem → Option (Int32 × Mem)
  | 0, _, _ => none
  | g + 1, v3, μ =>
  (if (10 : Int32) ≤ v3 then
  some ((0 : Int32), μ)
  else
  chk v3 10 (let m13 := wr μ 36 (ix v3) (0 : Int32)
  (f_X12_street_L17 G g) (v3 + (1 : Int32)) m13))
set_option maxHeartbeats 4000000 in
set_option maxRecDepth 100000 in
theorem f_X12_street_L17_ok  {G : Nat} {r : Int32} {μr : Mem}    : ∀ (g : Nat) (v3 : Int32) (μ : Mem), f_X12_street_L17 G g v3 μ = some (r, μr) → Ev RX12 cX12_street 4 (some .int) false 2 0 0 (eqP (some r) shR μr) 17 [some (.ref 0), none, none, some (.int v3)] [] shR μ 0 0 := by
  intro g
  induction g with
  | zero =>
    intro v3 μ h
    cases h
  | succ g ih =>
    intro v3 μ h
    rw [f_X12_street_L17] at h
    refine ev_iload_n dX12_street_17 rfl ?_
    refine ev_bipush (v := (10 : Int32)) dX12_street_18 (by decide) ?_
    refine ev_icmp_ge (tgt := 36) dX12_street_20 (by decide) (fun hc12 => ?_) (fun hc12 => ?_)
    · replace h := ite_t hc12 h
      refine ev_iconst (v := (0 : Int32)) dX12_street_36 (by decide) ?_
      exact ev_iret rfl rfl (by decide) (by decide) dX12_street_37 (eqP_E h)
    · replace h := ite_f hc12 h
      refine ev_aload_n dX12_street_23 rfl ?_
      refine ev_getR fr_X12_119 shR_0 rfl dX12_street_24 ?_
      refine ev_iload_n dX12_street_27 rfl ?_
      refine ev_iconst (v := (0 : Int32)) dX12_street_28 (by decide) ?_
      obtain ⟨hi14, h⟩ := chk_t h
      refine ev_iast shR_36 hi14 dX12_street_29 ?_
      refine ev_iinc (cq := (1 : Int32)) (loc' := [_, _, _, _]) dX12_street_30 rfl (by decide) rfl (by decide) (by rfl) ?_
      refine ev_goto (tgt := 17) dX12_street_33 (by decide) ?_
      exact ev_lt (ih _ _ h) ⟨rfl, ⟨rfl, trivial⟩⟩
def f_X12_street (G : Nat) (p1 p2 : Int32) (μ : Mem) : Option (Int32 × Mem) :=
  (let m1 := wr μ 0 0 (0 : Int32)
  (if p1 = (-1 : Int32) then
  (let m11 := wr m1 0 60 (0 : Int32)
  f_X12_street_L17 G G (0 : Int32) m11)
  else
  (if (f_X12_isIn p1 (0 : Int32) (9 : Int32)) = (0 : Int32) then
  some ((-1 : Int32), m1)
  else
  (if (f_X12_isIn p2 (0 : Int32) (9 : Int32)) = (0 : Int32) then
  some ((-1 : Int32), m1)
  else
  (if p1 = p2 then
  some ((-1 : Int32), m1)
  else
  (if (m1 0 60) = (16 : Int32) then
  some ((-1 : Int32), m1)
  else
  chk p1 10 (chk p1 10 (let m8 := wr m1 36 (ix p1) ((m1 36 (ix p1)) ||| (sl (1 : Int32) p2))
  (let m10 := wr m8 0 60 ((m8 0 60) + (1 : Int32))
  some ((m10 0 60), m10))))))))))
set_option maxHeartbeats 4000000 in
set_option maxRecDepth 100000 in
theorem c_X12_street  {G : Nat} {μ : Mem} {p1 p2 : Int32} {r : Int32} {μr : Mem}  (h : f_X12_street G p1 p2 μ = some (r, μr)) : Cn yX12_street cX12_street 4 (some .int) 2 0 0 [.ref 0, .int p1, .int p2] shR μ (eqP (some r) shR μr) := by
  refine cn_of (own := RX12) (ini := false) (loc := [some (.ref 0), some (.int p1), some (.int p2), none]) rfl (by decide) (fun q => by cases q) (Nat.le_of_ble_eq_true rfl) (by rfl) rfl ?_
  unfold f_X12_street at h
  refine ev_aload_n dX12_street_0 rfl ?_
  refine ev_iconst (v := (0 : Int32)) dX12_street_1 (by decide) ?_
  refine ev_putI fr_X12_149 shR_0 rfl rfl rfl dX12_street_2 ?_
  refine ev_iload_n dX12_street_5 rfl ?_
  refine ev_iconst (v := (-1 : Int32)) dX12_street_6 (by decide) ?_
  refine ev_icmp_ne (tgt := 38) dX12_street_7 (by decide) (fun hc2 => ?_) (fun hc2 => ?_)
  · replace h := ite_f hc2 h
    refine ev_aload_n dX12_street_38 rfl ?_
    refine ev_iload_n dX12_street_39 rfl ?_
    refine ev_iconst (v := (0 : Int32)) dX12_street_40 (by decide) ?_
    refine ev_bipush (v := (9 : Int32)) dX12_street_41 (by decide) ?_
    refine ev_cVi mv_X12_167 dX12_street_43 c_X12_isIn rfl shR_0 rfl rfl (Nat.le_of_ble_eq_true rfl) (by rfl) (Nat.le_of_ble_eq_true rfl) (Nat.le_of_ble_eq_true rfl) (Nat.le_of_ble_eq_true rfl) ?_
    refine ev_if_eq (tgt := 74) dX12_street_46 (by decide) (fun hc3 => ?_) (fun hc3 => ?_)
    · replace h := ite_t hc3 h
      refine ev_iconst (v := (-1 : Int32)) dX12_street_74 (by decide) ?_
      exact ev_iret rfl rfl (by decide) (by decide) dX12_street_75 (eqP_E h)
    · replace h := ite_f hc3 h
      refine ev_aload_n dX12_street_49 rfl ?_
      refine ev_iload_n dX12_street_50 rfl ?_
      refine ev_iconst (v := (0 : Int32)) dX12_street_51 (by decide) ?_
      refine ev_bipush (v := (9 : Int32)) dX12_street_52 (by decide) ?_
      refine ev_cVi mv_X12_167 dX12_street_54 c_X12_isIn rfl shR_0 rfl rfl (Nat.le_of_ble_eq_true rfl) (by rfl) (Nat.le_of_ble_eq_true rfl) (Nat.le_of_ble_eq_true rfl) (Nat.le_of_ble_eq_true rfl) ?_
      refine ev_if_eq (tgt := 74) dX12_street_57 (by decide) (fun hc4 => ?_) (fun hc4 => ?_)
      · replace h := ite_t hc4 h
        refine ev_iconst (v := (-1 : Int32)) dX12_street_74 (by decide) ?_
        exact ev_iret rfl rfl (by decide) (by decide) dX12_street_75 (eqP_E h)
      · replace h := ite_f hc4 h
        refine ev_iload_n dX12_street_60 rfl ?_
        refine ev_iload_n dX12_street_61 rfl ?_
        refine ev_icmp_eq (tgt := 74) dX12_street_62 (by decide) (fun hc5 => ?_) (fun hc5 => ?_)
        · replace h := ite_t hc5 h
          refine ev_iconst (v := (-1 : Int32)) dX12_street_74 (by decide) ?_
          exact ev_iret rfl rfl (by decide) (by decide) dX12_street_75 (eqP_E h)
        · replace h := ite_f hc5 h
          refine ev_aload_n dX12_street_65 rfl ?_
          refine ev_getI fr_X12_483 shR_0 rfl dX12_street_66 ?_
          refine ev_bipush (v := (16 : Int32)) dX12_street_69 (by decide) ?_
          refine ev_icmp_ne (tgt := 76) dX12_street_71 (by decide) (fun hc6 => ?_) (fun hc6 => ?_)
          · replace h := ite_f hc6 h
            refine ev_aload_n dX12_street_76 rfl ?_
            refine ev_getR fr_X12_119 shR_0 rfl dX12_street_77 ?_
            refine ev_iload_n dX12_street_80 rfl ?_
            refine ev_aload_n dX12_street_81 rfl ?_
            refine ev_getR fr_X12_119 shR_0 rfl dX12_street_82 ?_
            refine ev_iload_n dX12_street_85 rfl ?_
            obtain ⟨hi7, h⟩ := chk_t h
            refine ev_iald shR_36 hi7 dX12_street_86 ?_
            refine ev_iconst (v := (1 : Int32)) dX12_street_87 (by decide) ?_
            refine ev_iload_n dX12_street_88 rfl ?_
            refine ev_ishl dX12_street_89 ?_
            refine ev_ior dX12_street_90 ?_
            obtain ⟨hi9, h⟩ := chk_t h
            refine ev_iast shR_36 hi9 dX12_street_91 ?_
            refine ev_aload_n dX12_street_92 rfl ?_
            refine ev_aload_n dX12_street_93 rfl ?_
            refine ev_getI fr_X12_483 shR_0 rfl dX12_street_94 ?_
            refine ev_iconst (v := (1 : Int32)) dX12_street_97 (by decide) ?_
            refine ev_iadd dX12_street_98 ?_
            refine ev_putI fr_X12_483 shR_0 rfl rfl rfl dX12_street_99 ?_
            refine ev_aload_n dX12_street_102 rfl ?_
            refine ev_getI fr_X12_483 shR_0 rfl dX12_street_103 ?_
            exact ev_iret rfl rfl (by decide) (by decide) dX12_street_106 (eqP_E h)
          · replace h := ite_t hc6 h
            refine ev_iconst (v := (-1 : Int32)) dX12_street_74 (by decide) ?_
            exact ev_iret rfl rfl (by decide) (by decide) dX12_street_75 (eqP_E h)
  · replace h := ite_t hc2 h
    refine ev_aload_n dX12_street_10 rfl ?_
    refine ev_iconst (v := (0 : Int32)) dX12_street_11 (by decide) ?_
    refine ev_putI fr_X12_483 shR_0 rfl rfl rfl dX12_street_12 ?_
    refine ev_iconst (v := (0 : Int32)) dX12_street_15 (by decide) ?_
    refine ev_istore_n (loc' := [_, _, _, _]) dX12_street_16 rfl (by decide) (by rfl) ?_
    exact ev_lt (f_X12_street_L17_ok _ _ _ h) ⟨rfl, ⟨rfl, trivial⟩⟩
def f_X12_isEdge (G : Nat) (μ : Mem) (p1 p2 : Int32) : Option Int32 :=
  (if (irm p1 (2 : Int32)) = (0 : Int32) then
  (if p2 = (p1 + (1 : Int32)) then
  some (1 : Int32)
  else
  some (0 : Int32))
  else
  (if (irm p2 (2 : Int32)) = (0 : Int32) then
  chk (p1 / (2 : Int32)) 10 ((if (f_X12_has (μ 36 (ix (p1 / (2 : Int32)))) (p2 / (2 : Int32))) = (0 : Int32) then
  some (0 : Int32)
  else
  some (1 : Int32)))
  else
  some (0 : Int32)))
set_option maxHeartbeats 4000000 in
set_option maxRecDepth 100000 in
theorem c_X12_isEdge  {G : Nat} {μ : Mem}  {p1 p2 : Int32} {r : Int32}  (h : f_X12_isEdge G μ p1 p2 = some r) : Cn yX12_isEdge cX12_isEdge 3 (some .boolean) 2 0 0 [.ref 0, .int p1, .int p2] shR μ (eqP (some r) shR μ) := by
  refine cn_of (own := RX12) (ini := false) (loc := [some (.ref 0), some (.int p1), some (.int p2)]) rfl (by decide) (fun q => by cases q) (Nat.le_of_ble_eq_true rfl) (by rfl) rfl ?_
  unfold f_X12_isEdge at h
  refine ev_iload_n dX12_isEdge_0 rfl ?_
  refine ev_iconst (v := (2 : Int32)) dX12_isEdge_1 (by decide) ?_
  refine ev_irem dX12_isEdge_2 (by decide) ?_
  refine ev_if_ne (tgt := 19) dX12_isEdge_3 (by decide) (fun hc1 => ?_) (fun hc1 => ?_)
  · replace h := ite_f hc1 h
    refine ev_iload_n dX12_isEdge_19 rfl ?_
    refine ev_iconst (v := (2 : Int32)) dX12_isEdge_20 (by decide) ?_
    refine ev_irem dX12_isEdge_21 (by decide) ?_
    refine ev_if_ne (tgt := 47) dX12_isEdge_22 (by decide) (fun hc2 => ?_) (fun hc2 => ?_)
    · replace h := ite_f hc2 h
      refine ev_iconst (v := (0 : Int32)) dX12_isEdge_47 (by decide) ?_
      exact ev_iret rfl rfl (by decide) (by decide) dX12_isEdge_48 (eqP_O h)
    · replace h := ite_t hc2 h
      refine ev_aload_n dX12_isEdge_25 rfl ?_
      refine ev_aload_n dX12_isEdge_26 rfl ?_
      refine ev_getR fr_X12_119 shR_0 rfl dX12_isEdge_27 ?_
      refine ev_iload_n dX12_isEdge_30 rfl ?_
      refine ev_iconst (v := (2 : Int32)) dX12_isEdge_31 (by decide) ?_
      refine ev_idiv dX12_isEdge_32 (by decide) ?_
      obtain ⟨hi3, h⟩ := chk_t h
      refine ev_iald shR_36 hi3 dX12_isEdge_33 ?_
      refine ev_iload_n dX12_isEdge_34 rfl ?_
      refine ev_iconst (v := (2 : Int32)) dX12_isEdge_35 (by decide) ?_
      refine ev_idiv dX12_isEdge_36 (by decide) ?_
      refine ev_cVi mv_X12_371 dX12_isEdge_37 c_X12_has rfl shR_0 rfl rfl (Nat.le_of_ble_eq_true rfl) (by rfl) (Nat.le_of_ble_eq_true rfl) (Nat.le_of_ble_eq_true rfl) (Nat.le_of_ble_eq_true rfl) ?_
      refine ev_if_eq (tgt := 47) dX12_isEdge_40 (by decide) (fun hc4 => ?_) (fun hc4 => ?_)
      · replace h := ite_t hc4 h
        refine ev_iconst (v := (0 : Int32)) dX12_isEdge_47 (by decide) ?_
        exact ev_iret rfl rfl (by decide) (by decide) dX12_isEdge_48 (eqP_O h)
      · replace h := ite_f hc4 h
        refine ev_iconst (v := (1 : Int32)) dX12_isEdge_43 (by decide) ?_
        refine ev_goto (tgt := 48) dX12_isEdge_44 (by decide) ?_
        exact ev_iret rfl rfl (by decide) (by decide) dX12_isEdge_48 (eqP_O h)
  · replace h := ite_t hc1 h
    refine ev_iload_n dX12_isEdge_6 rfl ?_
    refine ev_iload_n dX12_isEdge_7 rfl ?_
    refine ev_iconst (v := (1 : Int32)) dX12_isEdge_8 (by decide) ?_
    refine ev_iadd dX12_isEdge_9 ?_
    refine ev_icmp_ne (tgt := 17) dX12_isEdge_10 (by decide) (fun hc5 => ?_) (fun hc5 => ?_)
    · replace h := ite_f hc5 h
      refine ev_iconst (v := (0 : Int32)) dX12_isEdge_17 (by decide) ?_
      exact ev_iret rfl rfl (by decide) (by decide) dX12_isEdge_18 (eqP_O h)
    · replace h := ite_t hc5 h
      refine ev_iconst (v := (1 : Int32)) dX12_isEdge_13 (by decide) ?_
      refine ev_goto (tgt := 18) dX12_isEdge_14 (by decide) ?_
      exact ev_iret rfl rfl (by decide) (by decide) dX12_isEdge_18 (eqP_O h)
def f_X12_isLeft (G : Nat) (μ : Mem) (p1 p2 : Int32) : Option Int32 :=
  chk (((20 : Int32) * p2) + p1) 400 ((if (μ 37 (ix (((20 : Int32) * p2) + p1))) = (1 : Int32) then
  some (1 : Int32)
  else
  bndO (f_X12_isEdge G μ p1 p2) (fun w4 =>
  (if w4 = (0 : Int32) then
  some (0 : Int32)
  else
  chk (((20 : Int32) * p1) + p2) 400 ((if (μ 37 (ix (((20 : Int32) * p1) + p2))) = (0 : Int32) then
  some (1 : Int32)
  else
  some (0 : Int32)))))))
set_option maxHeartbeats 4000000 in
set_option maxRecDepth 100000 in
theorem c_X12_isLeft  {G : Nat} {μ : Mem}  {p1 p2 : Int32} {r : Int32}  (h : f_X12_isLeft G μ p1 p2 = some r) : Cn yX12_isLeft cX12_isLeft 3 (some .boolean) 3 0 0 [.ref 0, .int p1, .int p2] shR μ (eqP (some r) shR μ) := by
  refine cn_of (own := RX12) (ini := false) (loc := [some (.ref 0), some (.int p1), some (.int p2)]) rfl (by decide) (fun q => by cases q) (Nat.le_of_ble_eq_true rfl) (by rfl) rfl ?_
  unfold f_X12_isLeft at h
  refine ev_aload_n dX12_isLeft_0 rfl ?_
  refine ev_getR fr_X12_122 shR_0 rfl dX12_isLeft_1 ?_
  refine ev_bipush (v := (20 : Int32)) dX12_isLeft_4 (by decide) ?_
  refine ev_iload_n dX12_isLeft_6 rfl ?_
  refine ev_imul dX12_isLeft_7 ?_
  refine ev_iload_n dX12_isLeft_8 rfl ?_
  refine ev_iadd dX12_isLeft_9 ?_
  obtain ⟨hi1, h⟩ := chk_t h
  refine ev_iald shR_37 hi1 dX12_isLeft_10 ?_
  refine ev_iconst (v := (1 : Int32)) dX12_isLeft_11 (by decide) ?_
  refine ev_icmp_eq (tgt := 38) dX12_isLeft_12 (by decide) (fun hc2 => ?_) (fun hc2 => ?_)
  · replace h := ite_t hc2 h
    refine ev_iconst (v := (1 : Int32)) dX12_isLeft_38 (by decide) ?_
    refine ev_goto (tgt := 43) dX12_isLeft_39 (by decide) ?_
    exact ev_iret rfl rfl (by decide) (by decide) dX12_isLeft_43 (eqP_O h)
  · replace h := ite_f hc2 h
    refine ev_aload_n dX12_isLeft_15 rfl ?_
    refine ev_iload_n dX12_isLeft_16 rfl ?_
    refine ev_iload_n dX12_isLeft_17 rfl ?_
    obtain ⟨w4, hq3, h⟩ := bndO_t h
    refine ev_cVi mv_X12_486 dX12_isLeft_18 (c_X12_isEdge hq3) rfl shR_0 rfl rfl (Nat.le_of_ble_eq_true rfl) (by rfl) (Nat.le_of_ble_eq_true rfl) (Nat.le_of_ble_eq_true rfl) (Nat.le_of_ble_eq_true rfl) ?_
    refine ev_if_eq (tgt := 42) dX12_isLeft_21 (by decide) (fun hc5 => ?_) (fun hc5 => ?_)
    · replace h := ite_t hc5 h
      refine ev_iconst (v := (0 : Int32)) dX12_isLeft_42 (by decide) ?_
      exact ev_iret rfl rfl (by decide) (by decide) dX12_isLeft_43 (eqP_O h)
    · replace h := ite_f hc5 h
      refine ev_aload_n dX12_isLeft_24 rfl ?_
      refine ev_getR fr_X12_122 shR_0 rfl dX12_isLeft_25 ?_
      refine ev_bipush (v := (20 : Int32)) dX12_isLeft_28 (by decide) ?_
      refine ev_iload_n dX12_isLeft_30 rfl ?_
      refine ev_imul dX12_isLeft_31 ?_
      refine ev_iload_n dX12_isLeft_32 rfl ?_
      refine ev_iadd dX12_isLeft_33 ?_
      obtain ⟨hi6, h⟩ := chk_t h
      refine ev_iald shR_37 hi6 dX12_isLeft_34 ?_
      refine ev_if_ne (tgt := 42) dX12_isLeft_35 (by decide) (fun hc7 => ?_) (fun hc7 => ?_)
      · replace h := ite_f hc7 h
        refine ev_iconst (v := (0 : Int32)) dX12_isLeft_42 (by decide) ?_
        exact ev_iret rfl rfl (by decide) (by decide) dX12_isLeft_43 (eqP_O h)
      · replace h := ite_t hc7 h
        refine ev_iconst (v := (1 : Int32)) dX12_isLeft_38 (by decide) ?_
        refine ev_goto (tgt := 43) dX12_isLeft_39 (by decide) ?_
        exact ev_iret rfl rfl (by decide) (by decide) dX12_isLeft_43 (eqP_O h)
def f_X12_goesOneMore_L2 (G : Nat) (k2_21 : Int32 → Int32 → Mem → Option (Int32 × Mem)) : Nat → Int32 → Int32 → Int32 → Mem → Option (Int32 × Mem)
  | 0, _, _, _, _ => none
  | g + 1, v1, v2, v3, μ =>
  (if (20 : Int32) ≤ v3 then
  k2_21 v1 v2 μ
  else
  chk v3 20 (let m2 := wr μ 38 (ix v3) (-1 : Int32)
  (f_X12_goesOneMore_L2 G k2_21 g) v1 v2 (v3 + (1 : Int32)) m2))
set_option maxHeartbeats 4000000 in
set_option maxRecDepth 100000 in
theorem f_X12_goesOneMore_L2_ok  {G : Nat} {r : Int32} {μr : Mem}  {k2_21 : Int32 → Int32 → Mem → Option (Int32 × Mem)} (hk2_21 : ∀ (v1 : Int32) (v2 : Int32) (m : Mem), k2_21 v1 v2 m = some (r, μr) → Ev RX12 cX12_goesOneMore 6 (some .boolean) false 4 0 0 (eqP (some r) shR μr) 21 [some (.ref 0), some (.int v1), some (.int v2), none, none, none] [] shR m 0 0) : ∀ (g : Nat) (v1 v2 v3 : Int32) (μ : Mem), f_X12_goesOneMore_L2 G k2_21 g v1 v2 v3 μ = some (r, μr) → Ev RX12 cX12_goesOneMore 6 (some .boolean) false 4 0 0 (eqP (some r) shR μr) 2 [some (.ref 0), some (.int v1), some (.int v2), some (.int v3), none, none] [] shR μ 0 0 := by
  intro g
  induction g with
  | zero =>
    intro v1 v2 v3 μ h
    cases h
  | succ g ih =>
    intro v1 v2 v3 μ h
    rw [f_X12_goesOneMore_L2] at h
    refine ev_iload_n dX12_goesOneMore_2 rfl ?_
    refine ev_bipush (v := (20 : Int32)) dX12_goesOneMore_3 (by decide) ?_
    refine ev_icmp_ge (tgt := 21) dX12_goesOneMore_5 (by decide) (fun hc1 => ?_) (fun hc1 => ?_)
    · replace h := ite_t hc1 h
      exact ev_lt (hk2_21 _ _ _ h) ⟨rfl, ⟨rfl, ⟨rfl, trivial⟩⟩⟩
    · replace h := ite_f hc1 h
      refine ev_aload_n dX12_goesOneMore_8 rfl ?_
      refine ev_getR fr_X12_125 shR_0 rfl dX12_goesOneMore_9 ?_
      refine ev_iload_n dX12_goesOneMore_12 rfl ?_
      refine ev_iconst (v := (-1 : Int32)) dX12_goesOneMore_13 (by decide) ?_
      obtain ⟨hi3, h⟩ := chk_t h
      refine ev_iast shR_38 hi3 dX12_goesOneMore_14 ?_
      refine ev_iinc (cq := (1 : Int32)) (loc' := [_, _, _, _, _, _]) dX12_goesOneMore_15 rfl (by decide) rfl (by decide) (by rfl) ?_
      refine ev_goto (tgt := 2) dX12_goesOneMore_18 (by decide) ?_
      exact ev_lt (ih _ _ _ _ h) ⟨rfl, ⟨rfl, ⟨rfl, ⟨rfl, trivial⟩⟩⟩⟩
def f_X12_goesOneMore_j116 (G : Nat) (r30 : Int32 → Int32 → Int32 → Mem → Option (Int32 × Mem)) (k30_131 : Int32 → Int32 → Mem → Option (Int32 × Mem)) (r49 : Int32 → Int32 → Int32 → Int32 → Mem → Option (Int32 × Mem)) (k49_128 : Int32 → Int32 → Int32 → Mem → Option (Int32 × Mem)) (r73 : Int32 → Int32 → Int32 → Int32 → Int32 → Mem → Option (Int32 × Mem)) (k73_122 : Int32 → Int32 → Int32 → Int32 → Mem → Option (Int32 × Mem)) (v1 v2 v3 v4 v5 : Int32) (μ : Mem) : Option (Int32 × Mem) :=
  r73 v1 v2 v3 v4 (v5 + (1 : Int32)) μ
set_option maxHeartbeats 4000000 in
set_option maxRecDepth 100000 in
theorem f_X12_goesOneMore_j116_ok  {G : Nat} {r : Int32} {μr : Mem}  {r30 : Int32 → Int32 → Int32 → Mem → Option (Int32 × Mem)} {k30_131 : Int32 → Int32 → Mem → Option (Int32 × Mem)} {r49 : Int32 → Int32 → Int32 → Int32 → Mem → Option (Int32 × Mem)} {k49_128 : Int32 → Int32 → Int32 → Mem → Option (Int32 × Mem)} {r73 : Int32 → Int32 → Int32 → Int32 → Int32 → Mem → Option (Int32 × Mem)} {k73_122 : Int32 → Int32 → Int32 → Int32 → Mem → Option (Int32 × Mem)} (hr30 : ∀ (v1 : Int32) (v2 : Int32) (v3 : Int32) (m : Mem), r30 v1 v2 v3 m = some (r, μr) → Ev RX12 cX12_goesOneMore 6 (some .boolean) false 4 0 0 (eqP (some r) shR μr) 30 [some (.ref 0), some (.int v1), some (.int v2), some (.int v3), none, none] [] shR m 0 0) (hk30_131 : ∀ (v1 : Int32) (v2 : Int32) (m : Mem), k30_131 v1 v2 m = some (r, μr) → Ev RX12 cX12_goesOneMore 6 (some .boolean) false 4 0 0 (eqP (some r) shR μr) 131 [some (.ref 0), some (.int v1), some (.int v2), none, none, none] [] shR m 0 0) (hr49 : ∀ (v1 : Int32) (v2 : Int32) (v3 : Int32) (v4 : Int32) (m : Mem), r49 v1 v2 v3 v4 m = some (r, μr) → Ev RX12 cX12_goesOneMore 6 (some .boolean) false 4 0 0 (eqP (some r) shR μr) 49 [some (.ref 0), some (.int v1), some (.int v2), some (.int v3), some (.int v4), none] [] shR m 0 0) (hk49_128 : ∀ (v1 : Int32) (v2 : Int32) (v3 : Int32) (m : Mem), k49_128 v1 v2 v3 m = some (r, μr) → Ev RX12 cX12_goesOneMore 6 (some .boolean) false 4 0 0 (eqP (some r) shR μr) 128 [some (.ref 0), some (.int v1), some (.int v2), some (.int v3), none, none] [] shR m 0 0) (hr73 : ∀ (v1 : Int32) (v2 : Int32) (v3 : Int32) (v4 : Int32) (v5 : Int32) (m : Mem), r73 v1 v2 v3 v4 v5 m = some (r, μr) → Ev RX12 cX12_goesOneMore 6 (some .boolean) false 4 0 0 (eqP (some r) shR μr) 73 [some (.ref 0), some (.int v1), some (.int v2), some (.int v3), some (.int v4), some (.int v5)] [] shR m 0 0) (hk73_122 : ∀ (v1 : Int32) (v2 : Int32) (v3 : Int32) (v4 : Int32) (m : Mem), k73_122 v1 v2 v3 v4 m = some (r, μr) → Ev RX12 cX12_goesOneMore 6 (some .boolean) false 4 0 0 (eqP (some r) shR μr) 122 [some (.ref 0), some (.int v1), some (.int v2), some (.int v3), some (.int v4), none] [] shR m 0 0) {v1 v2 v3 v4 v5 : Int32} {μ : Mem} (h : f_X12_goesOneMore_j116 G r30 k30_131 r49 k49_128 r73 k73_122 v1 v2 v3 v4 v5 μ = some (r, μr)) : Ev RX12 cX12_goesOneMore 6 (some .boolean) false 4 0 0 (eqP (some r) shR μr) 116 [some (.ref 0), some (.int v1), some (.int v2), some (.int v3), some (.int v4), some (.int v5)] [] shR μ 0 0 := by
  unfold f_X12_goesOneMore_j116 at h
  refine ev_iinc (cq := (1 : Int32)) (loc' := [_, _, _, _, _, _]) dX12_goesOneMore_116 rfl (by decide) rfl (by decide) (by rfl) ?_
  refine ev_goto (tgt := 73) dX12_goesOneMore_119 (by decide) ?_
  exact ev_lt (hr73 _ _ _ _ _ _ h) ⟨rfl, ⟨rfl, ⟨rfl, ⟨rfl, ⟨rfl, ⟨rfl, trivial⟩⟩⟩⟩⟩⟩
def f_X12_goesOneMore_L73 (G : Nat) (r30 : Int32 → Int32 → Int32 → Mem → Option (Int32 × Mem)) (k30_131 : Int32 → Int32 → Mem → Option (Int32 × Mem)) (r49 : Int32 → Int32 → Int32 → Int32 → Mem → Option (Int32 × Mem)) (k49_128 : Int32 → Int32 → Int32 → Mem → Option (Int32 × Mem)) (k73_122 : Int32 → Int32 → Int32 → Int32 → Mem → Option (Int32 × Mem)) : Nat → Int32 → Int32 → Int32 → Int32 → Int32 → Mem → Option (Int32 × Mem)
  | 0, _, _, _, _, _, _ => none
  | g + 1, v1, v2, v3, v4, v5, μ =>
  (if (20 : Int32) ≤ v5 then
  k73_122 v1 v2 v3 v4 μ
  else
  chk v5 20 ((if (μ 38 (ix v5)) = (-1 : Int32) then
  bndO (f_X12_isLeft G μ v4 v5) (fun w16 =>
  (if w16 = (0 : Int32) then
  f_X12_goesOneMore_j116 G r30 k30_131 r49 k49_128 (f_X12_goesOneMore_L73 G r30 k30_131 r49 k49_128 k73_122 g) k73_122 v1 v2 v3 v4 v5 μ
  else
  chk v5 20 (let m18 := wr μ 38 (ix v5) v4
  f_X12_goesOneMore_j116 G r30 k30_131 r49 k49_128 (f_X12_goesOneMore_L73 G r30 k30_131 r49 k49_128 k73_122 g) k73_122 v1 v2 (1 : Int32) v4 v5 m18)))
  else
  f_X12_goesOneMore_j116 G r30 k30_131 r49 k49_128 (f_X12_goesOneMore_L73 G r30 k30_131 r49 k49_128 k73_122 g) k73_122 v1 v2 v3 v4 v5 μ)))
set_option maxHeartbeats 4000000 in
set_option maxRecDepth 100000 in
theorem f_X12_goesOneMore_L73_ok  {G : Nat} {r : Int32} {μr : Mem}  {r30 : Int32 → Int32 → Int32 → Mem → Option (Int32 × Mem)} {k30_131 : Int32 → Int32 → Mem → Option (Int32 × Mem)} {r49 : Int32 → Int32 → Int32 → Int32 → Mem → Option (Int32 × Mem)} {k49_128 : Int32 → Int32 → Int32 → Mem → Option (Int32 × Mem)} {k73_122 : Int32 → Int32 → Int32 → Int32 → Mem → Option (Int32 × Mem)} (hr30 : ∀ (v1 : Int32) (v2 : Int32) (v3 : Int32) (m : Mem), r30 v1 v2 v3 m = some (r, μr) → Ev RX12 cX12_goesOneMore 6 (some .boolean) false 4 0 0 (eqP (some r) shR μr) 30 [some (.ref 0), some (.int v1), some (.int v2), some (.int v3), none, none] [] shR m 0 0) (hk30_131 : ∀ (v1 : Int32) (v2 : Int32) (m : Mem), k30_131 v1 v2 m = some (r, μr) → Ev RX12 cX12_goesOneMore 6 (some .boolean) false 4 0 0 (eqP (some r) shR μr) 131 [some (.ref 0), some (.int v1), some (.int v2), none, none, none] [] shR m 0 0) (hr49 : ∀ (v1 : Int32) (v2 : Int32) (v3 : Int32) (v4 : Int32) (m : Mem), r49 v1 v2 v3 v4 m = some (r, μr) → Ev RX12 cX12_goesOneMore 6 (some .boolean) false 4 0 0 (eqP (some r) shR μr) 49 [some (.ref 0), some (.int v1), some (.int v2), some (.int v3), some (.int v4), none] [] shR m 0 0) (hk49_128 : ∀ (v1 : Int32) (v2 : Int32) (v3 : Int32) (m : Mem), k49_128 v1 v2 v3 m = some (r, μr) → Ev RX12 cX12_goesOneMore 6 (some .boolean) false 4 0 0 (eqP (some r) shR μr) 128 [some (.ref 0), some (.int v1), some (.int v2), some (.int v3), none, none] [] shR m 0 0) (hk73_122 : ∀ (v1 : Int32) (v2 : Int32) (v3 : Int32) (v4 : Int32) (m : Mem), k73_122 v1 v2 v3 v4 m = some (r, μr) → Ev RX12 cX12_goesOneMore 6 (some .boolean) false 4 0 0 (eqP (some r) shR μr) 122 [some (.ref 0), some (.int v1), some (.int v2), some (.int v3), some (.int v4), none] [] shR m 0 0) : ∀ (g : Nat) (v1 v2 v3 v4 v5 : Int32) (μ : Mem), f_X12_goesOneMore_L73 G r30 k30_131 r49 k49_128 k73_122 g v1 v2 v3 v4 v5 μ = some (r, μr) → Ev RX12 cX12_goesOneMore 6 (some .boolean) false 4 0 0 (eqP (some r) shR μr) 73 [some (.ref 0), some (.int v1), some (.int v2), some (.int v3), some (.int v4), some (.int v5)] [] shR μ 0 0 := by
  intro g
  induction g with
  | zero =>
    intro v1 v2 v3 v4 v5 μ h
    cases h
  | succ g ih =>
    intro v1 v2 v3 v4 v5 μ h
    rw [f_X12_goesOneMore_L73] at h
    refine ev_iload dX12_goesOneMore_73 rfl ?_
    refine ev_bipush (v := (20 : Int32)) dX12_goesOneMore_75 (by decide) ?_
    refine ev_icmp_ge (tgt := 122) dX12_goesOneMore_77 (by decide) (fun hc12 => ?_) (fun hc12 => ?_)
    · replace h := ite_t hc12 h
      exact ev_lt (hk73_122 _ _ _ _ _ h) ⟨rfl, ⟨rfl, ⟨rfl, ⟨rfl, ⟨rfl, trivial⟩⟩⟩⟩⟩
    · replace h := ite_f hc12 h
      refine ev_aload_n dX12_goesOneMore_80 rfl ?_
      refine ev_getR fr_X12_125 shR_0 rfl dX12_goesOneMore_81 ?_
      refine ev_iload dX12_goesOneMore_84 rfl ?_
      obtain ⟨hi13, h⟩ := chk_t h
      refine ev_iald shR_38 hi13 dX12_goesOneMore_86 ?_
      refine ev_iconst (v := (-1 : Int32)) dX12_goesOneMore_87 (by decide) ?_
      refine ev_icmp_ne (tgt := 116) dX12_goesOneMore_88 (by decide) (fun hc14 => ?_) (fun hc14 => ?_)
      · replace h := ite_f hc14 h
        exact ev_lt (f_X12_goesOneMore_j116_ok hr30 hk30_131 hr49 hk49_128 ih hk73_122 h) ⟨rfl, ⟨rfl, ⟨rfl, ⟨rfl, ⟨rfl, ⟨rfl, trivial⟩⟩⟩⟩⟩⟩
      · replace h := ite_t hc14 h
        refine ev_aload_n dX12_goesOneMore_91 rfl ?_
        refine ev_iload dX12_goesOneMore_92 rfl ?_
        refine ev_iload dX12_goesOneMore_94 rfl ?_
        obtain ⟨w16, hq15, h⟩ := bndO_t h
        refine ev_cVi mv_X12_489 dX12_goesOneMore_96 (c_X12_isLeft hq15) rfl shR_0 rfl rfl (Nat.le_of_ble_eq_true rfl) (by rfl) (Nat.le_of_ble_eq_true rfl) (Nat.le_of_ble_eq_true rfl) (Nat.le_of_ble_eq_true rfl) ?_
        refine ev_if_ne (tgt := 105) dX12_goesOneMore_99 (by decide) (fun hc17 => ?_) (fun hc17 => ?_)
        · replace h := ite_f hc17 h
          refine ev_aload_n dX12_goesOneMore_105 rfl ?_
          refine ev_getR fr_X12_125 shR_0 rfl dX12_goesOneMore_106 ?_
          refine ev_iload dX12_goesOneMore_109 rfl ?_
          refine ev_iload dX12_goesOneMore_111 rfl ?_
          obtain ⟨hi19, h⟩ := chk_t h
          refine ev_iast shR_38 hi19 dX12_goesOneMore_113 ?_
          refine ev_iconst (v := (1 : Int32)) dX12_goesOneMore_114 (by decide) ?_
          refine ev_istore_n (loc' := [_, _, _, _, _, _]) dX12_goesOneMore_115 rfl (by decide) (by rfl) ?_
          exact ev_lt (f_X12_goesOneMore_j116_ok hr30 hk30_131 hr49 hk49_128 ih hk73_122 h) ⟨rfl, ⟨rfl, ⟨rfl, ⟨rfl, ⟨rfl, ⟨rfl, trivial⟩⟩⟩⟩⟩⟩
        · replace h := ite_t hc17 h
          refine ev_goto (tgt := 116) dX12_goesOneMore_102 (by decide) ?_
          exact ev_lt (f_X12_goesOneMore_j116_ok hr30 hk30_131 hr49 hk49_128 ih hk73_122 h) ⟨rfl, ⟨rfl, ⟨rfl, ⟨rfl, ⟨rfl, ⟨rfl, trivial⟩⟩⟩⟩⟩⟩
def f_X12_goesOneMore_j122 (G : Nat) (r30 : Int32 → Int32 → Int32 → Mem → Option (Int32 × Mem)) (k30_131 : Int32 → Int32 → Mem → Option (Int32 × Mem)) (r49 : Int32 → Int32 → Int32 → Int32 → Mem → Option (Int32 × Mem)) (k49_128 : Int32 → Int32 → Int32 → Mem → Option (Int32 × Mem)) (v1 v2 v3 v4 : Int32) (μ : Mem) : Option (Int32 × Mem) :=
  r49 v1 v2 v3 (v4 + (1 : Int32)) μ
set_option maxHeartbeats 4000000 in
set_option maxRecDepth 100000 in
theorem f_X12_goesOneMore_j122_ok  {G : Nat} {r : Int32} {μr : Mem}  {r30 : Int32 → Int32 → Int32 → Mem → Option (Int32 × Mem)} {k30_131 : Int32 → Int32 → Mem → Option (Int32 × Mem)} {r49 : Int32 → Int32 → Int32 → Int32 → Mem → Option (Int32 × Mem)} {k49_128 : Int32 → Int32 → Int32 → Mem → Option (Int32 × Mem)} (hr30 : ∀ (v1 : Int32) (v2 : Int32) (v3 : Int32) (m : Mem), r30 v1 v2 v3 m = some (r, μr) → Ev RX12 cX12_goesOneMore 6 (some .boolean) false 4 0 0 (eqP (some r) shR μr) 30 [some (.ref 0), some (.int v1), some (.int v2), some (.int v3), none, none] [] shR m 0 0) (hk30_131 : ∀ (v1 : Int32) (v2 : Int32) (m : Mem), k30_131 v1 v2 m = some (r, μr) → Ev RX12 cX12_goesOneMore 6 (some .boolean) false 4 0 0 (eqP (some r) shR μr) 131 [some (.ref 0), some (.int v1), some (.int v2), none, none, none] [] shR m 0 0) (hr49 : ∀ (v1 : Int32) (v2 : Int32) (v3 : Int32) (v4 : Int32) (m : Mem), r49 v1 v2 v3 v4 m = some (r, μr) → Ev RX12 cX12_goesOneMore 6 (some .boolean) false 4 0 0 (eqP (some r) shR μr) 49 [some (.ref 0), some (.int v1), some (.int v2), some (.int v3), some (.int v4), none] [] shR m 0 0) (hk49_128 : ∀ (v1 : Int32) (v2 : Int32) (v3 : Int32) (m : Mem), k49_128 v1 v2 v3 m = some (r, μr) → Ev RX12 cX12_goesOneMore 6 (some .boolean) false 4 0 0 (eqP (some r) shR μr) 128 [some (.ref 0), some (.int v1), some (.int v2), some (.int v3), none, none] [] shR m 0 0) {v1 v2 v3 v4 : Int32} {μ : Mem} (h : f_X12_goesOneMore_j122 G r30 k30_131 r49 k49_128 v1 v2 v3 v4 μ = some (r, μr)) : Ev RX12 cX12_goesOneMore 6 (some .boolean) false 4 0 0 (eqP (some r) shR μr) 122 [some (.ref 0), some (.int v1), some (.int v2), some (.int v3), some (.int v4), none] [] shR μ 0 0 := by
  unfold f_X12_goesOneMore_j122 at h
  refine ev_iinc (cq := (1 : Int32)) (loc' := [_, _, _, _, _, _]) dX12_goesOneMore_122 rfl (by decide) rfl (by decide) (by rfl) ?_
  refine ev_goto (tgt := 49) dX12_goesOneMore_125 (by decide) ?_
  exact ev_lt (hr49 _ _ _ _ _ h) ⟨rfl, ⟨rfl, ⟨rfl, ⟨rfl, ⟨rfl, trivial⟩⟩⟩⟩⟩
def f_X12_goesOneMore_L49 (G : Nat) (r30 : Int32 → Int32 → Int32 → Mem → Option (Int32 × Mem)) (k30_131 : Int32 → Int32 → Mem → Option (Int32 × Mem)) (k49_128 : Int32 → Int32 → Int32 → Mem → Option (Int32 × Mem)) : Nat → Int32 → Int32 → Int32 → Int32 → Mem → Option (Int32 × Mem)
  | 0, _, _, _, _, _ => none
  | g + 1, v1, v2, v3, v4, μ =>
  (if (20 : Int32) ≤ v4 then
  k49_128 v1 v2 v3 μ
  else
  chk v4 20 ((if (μ 38 (ix v4)) = (-1 : Int32) then
  f_X12_goesOneMore_j122 G r30 k30_131 (f_X12_goesOneMore_L49 G r30 k30_131 k49_128 g) k49_128 v1 v2 v3 v4 μ
  else
  f_X12_goesOneMore_L73 G r30 k30_131 (f_X12_goesOneMore_L49 G r30 k30_131 k49_128 g) k49_128 (f_X12_goesOneMore_j122 G r30 k30_131 (f_X12_goesOneMore_L49 G r30 k30_131 k49_128 g) k49_128) G v1 v2 v3 v4 (0 : Int32) μ)))
set_option maxHeartbeats 4000000 in
set_option maxRecDepth 100000 in
theorem f_X12_goesOneMore_L49_ok  {G : Nat} {r : Int32} {μr : Mem}  {r30 : Int32 → Int32 → Int32 → Mem → Option (Int32 × Mem)} {k30_131 : Int32 → Int32 → Mem → Option (Int32 × Mem)} {k49_128 : Int32 → Int32 → Int32 → Mem → Option (Int32 × Mem)} (hr30 : ∀ (v1 : Int32) (v2 : Int32) (v3 : Int32) (m : Mem), r30 v1 v2 v3 m = some (r, μr) → Ev RX12 cX12_goesOneMore 6 (some .boolean) false 4 0 0 (eqP (some r) shR μr) 30 [some (.ref 0), some (.int v1), some (.int v2), some (.int v3), none, none] [] shR m 0 0) (hk30_131 : ∀ (v1 : Int32) (v2 : Int32) (m : Mem), k30_131 v1 v2 m = some (r, μr) → Ev RX12 cX12_goesOneMore 6 (some .boolean) false 4 0 0 (eqP (some r) shR μr) 131 [some (.ref 0), some (.int v1), some (.int v2), none, none, none] [] shR m 0 0) (hk49_128 : ∀ (v1 : Int32) (v2 : Int32) (v3 : Int32) (m : Mem), k49_128 v1 v2 v3 m = some (r, μr) → Ev RX12 cX12_goesOneMore 6 (some .boolean) false 4 0 0 (eqP (some r) shR μr) 128 [some (.ref 0), some (.int v1), some (.int v2), some (.int v3), none, none] [] shR m 0 0) : ∀ (g : Nat) (v1 v2 v3 v4 : Int32) (μ : Mem), f_X12_goesOneMore_L49 G r30 k30_131 k49_128 g v1 v2 v3 v4 μ = some (r, μr) → Ev RX12 cX12_goesOneMore 6 (some .boolean) false 4 0 0 (eqP (some r) shR μr) 49 [some (.ref 0), some (.int v1), some (.int v2), some (.int v3), some (.int v4), none] [] shR μ 0 0 := by
  intro g
  induction g with
  | zero =>
    intro v1 v2 v3 v4 μ h
    cases h
  | succ g ih =>
    intro v1 v2 v3 v4 μ h
    rw [f_X12_goesOneMore_L49] at h
    refine ev_iload dX12_goesOneMore_49 rfl ?_
    refine ev_bipush (v := (20 : Int32)) dX12_goesOneMore_51 (by decide) ?_
    refine ev_icmp_ge (tgt := 128) dX12_goesOneMore_53 (by decide) (fun hc9 => ?_) (fun hc9 => ?_)
    · replace h := ite_t hc9 h
      exact ev_lt (hk49_128 _ _ _ _ h) ⟨rfl, ⟨rfl, ⟨rfl, ⟨rfl, trivial⟩⟩⟩⟩
    · replace h := ite_f hc9 h
      refine ev_aload_n dX12_goesOneMore_56 rfl ?_
      refine ev_getR fr_X12_125 shR_0 rfl dX12_goesOneMore_57 ?_
      refine ev_iload dX12_goesOneMore_60 rfl ?_
      obtain ⟨hi10, h⟩ := chk_t h
      refine ev_iald shR_38 hi10 dX12_goesOneMore_62 ?_
      refine ev_iconst (v := (-1 : Int32)) dX12_goesOneMore_63 (by decide) ?_
      refine ev_icmp_ne (tgt := 70) dX12_goesOneMore_64 (by decide) (fun hc11 => ?_) (fun hc11 => ?_)
      · replace h := ite_f hc11 h
        refine ev_iconst (v := (0 : Int32)) dX12_goesOneMore_70 (by decide) ?_
        refine ev_istore (loc' := [_, _, _, _, _, _]) dX12_goesOneMore_71 rfl (by decide) (by rfl) ?_
        exact ev_lt (f_X12_goesOneMore_L73_ok hr30 hk30_131 ih hk49_128 (fun _ _ _ _ _ hh => f_X12_goesOneMore_j122_ok hr30 hk30_131 ih hk49_128 hh) _ _ _ _ _ _ _ h) ⟨rfl, ⟨rfl, ⟨rfl, ⟨rfl, ⟨rfl, ⟨rfl, trivial⟩⟩⟩⟩⟩⟩
      · replace h := ite_t hc11 h
        refine ev_goto (tgt := 122) dX12_goesOneMore_67 (by decide) ?_
        exact ev_lt (f_X12_goesOneMore_j122_ok hr30 hk30_131 ih hk49_128 h) ⟨rfl, ⟨rfl, ⟨rfl, ⟨rfl, ⟨rfl, trivial⟩⟩⟩⟩⟩
def f_X12_goesOneMore_j128 (G : Nat) (r30 : Int32 → Int32 → Int32 → Mem → Option (Int32 × Mem)) (k30_131 : Int32 → Int32 → Mem → Option (Int32 × Mem)) (v1 v2 v3 : Int32) (μ : Mem) : Option (Int32 × Mem) :=
  r30 v1 v2 v3 μ
set_option maxHeartbeats 4000000 in
set_option maxRecDepth 100000 in
theorem f_X12_goesOneMore_j128_ok  {G : Nat} {r : Int32} {μr : Mem}  {r30 : Int32 → Int32 → Int32 → Mem → Option (Int32 × Mem)} {k30_131 : Int32 → Int32 → Mem → Option (Int32 × Mem)} (hr30 : ∀ (v1 : Int32) (v2 : Int32) (v3 : Int32) (m : Mem), r30 v1 v2 v3 m = some (r, μr) → Ev RX12 cX12_goesOneMore 6 (some .boolean) false 4 0 0 (eqP (some r) shR μr) 30 [some (.ref 0), some (.int v1), some (.int v2), some (.int v3), none, none] [] shR m 0 0) (hk30_131 : ∀ (v1 : Int32) (v2 : Int32) (m : Mem), k30_131 v1 v2 m = some (r, μr) → Ev RX12 cX12_goesOneMore 6 (some .boolean) false 4 0 0 (eqP (some r) shR μr) 131 [some (.ref 0), some (.int v1), some (.int v2), none, none, none] [] shR m 0 0) {v1 v2 v3 : Int32} {μ : Mem} (h : f_X12_goesOneMore_j128 G r30 k30_131 v1 v2 v3 μ = some (r, μr)) : Ev RX12 cX12_goesOneMore 6 (some .boolean) false 4 0 0 (eqP (some r) shR μr) 128 [some (.ref 0), some (.int v1), some (.int v2), some (.int v3), none, none] [] shR μ 0 0 := by
  unfold f_X12_goesOneMore_j128 at h
  refine ev_goto (tgt := 30) dX12_goesOneMore_128 (by decide) ?_
  exact ev_lt (hr30 _ _ _ _ h) ⟨rfl, ⟨rfl, ⟨rfl, ⟨rfl, trivial⟩⟩⟩⟩
def f_X12_goesOneMore_L30 (G : Nat) (k30_131 : Int32 → Int32 → Mem → Option (Int32 × Mem)) : Nat → Int32 → Int32 → Int32 → Mem → Option (Int32 × Mem)
  | 0, _, _, _, _ => none
  | g + 1, v1, v2, v3, μ =>
  (if v3 = (0 : Int32) then
  k30_131 v1 v2 μ
  else
  chk v2 20 ((if (μ 38 (ix v2)) = (-1 : Int32) then
  f_X12_goesOneMore_L49 G (f_X12_goesOneMore_L30 G k30_131 g) k30_131 (f_X12_goesOneMore_j128 G (f_X12_goesOneMore_L30 G k30_131 g) k30_131) G v1 v2 (0 : Int32) (0 : Int32) μ
  else
  k30_131 v1 v2 μ)))
set_option maxHeartbeats 4000000 in
set_option maxRecDepth 100000 in
theorem f_X12_goesOneMore_L30_ok  {G : Nat} {r : Int32} {μr : Mem}  {k30_131 : Int32 → Int32 → Mem → Option (Int32 × Mem)} (hk30_131 : ∀ (v1 : Int32) (v2 : Int32) (m : Mem), k30_131 v1 v2 m = some (r, μr) → Ev RX12 cX12_goesOneMore 6 (some .boolean) false 4 0 0 (eqP (some r) shR μr) 131 [some (.ref 0), some (.int v1), some (.int v2), none, none, none] [] shR m 0 0) : ∀ (g : Nat) (v1 v2 v3 : Int32) (μ : Mem), f_X12_goesOneMore_L30 G k30_131 g v1 v2 v3 μ = some (r, μr) → Ev RX12 cX12_goesOneMore 6 (some .boolean) false 4 0 0 (eqP (some r) shR μr) 30 [some (.ref 0), some (.int v1), some (.int v2), some (.int v3), none, none] [] shR μ 0 0 := by
  intro g
  induction g with
  | zero =>
    intro v1 v2 v3 μ h
    cases h
  | succ g ih =>
    intro v1 v2 v3 μ h
    rw [f_X12_goesOneMore_L30] at h
    refine ev_iload_n dX12_goesOneMore_30 rfl ?_
    refine ev_if_eq (tgt := 131) dX12_goesOneMore_31 (by decide) (fun hc6 => ?_) (fun hc6 => ?_)
    · replace h := ite_t hc6 h
      exact ev_lt (hk30_131 _ _ _ h) ⟨rfl, ⟨rfl, ⟨rfl, trivial⟩⟩⟩
    · replace h := ite_f hc6 h
      refine ev_aload_n dX12_goesOneMore_34 rfl ?_
      refine ev_getR fr_X12_125 shR_0 rfl dX12_goesOneMore_35 ?_
      refine ev_iload_n dX12_goesOneMore_38 rfl ?_
      obtain ⟨hi7, h⟩ := chk_t h
      refine ev_iald shR_38 hi7 dX12_goesOneMore_39 ?_
      refine ev_iconst (v := (-1 : Int32)) dX12_goesOneMore_40 (by decide) ?_
      refine ev_icmp_ne (tgt := 131) dX12_goesOneMore_41 (by decide) (fun hc8 => ?_) (fun hc8 => ?_)
      · replace h := ite_f hc8 h
        exact ev_lt (hk30_131 _ _ _ h) ⟨rfl, ⟨rfl, ⟨rfl, trivial⟩⟩⟩
      · replace h := ite_t hc8 h
        refine ev_iconst (v := (0 : Int32)) dX12_goesOneMore_44 (by decide) ?_
        refine ev_istore_n (loc' := [_, _, _, _, _, _]) dX12_goesOneMore_45 rfl (by decide) (by rfl) ?_
        refine ev_iconst (v := (0 : Int32)) dX12_goesOneMore_46 (by decide) ?_
        refine ev_istore (loc' := [_, _, _, _, _, _]) dX12_goesOneMore_47 rfl (by decide) (by rfl) ?_
        exact ev_lt (f_X12_goesOneMore_L49_ok ih hk30_131 (fun _ _ _ _ hh => f_X12_goesOneMore_j128_ok ih hk30_131 hh) _ _ _ _ _ _ h) ⟨rfl, ⟨rfl, ⟨rfl, ⟨rfl, ⟨rfl, trivial⟩⟩⟩⟩⟩
def f_X12_goesOneMore_j209 (G : Nat) (r146 : Int32 → Int32 → Mem → Option (Int32 × Mem)) (v1 v5 : Int32) (μ : Mem) : Option (Int32 × Mem) :=
  r146 v1 v5 μ
set_option maxHeartbeats 4000000 in
set_option maxRecDepth 100000 in
theorem f_X12_goesOneMore_j209_ok  {G : Nat} {r : Int32} {μr : Mem}  {r146 : Int32 → Int32 → Mem → Option (Int32 × Mem)} (hr146 : ∀ (v1 : Int32) (v4 : Int32) (m : Mem), r146 v1 v4 m = some (r, μr) → Ev RX12 cX12_goesOneMore 6 (some .boolean) false 4 0 0 (eqP (some r) shR μr) 146 [some (.ref 0), some (.int v1), none, none, some (.int v4), none] [] shR m 0 0) {v1 v5 : Int32} {μ : Mem} (h : f_X12_goesOneMore_j209 G r146 v1 v5 μ = some (r, μr)) : Ev RX12 cX12_goesOneMore 6 (some .boolean) false 4 0 0 (eqP (some r) shR μr) 209 [some (.ref 0), some (.int v1), none, none, none, some (.int v5)] [] shR μ 0 0 := by
  unfold f_X12_goesOneMore_j209 at h
  refine ev_iload dX12_goesOneMore_209 rfl ?_
  refine ev_istore (loc' := [_, _, _, _, _, _]) dX12_goesOneMore_211 rfl (by decide) (by rfl) ?_
  refine ev_goto (tgt := 146) dX12_goesOneMore_213 (by decide) ?_
  exact ev_lt (hr146 _ _ _ h) ⟨rfl, ⟨rfl, ⟨rfl, trivial⟩⟩⟩
def f_X12_goesOneMore_L146 (G : Nat)  : Nat → Int32 → Int32 → Mem → Option (Int32 × Mem)
  | 0, _, _, _ => none
  | g + 1, v1, v4, μ =>
  (if v4 = v1 then
  some ((1 : Int32), μ)
  else
  chk v4 20 (chk (((20 : Int32) * v4) + (μ 38 (ix v4))) 400 ((if (μ 37 (ix (((20 : Int32) * v4) + (μ 38 (ix v4))))) = (1 : Int32) then
  chk (((20 : Int32) * v4) + (μ 38 (ix v4))) 400 (let m28 := wr μ 37 (ix (((20 : Int32) * v4) + (μ 38 (ix v4)))) (0 : Int32)
  f_X12_goesOneMore_j209 G (f_X12_goesOneMore_L146 G g) v1 (μ 38 (ix v4)) m28)
  else
  chk (((20 : Int32) * (μ 38 (ix v4))) + v4) 400 (let m26 := wr μ 37 (ix (((20 : Int32) * (μ 38 (ix v4))) + v4)) (1 : Int32)
  f_X12_goesOneMore_j209 G (f_X12_goesOneMore_L146 G g) v1 (μ 38 (ix v4)) m26)))))
set_option maxHeartbeats 4000000 in
set_option maxRecDepth 100000 in
theorem f_X12_goesOneMore_L146_ok  {G : Nat} {r : Int32} {μr : Mem}    : ∀ (g : Nat) (v1 v4 : Int32) (μ : Mem), f_X12_goesOneMore_L146 G g v1 v4 μ = some (r, μr) → Ev RX12 cX12_goesOneMore 6 (some .boolean) false 4 0 0 (eqP (some r) shR μr) 146 [some (.ref 0), some (.int v1), none, none, some (.int v4), none] [] shR μ 0 0 := by
  intro g
  induction g with
  | zero =>
    intro v1 v4 μ h
    cases h
  | succ g ih =>
    intro v1 v4 μ h
    rw [f_X12_goesOneMore_L146] at h
    refine ev_iload dX12_goesOneMore_146 rfl ?_
    refine ev_iload_n dX12_goesOneMore_148 rfl ?_
    refine ev_icmp_eq (tgt := 216) dX12_goesOneMore_149 (by decide) (fun hc22 => ?_) (fun hc22 => ?_)
    · replace h := ite_t hc22 h
      refine ev_iconst (v := (1 : Int32)) dX12_goesOneMore_216 (by decide) ?_
      exact ev_iret rfl rfl (by decide) (by decide) dX12_goesOneMore_217 (eqP_E h)
    · replace h := ite_f hc22 h
      refine ev_aload_n dX12_goesOneMore_152 rfl ?_
      refine ev_getR fr_X12_125 shR_0 rfl dX12_goesOneMore_153 ?_
      refine ev_iload dX12_goesOneMore_156 rfl ?_
      obtain ⟨hi23, h⟩ := chk_t h
      refine ev_iald shR_38 hi23 dX12_goesOneMore_158 ?_
      refine ev_istore (loc' := [_, _, _, _, _, _]) dX12_goesOneMore_159 rfl (by decide) (by rfl) ?_
      refine ev_aload_n dX12_goesOneMore_161 rfl ?_
      refine ev_getR fr_X12_122 shR_0 rfl dX12_goesOneMore_162 ?_
      refine ev_bipush (v := (20 : Int32)) dX12_goesOneMore_165 (by decide) ?_
      refine ev_iload dX12_goesOneMore_167 rfl ?_
      refine ev_imul dX12_goesOneMore_169 ?_
      refine ev_iload dX12_goesOneMore_170 rfl ?_
      refine ev_iadd dX12_goesOneMore_172 ?_
      obtain ⟨hi24, h⟩ := chk_t h
      refine ev_iald shR_37 hi24 dX12_goesOneMore_173 ?_
      refine ev_iconst (v := (1 : Int32)) dX12_goesOneMore_174 (by decide) ?_
      refine ev_icmp_ne (tgt := 195) dX12_goesOneMore_175 (by decide) (fun hc25 => ?_) (fun hc25 => ?_)
      · replace h := ite_f hc25 h
        refine ev_aload_n dX12_goesOneMore_195 rfl ?_
        refine ev_getR fr_X12_122 shR_0 rfl dX12_goesOneMore_196 ?_
        refine ev_bipush (v := (20 : Int32)) dX12_goesOneMore_199 (by decide) ?_
        refine ev_iload dX12_goesOneMore_201 rfl ?_
        refine ev_imul dX12_goesOneMore_203 ?_
        refine ev_iload dX12_goesOneMore_204 rfl ?_
        refine ev_iadd dX12_goesOneMore_206 ?_
        refine ev_iconst (v := (1 : Int32)) dX12_goesOneMore_207 (by decide) ?_
        obtain ⟨hi27, h⟩ := chk_t h
        refine ev_iast shR_37 hi27 dX12_goesOneMore_208 ?_
        exact ev_lt (f_X12_goesOneMore_j209_ok ih h) ⟨rfl, ⟨rfl, ⟨rfl, trivial⟩⟩⟩
      · replace h := ite_t hc25 h
        refine ev_aload_n dX12_goesOneMore_178 rfl ?_
        refine ev_getR fr_X12_122 shR_0 rfl dX12_goesOneMore_179 ?_
        refine ev_bipush (v := (20 : Int32)) dX12_goesOneMore_182 (by decide) ?_
        refine ev_iload dX12_goesOneMore_184 rfl ?_
        refine ev_imul dX12_goesOneMore_186 ?_
        refine ev_iload dX12_goesOneMore_187 rfl ?_
        refine ev_iadd dX12_goesOneMore_189 ?_
        refine ev_iconst (v := (0 : Int32)) dX12_goesOneMore_190 (by decide) ?_
        obtain ⟨hi29, h⟩ := chk_t h
        refine ev_iast shR_37 hi29 dX12_goesOneMore_191 ?_
        refine ev_goto (tgt := 209) dX12_goesOneMore_192 (by decide) ?_
        exact ev_lt (f_X12_goesOneMore_j209_ok ih h) ⟨rfl, ⟨rfl, ⟨rfl, trivial⟩⟩⟩
def f_X12_goesOneMore_j131 (G : Nat)  (v1 v2 : Int32) (μ : Mem) : Option (Int32 × Mem) :=
  chk v2 20 ((if (μ 38 (ix v2)) = (-1 : Int32) then
  some ((0 : Int32), μ)
  else
  f_X12_goesOneMore_L146 G G v1 v2 μ))
set_option maxHeartbeats 4000000 in
set_option maxRecDepth 100000 in
theorem f_X12_goesOneMore_j131_ok  {G : Nat} {r : Int32} {μr : Mem}    {v1 v2 : Int32} {μ : Mem} (h : f_X12_goesOneMore_j131 G v1 v2 μ = some (r, μr)) : Ev RX12 cX12_goesOneMore 6 (some .boolean) false 4 0 0 (eqP (some r) shR μr) 131 [some (.ref 0), some (.int v1), some (.int v2), none, none, none] [] shR μ 0 0 := by
  unfold f_X12_goesOneMore_j131 at h
  refine ev_aload_n dX12_goesOneMore_131 rfl ?_
  refine ev_getR fr_X12_125 shR_0 rfl dX12_goesOneMore_132 ?_
  refine ev_iload_n dX12_goesOneMore_135 rfl ?_
  obtain ⟨hi20, h⟩ := chk_t h
  refine ev_iald shR_38 hi20 dX12_goesOneMore_136 ?_
  refine ev_iconst (v := (-1 : Int32)) dX12_goesOneMore_137 (by decide) ?_
  refine ev_icmp_ne (tgt := 143) dX12_goesOneMore_138 (by decide) (fun hc21 => ?_) (fun hc21 => ?_)
  · replace h := ite_f hc21 h
    refine ev_iload_n dX12_goesOneMore_143 rfl ?_
    refine ev_istore (loc' := [_, _, _, _, _, _]) dX12_goesOneMore_144 rfl (by decide) (by rfl) ?_
    exact ev_lt (f_X12_goesOneMore_L146_ok _ _ _ _ h) ⟨rfl, ⟨rfl, ⟨rfl, trivial⟩⟩⟩
  · replace h := ite_t hc21 h
    refine ev_iconst (v := (0 : Int32)) dX12_goesOneMore_141 (by decide) ?_
    exact ev_iret rfl rfl (by decide) (by decide) dX12_goesOneMore_142 (eqP_E h)
def f_X12_goesOneMore_j21 (G : Nat)  (v1 v2 : Int32) (μ : Mem) : Option (Int32 × Mem) :=
  chk v1 20 (let m4 := wr μ 38 (ix v1) v1
  f_X12_goesOneMore_L30 G (f_X12_goesOneMore_j131 G) G v1 v2 (1 : Int32) m4)
set_option maxHeartbeats 4000000 in
set_option maxRecDepth 100000 in
theorem f_X12_goesOneMore_j21_ok  {G : Nat} {r : Int32} {μr : Mem}    {v1 v2 : Int32} {μ : Mem} (h : f_X12_goesOneMore_j21 G v1 v2 μ = some (r, μr)) : Ev RX12 cX12_goesOneMore 6 (some .boolean) false 4 0 0 (eqP (some r) shR μr) 21 [some (.ref 0), some (.int v1), some (.int v2), none, none, none] [] shR μ 0 0 := by
  unfold f_X12_goesOneMore_j21 at h
  refine ev_aload_n dX12_goesOneMore_21 rfl ?_
  refine ev_getR fr_X12_125 shR_0 rfl dX12_goesOneMore_22 ?_
  refine ev_iload_n dX12_goesOneMore_25 rfl ?_
  refine ev_iload_n dX12_goesOneMore_26 rfl ?_
  obtain ⟨hi5, h⟩ := chk_t h
  refine ev_iast shR_38 hi5 dX12_goesOneMore_27 ?_
  refine ev_iconst (v := (1 : Int32)) dX12_goesOneMore_28 (by decide) ?_
  refine ev_istore_n (loc' := [_, _, _, _, _, _]) dX12_goesOneMore_29 rfl (by decide) (by rfl) ?_
  exact ev_lt (f_X12_goesOneMore_L30_ok (fun _ _ _ hh => f_X12_goesOneMore_j131_ok hh) _ _ _ _ _ h) ⟨rfl, ⟨rfl, ⟨rfl, ⟨rfl, trivial⟩⟩⟩⟩
def f_X12_goesOneMore (G : Nat) (p1 p2 : Int32) (μ : Mem) : Option (Int32 × Mem) :=
  f_X12_goesOneMore_L2 G (f_X12_goesOneMore_j21 G) G p1 p2 (0 : Int32) μ
set_option maxHeartbeats 4000000 in
set_option maxRecDepth 100000 in
theorem c_X12_goesOneMore  {G : Nat} {μ : Mem} {p1 p2 : Int32} {r : Int32} {μr : Mem}  (h : f_X12_goesOneMore G p1 p2 μ = some (r, μr)) : Cn yX12_goesOneMore cX12_goesOneMore 6 (some .boolean) 4 0 0 [.ref 0, .int p1, .int p2] shR μ (eqP (some r) shR μr) := by
  refine cn_of (own := RX12) (ini := false) (loc := [some (.ref 0), some (.int p1), some (.int p2), none, none, none]) rfl (by decide) (fun q => by cases q) (Nat.le_of_ble_eq_true rfl) (by rfl) rfl ?_
  unfold f_X12_goesOneMore at h
  refine ev_iconst (v := (0 : Int32)) dX12_goesOneMore_0 (by decide) ?_
  refine ev_istore_n (loc' := [_, _, _, _, _, _]) dX12_goesOneMore_1 rfl (by decide) (by rfl) ?_
  exact ev_lt (f_X12_goesOneMore_L2_ok (fun _ _ _ hh => f_X12_goesOneMore_j21_ok hh) _ _ _ _ _ h) ⟨rfl, ⟨rfl, ⟨rfl, ⟨rfl, trivial⟩⟩⟩⟩
def f_X12_apartWays_L2 (G : Nat) (k2_22 : Int32 → Int32 → Mem → Option (Int32 × Mem)) : Nat → Int32 → Int32 → Int32 → Mem → Option (Int32 × Mem)
  | 0, _, _, _, _ => none
  | g + 1, v1, v2, v3, μ =>
  (if (400 : Int32) ≤ v3 then
  k2_22 v1 v2 μ
  else
  chk v3 400 (let m2 := wr μ 37 (ix v3) (0 : Int32)
  (f_X12_apartWays_L2 G k2_22 g) v1 v2 (v3 + (1 : Int32)) m2))
set_option maxHeartbeats 4000000 in
set_option maxRecDepth 100000 in
theorem f_X12_apartWays_L2_ok  {G : Nat} {r : Int32} {μr : Mem}  {k2_22 : Int32 → Int32 → Mem → Option (Int32 × Mem)} (hk2_22 : ∀ (v1 : Int32) (v2 : Int32) (m : Mem), k2_22 v1 v2 m = some (r, μr) → Ev RX12 cX12_apartWays 4 (some .int) false 5 0 0 (eqP (some r) shR μr) 22 [some (.ref 0), some (.int v1), some (.int v2), none] [] shR m 0 0) : ∀ (g : Nat) (v1 v2 v3 : Int32) (μ : Mem), f_X12_apartWays_L2 G k2_22 g v1 v2 v3 μ = some (r, μr) → Ev RX12 cX12_apartWays 4 (some .int) false 5 0 0 (eqP (some r) shR μr) 2 [some (.ref 0), some (.int v1), some (.int v2), some (.int v3)] [] shR μ 0 0 := by
  intro g
  induction g with
  | zero =>
    intro v1 v2 v3 μ h
    cases h
  | succ g ih =>
    intro v1 v2 v3 μ h
    rw [f_X12_apartWays_L2] at h
    refine ev_iload_n dX12_apartWays_2 rfl ?_
    refine ev_sipush (v := (400 : Int32)) dX12_apartWays_3 (by decide) ?_
    refine ev_icmp_ge (tgt := 22) dX12_apartWays_6 (by decide) (fun hc1 => ?_) (fun hc1 => ?_)
    · replace h := ite_t hc1 h
      exact ev_lt (hk2_22 _ _ _ h) ⟨rfl, ⟨rfl, ⟨rfl, trivial⟩⟩⟩
    · replace h := ite_f hc1 h
      refine ev_aload_n dX12_apartWays_9 rfl ?_
      refine ev_getR fr_X12_122 shR_0 rfl dX12_apartWays_10 ?_
      refine ev_iload_n dX12_apartWays_13 rfl ?_
      refine ev_iconst (v := (0 : Int32)) dX12_apartWays_14 (by decide) ?_
      obtain ⟨hi3, h⟩ := chk_t h
      refine ev_iast shR_37 hi3 dX12_apartWays_15 ?_
      refine ev_iinc (cq := (1 : Int32)) (loc' := [_, _, _, _]) dX12_apartWays_16 rfl (by decide) rfl (by decide) (by rfl) ?_
      refine ev_goto (tgt := 2) dX12_apartWays_19 (by decide) ?_
      exact ev_lt (ih _ _ _ _ h) ⟨rfl, ⟨rfl, ⟨rfl, ⟨rfl, trivial⟩⟩⟩⟩
def f_X12_apartWays_L24 (G : Nat)  : Nat → Int32 → Int32 → Int32 → Mem → Option (Int32 × Mem)
  | 0, _, _, _, _ => none
  | g + 1, v1, v2, v3, μ =>
  bndE (f_X12_goesOneMore G (((2 : Int32) * v1) + (1 : Int32)) ((2 : Int32) * v2) μ) (fun w6 m5 =>
  (if w6 = (0 : Int32) then
  some (v3, m5)
  else
  (f_X12_apartWays_L24 G g) v1 v2 (v3 + (1 : Int32)) m5))
set_option maxHeartbeats 4000000 in
set_option maxRecDepth 100000 in
theorem f_X12_apartWays_L24_ok  {G : Nat} {r : Int32} {μr : Mem}    : ∀ (g : Nat) (v1 v2 v3 : Int32) (μ : Mem), f_X12_apartWays_L24 G g v1 v2 v3 μ = some (r, μr) → Ev RX12 cX12_apartWays 4 (some .int) false 5 0 0 (eqP (some r) shR μr) 24 [some (.ref 0), some (.int v1), some (.int v2), some (.int v3)] [] shR μ 0 0 := by
  intro g
  induction g with
  | zero =>
    intro v1 v2 v3 μ h
    cases h
  | succ g ih =>
    intro v1 v2 v3 μ h
    rw [f_X12_apartWays_L24] at h
    refine ev_aload_n dX12_apartWays_24 rfl ?_
    refine ev_iconst (v := (2 : Int32)) dX12_apartWays_25 (by decide) ?_
    refine ev_iload_n dX12_apartWays_26 rfl ?_
    refine ev_imul dX12_apartWays_27 ?_
    refine ev_iconst (v := (1 : Int32)) dX12_apartWays_28 (by decide) ?_
    refine ev_iadd dX12_apartWays_29 ?_
    refine ev_iconst (v := (2 : Int32)) dX12_apartWays_30 (by decide) ?_
    refine ev_iload_n dX12_apartWays_31 rfl ?_
    refine ev_imul dX12_apartWays_32 ?_
    obtain ⟨w6, m5, hq4, h⟩ := bndE_t h
    refine ev_cVi mv_X12_492 dX12_apartWays_33 (c_X12_goesOneMore hq4) rfl shR_0 rfl rfl (Nat.le_of_ble_eq_true rfl) (by rfl) (Nat.le_of_ble_eq_true rfl) (Nat.le_of_ble_eq_true rfl) (Nat.le_of_ble_eq_true rfl) ?_
    refine ev_if_eq (tgt := 46) dX12_apartWays_36 (by decide) (fun hc7 => ?_) (fun hc7 => ?_)
    · replace h := ite_t hc7 h
      refine ev_iload_n dX12_apartWays_46 rfl ?_
      exact ev_iret rfl rfl (by decide) (by decide) dX12_apartWays_47 (eqP_E h)
    · replace h := ite_f hc7 h
      refine ev_iload_n dX12_apartWays_39 rfl ?_
      refine ev_iconst (v := (1 : Int32)) dX12_apartWays_40 (by decide) ?_
      refine ev_iadd dX12_apartWays_41 ?_
      refine ev_istore_n (loc' := [_, _, _, _]) dX12_apartWays_42 rfl (by decide) (by rfl) ?_
      refine ev_goto (tgt := 24) dX12_apartWays_43 (by decide) ?_
      exact ev_lt (ih _ _ _ _ h) ⟨rfl, ⟨rfl, ⟨rfl, ⟨rfl, trivial⟩⟩⟩⟩
def f_X12_apartWays_j22 (G : Nat)  (v1 v2 : Int32) (μ : Mem) : Option (Int32 × Mem) :=
  f_X12_apartWays_L24 G G v1 v2 (0 : Int32) μ
set_option maxHeartbeats 4000000 in
set_option maxRecDepth 100000 in
theorem f_X12_apartWays_j22_ok  {G : Nat} {r : Int32} {μr : Mem}    {v1 v2 : Int32} {μ : Mem} (h : f_X12_apartWays_j22 G v1 v2 μ = some (r, μr)) : Ev RX12 cX12_apartWays 4 (some .int) false 5 0 0 (eqP (some r) shR μr) 22 [some (.ref 0), some (.int v1), some (.int v2), none] [] shR μ 0 0 := by
  unfold f_X12_apartWays_j22 at h
  refine ev_iconst (v := (0 : Int32)) dX12_apartWays_22 (by decide) ?_
  refine ev_istore_n (loc' := [_, _, _, _]) dX12_apartWays_23 rfl (by decide) (by rfl) ?_
  exact ev_lt (f_X12_apartWays_L24_ok _ _ _ _ _ h) ⟨rfl, ⟨rfl, ⟨rfl, ⟨rfl, trivial⟩⟩⟩⟩
def f_X12_apartWays (G : Nat) (p1 p2 : Int32) (μ : Mem) : Option (Int32 × Mem) :=
  f_X12_apartWays_L2 G (f_X12_apartWays_j22 G) G p1 p2 (0 : Int32) μ
set_option maxHeartbeats 4000000 in
set_option maxRecDepth 100000 in
theorem c_X12_apartWays  {G : Nat} {μ : Mem} {p1 p2 : Int32} {r : Int32} {μr : Mem}  (h : f_X12_apartWays G p1 p2 μ = some (r, μr)) : Cn yX12_apartWays cX12_apartWays 4 (some .int) 5 0 0 [.ref 0, .int p1, .int p2] shR μ (eqP (some r) shR μr) := by
  refine cn_of (own := RX12) (ini := false) (loc := [some (.ref 0), some (.int p1), some (.int p2), none]) rfl (by decide) (fun q => by cases q) (Nat.le_of_ble_eq_true rfl) (by rfl) rfl ?_
  unfold f_X12_apartWays at h
  refine ev_iconst (v := (0 : Int32)) dX12_apartWays_0 (by decide) ?_
  refine ev_istore_n (loc' := [_, _, _, _]) dX12_apartWays_1 rfl (by decide) (by rfl) ?_
  exact ev_lt (f_X12_apartWays_L2_ok (fun _ _ _ hh => f_X12_apartWays_j22_ok hh) _ _ _ _ _ h) ⟨rfl, ⟨rfl, ⟨rfl, ⟨rfl, trivial⟩⟩⟩⟩
def f_X12_shortWay_j61 (G : Nat) (μ : Mem) (r7 : Int32 → Int32 → Int32 → Option Int32) (r32 : Int32 → Int32 → Int32 → Int32 → Int32 → Option Int32) (k32_67 : Int32 → Int32 → Int32 → Option Int32) (v2 v3 v4 v5 v6 : Int32) : Option Int32 :=
  r32 v2 v3 v4 v5 (v6 + (1 : Int32))
set_option maxHeartbeats 4000000 in
set_option maxRecDepth 100000 in
theorem f_X12_shortWay_j61_ok  {G : Nat} {μ : Mem} {r : Int32}  {r7 : Int32 → Int32 → Int32 → Option Int32} {r32 : Int32 → Int32 → Int32 → Int32 → Int32 → Option Int32} {k32_67 : Int32 → Int32 → Int32 → Option Int32} (hr7 : ∀ (v2 : Int32) (v3 : Int32) (v4 : Int32), r7 v2 v3 v4 = some r → Ev RX12 cX12_shortWay 7 (some .int) false 2 0 0 (eqP (some r) shR μ) 7 [some (.ref 0), none, some (.int v2), some (.int v3), some (.int v4), none, none] [] shR μ 0 0) (hr32 : ∀ (v2 : Int32) (v3 : Int32) (v4 : Int32) (v5 : Int32) (v6 : Int32), r32 v2 v3 v4 v5 v6 = some r → Ev RX12 cX12_shortWay 7 (some .int) false 2 0 0 (eqP (some r) shR μ) 32 [some (.ref 0), none, some (.int v2), some (.int v3), some (.int v4), some (.int v5), some (.int v6)] [] shR μ 0 0) (hk32_67 : ∀ (v2 : Int32) (v4 : Int32) (v5 : Int32), k32_67 v2 v4 v5 = some r → Ev RX12 cX12_shortWay 7 (some .int) false 2 0 0 (eqP (some r) shR μ) 67 [some (.ref 0), none, some (.int v2), none, some (.int v4), some (.int v5), none] [] shR μ 0 0) {v2 v3 v4 v5 v6 : Int32}  (h : f_X12_shortWay_j61 G μ r7 r32 k32_67 v2 v3 v4 v5 v6 = some r) : Ev RX12 cX12_shortWay 7 (some .int) false 2 0 0 (eqP (some r) shR μ) 61 [some (.ref 0), none, some (.int v2), some (.int v3), some (.int v4), some (.int v5), some (.int v6)] [] shR μ 0 0 := by
  unfold f_X12_shortWay_j61 at h
  refine ev_iinc (cq := (1 : Int32)) (loc' := [_, _, _, _, _, _, _]) dX12_shortWay_61 rfl (by decide) rfl (by decide) (by rfl) ?_
  refine ev_goto (tgt := 32) dX12_shortWay_64 (by decide) ?_
  exact ev_lt (hr32 _ _ _ _ _ h) ⟨rfl, ⟨rfl, ⟨rfl, ⟨rfl, ⟨rfl, ⟨rfl, trivial⟩⟩⟩⟩⟩⟩
def f_X12_shortWay_L32 (G : Nat) (μ : Mem) (r7 : Int32 → Int32 → Int32 → Option Int32) (k32_67 : Int32 → Int32 → Int32 → Option Int32) : Nat → Int32 → Int32 → Int32 → Int32 → Int32 → Option Int32
  | 0, _, _, _, _, _ => none
  | g + 1, v2, v3, v4, v5, v6 =>
  (if (10 : Int32) ≤ v6 then
  k32_67 v2 v4 v5
  else
  (if (f_X12_has v3 v6) = (0 : Int32) then
  f_X12_shortWay_j61 G μ r7 (f_X12_shortWay_L32 G μ r7 k32_67 g) k32_67 v2 v3 v4 v5 v6
  else
  chk v6 10 (f_X12_shortWay_j61 G μ r7 (f_X12_shortWay_L32 G μ r7 k32_67 g) k32_67 v2 v3 v4 (v5 ||| (μ 36 (ix v6))) v6)))
set_option maxHeartbeats 4000000 in
set_option maxRecDepth 100000 in
theorem f_X12_shortWay_L32_ok  {G : Nat} {μ : Mem} {r : Int32}  {r7 : Int32 → Int32 → Int32 → Option Int32} {k32_67 : Int32 → Int32 → Int32 → Option Int32} (hr7 : ∀ (v2 : Int32) (v3 : Int32) (v4 : Int32), r7 v2 v3 v4 = some r → Ev RX12 cX12_shortWay 7 (some .int) false 2 0 0 (eqP (some r) shR μ) 7 [some (.ref 0), none, some (.int v2), some (.int v3), some (.int v4), none, none] [] shR μ 0 0) (hk32_67 : ∀ (v2 : Int32) (v4 : Int32) (v5 : Int32), k32_67 v2 v4 v5 = some r → Ev RX12 cX12_shortWay 7 (some .int) false 2 0 0 (eqP (some r) shR μ) 67 [some (.ref 0), none, some (.int v2), none, some (.int v4), some (.int v5), none] [] shR μ 0 0) : ∀ (g : Nat) (v2 v3 v4 v5 v6 : Int32), f_X12_shortWay_L32 G μ r7 k32_67 g v2 v3 v4 v5 v6 = some r → Ev RX12 cX12_shortWay 7 (some .int) false 2 0 0 (eqP (some r) shR μ) 32 [some (.ref 0), none, some (.int v2), some (.int v3), some (.int v4), some (.int v5), some (.int v6)] [] shR μ 0 0 := by
  intro g
  induction g with
  | zero =>
    intro v2 v3 v4 v5 v6 h
    cases h
  | succ g ih =>
    intro v2 v3 v4 v5 v6 h
    rw [f_X12_shortWay_L32] at h
    refine ev_iload dX12_shortWay_32 rfl ?_
    refine ev_bipush (v := (10 : Int32)) dX12_shortWay_34 (by decide) ?_
    refine ev_icmp_ge (tgt := 67) dX12_shortWay_36 (by decide) (fun hc3 => ?_) (fun hc3 => ?_)
    · replace h := ite_t hc3 h
      exact ev_lt (hk32_67 _ _ _ h) ⟨rfl, ⟨rfl, ⟨rfl, ⟨rfl, trivial⟩⟩⟩⟩
    · replace h := ite_f hc3 h
      refine ev_aload_n dX12_shortWay_39 rfl ?_
      refine ev_iload_n dX12_shortWay_40 rfl ?_
      refine ev_iload dX12_shortWay_41 rfl ?_
      refine ev_cVi mv_X12_371 dX12_shortWay_43 c_X12_has rfl shR_0 rfl rfl (Nat.le_of_ble_eq_true rfl) (by rfl) (Nat.le_of_ble_eq_true rfl) (Nat.le_of_ble_eq_true rfl) (Nat.le_of_ble_eq_true rfl) ?_
      refine ev_if_eq (tgt := 61) dX12_shortWay_46 (by decide) (fun hc4 => ?_) (fun hc4 => ?_)
      · replace h := ite_t hc4 h
        exact ev_lt (f_X12_shortWay_j61_ok hr7 ih hk32_67 h) ⟨rfl, ⟨rfl, ⟨rfl, ⟨rfl, ⟨rfl, ⟨rfl, trivial⟩⟩⟩⟩⟩⟩
      · replace h := ite_f hc4 h
        refine ev_iload dX12_shortWay_49 rfl ?_
        refine ev_aload_n dX12_shortWay_51 rfl ?_
        refine ev_getR fr_X12_119 shR_0 rfl dX12_shortWay_52 ?_
        refine ev_iload dX12_shortWay_55 rfl ?_
        obtain ⟨hi5, h⟩ := chk_t h
        refine ev_iald shR_36 hi5 dX12_shortWay_57 ?_
        refine ev_ior dX12_shortWay_58 ?_
        refine ev_istore (loc' := [_, _, _, _, _, _, _]) dX12_shortWay_59 rfl (by decide) (by rfl) ?_
        exact ev_lt (f_X12_shortWay_j61_ok hr7 ih hk32_67 h) ⟨rfl, ⟨rfl, ⟨rfl, ⟨rfl, ⟨rfl, ⟨rfl, trivial⟩⟩⟩⟩⟩⟩
def f_X12_shortWay_j67 (G : Nat) (μ : Mem) (r7 : Int32 → Int32 → Int32 → Option Int32) (v2 v4 v5 : Int32) : Option Int32 :=
  r7 v2 v5 (v4 + (1 : Int32))
set_option maxHeartbeats 4000000 in
set_option maxRecDepth 100000 in
theorem f_X12_shortWay_j67_ok  {G : Nat} {μ : Mem} {r : Int32}  {r7 : Int32 → Int32 → Int32 → Option Int32} (hr7 : ∀ (v2 : Int32) (v3 : Int32) (v4 : Int32), r7 v2 v3 v4 = some r → Ev RX12 cX12_shortWay 7 (some .int) false 2 0 0 (eqP (some r) shR μ) 7 [some (.ref 0), none, some (.int v2), some (.int v3), some (.int v4), none, none] [] shR μ 0 0) {v2 v4 v5 : Int32}  (h : f_X12_shortWay_j67 G μ r7 v2 v4 v5 = some r) : Ev RX12 cX12_shortWay 7 (some .int) false 2 0 0 (eqP (some r) shR μ) 67 [some (.ref 0), none, some (.int v2), none, some (.int v4), some (.int v5), none] [] shR μ 0 0 := by
  unfold f_X12_shortWay_j67 at h
  refine ev_iload dX12_shortWay_67 rfl ?_
  refine ev_istore_n (loc' := [_, _, _, _, _, _, _]) dX12_shortWay_69 rfl (by decide) (by rfl) ?_
  refine ev_iinc (cq := (1 : Int32)) (loc' := [_, _, _, _, _, _, _]) dX12_shortWay_70 rfl (by decide) rfl (by decide) (by rfl) ?_
  refine ev_goto (tgt := 7) dX12_shortWay_73 (by decide) ?_
  exact ev_lt (hr7 _ _ _ h) ⟨rfl, ⟨rfl, ⟨rfl, ⟨rfl, trivial⟩⟩⟩⟩
def f_X12_shortWay_L7 (G : Nat) (μ : Mem)  : Nat → Int32 → Int32 → Int32 → Option Int32
  | 0, _, _, _ => none
  | g + 1, v2, v3, v4 =>
  (if (10 : Int32) ≤ v4 then
  some (-1 : Int32)
  else
  (if (f_X12_has v3 v2) = (0 : Int32) then
  f_X12_shortWay_L32 G μ (f_X12_shortWay_L7 G μ g) (f_X12_shortWay_j67 G μ (f_X12_shortWay_L7 G μ g)) G v2 v3 v4 v3 (0 : Int32)
  else
  some v4))
set_option maxHeartbeats 4000000 in
set_option maxRecDepth 100000 in
theorem f_X12_shortWay_L7_ok  {G : Nat} {μ : Mem} {r : Int32}    : ∀ (g : Nat) (v2 v3 v4 : Int32), f_X12_shortWay_L7 G μ g v2 v3 v4 = some r → Ev RX12 cX12_shortWay 7 (some .int) false 2 0 0 (eqP (some r) shR μ) 7 [some (.ref 0), none, some (.int v2), some (.int v3), some (.int v4), none, none] [] shR μ 0 0 := by
  intro g
  induction g with
  | zero =>
    intro v2 v3 v4 h
    cases h
  | succ g ih =>
    intro v2 v3 v4 h
    rw [f_X12_shortWay_L7] at h
    refine ev_iload dX12_shortWay_7 rfl ?_
    refine ev_bipush (v := (10 : Int32)) dX12_shortWay_9 (by decide) ?_
    refine ev_icmp_ge (tgt := 76) dX12_shortWay_11 (by decide) (fun hc1 => ?_) (fun hc1 => ?_)
    · replace h := ite_t hc1 h
      refine ev_iconst (v := (-1 : Int32)) dX12_shortWay_76 (by decide) ?_
      exact ev_iret rfl rfl (by decide) (by decide) dX12_shortWay_77 (eqP_O h)
    · replace h := ite_f hc1 h
      refine ev_aload_n dX12_shortWay_14 rfl ?_
      refine ev_iload_n dX12_shortWay_15 rfl ?_
      refine ev_iload_n dX12_shortWay_16 rfl ?_
      refine ev_cVi mv_X12_371 dX12_shortWay_17 c_X12_has rfl shR_0 rfl rfl (Nat.le_of_ble_eq_true rfl) (by rfl) (Nat.le_of_ble_eq_true rfl) (Nat.le_of_ble_eq_true rfl) (Nat.le_of_ble_eq_true rfl) ?_
      refine ev_if_eq (tgt := 26) dX12_shortWay_20 (by decide) (fun hc2 => ?_) (fun hc2 => ?_)
      · replace h := ite_t hc2 h
        refine ev_iload_n dX12_shortWay_26 rfl ?_
        refine ev_istore (loc' := [_, _, _, _, _, _, _]) dX12_shortWay_27 rfl (by decide) (by rfl) ?_
        refine ev_iconst (v := (0 : Int32)) dX12_shortWay_29 (by decide) ?_
        refine ev_istore (loc' := [_, _, _, _, _, _, _]) dX12_shortWay_30 rfl (by decide) (by rfl) ?_
        exact ev_lt (f_X12_shortWay_L32_ok ih (fun _ _ _ hh => f_X12_shortWay_j67_ok ih hh) _ _ _ _ _ _ h) ⟨rfl, ⟨rfl, ⟨rfl, ⟨rfl, ⟨rfl, ⟨rfl, trivial⟩⟩⟩⟩⟩⟩
      · replace h := ite_f hc2 h
        refine ev_iload dX12_shortWay_23 rfl ?_
        exact ev_iret rfl rfl (by decide) (by decide) dX12_shortWay_25 (eqP_O h)
def f_X12_shortWay (G : Nat) (μ : Mem) (p1 p2 : Int32) : Option Int32 :=
  f_X12_shortWay_L7 G μ G p2 (sl (1 : Int32) p1) (0 : Int32)
set_option maxHeartbeats 4000000 in
set_option maxRecDepth 100000 in
theorem c_X12_shortWay  {G : Nat} {μ : Mem}  {p1 p2 : Int32} {r : Int32}  (h : f_X12_shortWay G μ p1 p2 = some r) : Cn yX12_shortWay cX12_shortWay 7 (some .int) 2 0 0 [.ref 0, .int p1, .int p2] shR μ (eqP (some r) shR μ) := by
  refine cn_of (own := RX12) (ini := false) (loc := [some (.ref 0), some (.int p1), some (.int p2), none, none, none, none]) rfl (by decide) (fun q => by cases q) (Nat.le_of_ble_eq_true rfl) (by rfl) rfl ?_
  unfold f_X12_shortWay at h
  refine ev_iconst (v := (1 : Int32)) dX12_shortWay_0 (by decide) ?_
  refine ev_iload_n dX12_shortWay_1 rfl ?_
  refine ev_ishl dX12_shortWay_2 ?_
  refine ev_istore_n (loc' := [_, _, _, _, _, _, _]) dX12_shortWay_3 rfl (by decide) (by rfl) ?_
  refine ev_iconst (v := (0 : Int32)) dX12_shortWay_4 (by decide) ?_
  refine ev_istore (loc' := [_, _, _, _, _, _, _]) dX12_shortWay_5 rfl (by decide) (by rfl) ?_
  exact ev_lt (f_X12_shortWay_L7_ok _ _ _ _ h) ⟨rfl, ⟨rfl, ⟨rfl, ⟨rfl, trivial⟩⟩⟩⟩
def f_X12_ways (G : Nat) (p1 p2 p3 : Int32) (μ : Mem) : Option (Int32 × Mem) :=
  (let m1 := wr μ 0 0 (0 : Int32)
  (if (f_X12_isIn p1 (0 : Int32) (9 : Int32)) = (0 : Int32) then
  some ((-1 : Int32), m1)
  else
  (if (f_X12_isIn p2 (0 : Int32) (9 : Int32)) = (0 : Int32) then
  some ((-1 : Int32), m1)
  else
  (if p1 = p2 then
  some ((-1 : Int32), m1)
  else
  (if (f_X12_isIn p3 (0 : Int32) (1 : Int32)) = (0 : Int32) then
  some ((-1 : Int32), m1)
  else
  (if p3 = (0 : Int32) then
  bndE (f_X12_apartWays G p1 p2 m1) (fun w11 m10 =>
  some (w11, m10))
  else
  bndO (f_X12_shortWay G m1 p1 p2) (fun w8 =>
  some (w8, m1))))))))
set_option maxHeartbeats 4000000 in
set_option maxRecDepth 100000 in
theorem c_X12_ways  {G : Nat} {μ : Mem} {p1 p2 p3 : Int32} {r : Int32} {μr : Mem}  (h : f_X12_ways G p1 p2 p3 μ = some (r, μr)) : Cn yX12_ways cX12_ways 4 (some .int) 6 0 0 [.ref 0, .int p1, .int p2, .int p3] shR μ (eqP (some r) shR μr) := by
  refine cn_of (own := RX12) (ini := false) (loc := [some (.ref 0), some (.int p1), some (.int p2), some (.int p3)]) rfl (by decide) (fun q => by cases q) (Nat.le_of_ble_eq_true rfl) (by rfl) rfl ?_
  unfold f_X12_ways at h
  refine ev_aload_n dX12_ways_0 rfl ?_
  refine ev_iconst (v := (0 : Int32)) dX12_ways_1 (by decide) ?_
  refine ev_putI fr_X12_149 shR_0 rfl rfl rfl dX12_ways_2 ?_
  refine ev_aload_n dX12_ways_5 rfl ?_
  refine ev_iload_n dX12_ways_6 rfl ?_
  refine ev_iconst (v := (0 : Int32)) dX12_ways_7 (by decide) ?_
  refine ev_bipush (v := (9 : Int32)) dX12_ways_8 (by decide) ?_
  refine ev_cVi mv_X12_167 dX12_ways_10 c_X12_isIn rfl shR_0 rfl rfl (Nat.le_of_ble_eq_true rfl) (by rfl) (Nat.le_of_ble_eq_true rfl) (Nat.le_of_ble_eq_true rfl) (Nat.le_of_ble_eq_true rfl) ?_
  refine ev_if_eq (tgt := 42) dX12_ways_13 (by decide) (fun hc2 => ?_) (fun hc2 => ?_)
  · replace h := ite_t hc2 h
    refine ev_iconst (v := (-1 : Int32)) dX12_ways_42 (by decide) ?_
    exact ev_iret rfl rfl (by decide) (by decide) dX12_ways_43 (eqP_E h)
  · replace h := ite_f hc2 h
    refine ev_aload_n dX12_ways_16 rfl ?_
    refine ev_iload_n dX12_ways_17 rfl ?_
    refine ev_iconst (v := (0 : Int32)) dX12_ways_18 (by decide) ?_
    refine ev_bipush (v := (9 : Int32)) dX12_ways_19 (by decide) ?_
    refine ev_cVi mv_X12_167 dX12_ways_21 c_X12_isIn rfl shR_0 rfl rfl (Nat.le_of_ble_eq_true rfl) (by rfl) (Nat.le_of_ble_eq_true rfl) (Nat.le_of_ble_eq_true rfl) (Nat.le_of_ble_eq_true rfl) ?_
    refine ev_if_eq (tgt := 42) dX12_ways_24 (by decide) (fun hc3 => ?_) (fun hc3 => ?_)
    · replace h := ite_t hc3 h
      refine ev_iconst (v := (-1 : Int32)) dX12_ways_42 (by decide) ?_
      exact ev_iret rfl rfl (by decide) (by decide) dX12_ways_43 (eqP_E h)
    · replace h := ite_f hc3 h
      refine ev_iload_n dX12_ways_27 rfl ?_
      refine ev_iload_n dX12_ways_28 rfl ?_
      refine ev_icmp_eq (tgt := 42) dX12_ways_29 (by decide) (fun hc4 => ?_) (fun hc4 => ?_)
      · replace h := ite_t hc4 h
        refine ev_iconst (v := (-1 : Int32)) dX12_ways_42 (by decide) ?_
        exact ev_iret rfl rfl (by decide) (by decide) dX12_ways_43 (eqP_E h)
      · replace h := ite_f hc4 h
        refine ev_aload_n dX12_ways_32 rfl ?_
        refine ev_iload_n dX12_ways_33 rfl ?_
        refine ev_iconst (v := (0 : Int32)) dX12_ways_34 (by decide) ?_
        refine ev_iconst (v := (1 : Int32)) dX12_ways_35 (by decide) ?_
        refine ev_cVi mv_X12_167 dX12_ways_36 c_X12_isIn rfl shR_0 rfl rfl (Nat.le_of_ble_eq_true rfl) (by rfl) (Nat.le_of_ble_eq_true rfl) (Nat.le_of_ble_eq_true rfl) (Nat.le_of_ble_eq_true rfl) ?_
        refine ev_if_ne (tgt := 44) dX12_ways_39 (by decide) (fun hc5 => ?_) (fun hc5 => ?_)
        · replace h := ite_f hc5 h
          refine ev_iload_n dX12_ways_44 rfl ?_
          refine ev_if_ne (tgt := 57) dX12_ways_45 (by decide) (fun hc6 => ?_) (fun hc6 => ?_)
          · replace h := ite_f hc6 h
            refine ev_aload_n dX12_ways_57 rfl ?_
            refine ev_iload_n dX12_ways_58 rfl ?_
            refine ev_iload_n dX12_ways_59 rfl ?_
            obtain ⟨w8, hq7, h⟩ := bndO_t h
            refine ev_cVi mv_X12_498 dX12_ways_60 (c_X12_shortWay hq7) rfl shR_0 rfl rfl (Nat.le_of_ble_eq_true rfl) (by rfl) (Nat.le_of_ble_eq_true rfl) (Nat.le_of_ble_eq_true rfl) (Nat.le_of_ble_eq_true rfl) ?_
            exact ev_iret rfl rfl (by decide) (by decide) dX12_ways_63 (eqP_E h)
          · replace h := ite_t hc6 h
            refine ev_aload_n dX12_ways_48 rfl ?_
            refine ev_iload_n dX12_ways_49 rfl ?_
            refine ev_iload_n dX12_ways_50 rfl ?_
            obtain ⟨w11, m10, hq9, h⟩ := bndE_t h
            refine ev_cVi mv_X12_495 dX12_ways_51 (c_X12_apartWays hq9) rfl shR_0 rfl rfl (Nat.le_of_ble_eq_true rfl) (by rfl) (Nat.le_of_ble_eq_true rfl) (Nat.le_of_ble_eq_true rfl) (Nat.le_of_ble_eq_true rfl) ?_
            refine ev_goto (tgt := 63) dX12_ways_54 (by decide) ?_
            exact ev_iret rfl rfl (by decide) (by decide) dX12_ways_63 (eqP_E h)
        · replace h := ite_t hc5 h
          refine ev_iconst (v := (-1 : Int32)) dX12_ways_42 (by decide) ?_
          exact ev_iret rfl rfl (by decide) (by decide) dX12_ways_43 (eqP_E h)
def f_X12_kinOf_j30 (G : Nat) (μ : Mem) (r4 : Int32 → Int32 → Int32 → Option Int32) (v1 v2 v3 : Int32) : Option Int32 :=
  r4 v1 v2 (v3 + (1 : Int32))
set_option maxHeartbeats 4000000 in
set_option maxRecDepth 100000 in
theorem f_X12_kinOf_j30_ok  {G : Nat} {μ : Mem} {r : Int32}  {r4 : Int32 → Int32 → Int32 → Option Int32} (hr4 : ∀ (v1 : Int32) (v2 : Int32) (v3 : Int32), r4 v1 v2 v3 = some r → Ev RX12 cX12_kinOf 4 (some .int) false 2 0 0 (eqP (some r) shR μ) 4 [some (.ref 0), some (.int v1), some (.int v2), some (.int v3)] [] shR μ 0 0) {v1 v2 v3 : Int32}  (h : f_X12_kinOf_j30 G μ r4 v1 v2 v3 = some r) : Ev RX12 cX12_kinOf 4 (some .int) false 2 0 0 (eqP (some r) shR μ) 30 [some (.ref 0), some (.int v1), some (.int v2), some (.int v3)] [] shR μ 0 0 := by
  unfold f_X12_kinOf_j30 at h
  refine ev_iinc (cq := (1 : Int32)) (loc' := [_, _, _, _]) dX12_kinOf_30 rfl (by decide) rfl (by decide) (by rfl) ?_
  refine ev_goto (tgt := 4) dX12_kinOf_33 (by decide) ?_
  exact ev_lt (hr4 _ _ _ h) ⟨rfl, ⟨rfl, ⟨rfl, ⟨rfl, trivial⟩⟩⟩⟩
def f_X12_kinOf_L4 (G : Nat) (μ : Mem)  : Nat → Int32 → Int32 → Int32 → Option Int32
  | 0, _, _, _ => none
  | g + 1, v1, v2, v3 =>
  (if (μ 0 6) ≤ v3 then
  some v2
  else
  (if (f_X12_has v1 v3) = (0 : Int32) then
  f_X12_kinOf_j30 G μ (f_X12_kinOf_L4 G μ g) v1 v2 v3
  else
  chk v3 24 (f_X12_kinOf_j30 G μ (f_X12_kinOf_L4 G μ g) v1 (v2 ||| (μ 22 (ix v3))) v3)))
set_option maxHeartbeats 4000000 in
set_option maxRecDepth 100000 in
theorem f_X12_kinOf_L4_ok  {G : Nat} {μ : Mem} {r : Int32}    : ∀ (g : Nat) (v1 v2 v3 : Int32), f_X12_kinOf_L4 G μ g v1 v2 v3 = some r → Ev RX12 cX12_kinOf 4 (some .int) false 2 0 0 (eqP (some r) shR μ) 4 [some (.ref 0), some (.int v1), some (.int v2), some (.int v3)] [] shR μ 0 0 := by
  intro g
  induction g with
  | zero =>
    intro v1 v2 v3 h
    cases h
  | succ g ih =>
    intro v1 v2 v3 h
    rw [f_X12_kinOf_L4] at h
    refine ev_iload_n dX12_kinOf_4 rfl ?_
    refine ev_aload_n dX12_kinOf_5 rfl ?_
    refine ev_getI fr_X12_161 shR_0 rfl dX12_kinOf_6 ?_
    refine ev_icmp_ge (tgt := 36) dX12_kinOf_9 (by decide) (fun hc1 => ?_) (fun hc1 => ?_)
    · replace h := ite_t hc1 h
      refine ev_iload_n dX12_kinOf_36 rfl ?_
      exact ev_iret rfl rfl (by decide) (by decide) dX12_kinOf_37 (eqP_O h)
    · replace h := ite_f hc1 h
      refine ev_aload_n dX12_kinOf_12 rfl ?_
      refine ev_iload_n dX12_kinOf_13 rfl ?_
      refine ev_iload_n dX12_kinOf_14 rfl ?_
      refine ev_cVi mv_X12_371 dX12_kinOf_15 c_X12_has rfl shR_0 rfl rfl (Nat.le_of_ble_eq_true rfl) (by rfl) (Nat.le_of_ble_eq_true rfl) (Nat.le_of_ble_eq_true rfl) (Nat.le_of_ble_eq_true rfl) ?_
      refine ev_if_eq (tgt := 30) dX12_kinOf_18 (by decide) (fun hc2 => ?_) (fun hc2 => ?_)
      · replace h := ite_t hc2 h
        exact ev_lt (f_X12_kinOf_j30_ok ih h) ⟨rfl, ⟨rfl, ⟨rfl, ⟨rfl, trivial⟩⟩⟩⟩
      · replace h := ite_f hc2 h
        refine ev_iload_n dX12_kinOf_21 rfl ?_
        refine ev_aload_n dX12_kinOf_22 rfl ?_
        refine ev_getR fr_X12_77 shR_0 rfl dX12_kinOf_23 ?_
        refine ev_iload_n dX12_kinOf_26 rfl ?_
        obtain ⟨hi3, h⟩ := chk_t h
        refine ev_iald shR_22 hi3 dX12_kinOf_27 ?_
        refine ev_ior dX12_kinOf_28 ?_
        refine ev_istore_n (loc' := [_, _, _, _]) dX12_kinOf_29 rfl (by decide) (by rfl) ?_
        exact ev_lt (f_X12_kinOf_j30_ok ih h) ⟨rfl, ⟨rfl, ⟨rfl, ⟨rfl, trivial⟩⟩⟩⟩
def f_X12_kinOf (G : Nat) (μ : Mem) (p1 : Int32) : Option Int32 :=
  f_X12_kinOf_L4 G μ G p1 p1 (0 : Int32)
set_option maxHeartbeats 4000000 in
set_option maxRecDepth 100000 in
theorem c_X12_kinOf  {G : Nat} {μ : Mem}  {p1 : Int32} {r : Int32}  (h : f_X12_kinOf G μ p1 = some r) : Cn yX12_kinOf cX12_kinOf 4 (some .int) 2 0 0 [.ref 0, .int p1] shR μ (eqP (some r) shR μ) := by
  refine cn_of (own := RX12) (ini := false) (loc := [some (.ref 0), some (.int p1), none, none]) rfl (by decide) (fun q => by cases q) (Nat.le_of_ble_eq_true rfl) (by rfl) rfl ?_
  unfold f_X12_kinOf at h
  refine ev_iload_n dX12_kinOf_0 rfl ?_
  refine ev_istore_n (loc' := [_, _, _, _]) dX12_kinOf_1 rfl (by decide) (by rfl) ?_
  refine ev_iconst (v := (0 : Int32)) dX12_kinOf_2 (by decide) ?_
  refine ev_istore_n (loc' := [_, _, _, _]) dX12_kinOf_3 rfl (by decide) (by rfl) ?_
  exact ev_lt (f_X12_kinOf_L4_ok _ _ _ _ h) ⟨rfl, ⟨rfl, ⟨rfl, ⟨rfl, trivial⟩⟩⟩⟩
def f_X12_kin_L30 (G : Nat)  : Nat → Int32 → Int32 → Int32 → Mem → Option (Int32 × Mem)
  | 0, _, _, _, _ => none
  | g + 1, v2, v3, v4, μ =>
  (if (12 : Int32) ≤ v4 then
  some ((-1 : Int32), μ)
  else
  (if (f_X12_has v3 v2) = (0 : Int32) then
  bndO (f_X12_kinOf G μ v3) (fun w7 =>
  (f_X12_kin_L30 G g) v2 w7 (v4 + (1 : Int32)) μ)
  else
  some (v4, μ)))
set_option maxHeartbeats 4000000 in
set_option maxRecDepth 100000 in
theorem f_X12_kin_L30_ok  {G : Nat} {r : Int32} {μr : Mem}    : ∀ (g : Nat) (v2 v3 v4 : Int32) (μ : Mem), f_X12_kin_L30 G g v2 v3 v4 μ = some (r, μr) → Ev RX12 cX12_kin 5 (some .int) false 3 0 0 (eqP (some r) shR μr) 30 [some (.ref 0), none, some (.int v2), some (.int v3), some (.int v4)] [] shR μ 0 0 := by
  intro g
  induction g with
  | zero =>
    intro v2 v3 v4 μ h
    cases h
  | succ g ih =>
    intro v2 v3 v4 μ h
    rw [f_X12_kin_L30] at h
    refine ev_iload dX12_kin_30 rfl ?_
    refine ev_bipush (v := (12 : Int32)) dX12_kin_32 (by decide) ?_
    refine ev_icmp_ge (tgt := 61) dX12_kin_34 (by decide) (fun hc4 => ?_) (fun hc4 => ?_)
    · replace h := ite_t hc4 h
      refine ev_iconst (v := (-1 : Int32)) dX12_kin_61 (by decide) ?_
      exact ev_iret rfl rfl (by decide) (by decide) dX12_kin_62 (eqP_E h)
    · replace h := ite_f hc4 h
      refine ev_aload_n dX12_kin_37 rfl ?_
      refine ev_iload_n dX12_kin_38 rfl ?_
      refine ev_iload_n dX12_kin_39 rfl ?_
      refine ev_cVi mv_X12_371 dX12_kin_40 c_X12_has rfl shR_0 rfl rfl (Nat.le_of_ble_eq_true rfl) (by rfl) (Nat.le_of_ble_eq_true rfl) (Nat.le_of_ble_eq_true rfl) (Nat.le_of_ble_eq_true rfl) ?_
      refine ev_if_eq (tgt := 49) dX12_kin_43 (by decide) (fun hc5 => ?_) (fun hc5 => ?_)
      · replace h := ite_t hc5 h
        refine ev_aload_n dX12_kin_49 rfl ?_
        refine ev_iload_n dX12_kin_50 rfl ?_
        obtain ⟨w7, hq6, h⟩ := bndO_t h
        refine ev_cVi mv_X12_501 dX12_kin_51 (c_X12_kinOf hq6) rfl shR_0 rfl rfl (Nat.le_of_ble_eq_true rfl) (by rfl) (Nat.le_of_ble_eq_true rfl) (Nat.le_of_ble_eq_true rfl) (Nat.le_of_ble_eq_true rfl) ?_
        refine ev_istore_n (loc' := [_, _, _, _, _]) dX12_kin_54 rfl (by decide) (by rfl) ?_
        refine ev_iinc (cq := (1 : Int32)) (loc' := [_, _, _, _, _]) dX12_kin_55 rfl (by decide) rfl (by decide) (by rfl) ?_
        refine ev_goto (tgt := 30) dX12_kin_58 (by decide) ?_
        exact ev_lt (ih _ _ _ _ h) ⟨rfl, ⟨rfl, ⟨rfl, ⟨rfl, trivial⟩⟩⟩⟩
      · replace h := ite_f hc5 h
        refine ev_iload dX12_kin_46 rfl ?_
        exact ev_iret rfl rfl (by decide) (by decide) dX12_kin_48 (eqP_E h)
def f_X12_kin (G : Nat) (p1 p2 : Int32) (μ : Mem) : Option (Int32 × Mem) :=
  (let m1 := wr μ 0 0 (0 : Int32)
  (if (f_X12_isWoman m1 p1) = (0 : Int32) then
  some ((-1 : Int32), m1)
  else
  (if (f_X12_isWoman m1 p2) = (0 : Int32) then
  some ((-1 : Int32), m1)
  else
  f_X12_kin_L30 G G p2 (sl (1 : Int32) p1) (0 : Int32) m1)))
set_option maxHeartbeats 4000000 in
set_option maxRecDepth 100000 in
theorem c_X12_kin  {G : Nat} {μ : Mem} {p1 p2 : Int32} {r : Int32} {μr : Mem}  (h : f_X12_kin G p1 p2 μ = some (r, μr)) : Cn yX12_kin cX12_kin 5 (some .int) 3 0 0 [.ref 0, .int p1, .int p2] shR μ (eqP (some r) shR μr) := by
  refine cn_of (own := RX12) (ini := false) (loc := [some (.ref 0), some (.int p1), some (.int p2), none, none]) rfl (by decide) (fun q => by cases q) (Nat.le_of_ble_eq_true rfl) (by rfl) rfl ?_
  unfold f_X12_kin at h
  refine ev_aload_n dX12_kin_0 rfl ?_
  refine ev_iconst (v := (0 : Int32)) dX12_kin_1 (by decide) ?_
  refine ev_putI fr_X12_149 shR_0 rfl rfl rfl dX12_kin_2 ?_
  refine ev_aload_n dX12_kin_5 rfl ?_
  refine ev_iload_n dX12_kin_6 rfl ?_
  refine ev_cVi mv_X12_171 dX12_kin_7 c_X12_isWoman rfl shR_0 rfl rfl (Nat.le_of_ble_eq_true rfl) (by rfl) (Nat.le_of_ble_eq_true rfl) (Nat.le_of_ble_eq_true rfl) (Nat.le_of_ble_eq_true rfl) ?_
  refine ev_if_eq (tgt := 21) dX12_kin_10 (by decide) (fun hc2 => ?_) (fun hc2 => ?_)
  · replace h := ite_t hc2 h
    refine ev_iconst (v := (-1 : Int32)) dX12_kin_21 (by decide) ?_
    exact ev_iret rfl rfl (by decide) (by decide) dX12_kin_22 (eqP_E h)
  · replace h := ite_f hc2 h
    refine ev_aload_n dX12_kin_13 rfl ?_
    refine ev_iload_n dX12_kin_14 rfl ?_
    refine ev_cVi mv_X12_171 dX12_kin_15 c_X12_isWoman rfl shR_0 rfl rfl (Nat.le_of_ble_eq_true rfl) (by rfl) (Nat.le_of_ble_eq_true rfl) (Nat.le_of_ble_eq_true rfl) (Nat.le_of_ble_eq_true rfl) ?_
    refine ev_if_ne (tgt := 23) dX12_kin_18 (by decide) (fun hc3 => ?_) (fun hc3 => ?_)
    · replace h := ite_f hc3 h
      refine ev_iconst (v := (1 : Int32)) dX12_kin_23 (by decide) ?_
      refine ev_iload_n dX12_kin_24 rfl ?_
      refine ev_ishl dX12_kin_25 ?_
      refine ev_istore_n (loc' := [_, _, _, _, _]) dX12_kin_26 rfl (by decide) (by rfl) ?_
      refine ev_iconst (v := (0 : Int32)) dX12_kin_27 (by decide) ?_
      refine ev_istore (loc' := [_, _, _, _, _]) dX12_kin_28 rfl (by decide) (by rfl) ?_
      exact ev_lt (f_X12_kin_L30_ok _ _ _ _ _ h) ⟨rfl, ⟨rfl, ⟨rfl, ⟨rfl, trivial⟩⟩⟩⟩
    · replace h := ite_t hc3 h
      refine ev_iconst (v := (-1 : Int32)) dX12_kin_21 (by decide) ?_
      exact ev_iret rfl rfl (by decide) (by decide) dX12_kin_22 (eqP_E h)
def f_X12_groupOf_L6 (G : Nat) (μ : Mem)  : Nat → Int32 → Int32 → Option Int32
  | 0, _, _ => none
  | g + 1, v2, v3 =>
  (if (12 : Int32) ≤ v3 then
  some v2
  else
  bndO (f_X12_kinOf G μ v2) (fun w3 =>
  (f_X12_groupOf_L6 G μ g) w3 (v3 + (1 : Int32))))
set_option maxHeartbeats 4000000 in
set_option maxRecDepth 100000 in
theorem f_X12_groupOf_L6_ok  {G : Nat} {μ : Mem} {r : Int32}    : ∀ (g : Nat) (v2 v3 : Int32), f_X12_groupOf_L6 G μ g v2 v3 = some r → Ev RX12 cX12_groupOf 4 (some .int) false 3 0 0 (eqP (some r) shR μ) 6 [some (.ref 0), none, some (.int v2), some (.int v3)] [] shR μ 0 0 := by
  intro g
  induction g with
  | zero =>
    intro v2 v3 h
    cases h
  | succ g ih =>
    intro v2 v3 h
    rw [f_X12_groupOf_L6] at h
    refine ev_iload_n dX12_groupOf_6 rfl ?_
    refine ev_bipush (v := (12 : Int32)) dX12_groupOf_7 (by decide) ?_
    refine ev_icmp_ge (tgt := 24) dX12_groupOf_9 (by decide) (fun hc1 => ?_) (fun hc1 => ?_)
    · replace h := ite_t hc1 h
      refine ev_iload_n dX12_groupOf_24 rfl ?_
      exact ev_iret rfl rfl (by decide) (by decide) dX12_groupOf_25 (eqP_O h)
    · replace h := ite_f hc1 h
      refine ev_aload_n dX12_groupOf_12 rfl ?_
      refine ev_iload_n dX12_groupOf_13 rfl ?_
      obtain ⟨w3, hq2, h⟩ := bndO_t h
      refine ev_cVi mv_X12_501 dX12_groupOf_14 (c_X12_kinOf hq2) rfl shR_0 rfl rfl (Nat.le_of_ble_eq_true rfl) (by rfl) (Nat.le_of_ble_eq_true rfl) (Nat.le_of_ble_eq_true rfl) (Nat.le_of_ble_eq_true rfl) ?_
      refine ev_istore_n (loc' := [_, _, _, _]) dX12_groupOf_17 rfl (by decide) (by rfl) ?_
      refine ev_iinc (cq := (1 : Int32)) (loc' := [_, _, _, _]) dX12_groupOf_18 rfl (by decide) rfl (by decide) (by rfl) ?_
      refine ev_goto (tgt := 6) dX12_groupOf_21 (by decide) ?_
      exact ev_lt (ih _ _ h) ⟨rfl, ⟨rfl, ⟨rfl, trivial⟩⟩⟩
def f_X12_groupOf (G : Nat) (μ : Mem) (p1 : Int32) : Option Int32 :=
  f_X12_groupOf_L6 G μ G (sl (1 : Int32) p1) (0 : Int32)
set_option maxHeartbeats 4000000 in
set_option maxRecDepth 100000 in
theorem c_X12_groupOf  {G : Nat} {μ : Mem}  {p1 : Int32} {r : Int32}  (h : f_X12_groupOf G μ p1 = some r) : Cn yX12_groupOf cX12_groupOf 4 (some .int) 3 0 0 [.ref 0, .int p1] shR μ (eqP (some r) shR μ) := by
  refine cn_of (own := RX12) (ini := false) (loc := [some (.ref 0), some (.int p1), none, none]) rfl (by decide) (fun q => by cases q) (Nat.le_of_ble_eq_true rfl) (by rfl) rfl ?_
  unfold f_X12_groupOf at h
  refine ev_iconst (v := (1 : Int32)) dX12_groupOf_0 (by decide) ?_
  refine ev_iload_n dX12_groupOf_1 rfl ?_
  refine ev_ishl dX12_groupOf_2 ?_
  refine ev_istore_n (loc' := [_, _, _, _]) dX12_groupOf_3 rfl (by decide) (by rfl) ?_
  refine ev_iconst (v := (0 : Int32)) dX12_groupOf_4 (by decide) ?_
  refine ev_istore_n (loc' := [_, _, _, _]) dX12_groupOf_5 rfl (by decide) (by rfl) ?_
  exact ev_lt (f_X12_groupOf_L6_ok _ _ _ h) ⟨rfl, ⟨rfl, ⟨rfl, trivial⟩⟩⟩
def f_X12_groups_j85 (G : Nat) (r27 : Int32 → Int32 → Int32 → Int32 → Int32 → Mem → Option (Int32 × Mem)) (k27_91 : Int32 → Int32 → Int32 → Mem → Option (Int32 × Mem)) (v1 v2 v3 v4 v5 : Int32) (μ : Mem) : Option (Int32 × Mem) :=
  r27 v1 v2 v3 v4 (v5 + (1 : Int32)) μ
set_option maxHeartbeats 4000000 in
set_option maxRecDepth 100000 in
theorem f_X12_groups_j85_ok  {G : Nat} {r : Int32} {μr : Mem}  {r27 : Int32 → Int32 → Int32 → Int32 → Int32 → Mem → Option (Int32 × Mem)} {k27_91 : Int32 → Int32 → Int32 → Mem → Option (Int32 × Mem)} (hr27 : ∀ (v1 : Int32) (v2 : Int32) (v3 : Int32) (v4 : Int32) (v5 : Int32) (m : Mem), r27 v1 v2 v3 v4 v5 m = some (r, μr) → Ev RX12 cX12_groups 7 (some .int) false 4 0 0 (eqP (some r) shR μr) 27 [some (.ref 0), some (.int v1), some (.int v2), some (.int v3), some (.int v4), some (.int v5), none] [] shR m 0 0) (hk27_91 : ∀ (v1 : Int32) (v3 : Int32) (v4 : Int32) (m : Mem), k27_91 v1 v3 v4 m = some (r, μr) → Ev RX12 cX12_groups 7 (some .int) false 4 0 0 (eqP (some r) shR μr) 91 [none, some (.int v1), none, some (.int v3), some (.int v4), none, none] [] shR m 0 0) {v1 v2 v3 v4 v5 : Int32} {μ : Mem} (h : f_X12_groups_j85 G r27 k27_91 v1 v2 v3 v4 v5 μ = some (r, μr)) : Ev RX12 cX12_groups 7 (some .int) false 4 0 0 (eqP (some r) shR μr) 85 [some (.ref 0), some (.int v1), some (.int v2), some (.int v3), some (.int v4), some (.int v5), none] [] shR μ 0 0 := by
  unfold f_X12_groups_j85 at h
  refine ev_iinc (cq := (1 : Int32)) (loc' := [_, _, _, _, _, _, _]) dX12_groups_85 rfl (by decide) rfl (by decide) (by rfl) ?_
  refine ev_goto (tgt := 27) dX12_groups_88 (by decide) ?_
  exact ev_lt (hr27 _ _ _ _ _ _ h) ⟨rfl, ⟨rfl, ⟨rfl, ⟨rfl, ⟨rfl, ⟨rfl, trivial⟩⟩⟩⟩⟩⟩
def f_X12_groups_L27 (G : Nat) (k27_91 : Int32 → Int32 → Int32 → Mem → Option (Int32 × Mem)) : Nat → Int32 → Int32 → Int32 → Int32 → Int32 → Mem → Option (Int32 × Mem)
  | 0, _, _, _, _, _, _ => none
  | g + 1, v1, v2, v3, v4, v5, μ =>
  (if (μ 0 6) ≤ v5 then
  k27_91 v1 v3 v4 μ
  else
  (if (f_X12_has v2 v5) = (0 : Int32) then
  bndO (f_X12_groupOf G μ v5) (fun w6 =>
  bndO (f_X12_onesOf G μ w6) (fun w8 =>
  bndO (f_X12_onesOf G μ v4) (fun w10 =>
  (if w8 ≤ w10 then
  f_X12_groups_j85 G (f_X12_groups_L27 G k27_91 g) k27_91 v1 (v2 ||| w6) (v3 + (1 : Int32)) v4 v5 μ
  else
  f_X12_groups_j85 G (f_X12_groups_L27 G k27_91 g) k27_91 v1 (v2 ||| w6) (v3 + (1 : Int32)) w6 v5 μ))))
  else
  f_X12_groups_j85 G (f_X12_groups_L27 G k27_91 g) k27_91 v1 v2 v3 v4 v5 μ))
set_option maxHeartbeats 4000000 in
set_option maxRecDepth 100000 in
theorem f_X12_groups_L27_ok  {G : Nat} {r : Int32} {μr : Mem}  {k27_91 : Int32 → Int32 → Int32 → Mem → Option (Int32 × Mem)} (hk27_91 : ∀ (v1 : Int32) (v3 : Int32) (v4 : Int32) (m : Mem), k27_91 v1 v3 v4 m = some (r, μr) → Ev RX12 cX12_groups 7 (some .int) false 4 0 0 (eqP (some r) shR μr) 91 [none, some (.int v1), none, some (.int v3), some (.int v4), none, none] [] shR m 0 0) : ∀ (g : Nat) (v1 v2 v3 v4 v5 : Int32) (μ : Mem), f_X12_groups_L27 G k27_91 g v1 v2 v3 v4 v5 μ = some (r, μr) → Ev RX12 cX12_groups 7 (some .int) false 4 0 0 (eqP (some r) shR μr) 27 [some (.ref 0), some (.int v1), some (.int v2), some (.int v3), some (.int v4), some (.int v5), none] [] shR μ 0 0 := by
  intro g
  induction g with
  | zero =>
    intro v1 v2 v3 v4 v5 μ h
    cases h
  | succ g ih =>
    intro v1 v2 v3 v4 v5 μ h
    rw [f_X12_groups_L27] at h
    refine ev_iload dX12_groups_27 rfl ?_
    refine ev_aload_n dX12_groups_29 rfl ?_
    refine ev_getI fr_X12_161 shR_0 rfl dX12_groups_30 ?_
    refine ev_icmp_ge (tgt := 91) dX12_groups_33 (by decide) (fun hc3 => ?_) (fun hc3 => ?_)
    · replace h := ite_t hc3 h
      exact ev_lt (hk27_91 _ _ _ _ h) ⟨rfl, ⟨rfl, ⟨rfl, trivial⟩⟩⟩
    · replace h := ite_f hc3 h
      refine ev_aload_n dX12_groups_36 rfl ?_
      refine ev_iload_n dX12_groups_37 rfl ?_
      refine ev_iload dX12_groups_38 rfl ?_
      refine ev_cVi mv_X12_371 dX12_groups_40 c_X12_has rfl shR_0 rfl rfl (Nat.le_of_ble_eq_true rfl) (by rfl) (Nat.le_of_ble_eq_true rfl) (Nat.le_of_ble_eq_true rfl) (Nat.le_of_ble_eq_true rfl) ?_
      refine ev_if_eq (tgt := 49) dX12_groups_43 (by decide) (fun hc4 => ?_) (fun hc4 => ?_)
      · replace h := ite_t hc4 h
        refine ev_aload_n dX12_groups_49 rfl ?_
        refine ev_iload dX12_groups_50 rfl ?_
        obtain ⟨w6, hq5, h⟩ := bndO_t h
        refine ev_cVi mv_X12_504 dX12_groups_52 (c_X12_groupOf hq5) rfl shR_0 rfl rfl (Nat.le_of_ble_eq_true rfl) (by rfl) (Nat.le_of_ble_eq_true rfl) (Nat.le_of_ble_eq_true rfl) (Nat.le_of_ble_eq_true rfl) ?_
        refine ev_istore (loc' := [_, _, _, _, _, _, _]) dX12_groups_55 rfl (by decide) (by rfl) ?_
        refine ev_iload_n dX12_groups_57 rfl ?_
        refine ev_iload dX12_groups_58 rfl ?_
        refine ev_ior dX12_groups_60 ?_
        refine ev_istore_n (loc' := [_, _, _, _, _, _, _]) dX12_groups_61 rfl (by decide) (by rfl) ?_
        refine ev_iload_n dX12_groups_62 rfl ?_
        refine ev_iconst (v := (1 : Int32)) dX12_groups_63 (by decide) ?_
        refine ev_iadd dX12_groups_64 ?_
        refine ev_istore_n (loc' := [_, _, _, _, _, _, _]) dX12_groups_65 rfl (by decide) (by rfl) ?_
        refine ev_aload_n dX12_groups_66 rfl ?_
        refine ev_iload dX12_groups_67 rfl ?_
        obtain ⟨w8, hq7, h⟩ := bndO_t h
        refine ev_cVi mv_X12_447 dX12_groups_69 (c_X12_onesOf hq7) rfl shR_0 rfl rfl (Nat.le_of_ble_eq_true rfl) (by rfl) (Nat.le_of_ble_eq_true rfl) (Nat.le_of_ble_eq_true rfl) (Nat.le_of_ble_eq_true rfl) ?_
        refine ev_aload_n dX12_groups_72 rfl ?_
        refine ev_iload dX12_groups_73 rfl ?_
        obtain ⟨w10, hq9, h⟩ := bndO_t h
        refine ev_cVi mv_X12_447 dX12_groups_75 (c_X12_onesOf hq9) rfl shR_0 rfl rfl (Nat.le_of_ble_eq_true rfl) (by rfl) (Nat.le_of_ble_eq_true rfl) (Nat.le_of_ble_eq_true rfl) (Nat.le_of_ble_eq_true rfl) ?_
        refine ev_icmp_le (tgt := 85) dX12_groups_78 (by decide) (fun hc11 => ?_) (fun hc11 => ?_)
        · replace h := ite_t hc11 h
          exact ev_lt (f_X12_groups_j85_ok ih hk27_91 h) ⟨rfl, ⟨rfl, ⟨rfl, ⟨rfl, ⟨rfl, ⟨rfl, trivial⟩⟩⟩⟩⟩⟩
        · replace h := ite_f hc11 h
          refine ev_iload dX12_groups_81 rfl ?_
          refine ev_istore (loc' := [_, _, _, _, _, _, _]) dX12_groups_83 rfl (by decide) (by rfl) ?_
          exact ev_lt (f_X12_groups_j85_ok ih hk27_91 h) ⟨rfl, ⟨rfl, ⟨rfl, ⟨rfl, ⟨rfl, ⟨rfl, trivial⟩⟩⟩⟩⟩⟩
      · replace h := ite_f hc4 h
        refine ev_goto (tgt := 85) dX12_groups_46 (by decide) ?_
        exact ev_lt (f_X12_groups_j85_ok ih hk27_91 h) ⟨rfl, ⟨rfl, ⟨rfl, ⟨rfl, ⟨rfl, ⟨rfl, trivial⟩⟩⟩⟩⟩⟩
def f_X12_groups_j91 (G : Nat)  (v1 v3 v4 : Int32) (μ : Mem) : Option (Int32 × Mem) :=
  (if v1 = (0 : Int32) then
  some (v3, μ)
  else
  some (v4, μ))
set_option maxHeartbeats 4000000 in
set_option maxRecDepth 100000 in
theorem f_X12_groups_j91_ok  {G : Nat} {r : Int32} {μr : Mem}    {v1 v3 v4 : Int32} {μ : Mem} (h : f_X12_groups_j91 G v1 v3 v4 μ = some (r, μr)) : Ev RX12 cX12_groups 7 (some .int) false 4 0 0 (eqP (some r) shR μr) 91 [none, some (.int v1), none, some (.int v3), some (.int v4), none, none] [] shR μ 0 0 := by
  unfold f_X12_groups_j91 at h
  refine ev_iload_n dX12_groups_91 rfl ?_
  refine ev_if_ne (tgt := 99) dX12_groups_92 (by decide) (fun hc12 => ?_) (fun hc12 => ?_)
  · replace h := ite_f hc12 h
    refine ev_iload dX12_groups_99 rfl ?_
    exact ev_iret rfl rfl (by decide) (by decide) dX12_groups_101 (eqP_E h)
  · replace h := ite_t hc12 h
    refine ev_iload_n dX12_groups_95 rfl ?_
    refine ev_goto (tgt := 101) dX12_groups_96 (by decide) ?_
    exact ev_iret rfl rfl (by decide) (by decide) dX12_groups_101 (eqP_E h)
def f_X12_groups (G : Nat) (p1 : Int32) (μ : Mem) : Option (Int32 × Mem) :=
  (let m1 := wr μ 0 0 (0 : Int32)
  (if (f_X12_isIn p1 (0 : Int32) (1 : Int32)) = (0 : Int32) then
  some ((-1 : Int32), m1)
  else
  f_X12_groups_L27 G (f_X12_groups_j91 G) G p1 (0 : Int32) (0 : Int32) (0 : Int32) (0 : Int32) m1))
set_option maxHeartbeats 4000000 in
set_option maxRecDepth 100000 in
theorem c_X12_groups  {G : Nat} {μ : Mem} {p1 : Int32} {r : Int32} {μr : Mem}  (h : f_X12_groups G p1 μ = some (r, μr)) : Cn yX12_groups cX12_groups 7 (some .int) 4 0 0 [.ref 0, .int p1] shR μ (eqP (some r) shR μr) := by
  refine cn_of (own := RX12) (ini := false) (loc := [some (.ref 0), some (.int p1), none, none, none, none, none]) rfl (by decide) (fun q => by cases q) (Nat.le_of_ble_eq_true rfl) (by rfl) rfl ?_
  unfold f_X12_groups at h
  refine ev_aload_n dX12_groups_0 rfl ?_
  refine ev_iconst (v := (0 : Int32)) dX12_groups_1 (by decide) ?_
  refine ev_putI fr_X12_149 shR_0 rfl rfl rfl dX12_groups_2 ?_
  refine ev_aload_n dX12_groups_5 rfl ?_
  refine ev_iload_n dX12_groups_6 rfl ?_
  refine ev_iconst (v := (0 : Int32)) dX12_groups_7 (by decide) ?_
  refine ev_iconst (v := (1 : Int32)) dX12_groups_8 (by decide) ?_
  refine ev_cVi mv_X12_167 dX12_groups_9 c_X12_isIn rfl shR_0 rfl rfl (Nat.le_of_ble_eq_true rfl) (by rfl) (Nat.le_of_ble_eq_true rfl) (Nat.le_of_ble_eq_true rfl) (Nat.le_of_ble_eq_true rfl) ?_
  refine ev_if_ne (tgt := 17) dX12_groups_12 (by decide) (fun hc2 => ?_) (fun hc2 => ?_)
  · replace h := ite_f hc2 h
    refine ev_iconst (v := (0 : Int32)) dX12_groups_17 (by decide) ?_
    refine ev_istore_n (loc' := [_, _, _, _, _, _, _]) dX12_groups_18 rfl (by decide) (by rfl) ?_
    refine ev_iconst (v := (0 : Int32)) dX12_groups_19 (by decide) ?_
    refine ev_istore_n (loc' := [_, _, _, _, _, _, _]) dX12_groups_20 rfl (by decide) (by rfl) ?_
    refine ev_iconst (v := (0 : Int32)) dX12_groups_21 (by decide) ?_
    refine ev_istore (loc' := [_, _, _, _, _, _, _]) dX12_groups_22 rfl (by decide) (by rfl) ?_
    refine ev_iconst (v := (0 : Int32)) dX12_groups_24 (by decide) ?_
    refine ev_istore (loc' := [_, _, _, _, _, _, _]) dX12_groups_25 rfl (by decide) (by rfl) ?_
    exact ev_lt (f_X12_groups_L27_ok (fun _ _ _ _ hh => f_X12_groups_j91_ok hh) _ _ _ _ _ _ _ h) ⟨rfl, ⟨rfl, ⟨rfl, ⟨rfl, ⟨rfl, ⟨rfl, trivial⟩⟩⟩⟩⟩⟩
  · replace h := ite_t hc2 h
    refine ev_iconst (v := (-1 : Int32)) dX12_groups_15 (by decide) ?_
    exact ev_iret rfl rfl (by decide) (by decide) dX12_groups_16 (eqP_E h)
def f_X12_step (G : Nat) (p1 : Int32) (μ : Mem) : Option (Int32 × Mem) :=
  (let m1 := wr μ 0 0 (0 : Int32)
  (if p1 = (-1 : Int32) then
  (let m8 := wr m1 0 64 (0 : Int32)
  some ((0 : Int32), m8))
  else
  (if (f_X12_isIn p1 (0 : Int32) (99 : Int32)) = (0 : Int32) then
  some ((-1 : Int32), m1)
  else
  (if (m1 0 64) = (12 : Int32) then
  some ((-1 : Int32), m1)
  else
  chk (m1 0 64) 12 (let m5 := wr m1 39 (ix (m1 0 64)) p1
  (let m7 := wr m5 0 64 ((m5 0 64) + (1 : Int32))
  some ((m7 0 64), m7)))))))
set_option maxHeartbeats 4000000 in
set_option maxRecDepth 100000 in
theorem c_X12_step  {G : Nat} {μ : Mem} {p1 : Int32} {r : Int32} {μr : Mem}  (h : f_X12_step G p1 μ = some (r, μr)) : Cn yX12_step cX12_step 2 (some .int) 2 0 0 [.ref 0, .int p1] shR μ (eqP (some r) shR μr) := by
  refine cn_of (own := RX12) (ini := false) (loc := [some (.ref 0), some (.int p1)]) rfl (by decide) (fun q => by cases q) (Nat.le_of_ble_eq_true rfl) (by rfl) rfl ?_
  unfold f_X12_step at h
  refine ev_aload_n dX12_step_0 rfl ?_
  refine ev_iconst (v := (0 : Int32)) dX12_step_1 (by decide) ?_
  refine ev_putI fr_X12_149 shR_0 rfl rfl rfl dX12_step_2 ?_
  refine ev_iload_n dX12_step_5 rfl ?_
  refine ev_iconst (v := (-1 : Int32)) dX12_step_6 (by decide) ?_
  refine ev_icmp_ne (tgt := 17) dX12_step_7 (by decide) (fun hc2 => ?_) (fun hc2 => ?_)
  · replace h := ite_f hc2 h
    refine ev_aload_n dX12_step_17 rfl ?_
    refine ev_iload_n dX12_step_18 rfl ?_
    refine ev_iconst (v := (0 : Int32)) dX12_step_19 (by decide) ?_
    refine ev_bipush (v := (99 : Int32)) dX12_step_20 (by decide) ?_
    refine ev_cVi mv_X12_167 dX12_step_22 c_X12_isIn rfl shR_0 rfl rfl (Nat.le_of_ble_eq_true rfl) (by rfl) (Nat.le_of_ble_eq_true rfl) (Nat.le_of_ble_eq_true rfl) (Nat.le_of_ble_eq_true rfl) ?_
    refine ev_if_eq (tgt := 37) dX12_step_25 (by decide) (fun hc3 => ?_) (fun hc3 => ?_)
    · replace h := ite_t hc3 h
      refine ev_iconst (v := (-1 : Int32)) dX12_step_37 (by decide) ?_
      exact ev_iret rfl rfl (by decide) (by decide) dX12_step_38 (eqP_E h)
    · replace h := ite_f hc3 h
      refine ev_aload_n dX12_step_28 rfl ?_
      refine ev_getI fr_X12_507 shR_0 rfl dX12_step_29 ?_
      refine ev_bipush (v := (12 : Int32)) dX12_step_32 (by decide) ?_
      refine ev_icmp_ne (tgt := 39) dX12_step_34 (by decide) (fun hc4 => ?_) (fun hc4 => ?_)
      · replace h := ite_f hc4 h
        refine ev_aload_n dX12_step_39 rfl ?_
        refine ev_getR fr_X12_128 shR_0 rfl dX12_step_40 ?_
        refine ev_aload_n dX12_step_43 rfl ?_
        refine ev_getI fr_X12_507 shR_0 rfl dX12_step_44 ?_
        refine ev_iload_n dX12_step_47 rfl ?_
        obtain ⟨hi6, h⟩ := chk_t h
        refine ev_iast shR_39 hi6 dX12_step_48 ?_
        refine ev_aload_n dX12_step_49 rfl ?_
        refine ev_aload_n dX12_step_50 rfl ?_
        refine ev_getI fr_X12_507 shR_0 rfl dX12_step_51 ?_
        refine ev_iconst (v := (1 : Int32)) dX12_step_54 (by decide) ?_
        refine ev_iadd dX12_step_55 ?_
        refine ev_putI fr_X12_507 shR_0 rfl rfl rfl dX12_step_56 ?_
        refine ev_aload_n dX12_step_59 rfl ?_
        refine ev_getI fr_X12_507 shR_0 rfl dX12_step_60 ?_
        exact ev_iret rfl rfl (by decide) (by decide) dX12_step_63 (eqP_E h)
      · replace h := ite_t hc4 h
        refine ev_iconst (v := (-1 : Int32)) dX12_step_37 (by decide) ?_
        exact ev_iret rfl rfl (by decide) (by decide) dX12_step_38 (eqP_E h)
  · replace h := ite_t hc2 h
    refine ev_aload_n dX12_step_10 rfl ?_
    refine ev_iconst (v := (0 : Int32)) dX12_step_11 (by decide) ?_
    refine ev_putI fr_X12_507 shR_0 rfl rfl rfl dX12_step_12 ?_
    refine ev_iconst (v := (0 : Int32)) dX12_step_15 (by decide) ?_
    exact ev_iret rfl rfl (by decide) (by decide) dX12_step_16 (eqP_E h)
def f_X12_alike_j131 (G : Nat) (r36 : Int32 → Int32 → Int32 → Int32 → Int32 → Mem → Option (Int32 × Mem)) (k36_151 : Int32 → Int32 → Int32 → Mem → Option (Int32 × Mem)) (r51 : Int32 → Int32 → Int32 → Int32 → Int32 → Int32 → Int32 → Mem → Option (Int32 × Mem)) (k51_137 : Int32 → Int32 → Int32 → Int32 → Int32 → Int32 → Mem → Option (Int32 × Mem)) (v1 v2 v3 v4 v5 v6 v7 : Int32) (μ : Mem) : Option (Int32 × Mem) :=
  r51 v1 v2 v3 v4 v5 v6 (v7 + (1 : Int32)) μ
set_option maxHeartbeats 4000000 in
set_option maxRecDepth 100000 in
theorem f_X12_alike_j131_ok  {G : Nat} {r : Int32} {μr : Mem}  {r36 : Int32 → Int32 → Int32 → Int32 → Int32 → Mem → Option (Int32 × Mem)} {k36_151 : Int32 → Int32 → Int32 → Mem → Option (Int32 × Mem)} {r51 : Int32 → Int32 → Int32 → Int32 → Int32 → Int32 → Int32 → Mem → Option (Int32 × Mem)} {k51_137 : Int32 → Int32 → Int32 → Int32 → Int32 → Int32 → Mem → Option (Int32 × Mem)} (hr36 : ∀ (v1 : Int32) (v2 : Int32) (v3 : Int32) (v4 : Int32) (v5 : Int32) (m : Mem), r36 v1 v2 v3 v4 v5 m = some (r, μr) → Ev RX12 cX12_alike 8 (some .int) false 2 0 0 (eqP (some r) shR μr) 36 [some (.ref 0), some (.int v1), some (.int v2), some (.int v3), some (.int v4), some (.int v5), none, none] [] shR m 0 0) (hk36_151 : ∀ (v2 : Int32) (v3 : Int32) (v4 : Int32) (m : Mem), k36_151 v2 v3 v4 m = some (r, μr) → Ev RX12 cX12_alike 8 (some .int) false 2 0 0 (eqP (some r) shR μr) 151 [none, none, some (.int v2), some (.int v3), some (.int v4), none, none, none] [] shR m 0 0) (hr51 : ∀ (v1 : Int32) (v2 : Int32) (v3 : Int32) (v4 : Int32) (v5 : Int32) (v6 : Int32) (v7 : Int32) (m : Mem), r51 v1 v2 v3 v4 v5 v6 v7 m = some (r, μr) → Ev RX12 cX12_alike 8 (some .int) false 2 0 0 (eqP (some r) shR μr) 51 [some (.ref 0), some (.int v1), some (.int v2), some (.int v3), some (.int v4), some (.int v5), some (.int v6), some (.int v7)] [] shR m 0 0) (hk51_137 : ∀ (v1 : Int32) (v2 : Int32) (v3 : Int32) (v4 : Int32) (v5 : Int32) (v6 : Int32) (m : Mem), k51_137 v1 v2 v3 v4 v5 v6 m = some (r, μr) → Ev RX12 cX12_alike 8 (some .int) false 2 0 0 (eqP (some r) shR μr) 137 [some (.ref 0), some (.int v1), some (.int v2), some (.int v3), some (.int v4), some (.int v5), some (.int v6), none] [] shR m 0 0) {v1 v2 v3 v4 v5 v6 v7 : Int32} {μ : Mem} (h : f_X12_alike_j131 G r36 k36_151 r51 k51_137 v1 v2 v3 v4 v5 v6 v7 μ = some (r, μr)) : Ev RX12 cX12_alike 8 (some .int) false 2 0 0 (eqP (some r) shR μr) 131 [some (.ref 0), some (.int v1), some (.int v2), some (.int v3), some (.int v4), some (.int v5), some (.int v6), some (.int v7)] [] shR μ 0 0 := by
  unfold f_X12_alike_j131 at h
  refine ev_iinc (cq := (1 : Int32)) (loc' := [_, _, _, _, _, _, _, _]) dX12_alike_131 rfl (by decide) rfl (by decide) (by rfl) ?_
  refine ev_goto (tgt := 51) dX12_alike_134 (by decide) ?_
  exact ev_lt (hr51 _ _ _ _ _ _ _ _ h) ⟨rfl, ⟨rfl, ⟨rfl, ⟨rfl, ⟨rfl, ⟨rfl, ⟨rfl, ⟨rfl, trivial⟩⟩⟩⟩⟩⟩⟩⟩
def f_X12_alike_j96 (G : Nat) (r36 : Int32 → Int32 → Int32 → Int32 → Int32 → Mem → Option (Int32 × Mem)) (k36_151 : Int32 → Int32 → Int32 → Mem → Option (Int32 × Mem)) (r51 : Int32 → Int32 → Int32 → Int32 → Int32 → Int32 → Int32 → Mem → Option (Int32 × Mem)) (k51_137 : Int32 → Int32 → Int32 → Int32 → Int32 → Int32 → Mem → Option (Int32 × Mem)) (v1 v2 v3 v4 v5 v6 v7 : Int32) (μ : Mem) : Option (Int32 × Mem) :=
  (if v5 ≤ v7 then
  f_X12_alike_j131 G r36 k36_151 r51 k51_137 v1 v2 v3 v4 v5 v6 v7 μ
  else
  chk v7 12 (chk v5 12 ((if v1 < (f_X12_apart (μ 39 (ix v7)) (μ 39 (ix v5))) then
  f_X12_alike_j131 G r36 k36_151 r51 k51_137 v1 v2 v3 v4 v5 v6 v7 μ
  else
  f_X12_alike_j131 G r36 k36_151 r51 k51_137 v1 v2 v3 (v4 + (1 : Int32)) v5 v6 v7 μ))))
set_option maxHeartbeats 4000000 in
set_option maxRecDepth 100000 in
theorem f_X12_alike_j96_ok  {G : Nat} {r : Int32} {μr : Mem}  {r36 : Int32 → Int32 → Int32 → Int32 → Int32 → Mem → Option (Int32 × Mem)} {k36_151 : Int32 → Int32 → Int32 → Mem → Option (Int32 × Mem)} {r51 : Int32 → Int32 → Int32 → Int32 → Int32 → Int32 → Int32 → Mem → Option (Int32 × Mem)} {k51_137 : Int32 → Int32 → Int32 → Int32 → Int32 → Int32 → Mem → Option (Int32 × Mem)} (hr36 : ∀ (v1 : Int32) (v2 : Int32) (v3 : Int32) (v4 : Int32) (v5 : Int32) (m : Mem), r36 v1 v2 v3 v4 v5 m = some (r, μr) → Ev RX12 cX12_alike 8 (some .int) false 2 0 0 (eqP (some r) shR μr) 36 [some (.ref 0), some (.int v1), some (.int v2), some (.int v3), some (.int v4), some (.int v5), none, none] [] shR m 0 0) (hk36_151 : ∀ (v2 : Int32) (v3 : Int32) (v4 : Int32) (m : Mem), k36_151 v2 v3 v4 m = some (r, μr) → Ev RX12 cX12_alike 8 (some .int) false 2 0 0 (eqP (some r) shR μr) 151 [none, none, some (.int v2), some (.int v3), some (.int v4), none, none, none] [] shR m 0 0) (hr51 : ∀ (v1 : Int32) (v2 : Int32) (v3 : Int32) (v4 : Int32) (v5 : Int32) (v6 : Int32) (v7 : Int32) (m : Mem), r51 v1 v2 v3 v4 v5 v6 v7 m = some (r, μr) → Ev RX12 cX12_alike 8 (some .int) false 2 0 0 (eqP (some r) shR μr) 51 [some (.ref 0), some (.int v1), some (.int v2), some (.int v3), some (.int v4), some (.int v5), some (.int v6), some (.int v7)] [] shR m 0 0) (hk51_137 : ∀ (v1 : Int32) (v2 : Int32) (v3 : Int32) (v4 : Int32) (v5 : Int32) (v6 : Int32) (m : Mem), k51_137 v1 v2 v3 v4 v5 v6 m = some (r, μr) → Ev RX12 cX12_alike 8 (some .int) false 2 0 0 (eqP (some r) shR μr) 137 [some (.ref 0), some (.int v1), some (.int v2), some (.int v3), some (.int v4), some (.int v5), some (.int v6), none] [] shR m 0 0) {v1 v2 v3 v4 v5 v6 v7 : Int32} {μ : Mem} (h : f_X12_alike_j96 G r36 k36_151 r51 k51_137 v1 v2 v3 v4 v5 v6 v7 μ = some (r, μr)) : Ev RX12 cX12_alike 8 (some .int) false 2 0 0 (eqP (some r) shR μr) 96 [some (.ref 0), some (.int v1), some (.int v2), some (.int v3), some (.int v4), some (.int v5), some (.int v6), some (.int v7)] [] shR μ 0 0 := by
  unfold f_X12_alike_j96 at h
  refine ev_iload dX12_alike_96 rfl ?_
  refine ev_iload dX12_alike_98 rfl ?_
  refine ev_icmp_ge (tgt := 131) dX12_alike_100 (by decide) (fun hc10 => ?_) (fun hc10 => ?_)
  · replace h := ite_t hc10 h
    exact ev_lt (f_X12_alike_j131_ok hr36 hk36_151 hr51 hk51_137 h) ⟨rfl, ⟨rfl, ⟨rfl, ⟨rfl, ⟨rfl, ⟨rfl, ⟨rfl, ⟨rfl, trivial⟩⟩⟩⟩⟩⟩⟩⟩
  · replace h := ite_f hc10 h
    refine ev_aload_n dX12_alike_103 rfl ?_
    refine ev_aload_n dX12_alike_104 rfl ?_
    refine ev_getR fr_X12_128 shR_0 rfl dX12_alike_105 ?_
    refine ev_iload dX12_alike_108 rfl ?_
    obtain ⟨hi11, h⟩ := chk_t h
    refine ev_iald shR_39 hi11 dX12_alike_110 ?_
    refine ev_aload_n dX12_alike_111 rfl ?_
    refine ev_getR fr_X12_128 shR_0 rfl dX12_alike_112 ?_
    refine ev_iload dX12_alike_115 rfl ?_
    obtain ⟨hi12, h⟩ := chk_t h
    refine ev_iald shR_39 hi12 dX12_alike_117 ?_
    refine ev_cVi mv_X12_425 dX12_alike_118 c_X12_apart rfl shR_0 rfl rfl (Nat.le_of_ble_eq_true rfl) (by rfl) (Nat.le_of_ble_eq_true rfl) (Nat.le_of_ble_eq_true rfl) (Nat.le_of_ble_eq_true rfl) ?_
    refine ev_iload_n dX12_alike_121 rfl ?_
    refine ev_icmp_gt (tgt := 131) dX12_alike_122 (by decide) (fun hc13 => ?_) (fun hc13 => ?_)
    · replace h := ite_t hc13 h
      exact ev_lt (f_X12_alike_j131_ok hr36 hk36_151 hr51 hk51_137 h) ⟨rfl, ⟨rfl, ⟨rfl, ⟨rfl, ⟨rfl, ⟨rfl, ⟨rfl, ⟨rfl, trivial⟩⟩⟩⟩⟩⟩⟩⟩
    · replace h := ite_f hc13 h
      refine ev_iload dX12_alike_125 rfl ?_
      refine ev_iconst (v := (1 : Int32)) dX12_alike_127 (by decide) ?_
      refine ev_iadd dX12_alike_128 ?_
      refine ev_istore (loc' := [_, _, _, _, _, _, _, _]) dX12_alike_129 rfl (by decide) (by rfl) ?_
      exact ev_lt (f_X12_alike_j131_ok hr36 hk36_151 hr51 hk51_137 h) ⟨rfl, ⟨rfl, ⟨rfl, ⟨rfl, ⟨rfl, ⟨rfl, ⟨rfl, ⟨rfl, trivial⟩⟩⟩⟩⟩⟩⟩⟩
def f_X12_alike_L51 (G : Nat) (r36 : Int32 → Int32 → Int32 → Int32 → Int32 → Mem → Option (Int32 × Mem)) (k36_151 : Int32 → Int32 → Int32 → Mem → Option (Int32 × Mem)) (k51_137 : Int32 → Int32 → Int32 → Int32 → Int32 → Int32 → Mem → Option (Int32 × Mem)) : Nat → Int32 → Int32 → Int32 → Int32 → Int32 → Int32 → Int32 → Mem → Option (Int32 × Mem)
  | 0, _, _, _, _, _, _, _, _ => none
  | g + 1, v1, v2, v3, v4, v5, v6, v7, μ =>
  (if (μ 0 64) ≤ v7 then
  k51_137 v1 v2 v3 v4 v5 v6 μ
  else
  chk v7 12 (chk v5 12 (chk v5 12 ((if (f_X12_isIn (μ 39 (ix v7)) (μ 39 (ix v5)) ((μ 39 (ix v5)) + v1)) = (0 : Int32) then
  f_X12_alike_j96 G r36 k36_151 (f_X12_alike_L51 G r36 k36_151 k51_137 g) k51_137 v1 v2 v3 v4 v5 v6 v7 μ
  else
  f_X12_alike_j96 G r36 k36_151 (f_X12_alike_L51 G r36 k36_151 k51_137 g) k51_137 v1 v2 v3 v4 v5 (v6 + (1 : Int32)) v7 μ)))))
set_option maxHeartbeats 4000000 in
set_option maxRecDepth 100000 in
theorem f_X12_alike_L51_ok  {G : Nat} {r : Int32} {μr : Mem}  {r36 : Int32 → Int32 → Int32 → Int32 → Int32 → Mem → Option (Int32 × Mem)} {k36_151 : Int32 → Int32 → Int32 → Mem → Option (Int32 × Mem)} {k51_137 : Int32 → Int32 → Int32 → Int32 → Int32 → Int32 → Mem → Option (Int32 × Mem)} (hr36 : ∀ (v1 : Int32) (v2 : Int32) (v3 : Int32) (v4 : Int32) (v5 : Int32) (m : Mem), r36 v1 v2 v3 v4 v5 m = some (r, μr) → Ev RX12 cX12_alike 8 (some .int) false 2 0 0 (eqP (some r) shR μr) 36 [some (.ref 0), some (.int v1), some (.int v2), some (.int v3), some (.int v4), some (.int v5), none, none] [] shR m 0 0) (hk36_151 : ∀ (v2 : Int32) (v3 : Int32) (v4 : Int32) (m : Mem), k36_151 v2 v3 v4 m = some (r, μr) → Ev RX12 cX12_alike 8 (some .int) false 2 0 0 (eqP (some r) shR μr) 151 [none, none, some (.int v2), some (.int v3), some (.int v4), none, none, none] [] shR m 0 0) (hk51_137 : ∀ (v1 : Int32) (v2 : Int32) (v3 : Int32) (v4 : Int32) (v5 : Int32) (v6 : Int32) (m : Mem), k51_137 v1 v2 v3 v4 v5 v6 m = some (r, μr) → Ev RX12 cX12_alike 8 (some .int) false 2 0 0 (eqP (some r) shR μr) 137 [some (.ref 0), some (.int v1), some (.int v2), some (.int v3), some (.int v4), some (.int v5), some (.int v6), none] [] shR m 0 0) : ∀ (g : Nat) (v1 v2 v3 v4 v5 v6 v7 : Int32) (μ : Mem), f_X12_alike_L51 G r36 k36_151 k51_137 g v1 v2 v3 v4 v5 v6 v7 μ = some (r, μr) → Ev RX12 cX12_alike 8 (some .int) false 2 0 0 (eqP (some r) shR μr) 51 [some (.ref 0), some (.int v1), some (.int v2), some (.int v3), some (.int v4), some (.int v5), some (.int v6), some (.int v7)] [] shR μ 0 0 := by
  intro g
  induction g with
  | zero =>
    intro v1 v2 v3 v4 v5 v6 v7 μ h
    cases h
  | succ g ih =>
    intro v1 v2 v3 v4 v5 v6 v7 μ h
    rw [f_X12_alike_L51] at h
    refine ev_iload dX12_alike_51 rfl ?_
    refine ev_aload_n dX12_alike_53 rfl ?_
    refine ev_getI fr_X12_507 shR_0 rfl dX12_alike_54 ?_
    refine ev_icmp_ge (tgt := 137) dX12_alike_57 (by decide) (fun hc5 => ?_) (fun hc5 => ?_)
    · replace h := ite_t hc5 h
      exact ev_lt (hk51_137 _ _ _ _ _ _ _ h) ⟨rfl, ⟨rfl, ⟨rfl, ⟨rfl, ⟨rfl, ⟨rfl, ⟨rfl, trivial⟩⟩⟩⟩⟩⟩⟩
    · replace h := ite_f hc5 h
      refine ev_aload_n dX12_alike_60 rfl ?_
      refine ev_aload_n dX12_alike_61 rfl ?_
      refine ev_getR fr_X12_128 shR_0 rfl dX12_alike_62 ?_
      refine ev_iload dX12_alike_65 rfl ?_
      obtain ⟨hi6, h⟩ := chk_t h
      refine ev_iald shR_39 hi6 dX12_alike_67 ?_
      refine ev_aload_n dX12_alike_68 rfl ?_
      refine ev_getR fr_X12_128 shR_0 rfl dX12_alike_69 ?_
      refine ev_iload dX12_alike_72 rfl ?_
      obtain ⟨hi7, h⟩ := chk_t h
      refine ev_iald shR_39 hi7 dX12_alike_74 ?_
      refine ev_aload_n dX12_alike_75 rfl ?_
      refine ev_getR fr_X12_128 shR_0 rfl dX12_alike_76 ?_
      refine ev_iload dX12_alike_79 rfl ?_
      obtain ⟨hi8, h⟩ := chk_t h
      refine ev_iald shR_39 hi8 dX12_alike_81 ?_
      refine ev_iload_n dX12_alike_82 rfl ?_
      refine ev_iadd dX12_alike_83 ?_
      refine ev_cVi mv_X12_167 dX12_alike_84 c_X12_isIn rfl shR_0 rfl rfl (Nat.le_of_ble_eq_true rfl) (by rfl) (Nat.le_of_ble_eq_true rfl) (Nat.le_of_ble_eq_true rfl) (Nat.le_of_ble_eq_true rfl) ?_
      refine ev_if_eq (tgt := 96) dX12_alike_87 (by decide) (fun hc9 => ?_) (fun hc9 => ?_)
      · replace h := ite_t hc9 h
        exact ev_lt (f_X12_alike_j96_ok hr36 hk36_151 ih hk51_137 h) ⟨rfl, ⟨rfl, ⟨rfl, ⟨rfl, ⟨rfl, ⟨rfl, ⟨rfl, ⟨rfl, trivial⟩⟩⟩⟩⟩⟩⟩⟩
      · replace h := ite_f hc9 h
        refine ev_iload dX12_alike_90 rfl ?_
        refine ev_iconst (v := (1 : Int32)) dX12_alike_92 (by decide) ?_
        refine ev_iadd dX12_alike_93 ?_
        refine ev_istore (loc' := [_, _, _, _, _, _, _, _]) dX12_alike_94 rfl (by decide) (by rfl) ?_
        exact ev_lt (f_X12_alike_j96_ok hr36 hk36_151 ih hk51_137 h) ⟨rfl, ⟨rfl, ⟨rfl, ⟨rfl, ⟨rfl, ⟨rfl, ⟨rfl, ⟨rfl, trivial⟩⟩⟩⟩⟩⟩⟩⟩
def f_X12_alike_j137 (G : Nat) (r36 : Int32 → Int32 → Int32 → Int32 → Int32 → Mem → Option (Int32 × Mem)) (k36_151 : Int32 → Int32 → Int32 → Mem → Option (Int32 × Mem)) (v1 v2 v3 v4 v5 v6 : Int32) (μ : Mem) : Option (Int32 × Mem) :=
  r36 v1 v2 (f_X12_greater v3 v6) v4 (v5 + (1 : Int32)) μ
set_option maxHeartbeats 4000000 in
set_option maxRecDepth 100000 in
theorem f_X12_alike_j137_ok  {G : Nat} {r : Int32} {μr : Mem}  {r36 : Int32 → Int32 → Int32 → Int32 → Int32 → Mem → Option (Int32 × Mem)} {k36_151 : Int32 → Int32 → Int32 → Mem → Option (Int32 × Mem)} (hr36 : ∀ (v1 : Int32) (v2 : Int32) (v3 : Int32) (v4 : Int32) (v5 : Int32) (m : Mem), r36 v1 v2 v3 v4 v5 m = some (r, μr) → Ev RX12 cX12_alike 8 (some .int) false 2 0 0 (eqP (some r) shR μr) 36 [some (.ref 0), some (.int v1), some (.int v2), some (.int v3), some (.int v4), some (.int v5), none, none] [] shR m 0 0) (hk36_151 : ∀ (v2 : Int32) (v3 : Int32) (v4 : Int32) (m : Mem), k36_151 v2 v3 v4 m = some (r, μr) → Ev RX12 cX12_alike 8 (some .int) false 2 0 0 (eqP (some r) shR μr) 151 [none, none, some (.int v2), some (.int v3), some (.int v4), none, none, none] [] shR m 0 0) {v1 v2 v3 v4 v5 v6 : Int32} {μ : Mem} (h : f_X12_alike_j137 G r36 k36_151 v1 v2 v3 v4 v5 v6 μ = some (r, μr)) : Ev RX12 cX12_alike 8 (some .int) false 2 0 0 (eqP (some r) shR μr) 137 [some (.ref 0), some (.int v1), some (.int v2), some (.int v3), some (.int v4), some (.int v5), some (.int v6), none] [] shR μ 0 0 := by
  unfold f_X12_alike_j137 at h
  refine ev_aload_n dX12_alike_137 rfl ?_
  refine ev_iload_n dX12_alike_138 rfl ?_
  refine ev_iload dX12_alike_139 rfl ?_
  refine ev_cVi mv_X12_434 dX12_alike_141 c_X12_greater rfl shR_0 rfl rfl (Nat.le_of_ble_eq_true rfl) (by rfl) (Nat.le_of_ble_eq_true rfl) (Nat.le_of_ble_eq_true rfl) (Nat.le_of_ble_eq_true rfl) ?_
  refine ev_istore_n (loc' := [_, _, _, _, _, _, _, _]) dX12_alike_144 rfl (by decide) (by rfl) ?_
  refine ev_iinc (cq := (1 : Int32)) (loc' := [_, _, _, _, _, _, _, _]) dX12_alike_145 rfl (by decide) rfl (by decide) (by rfl) ?_
  refine ev_goto (tgt := 36) dX12_alike_148 (by decide) ?_
  exact ev_lt (hr36 _ _ _ _ _ _ h) ⟨rfl, ⟨rfl, ⟨rfl, ⟨rfl, ⟨rfl, ⟨rfl, trivial⟩⟩⟩⟩⟩⟩
def f_X12_alike_L36 (G : Nat) (k36_151 : Int32 → Int32 → Int32 → Mem → Option (Int32 × Mem)) : Nat → Int32 → Int32 → Int32 → Int32 → Int32 → Mem → Option (Int32 × Mem)
  | 0, _, _, _, _, _, _ => none
  | g + 1, v1, v2, v3, v4, v5, μ =>
  (if (μ 0 64) ≤ v5 then
  k36_151 v2 v3 v4 μ
  else
  f_X12_alike_L51 G (f_X12_alike_L36 G k36_151 g) k36_151 (f_X12_alike_j137 G (f_X12_alike_L36 G k36_151 g) k36_151) G v1 v2 v3 v4 v5 (0 : Int32) (0 : Int32) μ)
set_option maxHeartbeats 4000000 in
set_option maxRecDepth 100000 in
theorem f_X12_alike_L36_ok  {G : Nat} {r : Int32} {μr : Mem}  {k36_151 : Int32 → Int32 → Int32 → Mem → Option (Int32 × Mem)} (hk36_151 : ∀ (v2 : Int32) (v3 : Int32) (v4 : Int32) (m : Mem), k36_151 v2 v3 v4 m = some (r, μr) → Ev RX12 cX12_alike 8 (some .int) false 2 0 0 (eqP (some r) shR μr) 151 [none, none, some (.int v2), some (.int v3), some (.int v4), none, none, none] [] shR m 0 0) : ∀ (g : Nat) (v1 v2 v3 v4 v5 : Int32) (μ : Mem), f_X12_alike_L36 G k36_151 g v1 v2 v3 v4 v5 μ = some (r, μr) → Ev RX12 cX12_alike 8 (some .int) false 2 0 0 (eqP (some r) shR μr) 36 [some (.ref 0), some (.int v1), some (.int v2), some (.int v3), some (.int v4), some (.int v5), none, none] [] shR μ 0 0 := by
  intro g
  induction g with
  | zero =>
    intro v1 v2 v3 v4 v5 μ h
    cases h
  | succ g ih =>
    intro v1 v2 v3 v4 v5 μ h
    rw [f_X12_alike_L36] at h
    refine ev_iload dX12_alike_36 rfl ?_
    refine ev_aload_n dX12_alike_38 rfl ?_
    refine ev_getI fr_X12_507 shR_0 rfl dX12_alike_39 ?_
    refine ev_icmp_ge (tgt := 151) dX12_alike_42 (by decide) (fun hc4 => ?_) (fun hc4 => ?_)
    · replace h := ite_t hc4 h
      exact ev_lt (hk36_151 _ _ _ _ h) ⟨rfl, ⟨rfl, ⟨rfl, trivial⟩⟩⟩
    · replace h := ite_f hc4 h
      refine ev_iconst (v := (0 : Int32)) dX12_alike_45 (by decide) ?_
      refine ev_istore (loc' := [_, _, _, _, _, _, _, _]) dX12_alike_46 rfl (by decide) (by rfl) ?_
      refine ev_iconst (v := (0 : Int32)) dX12_alike_48 (by decide) ?_
      refine ev_istore (loc' := [_, _, _, _, _, _, _, _]) dX12_alike_49 rfl (by decide) (by rfl) ?_
      exact ev_lt (f_X12_alike_L51_ok ih hk36_151 (fun _ _ _ _ _ _ _ hh => f_X12_alike_j137_ok ih hk36_151 hh) _ _ _ _ _ _ _ _ _ h) ⟨rfl, ⟨rfl, ⟨rfl, ⟨rfl, ⟨rfl, ⟨rfl, ⟨rfl, ⟨rfl, trivial⟩⟩⟩⟩⟩⟩⟩⟩
def f_X12_alike_j151 (G : Nat)  (v2 v3 v4 : Int32) (μ : Mem) : Option (Int32 × Mem) :=
  (if v2 = (0 : Int32) then
  some (v3, μ)
  else
  some (v4, μ))
set_option maxHeartbeats 4000000 in
set_option maxRecDepth 100000 in
theorem f_X12_alike_j151_ok  {G : Nat} {r : Int32} {μr : Mem}    {v2 v3 v4 : Int32} {μ : Mem} (h : f_X12_alike_j151 G v2 v3 v4 μ = some (r, μr)) : Ev RX12 cX12_alike 8 (some .int) false 2 0 0 (eqP (some r) shR μr) 151 [none, none, some (.int v2), some (.int v3), some (.int v4), none, none, none] [] shR μ 0 0 := by
  unfold f_X12_alike_j151 at h
  refine ev_iload_n dX12_alike_151 rfl ?_
  refine ev_if_ne (tgt := 159) dX12_alike_152 (by decide) (fun hc14 => ?_) (fun hc14 => ?_)
  · replace h := ite_f hc14 h
    refine ev_iload dX12_alike_159 rfl ?_
    exact ev_iret rfl rfl (by decide) (by decide) dX12_alike_161 (eqP_E h)
  · replace h := ite_t hc14 h
    refine ev_iload_n dX12_alike_155 rfl ?_
    refine ev_goto (tgt := 161) dX12_alike_156 (by decide) ?_
    exact ev_iret rfl rfl (by decide) (by decide) dX12_alike_161 (eqP_E h)
def f_X12_alike (G : Nat) (p1 p2 : Int32) (μ : Mem) : Option (Int32 × Mem) :=
  (let m1 := wr μ 0 0 (0 : Int32)
  (if (f_X12_isIn p1 (0 : Int32) (99 : Int32)) = (0 : Int32) then
  some ((-1 : Int32), m1)
  else
  (if (f_X12_isIn p2 (0 : Int32) (1 : Int32)) = (0 : Int32) then
  some ((-1 : Int32), m1)
  else
  f_X12_alike_L36 G (f_X12_alike_j151 G) G p1 p2 (0 : Int32) (0 : Int32) (0 : Int32) m1)))
set_option maxHeartbeats 4000000 in
set_option maxRecDepth 100000 in
theorem c_X12_alike  {G : Nat} {μ : Mem} {p1 p2 : Int32} {r : Int32} {μr : Mem}  (h : f_X12_alike G p1 p2 μ = some (r, μr)) : Cn yX12_alike cX12_alike 8 (some .int) 2 0 0 [.ref 0, .int p1, .int p2] shR μ (eqP (some r) shR μr) := by
  refine cn_of (own := RX12) (ini := false) (loc := [some (.ref 0), some (.int p1), some (.int p2), none, none, none, none, none]) rfl (by decide) (fun q => by cases q) (Nat.le_of_ble_eq_true rfl) (by rfl) rfl ?_
  unfold f_X12_alike at h
  refine ev_aload_n dX12_alike_0 rfl ?_
  refine ev_iconst (v := (0 : Int32)) dX12_alike_1 (by decide) ?_
  refine ev_putI fr_X12_149 shR_0 rfl rfl rfl dX12_alike_2 ?_
  refine ev_aload_n dX12_alike_5 rfl ?_
  refine ev_iload_n dX12_alike_6 rfl ?_
  refine ev_iconst (v := (0 : Int32)) dX12_alike_7 (by decide) ?_
  refine ev_bipush (v := (99 : Int32)) dX12_alike_8 (by decide) ?_
  refine ev_cVi mv_X12_167 dX12_alike_10 c_X12_isIn rfl shR_0 rfl rfl (Nat.le_of_ble_eq_true rfl) (by rfl) (Nat.le_of_ble_eq_true rfl) (Nat.le_of_ble_eq_true rfl) (Nat.le_of_ble_eq_true rfl) ?_
  refine ev_if_eq (tgt := 26) dX12_alike_13 (by decide) (fun hc2 => ?_) (fun hc2 => ?_)
  · replace h := ite_t hc2 h
    refine ev_iconst (v := (-1 : Int32)) dX12_alike_26 (by decide) ?_
    exact ev_iret rfl rfl (by decide) (by decide) dX12_alike_27 (eqP_E h)
  · replace h := ite_f hc2 h
    refine ev_aload_n dX12_alike_16 rfl ?_
    refine ev_iload_n dX12_alike_17 rfl ?_
    refine ev_iconst (v := (0 : Int32)) dX12_alike_18 (by decide) ?_
    refine ev_iconst (v := (1 : Int32)) dX12_alike_19 (by decide) ?_
    refine ev_cVi mv_X12_167 dX12_alike_20 c_X12_isIn rfl shR_0 rfl rfl (Nat.le_of_ble_eq_true rfl) (by rfl) (Nat.le_of_ble_eq_true rfl) (Nat.le_of_ble_eq_true rfl) (Nat.le_of_ble_eq_true rfl) ?_
    refine ev_if_ne (tgt := 28) dX12_alike_23 (by decide) (fun hc3 => ?_) (fun hc3 => ?_)
    · replace h := ite_f hc3 h
      refine ev_iconst (v := (0 : Int32)) dX12_alike_28 (by decide) ?_
      refine ev_istore_n (loc' := [_, _, _, _, _, _, _, _]) dX12_alike_29 rfl (by decide) (by rfl) ?_
      refine ev_iconst (v := (0 : Int32)) dX12_alike_30 (by decide) ?_
      refine ev_istore (loc' := [_, _, _, _, _, _, _, _]) dX12_alike_31 rfl (by decide) (by rfl) ?_
      refine ev_iconst (v := (0 : Int32)) dX12_alike_33 (by decide) ?_
      refine ev_istore (loc' := [_, _, _, _, _, _, _, _]) dX12_alike_34 rfl (by decide) (by rfl) ?_
      exact ev_lt (f_X12_alike_L36_ok (fun _ _ _ _ hh => f_X12_alike_j151_ok hh) _ _ _ _ _ _ _ h) ⟨rfl, ⟨rfl, ⟨rfl, ⟨rfl, ⟨rfl, ⟨rfl, trivial⟩⟩⟩⟩⟩⟩
    · replace h := ite_t hc3 h
      refine ev_iconst (v := (-1 : Int32)) dX12_alike_26 (by decide) ?_
      exact ev_iret rfl rfl (by decide) (by decide) dX12_alike_27 (eqP_E h)
def f_X12_carriage (G : Nat) (p1 p2 p3 : Int32) (μ : Mem) : Option (Int32 × Mem) :=
  (let m1 := wr μ 0 0 (0 : Int32)
  (if (f_X12_isIn p1 (0 : Int32) (2 : Int32)) = (0 : Int32) then
  some ((0 : Int32), m1)
  else
  (if (f_X12_isIn p2 (1 : Int32) (30 : Int32)) = (0 : Int32) then
  some ((0 : Int32), m1)
  else
  (if (f_X12_isIn p3 (0 : Int32) (30 : Int32)) = (0 : Int32) then
  some ((0 : Int32), m1)
  else
  chk p1 3 (let m5 := wr m1 40 (ix p1) (p2 - (1 : Int32))
  chk p1 3 (let m7 := wr m5 41 (ix p1) p3
  some ((1 : Int32), m7)))))))
set_option maxHeartbeats 4000000 in
set_option maxRecDepth 100000 in
theorem c_X12_carriage  {G : Nat} {μ : Mem} {p1 p2 p3 : Int32} {r : Int32} {μr : Mem}  (h : f_X12_carriage G p1 p2 p3 μ = some (r, μr)) : Cn yX12_carriage cX12_carriage 4 (some .boolean) 2 0 0 [.ref 0, .int p1, .int p2, .int p3] shR μ (eqP (some r) shR μr) := by
  refine cn_of (own := RX12) (ini := false) (loc := [some (.ref 0), some (.int p1), some (.int p2), some (.int p3)]) rfl (by decide) (fun q => by cases q) (Nat.le_of_ble_eq_true rfl) (by rfl) rfl ?_
  unfold f_X12_carriage at h
  refine ev_aload_n dX12_carriage_0 rfl ?_
  refine ev_iconst (v := (0 : Int32)) dX12_carriage_1 (by decide) ?_
  refine ev_putI fr_X12_149 shR_0 rfl rfl rfl dX12_carriage_2 ?_
  refine ev_aload_n dX12_carriage_5 rfl ?_
  refine ev_iload_n dX12_carriage_6 rfl ?_
  refine ev_iconst (v := (0 : Int32)) dX12_carriage_7 (by decide) ?_
  refine ev_iconst (v := (2 : Int32)) dX12_carriage_8 (by decide) ?_
  refine ev_cVi mv_X12_167 dX12_carriage_9 c_X12_isIn rfl shR_0 rfl rfl (Nat.le_of_ble_eq_true rfl) (by rfl) (Nat.le_of_ble_eq_true rfl) (Nat.le_of_ble_eq_true rfl) (Nat.le_of_ble_eq_true rfl) ?_
  refine ev_if_eq (tgt := 37) dX12_carriage_12 (by decide) (fun hc2 => ?_) (fun hc2 => ?_)
  · replace h := ite_t hc2 h
    refine ev_iconst (v := (0 : Int32)) dX12_carriage_37 (by decide) ?_
    exact ev_iret rfl rfl (by decide) (by decide) dX12_carriage_38 (eqP_E h)
  · replace h := ite_f hc2 h
    refine ev_aload_n dX12_carriage_15 rfl ?_
    refine ev_iload_n dX12_carriage_16 rfl ?_
    refine ev_iconst (v := (1 : Int32)) dX12_carriage_17 (by decide) ?_
    refine ev_bipush (v := (30 : Int32)) dX12_carriage_18 (by decide) ?_
    refine ev_cVi mv_X12_167 dX12_carriage_20 c_X12_isIn rfl shR_0 rfl rfl (Nat.le_of_ble_eq_true rfl) (by rfl) (Nat.le_of_ble_eq_true rfl) (Nat.le_of_ble_eq_true rfl) (Nat.le_of_ble_eq_true rfl) ?_
    refine ev_if_eq (tgt := 37) dX12_carriage_23 (by decide) (fun hc3 => ?_) (fun hc3 => ?_)
    · replace h := ite_t hc3 h
      refine ev_iconst (v := (0 : Int32)) dX12_carriage_37 (by decide) ?_
      exact ev_iret rfl rfl (by decide) (by decide) dX12_carriage_38 (eqP_E h)
    · replace h := ite_f hc3 h
      refine ev_aload_n dX12_carriage_26 rfl ?_
      refine ev_iload_n dX12_carriage_27 rfl ?_
      refine ev_iconst (v := (0 : Int32)) dX12_carriage_28 (by decide) ?_
      refine ev_bipush (v := (30 : Int32)) dX12_carriage_29 (by decide) ?_
      refine ev_cVi mv_X12_167 dX12_carriage_31 c_X12_isIn rfl shR_0 rfl rfl (Nat.le_of_ble_eq_true rfl) (by rfl) (Nat.le_of_ble_eq_true rfl) (Nat.le_of_ble_eq_true rfl) (Nat.le_of_ble_eq_true rfl) ?_
      refine ev_if_ne (tgt := 39) dX12_carriage_34 (by decide) (fun hc4 => ?_) (fun hc4 => ?_)
      · replace h := ite_f hc4 h
        refine ev_aload_n dX12_carriage_39 rfl ?_
        refine ev_getR fr_X12_131 shR_0 rfl dX12_carriage_40 ?_
        refine ev_iload_n dX12_carriage_43 rfl ?_
        refine ev_iload_n dX12_carriage_44 rfl ?_
        refine ev_iconst (v := (1 : Int32)) dX12_carriage_45 (by decide) ?_
        refine ev_isub dX12_carriage_46 ?_
        obtain ⟨hi6, h⟩ := chk_t h
        refine ev_iast shR_40 hi6 dX12_carriage_47 ?_
        refine ev_aload_n dX12_carriage_48 rfl ?_
        refine ev_getR fr_X12_134 shR_0 rfl dX12_carriage_49 ?_
        refine ev_iload_n dX12_carriage_52 rfl ?_
        refine ev_iload_n dX12_carriage_53 rfl ?_
        obtain ⟨hi8, h⟩ := chk_t h
        refine ev_iast shR_41 hi8 dX12_carriage_54 ?_
        refine ev_iconst (v := (1 : Int32)) dX12_carriage_55 (by decide) ?_
        exact ev_iret rfl rfl (by decide) (by decide) dX12_carriage_56 (eqP_E h)
      · replace h := ite_t hc4 h
        refine ev_iconst (v := (0 : Int32)) dX12_carriage_37 (by decide) ?_
        exact ev_iret rfl rfl (by decide) (by decide) dX12_carriage_38 (eqP_E h)
def f_X12_doneBy_L4 (G : Nat) (μ : Mem)  : Nat → Int32 → Int32 → Int32 → Option Int32
  | 0, _, _, _ => none
  | g + 1, v1, v2, v3 =>
  (if (3 : Int32) ≤ v3 then
  some v2
  else
  chk (f_X12_plumeAt v1 v3) 3 (chk (f_X12_plumeAt v1 v3) 3 ((f_X12_doneBy_L4 G μ g) v1 (((f_X12_greater v2 (μ 41 (ix (f_X12_plumeAt v1 v3)))) + (μ 40 (ix (f_X12_plumeAt v1 v3)))) + (1 : Int32)) (v3 + (1 : Int32)))))
set_option maxHeartbeats 4000000 in
set_option maxRecDepth 100000 in
theorem f_X12_doneBy_L4_ok  {G : Nat} {μ : Mem} {r : Int32}    : ∀ (g : Nat) (v1 v2 v3 : Int32), f_X12_doneBy_L4 G μ g v1 v2 v3 = some r → Ev RX12 cX12_doneBy 5 (some .int) false 2 0 0 (eqP (some r) shR μ) 4 [some (.ref 0), some (.int v1), some (.int v2), some (.int v3), none] [] shR μ 0 0 := by
  intro g
  induction g with
  | zero =>
    intro v1 v2 v3 h
    cases h
  | succ g ih =>
    intro v1 v2 v3 h
    rw [f_X12_doneBy_L4] at h
    refine ev_iload_n dX12_doneBy_4 rfl ?_
    refine ev_iconst (v := (3 : Int32)) dX12_doneBy_5 (by decide) ?_
    refine ev_icmp_ge (tgt := 46) dX12_doneBy_6 (by decide) (fun hc1 => ?_) (fun hc1 => ?_)
    · replace h := ite_t hc1 h
      refine ev_iload_n dX12_doneBy_46 rfl ?_
      exact ev_iret rfl rfl (by decide) (by decide) dX12_doneBy_47 (eqP_O h)
    · replace h := ite_f hc1 h
      refine ev_aload_n dX12_doneBy_9 rfl ?_
      refine ev_iload_n dX12_doneBy_10 rfl ?_
      refine ev_iload_n dX12_doneBy_11 rfl ?_
      refine ev_cVi mv_X12_450 dX12_doneBy_12 c_X12_plumeAt rfl shR_0 rfl rfl (Nat.le_of_ble_eq_true rfl) (by rfl) (Nat.le_of_ble_eq_true rfl) (Nat.le_of_ble_eq_true rfl) (Nat.le_of_ble_eq_true rfl) ?_
      refine ev_istore (loc' := [_, _, _, _, _]) dX12_doneBy_15 rfl (by decide) (by rfl) ?_
      refine ev_aload_n dX12_doneBy_17 rfl ?_
      refine ev_iload_n dX12_doneBy_18 rfl ?_
      refine ev_aload_n dX12_doneBy_19 rfl ?_
      refine ev_getR fr_X12_134 shR_0 rfl dX12_doneBy_20 ?_
      refine ev_iload dX12_doneBy_23 rfl ?_
      obtain ⟨hi2, h⟩ := chk_t h
      refine ev_iald shR_41 hi2 dX12_doneBy_25 ?_
      refine ev_cVi mv_X12_434 dX12_doneBy_26 c_X12_greater rfl shR_0 rfl rfl (Nat.le_of_ble_eq_true rfl) (by rfl) (Nat.le_of_ble_eq_true rfl) (Nat.le_of_ble_eq_true rfl) (Nat.le_of_ble_eq_true rfl) ?_
      refine ev_aload_n dX12_doneBy_29 rfl ?_
      refine ev_getR fr_X12_131 shR_0 rfl dX12_doneBy_30 ?_
      refine ev_iload dX12_doneBy_33 rfl ?_
      obtain ⟨hi3, h⟩ := chk_t h
      refine ev_iald shR_40 hi3 dX12_doneBy_35 ?_
      refine ev_iadd dX12_doneBy_36 ?_
      refine ev_iconst (v := (1 : Int32)) dX12_doneBy_37 (by decide) ?_
      refine ev_iadd dX12_doneBy_38 ?_
      refine ev_istore_n (loc' := [_, _, _, _, _]) dX12_doneBy_39 rfl (by decide) (by rfl) ?_
      refine ev_iinc (cq := (1 : Int32)) (loc' := [_, _, _, _, _]) dX12_doneBy_40 rfl (by decide) rfl (by decide) (by rfl) ?_
      refine ev_goto (tgt := 4) dX12_doneBy_43 (by decide) ?_
      exact ev_lt (ih _ _ _ h) ⟨rfl, ⟨rfl, ⟨rfl, ⟨rfl, trivial⟩⟩⟩⟩
def f_X12_doneBy (G : Nat) (μ : Mem) (p1 : Int32) : Option Int32 :=
  f_X12_doneBy_L4 G μ G p1 (0 : Int32) (0 : Int32)
set_option maxHeartbeats 4000000 in
set_option maxRecDepth 100000 in
theorem c_X12_doneBy  {G : Nat} {μ : Mem}  {p1 : Int32} {r : Int32}  (h : f_X12_doneBy G μ p1 = some r) : Cn yX12_doneBy cX12_doneBy 5 (some .int) 2 0 0 [.ref 0, .int p1] shR μ (eqP (some r) shR μ) := by
  refine cn_of (own := RX12) (ini := false) (loc := [some (.ref 0), some (.int p1), none, none, none]) rfl (by decide) (fun q => by cases q) (Nat.le_of_ble_eq_true rfl) (by rfl) rfl ?_
  unfold f_X12_doneBy at h
  refine ev_iconst (v := (0 : Int32)) dX12_doneBy_0 (by decide) ?_
  refine ev_istore_n (loc' := [_, _, _, _, _]) dX12_doneBy_1 rfl (by decide) (by rfl) ?_
  refine ev_iconst (v := (0 : Int32)) dX12_doneBy_2 (by decide) ?_
  refine ev_istore_n (loc' := [_, _, _, _, _]) dX12_doneBy_3 rfl (by decide) (by rfl) ?_
  exact ev_lt (f_X12_doneBy_L4_ok _ _ _ _ h) ⟨rfl, ⟨rfl, ⟨rfl, ⟨rfl, trivial⟩⟩⟩⟩
def f_X12_isOrder  (p1 : Int32) : Int32 :=
  (if (((sl (1 : Int32) (f_X12_plumeAt p1 (0 : Int32))) ||| (sl (1 : Int32) (f_X12_plumeAt p1 (1 : Int32)))) ||| (sl (1 : Int32) (f_X12_plumeAt p1 (2 : Int32)))) = (7 : Int32) then
  (1 : Int32)
  else
  (0 : Int32))
set_option maxHeartbeats 4000000 in
set_option maxRecDepth 100000 in
theorem c_X12_isOrder   {μ : Mem} {p1 : Int32}  : Cn yX12_isOrder cX12_isOrder 2 (some .boolean) 2 0 0 [.ref 0, .int p1] shR μ (eqP (some (f_X12_isOrder p1)) shR μ) := by
  obtain ⟨r, h⟩ : ∃ r, f_X12_isOrder p1 = r := ⟨_, rfl⟩
  rw [h]
  refine cn_of (own := RX12) (ini := false) (loc := [some (.ref 0), some (.int p1)]) rfl (by decide) (fun q => by cases q) (Nat.le_of_ble_eq_true rfl) (by rfl) rfl ?_
  unfold f_X12_isOrder at h
  refine ev_iconst (v := (1 : Int32)) dX12_isOrder_0 (by decide) ?_
  refine ev_aload_n dX12_isOrder_1 rfl ?_
  refine ev_iload_n dX12_isOrder_2 rfl ?_
  refine ev_iconst (v := (0 : Int32)) dX12_isOrder_3 (by decide) ?_
  refine ev_cVi mv_X12_450 dX12_isOrder_4 c_X12_plumeAt rfl shR_0 rfl rfl (Nat.le_of_ble_eq_true rfl) (by rfl) (Nat.le_of_ble_eq_true rfl) (Nat.le_of_ble_eq_true rfl) (Nat.le_of_ble_eq_true rfl) ?_
  refine ev_ishl dX12_isOrder_7 ?_
  refine ev_iconst (v := (1 : Int32)) dX12_isOrder_8 (by decide) ?_
  refine ev_aload_n dX12_isOrder_9 rfl ?_
  refine ev_iload_n dX12_isOrder_10 rfl ?_
  refine ev_iconst (v := (1 : Int32)) dX12_isOrder_11 (by decide) ?_
  refine ev_cVi mv_X12_450 dX12_isOrder_12 c_X12_plumeAt rfl shR_0 rfl rfl (Nat.le_of_ble_eq_true rfl) (by rfl) (Nat.le_of_ble_eq_true rfl) (Nat.le_of_ble_eq_true rfl) (Nat.le_of_ble_eq_true rfl) ?_
  refine ev_ishl dX12_isOrder_15 ?_
  refine ev_ior dX12_isOrder_16 ?_
  refine ev_iconst (v := (1 : Int32)) dX12_isOrder_17 (by decide) ?_
  refine ev_aload_n dX12_isOrder_18 rfl ?_
  refine ev_iload_n dX12_isOrder_19 rfl ?_
  refine ev_iconst (v := (2 : Int32)) dX12_isOrder_20 (by decide) ?_
  refine ev_cVi mv_X12_450 dX12_isOrder_21 c_X12_plumeAt rfl shR_0 rfl rfl (Nat.le_of_ble_eq_true rfl) (by rfl) (Nat.le_of_ble_eq_true rfl) (Nat.le_of_ble_eq_true rfl) (Nat.le_of_ble_eq_true rfl) ?_
  refine ev_ishl dX12_isOrder_24 ?_
  refine ev_ior dX12_isOrder_25 ?_
  refine ev_bipush (v := (7 : Int32)) dX12_isOrder_26 (by decide) ?_
  refine ev_icmp_ne (tgt := 35) dX12_isOrder_28 (by decide) (fun hc1 => ?_) (fun hc1 => ?_)
  · replace h := ite_f hc1 h
    refine ev_iconst (v := (0 : Int32)) dX12_isOrder_35 (by decide) ?_
    exact ev_iret rfl rfl (by decide) (by decide) dX12_isOrder_36 (eqP_P h)
  · replace h := ite_t hc1 h
    refine ev_iconst (v := (1 : Int32)) dX12_isOrder_31 (by decide) ?_
    refine ev_goto (tgt := 36) dX12_isOrder_32 (by decide) ?_
    exact ev_iret rfl rfl (by decide) (by decide) dX12_isOrder_36 (eqP_P h)
def f_X12_down_j53 (G : Nat) (r23 : Int32 → Int32 → Int32 → Mem → Option (Int32 × Mem)) (k23_59 : Int32 → Int32 → Mem → Option (Int32 × Mem)) (v1 v2 v3 : Int32) (μ : Mem) : Option (Int32 × Mem) :=
  r23 v1 v2 (v3 + (1 : Int32)) μ
set_option maxHeartbeats 4000000 in
set_option maxRecDepth 100000 in
theorem f_X12_down_j53_ok  {G : Nat} {r : Int32} {μr : Mem}  {r23 : Int32 → Int32 → Int32 → Mem → Option (Int32 × Mem)} {k23_59 : Int32 → Int32 → Mem → Option (Int32 × Mem)} (hr23 : ∀ (v1 : Int32) (v2 : Int32) (v3 : Int32) (m : Mem), r23 v1 v2 v3 m = some (r, μr) → Ev RX12 cX12_down 4 (some .int) false 3 0 0 (eqP (some r) shR μr) 23 [some (.ref 0), some (.int v1), some (.int v2), some (.int v3)] [] shR m 0 0) (hk23_59 : ∀ (v1 : Int32) (v2 : Int32) (m : Mem), k23_59 v1 v2 m = some (r, μr) → Ev RX12 cX12_down 4 (some .int) false 3 0 0 (eqP (some r) shR μr) 59 [some (.ref 0), some (.int v1), some (.int v2), none] [] shR m 0 0) {v1 v2 v3 : Int32} {μ : Mem} (h : f_X12_down_j53 G r23 k23_59 v1 v2 v3 μ = some (r, μr)) : Ev RX12 cX12_down 4 (some .int) false 3 0 0 (eqP (some r) shR μr) 53 [some (.ref 0), some (.int v1), some (.int v2), some (.int v3)] [] shR μ 0 0 := by
  unfold f_X12_down_j53 at h
  refine ev_iinc (cq := (1 : Int32)) (loc' := [_, _, _, _]) dX12_down_53 rfl (by decide) rfl (by decide) (by rfl) ?_
  refine ev_goto (tgt := 23) dX12_down_56 (by decide) ?_
  exact ev_lt (hr23 _ _ _ _ h) ⟨rfl, ⟨rfl, ⟨rfl, ⟨rfl, trivial⟩⟩⟩⟩
def f_X12_down_L23 (G : Nat) (k23_59 : Int32 → Int32 → Mem → Option (Int32 × Mem)) : Nat → Int32 → Int32 → Int32 → Mem → Option (Int32 × Mem)
  | 0, _, _, _, _ => none
  | g + 1, v1, v2, v3, μ =>
  (if (211 : Int32) ≤ v3 then
  k23_59 v1 v2 μ
  else
  (if (f_X12_isOrder v3) = (0 : Int32) then
  f_X12_down_j53 G (f_X12_down_L23 G k23_59 g) k23_59 v1 v2 v3 μ
  else
  bndO (f_X12_doneBy G μ v3) (fun w6 =>
  bndO (f_X12_doneBy G μ v2) (fun w8 =>
  (if w8 ≤ w6 then
  f_X12_down_j53 G (f_X12_down_L23 G k23_59 g) k23_59 v1 v2 v3 μ
  else
  f_X12_down_j53 G (f_X12_down_L23 G k23_59 g) k23_59 v1 v3 v3 μ)))))
set_option maxHeartbeats 4000000 in
set_option maxRecDepth 100000 in
theorem f_X12_down_L23_ok  {G : Nat} {r : Int32} {μr : Mem}  {k23_59 : Int32 → Int32 → Mem → Option (Int32 × Mem)} (hk23_59 : ∀ (v1 : Int32) (v2 : Int32) (m : Mem), k23_59 v1 v2 m = some (r, μr) → Ev RX12 cX12_down 4 (some .int) false 3 0 0 (eqP (some r) shR μr) 59 [some (.ref 0), some (.int v1), some (.int v2), none] [] shR m 0 0) : ∀ (g : Nat) (v1 v2 v3 : Int32) (μ : Mem), f_X12_down_L23 G k23_59 g v1 v2 v3 μ = some (r, μr) → Ev RX12 cX12_down 4 (some .int) false 3 0 0 (eqP (some r) shR μr) 23 [some (.ref 0), some (.int v1), some (.int v2), some (.int v3)] [] shR μ 0 0 := by
  intro g
  induction g with
  | zero =>
    intro v1 v2 v3 μ h
    cases h
  | succ g ih =>
    intro v1 v2 v3 μ h
    rw [f_X12_down_L23] at h
    refine ev_iload_n dX12_down_23 rfl ?_
    refine ev_sipush (v := (211 : Int32)) dX12_down_24 (by decide) ?_
    refine ev_icmp_ge (tgt := 59) dX12_down_27 (by decide) (fun hc3 => ?_) (fun hc3 => ?_)
    · replace h := ite_t hc3 h
      exact ev_lt (hk23_59 _ _ _ h) ⟨rfl, ⟨rfl, ⟨rfl, trivial⟩⟩⟩
    · replace h := ite_f hc3 h
      refine ev_aload_n dX12_down_30 rfl ?_
      refine ev_iload_n dX12_down_31 rfl ?_
      refine ev_cVi mv_X12_510 dX12_down_32 c_X12_isOrder rfl shR_0 rfl rfl (Nat.le_of_ble_eq_true rfl) (by rfl) (Nat.le_of_ble_eq_true rfl) (Nat.le_of_ble_eq_true rfl) (Nat.le_of_ble_eq_true rfl) ?_
      refine ev_if_eq (tgt := 53) dX12_down_35 (by decide) (fun hc4 => ?_) (fun hc4 => ?_)
      · replace h := ite_t hc4 h
        exact ev_lt (f_X12_down_j53_ok ih hk23_59 h) ⟨rfl, ⟨rfl, ⟨rfl, ⟨rfl, trivial⟩⟩⟩⟩
      · replace h := ite_f hc4 h
        refine ev_aload_n dX12_down_38 rfl ?_
        refine ev_iload_n dX12_down_39 rfl ?_
        obtain ⟨w6, hq5, h⟩ := bndO_t h
        refine ev_cVi mv_X12_513 dX12_down_40 (c_X12_doneBy hq5) rfl shR_0 rfl rfl (Nat.le_of_ble_eq_true rfl) (by rfl) (Nat.le_of_ble_eq_true rfl) (Nat.le_of_ble_eq_true rfl) (Nat.le_of_ble_eq_true rfl) ?_
        refine ev_aload_n dX12_down_43 rfl ?_
        refine ev_iload_n dX12_down_44 rfl ?_
        obtain ⟨w8, hq7, h⟩ := bndO_t h
        refine ev_cVi mv_X12_513 dX12_down_45 (c_X12_doneBy hq7) rfl shR_0 rfl rfl (Nat.le_of_ble_eq_true rfl) (by rfl) (Nat.le_of_ble_eq_true rfl) (Nat.le_of_ble_eq_true rfl) (Nat.le_of_ble_eq_true rfl) ?_
        refine ev_icmp_ge (tgt := 53) dX12_down_48 (by decide) (fun hc9 => ?_) (fun hc9 => ?_)
        · replace h := ite_t hc9 h
          exact ev_lt (f_X12_down_j53_ok ih hk23_59 h) ⟨rfl, ⟨rfl, ⟨rfl, ⟨rfl, trivial⟩⟩⟩⟩
        · replace h := ite_f hc9 h
          refine ev_iload_n dX12_down_51 rfl ?_
          refine ev_istore_n (loc' := [_, _, _, _]) dX12_down_52 rfl (by decide) (by rfl) ?_
          exact ev_lt (f_X12_down_j53_ok ih hk23_59 h) ⟨rfl, ⟨rfl, ⟨rfl, ⟨rfl, trivial⟩⟩⟩⟩
def f_X12_down_j59 (G : Nat)  (v1 v2 : Int32) (μ : Mem) : Option (Int32 × Mem) :=
  (if v1 = (0 : Int32) then
  some (v2, μ)
  else
  bndO (f_X12_doneBy G μ v2) (fun w12 =>
  some (w12, μ)))
set_option maxHeartbeats 4000000 in
set_option maxRecDepth 100000 in
theorem f_X12_down_j59_ok  {G : Nat} {r : Int32} {μr : Mem}    {v1 v2 : Int32} {μ : Mem} (h : f_X12_down_j59 G v1 v2 μ = some (r, μr)) : Ev RX12 cX12_down 4 (some .int) false 3 0 0 (eqP (some r) shR μr) 59 [some (.ref 0), some (.int v1), some (.int v2), none] [] shR μ 0 0 := by
  unfold f_X12_down_j59 at h
  refine ev_iload_n dX12_down_59 rfl ?_
  refine ev_if_ne (tgt := 67) dX12_down_60 (by decide) (fun hc10 => ?_) (fun hc10 => ?_)
  · replace h := ite_f hc10 h
    refine ev_aload_n dX12_down_67 rfl ?_
    refine ev_iload_n dX12_down_68 rfl ?_
    obtain ⟨w12, hq11, h⟩ := bndO_t h
    refine ev_cVi mv_X12_513 dX12_down_69 (c_X12_doneBy hq11) rfl shR_0 rfl rfl (Nat.le_of_ble_eq_true rfl) (by rfl) (Nat.le_of_ble_eq_true rfl) (Nat.le_of_ble_eq_true rfl) (Nat.le_of_ble_eq_true rfl) ?_
    exact ev_iret rfl rfl (by decide) (by decide) dX12_down_72 (eqP_E h)
  · replace h := ite_t hc10 h
    refine ev_iload_n dX12_down_63 rfl ?_
    refine ev_goto (tgt := 72) dX12_down_64 (by decide) ?_
    exact ev_iret rfl rfl (by decide) (by decide) dX12_down_72 (eqP_E h)
def f_X12_down (G : Nat) (p1 : Int32) (μ : Mem) : Option (Int32 × Mem) :=
  (let m1 := wr μ 0 0 (0 : Int32)
  (if (f_X12_isIn p1 (0 : Int32) (1 : Int32)) = (0 : Int32) then
  some ((-1 : Int32), m1)
  else
  f_X12_down_L23 G (f_X12_down_j59 G) G p1 (12 : Int32) (12 : Int32) m1))
set_option maxHeartbeats 4000000 in
set_option maxRecDepth 100000 in
theorem c_X12_down  {G : Nat} {μ : Mem} {p1 : Int32} {r : Int32} {μr : Mem}  (h : f_X12_down G p1 μ = some (r, μr)) : Cn yX12_down cX12_down 4 (some .int) 3 0 0 [.ref 0, .int p1] shR μ (eqP (some r) shR μr) := by
  refine cn_of (own := RX12) (ini := false) (loc := [some (.ref 0), some (.int p1), none, none]) rfl (by decide) (fun q => by cases q) (Nat.le_of_ble_eq_true rfl) (by rfl) rfl ?_
  unfold f_X12_down at h
  refine ev_aload_n dX12_down_0 rfl ?_
  refine ev_iconst (v := (0 : Int32)) dX12_down_1 (by decide) ?_
  refine ev_putI fr_X12_149 shR_0 rfl rfl rfl dX12_down_2 ?_
  refine ev_aload_n dX12_down_5 rfl ?_
  refine ev_iload_n dX12_down_6 rfl ?_
  refine ev_iconst (v := (0 : Int32)) dX12_down_7 (by decide) ?_
  refine ev_iconst (v := (1 : Int32)) dX12_down_8 (by decide) ?_
  refine ev_cVi mv_X12_167 dX12_down_9 c_X12_isIn rfl shR_0 rfl rfl (Nat.le_of_ble_eq_true rfl) (by rfl) (Nat.le_of_ble_eq_true rfl) (Nat.le_of_ble_eq_true rfl) (Nat.le_of_ble_eq_true rfl) ?_
  refine ev_if_ne (tgt := 17) dX12_down_12 (by decide) (fun hc2 => ?_) (fun hc2 => ?_)
  · replace h := ite_f hc2 h
    refine ev_bipush (v := (12 : Int32)) dX12_down_17 (by decide) ?_
    refine ev_istore_n (loc' := [_, _, _, _]) dX12_down_19 rfl (by decide) (by rfl) ?_
    refine ev_bipush (v := (12 : Int32)) dX12_down_20 (by decide) ?_
    refine ev_istore_n (loc' := [_, _, _, _]) dX12_down_22 rfl (by decide) (by rfl) ?_
    exact ev_lt (f_X12_down_L23_ok (fun _ _ _ hh => f_X12_down_j59_ok hh) _ _ _ _ _ h) ⟨rfl, ⟨rfl, ⟨rfl, ⟨rfl, trivial⟩⟩⟩⟩
  · replace h := ite_t hc2 h
    refine ev_iconst (v := (-1 : Int32)) dX12_down_15 (by decide) ?_
    exact ev_iret rfl rfl (by decide) (by decide) dX12_down_16 (eqP_E h)
def f_X12_offer (G : Nat) (p1 : Int32) (μ : Mem) : Option (Int32 × Mem) :=
  (let m1 := wr μ 0 0 (0 : Int32)
  (if p1 = (-1 : Int32) then
  (let m8 := wr m1 0 68 (0 : Int32)
  some ((0 : Int32), m8))
  else
  (if (f_X12_isIn p1 (0 : Int32) (99 : Int32)) = (0 : Int32) then
  some ((-1 : Int32), m1)
  else
  (if (m1 0 68) = (7 : Int32) then
  some ((-1 : Int32), m1)
  else
  chk (m1 0 68) 7 (let m5 := wr m1 42 (ix (m1 0 68)) p1
  (let m7 := wr m5 0 68 ((m5 0 68) + (1 : Int32))
  some ((m7 0 68), m7)))))))
set_option maxHeartbeats 4000000 in
set_option maxRecDepth 100000 in
theorem c_X12_offer  {G : Nat} {μ : Mem} {p1 : Int32} {r : Int32} {μr : Mem}  (h : f_X12_offer G p1 μ = some (r, μr)) : Cn yX12_offer cX12_offer 2 (some .int) 2 0 0 [.ref 0, .int p1] shR μ (eqP (some r) shR μr) := by
  refine cn_of (own := RX12) (ini := false) (loc := [some (.ref 0), some (.int p1)]) rfl (by decide) (fun q => by cases q) (Nat.le_of_ble_eq_true rfl) (by rfl) rfl ?_
  unfold f_X12_offer at h
  refine ev_aload_n dX12_offer_0 rfl ?_
  refine ev_iconst (v := (0 : Int32)) dX12_offer_1 (by decide) ?_
  refine ev_putI fr_X12_149 shR_0 rfl rfl rfl dX12_offer_2 ?_
  refine ev_iload_n dX12_offer_5 rfl ?_
  refine ev_iconst (v := (-1 : Int32)) dX12_offer_6 (by decide) ?_
  refine ev_icmp_ne (tgt := 17) dX12_offer_7 (by decide) (fun hc2 => ?_) (fun hc2 => ?_)
  · replace h := ite_f hc2 h
    refine ev_aload_n dX12_offer_17 rfl ?_
    refine ev_iload_n dX12_offer_18 rfl ?_
    refine ev_iconst (v := (0 : Int32)) dX12_offer_19 (by decide) ?_
    refine ev_bipush (v := (99 : Int32)) dX12_offer_20 (by decide) ?_
    refine ev_cVi mv_X12_167 dX12_offer_22 c_X12_isIn rfl shR_0 rfl rfl (Nat.le_of_ble_eq_true rfl) (by rfl) (Nat.le_of_ble_eq_true rfl) (Nat.le_of_ble_eq_true rfl) (Nat.le_of_ble_eq_true rfl) ?_
    refine ev_if_eq (tgt := 37) dX12_offer_25 (by decide) (fun hc3 => ?_) (fun hc3 => ?_)
    · replace h := ite_t hc3 h
      refine ev_iconst (v := (-1 : Int32)) dX12_offer_37 (by decide) ?_
      exact ev_iret rfl rfl (by decide) (by decide) dX12_offer_38 (eqP_E h)
    · replace h := ite_f hc3 h
      refine ev_aload_n dX12_offer_28 rfl ?_
      refine ev_getI fr_X12_516 shR_0 rfl dX12_offer_29 ?_
      refine ev_bipush (v := (7 : Int32)) dX12_offer_32 (by decide) ?_
      refine ev_icmp_ne (tgt := 39) dX12_offer_34 (by decide) (fun hc4 => ?_) (fun hc4 => ?_)
      · replace h := ite_f hc4 h
        refine ev_aload_n dX12_offer_39 rfl ?_
        refine ev_getR fr_X12_137 shR_0 rfl dX12_offer_40 ?_
        refine ev_aload_n dX12_offer_43 rfl ?_
        refine ev_getI fr_X12_516 shR_0 rfl dX12_offer_44 ?_
        refine ev_iload_n dX12_offer_47 rfl ?_
        obtain ⟨hi6, h⟩ := chk_t h
        refine ev_iast shR_42 hi6 dX12_offer_48 ?_
        refine ev_aload_n dX12_offer_49 rfl ?_
        refine ev_aload_n dX12_offer_50 rfl ?_
        refine ev_getI fr_X12_516 shR_0 rfl dX12_offer_51 ?_
        refine ev_iconst (v := (1 : Int32)) dX12_offer_54 (by decide) ?_
        refine ev_iadd dX12_offer_55 ?_
        refine ev_putI fr_X12_516 shR_0 rfl rfl rfl dX12_offer_56 ?_
        refine ev_aload_n dX12_offer_59 rfl ?_
        refine ev_getI fr_X12_516 shR_0 rfl dX12_offer_60 ?_
        exact ev_iret rfl rfl (by decide) (by decide) dX12_offer_63 (eqP_E h)
      · replace h := ite_t hc4 h
        refine ev_iconst (v := (-1 : Int32)) dX12_offer_37 (by decide) ?_
        exact ev_iret rfl rfl (by decide) (by decide) dX12_offer_38 (eqP_E h)
  · replace h := ite_t hc2 h
    refine ev_aload_n dX12_offer_10 rfl ?_
    refine ev_iconst (v := (0 : Int32)) dX12_offer_11 (by decide) ?_
    refine ev_putI fr_X12_516 shR_0 rfl rfl rfl dX12_offer_12 ?_
    refine ev_iconst (v := (0 : Int32)) dX12_offer_15 (by decide) ?_
    exact ev_iret rfl rfl (by decide) (by decide) dX12_offer_16 (eqP_E h)
def f_X12_goesToNextOrder_L7 (G : Nat) (k7_35 : Int32 → Mem → Option (Int32 × Mem)) : Nat → Int32 → Mem → Option (Int32 × Mem)
  | 0, _, _ => none
  | g + 1, v1, μ =>
  (if v1 < (0 : Int32) then
  k7_35 v1 μ
  else
  chk v1 7 (chk (v1 + (1 : Int32)) 7 ((if (μ 43 (ix v1)) ≤ (μ 43 (ix (v1 + (1 : Int32)))) then
  k7_35 v1 μ
  else
  (f_X12_goesToNextOrder_L7 G k7_35 g) (v1 - (1 : Int32)) μ))))
set_option maxHeartbeats 4000000 in
set_option maxRecDepth 100000 in
theorem f_X12_goesToNextOrder_L7_ok  {G : Nat} {r : Int32} {μr : Mem}  {k7_35 : Int32 → Mem → Option (Int32 × Mem)} (hk7_35 : ∀ (v1 : Int32) (m : Mem), k7_35 v1 m = some (r, μr) → Ev RX12 cX12_goesToNextOrder 6 (some .boolean) false 1 0 0 (eqP (some r) shR μr) 35 [some (.ref 0), some (.int v1), none, none, none, none] [] shR m 0 0) : ∀ (g : Nat) (v1 : Int32) (μ : Mem), f_X12_goesToNextOrder_L7 G k7_35 g v1 μ = some (r, μr) → Ev RX12 cX12_goesToNextOrder 6 (some .boolean) false 1 0 0 (eqP (some r) shR μr) 7 [some (.ref 0), some (.int v1), none, none, none, none] [] shR μ 0 0 := by
  intro g
  induction g with
  | zero =>
    intro v1 μ h
    cases h
  | succ g ih =>
    intro v1 μ h
    rw [f_X12_goesToNextOrder_L7] at h
    refine ev_iload_n dX12_goesToNextOrder_7 rfl ?_
    refine ev_if_lt (tgt := 35) dX12_goesToNextOrder_8 (by decide) (fun hc1 => ?_) (fun hc1 => ?_)
    · replace h := ite_t hc1 h
      exact ev_lt (hk7_35 _ _ h) ⟨rfl, ⟨rfl, trivial⟩⟩
    · replace h := ite_f hc1 h
      refine ev_aload_n dX12_goesToNextOrder_11 rfl ?_
      refine ev_getR fr_X12_140 shR_0 rfl dX12_goesToNextOrder_12 ?_
      refine ev_iload_n dX12_goesToNextOrder_15 rfl ?_
      obtain ⟨hi2, h⟩ := chk_t h
      refine ev_iald shR_43 hi2 dX12_goesToNextOrder_16 ?_
      refine ev_aload_n dX12_goesToNextOrder_17 rfl ?_
      refine ev_getR fr_X12_140 shR_0 rfl dX12_goesToNextOrder_18 ?_
      refine ev_iload_n dX12_goesToNextOrder_21 rfl ?_
      refine ev_iconst (v := (1 : Int32)) dX12_goesToNextOrder_22 (by decide) ?_
      refine ev_iadd dX12_goesToNextOrder_23 ?_
      obtain ⟨hi3, h⟩ := chk_t h
      refine ev_iald shR_43 hi3 dX12_goesToNextOrder_24 ?_
      refine ev_icmp_le (tgt := 35) dX12_goesToNextOrder_25 (by decide) (fun hc4 => ?_) (fun hc4 => ?_)
      · replace h := ite_t hc4 h
        exact ev_lt (hk7_35 _ _ h) ⟨rfl, ⟨rfl, trivial⟩⟩
      · replace h := ite_f hc4 h
        refine ev_iload_n dX12_goesToNextOrder_28 rfl ?_
        refine ev_iconst (v := (1 : Int32)) dX12_goesToNextOrder_29 (by decide) ?_
        refine ev_isub dX12_goesToNextOrder_30 ?_
        refine ev_istore_n (loc' := [_, _, _, _, _, _]) dX12_goesToNextOrder_31 rfl (by decide) (by rfl) ?_
        refine ev_goto (tgt := 7) dX12_goesToNextOrder_32 (by decide) ?_
        exact ev_lt (ih _ _ h) ⟨rfl, ⟨rfl, trivial⟩⟩
def f_X12_goesToNextOrder_L48 (G : Nat) (k48_70 : Int32 → Int32 → Mem → Option (Int32 × Mem)) : Nat → Int32 → Int32 → Mem → Option (Int32 × Mem)
  | 0, _, _, _ => none
  | g + 1, v1, v2, μ =>
  chk v2 7 (chk v1 7 ((if (μ 43 (ix v1)) ≤ (μ 43 (ix v2)) then
  k48_70 v1 v2 μ
  else
  (f_X12_goesToNextOrder_L48 G k48_70 g) v1 (v2 - (1 : Int32)) μ)))
set_option maxHeartbeats 4000000 in
set_option maxRecDepth 100000 in
theorem f_X12_goesToNextOrder_L48_ok  {G : Nat} {r : Int32} {μr : Mem}  {k48_70 : Int32 → Int32 → Mem → Option (Int32 × Mem)} (hk48_70 : ∀ (v1 : Int32) (v2 : Int32) (m : Mem), k48_70 v1 v2 m = some (r, μr) → Ev RX12 cX12_goesToNextOrder 6 (some .boolean) false 1 0 0 (eqP (some r) shR μr) 70 [some (.ref 0), some (.int v1), some (.int v2), none, none, none] [] shR m 0 0) : ∀ (g : Nat) (v1 v2 : Int32) (μ : Mem), f_X12_goesToNextOrder_L48 G k48_70 g v1 v2 μ = some (r, μr) → Ev RX12 cX12_goesToNextOrder 6 (some .boolean) false 1 0 0 (eqP (some r) shR μr) 48 [some (.ref 0), some (.int v1), some (.int v2), none, none, none] [] shR μ 0 0 := by
  intro g
  induction g with
  | zero =>
    intro v1 v2 μ h
    cases h
  | succ g ih =>
    intro v1 v2 μ h
    rw [f_X12_goesToNextOrder_L48] at h
    refine ev_aload_n dX12_goesToNextOrder_48 rfl ?_
    refine ev_getR fr_X12_140 shR_0 rfl dX12_goesToNextOrder_49 ?_
    refine ev_iload_n dX12_goesToNextOrder_52 rfl ?_
    obtain ⟨hi6, h⟩ := chk_t h
    refine ev_iald shR_43 hi6 dX12_goesToNextOrder_53 ?_
    refine ev_aload_n dX12_goesToNextOrder_54 rfl ?_
    refine ev_getR fr_X12_140 shR_0 rfl dX12_goesToNextOrder_55 ?_
    refine ev_iload_n dX12_goesToNextOrder_58 rfl ?_
    obtain ⟨hi7, h⟩ := chk_t h
    refine ev_iald shR_43 hi7 dX12_goesToNextOrder_59 ?_
    refine ev_icmp_ge (tgt := 70) dX12_goesToNextOrder_60 (by decide) (fun hc8 => ?_) (fun hc8 => ?_)
    · replace h := ite_t hc8 h
      exact ev_lt (hk48_70 _ _ _ h) ⟨rfl, ⟨rfl, ⟨rfl, trivial⟩⟩⟩
    · replace h := ite_f hc8 h
      refine ev_iload_n dX12_goesToNextOrder_63 rfl ?_
      refine ev_iconst (v := (1 : Int32)) dX12_goesToNextOrder_64 (by decide) ?_
      refine ev_isub dX12_goesToNextOrder_65 ?_
      refine ev_istore_n (loc' := [_, _, _, _, _, _]) dX12_goesToNextOrder_66 rfl (by decide) (by rfl) ?_
      refine ev_goto (tgt := 48) dX12_goesToNextOrder_67 (by decide) ?_
      exact ev_lt (ih _ _ _ h) ⟨rfl, ⟨rfl, ⟨rfl, trivial⟩⟩⟩
def f_X12_goesToNextOrder_L109 (G : Nat)  : Nat → Int32 → Int32 → Mem → Option (Int32 × Mem)
  | 0, _, _, _ => none
  | g + 1, v4, v5, μ =>
  (if v5 ≤ v4 then
  some ((1 : Int32), μ)
  else
  chk v4 7 (chk v5 7 (chk v4 7 (let m18 := wr μ 43 (ix v4) (μ 43 (ix v5))
  chk v5 7 (let m20 := wr m18 43 (ix v5) (μ 43 (ix v4))
  (f_X12_goesToNextOrder_L109 G g) (v4 + (1 : Int32)) (v5 - (1 : Int32)) m20)))))
set_option maxHeartbeats 4000000 in
set_option maxRecDepth 100000 in
theorem f_X12_goesToNextOrder_L109_ok  {G : Nat} {r : Int32} {μr : Mem}    : ∀ (g : Nat) (v4 v5 : Int32) (μ : Mem), f_X12_goesToNextOrder_L109 G g v4 v5 μ = some (r, μr) → Ev RX12 cX12_goesToNextOrder 6 (some .boolean) false 1 0 0 (eqP (some r) shR μr) 109 [some (.ref 0), none, none, none, some (.int v4), some (.int v5)] [] shR μ 0 0 := by
  intro g
  induction g with
  | zero =>
    intro v4 v5 μ h
    cases h
  | succ g ih =>
    intro v4 v5 μ h
    rw [f_X12_goesToNextOrder_L109] at h
    refine ev_iload dX12_goesToNextOrder_109 rfl ?_
    refine ev_iload dX12_goesToNextOrder_111 rfl ?_
    refine ev_icmp_ge (tgt := 158) dX12_goesToNextOrder_113 (by decide) (fun hc15 => ?_) (fun hc15 => ?_)
    · replace h := ite_t hc15 h
      refine ev_iconst (v := (1 : Int32)) dX12_goesToNextOrder_158 (by decide) ?_
      exact ev_iret rfl rfl (by decide) (by decide) dX12_goesToNextOrder_159 (eqP_E h)
    · replace h := ite_f hc15 h
      refine ev_aload_n dX12_goesToNextOrder_116 rfl ?_
      refine ev_getR fr_X12_140 shR_0 rfl dX12_goesToNextOrder_117 ?_
      refine ev_iload dX12_goesToNextOrder_120 rfl ?_
      obtain ⟨hi16, h⟩ := chk_t h
      refine ev_iald shR_43 hi16 dX12_goesToNextOrder_122 ?_
      refine ev_istore_n (loc' := [_, _, _, _, _, _]) dX12_goesToNextOrder_123 rfl (by decide) (by rfl) ?_
      refine ev_aload_n dX12_goesToNextOrder_124 rfl ?_
      refine ev_getR fr_X12_140 shR_0 rfl dX12_goesToNextOrder_125 ?_
      refine ev_iload dX12_goesToNextOrder_128 rfl ?_
      refine ev_aload_n dX12_goesToNextOrder_130 rfl ?_
      refine ev_getR fr_X12_140 shR_0 rfl dX12_goesToNextOrder_131 ?_
      refine ev_iload dX12_goesToNextOrder_134 rfl ?_
      obtain ⟨hi17, h⟩ := chk_t h
      refine ev_iald shR_43 hi17 dX12_goesToNextOrder_136 ?_
      obtain ⟨hi19, h⟩ := chk_t h
      refine ev_iast shR_43 hi19 dX12_goesToNextOrder_137 ?_
      refine ev_aload_n dX12_goesToNextOrder_138 rfl ?_
      refine ev_getR fr_X12_140 shR_0 rfl dX12_goesToNextOrder_139 ?_
      refine ev_iload dX12_goesToNextOrder_142 rfl ?_
      refine ev_iload_n dX12_goesToNextOrder_144 rfl ?_
      obtain ⟨hi21, h⟩ := chk_t h
      refine ev_iast shR_43 hi21 dX12_goesToNextOrder_145 ?_
      refine ev_iload dX12_goesToNextOrder_146 rfl ?_
      refine ev_iconst (v := (1 : Int32)) dX12_goesToNextOrder_148 (by decide) ?_
      refine ev_isub dX12_goesToNextOrder_149 ?_
      refine ev_istore (loc' := [_, _, _, _, _, _]) dX12_goesToNextOrder_150 rfl (by decide) (by rfl) ?_
      refine ev_iinc (cq := (1 : Int32)) (loc' := [_, _, _, _, _, _]) dX12_goesToNextOrder_152 rfl (by decide) rfl (by decide) (by rfl) ?_
      refine ev_goto (tgt := 109) dX12_goesToNextOrder_155 (by decide) ?_
      exact ev_lt (ih _ _ _ h) ⟨rfl, ⟨rfl, ⟨rfl, trivial⟩⟩⟩
def f_X12_goesToNextOrder_j70 (G : Nat)  (v1 v2 : Int32) (μ : Mem) : Option (Int32 × Mem) :=
  chk v1 7 (chk v2 7 (chk v1 7 (let m11 := wr μ 43 (ix v1) (μ 43 (ix v2))
  chk v2 7 (let m13 := wr m11 43 (ix v2) (μ 43 (ix v1))
  f_X12_goesToNextOrder_L109 G G (v1 + (1 : Int32)) ((m13 0 68) - (1 : Int32)) m13))))
set_option maxHeartbeats 4000000 in
set_option maxRecDepth 100000 in
theorem f_X12_goesToNextOrder_j70_ok  {G : Nat} {r : Int32} {μr : Mem}    {v1 v2 : Int32} {μ : Mem} (h : f_X12_goesToNextOrder_j70 G v1 v2 μ = some (r, μr)) : Ev RX12 cX12_goesToNextOrder 6 (some .boolean) false 1 0 0 (eqP (some r) shR μr) 70 [some (.ref 0), some (.int v1), some (.int v2), none, none, none] [] shR μ 0 0 := by
  unfold f_X12_goesToNextOrder_j70 at h
  refine ev_aload_n dX12_goesToNextOrder_70 rfl ?_
  refine ev_getR fr_X12_140 shR_0 rfl dX12_goesToNextOrder_71 ?_
  refine ev_iload_n dX12_goesToNextOrder_74 rfl ?_
  obtain ⟨hi9, h⟩ := chk_t h
  refine ev_iald shR_43 hi9 dX12_goesToNextOrder_75 ?_
  refine ev_istore_n (loc' := [_, _, _, _, _, _]) dX12_goesToNextOrder_76 rfl (by decide) (by rfl) ?_
  refine ev_aload_n dX12_goesToNextOrder_77 rfl ?_
  refine ev_getR fr_X12_140 shR_0 rfl dX12_goesToNextOrder_78 ?_
  refine ev_iload_n dX12_goesToNextOrder_81 rfl ?_
  refine ev_aload_n dX12_goesToNextOrder_82 rfl ?_
  refine ev_getR fr_X12_140 shR_0 rfl dX12_goesToNextOrder_83 ?_
  refine ev_iload_n dX12_goesToNextOrder_86 rfl ?_
  obtain ⟨hi10, h⟩ := chk_t h
  refine ev_iald shR_43 hi10 dX12_goesToNextOrder_87 ?_
  obtain ⟨hi12, h⟩ := chk_t h
  refine ev_iast shR_43 hi12 dX12_goesToNextOrder_88 ?_
  refine ev_aload_n dX12_goesToNextOrder_89 rfl ?_
  refine ev_getR fr_X12_140 shR_0 rfl dX12_goesToNextOrder_90 ?_
  refine ev_iload_n dX12_goesToNextOrder_93 rfl ?_
  refine ev_iload_n dX12_goesToNextOrder_94 rfl ?_
  obtain ⟨hi14, h⟩ := chk_t h
  refine ev_iast shR_43 hi14 dX12_goesToNextOrder_95 ?_
  refine ev_iload_n dX12_goesToNextOrder_96 rfl ?_
  refine ev_iconst (v := (1 : Int32)) dX12_goesToNextOrder_97 (by decide) ?_
  refine ev_iadd dX12_goesToNextOrder_98 ?_
  refine ev_istore (loc' := [_, _, _, _, _, _]) dX12_goesToNextOrder_99 rfl (by decide) (by rfl) ?_
  refine ev_aload_n dX12_goesToNextOrder_101 rfl ?_
  refine ev_getI fr_X12_516 shR_0 rfl dX12_goesToNextOrder_102 ?_
  refine ev_iconst (v := (1 : Int32)) dX12_goesToNextOrder_105 (by decide) ?_
  refine ev_isub dX12_goesToNextOrder_106 ?_
  refine ev_istore (loc' := [_, _, _, _, _, _]) dX12_goesToNextOrder_107 rfl (by decide) (by rfl) ?_
  exact ev_lt (f_X12_goesToNextOrder_L109_ok _ _ _ _ h) ⟨rfl, ⟨rfl, ⟨rfl, trivial⟩⟩⟩
def f_X12_goesToNextOrder_j35 (G : Nat)  (v1 : Int32) (μ : Mem) : Option (Int32 × Mem) :=
  (if (0 : Int32) ≤ v1 then
  f_X12_goesToNextOrder_L48 G (f_X12_goesToNextOrder_j70 G) G v1 ((μ 0 68) - (1 : Int32)) μ
  else
  some ((0 : Int32), μ))
set_option maxHeartbeats 4000000 in
set_option maxRecDepth 100000 in
theorem f_X12_goesToNextOrder_j35_ok  {G : Nat} {r : Int32} {μr : Mem}    {v1 : Int32} {μ : Mem} (h : f_X12_goesToNextOrder_j35 G v1 μ = some (r, μr)) : Ev RX12 cX12_goesToNextOrder 6 (some .boolean) false 1 0 0 (eqP (some r) shR μr) 35 [some (.ref 0), some (.int v1), none, none, none, none] [] shR μ 0 0 := by
  unfold f_X12_goesToNextOrder_j35 at h
  refine ev_iload_n dX12_goesToNextOrder_35 rfl ?_
  refine ev_if_ge (tgt := 41) dX12_goesToNextOrder_36 (by decide) (fun hc5 => ?_) (fun hc5 => ?_)
  · replace h := ite_t hc5 h
    refine ev_aload_n dX12_goesToNextOrder_41 rfl ?_
    refine ev_getI fr_X12_516 shR_0 rfl dX12_goesToNextOrder_42 ?_
    refine ev_iconst (v := (1 : Int32)) dX12_goesToNextOrder_45 (by decide) ?_
    refine ev_isub dX12_goesToNextOrder_46 ?_
    refine ev_istore_n (loc' := [_, _, _, _, _, _]) dX12_goesToNextOrder_47 rfl (by decide) (by rfl) ?_
    exact ev_lt (f_X12_goesToNextOrder_L48_ok (fun _ _ _ hh => f_X12_goesToNextOrder_j70_ok hh) _ _ _ _ h) ⟨rfl, ⟨rfl, ⟨rfl, trivial⟩⟩⟩
  · replace h := ite_f hc5 h
    refine ev_iconst (v := (0 : Int32)) dX12_goesToNextOrder_39 (by decide) ?_
    exact ev_iret rfl rfl (by decide) (by decide) dX12_goesToNextOrder_40 (eqP_E h)
def f_X12_goesToNextOrder (G : Nat) (μ : Mem) : Option (Int32 × Mem) :=
  f_X12_goesToNextOrder_L7 G (f_X12_goesToNextOrder_j35 G) G ((μ 0 68) - (2 : Int32)) μ
set_option maxHeartbeats 4000000 in
set_option maxRecDepth 100000 in
theorem c_X12_goesToNextOrder  {G : Nat} {μ : Mem} {r : Int32} {μr : Mem}  (h : f_X12_goesToNextOrder G μ = some (r, μr)) : Cn yX12_goesToNextOrder cX12_goesToNextOrder 6 (some .boolean) 1 0 0 [.ref 0] shR μ (eqP (some r) shR μr) := by
  refine cn_of (own := RX12) (ini := false) (loc := [some (.ref 0), none, none, none, none, none]) rfl (by decide) (fun q => by cases q) (Nat.le_of_ble_eq_true rfl) (by rfl) rfl ?_
  unfold f_X12_goesToNextOrder at h
  refine ev_aload_n dX12_goesToNextOrder_0 rfl ?_
  refine ev_getI fr_X12_516 shR_0 rfl dX12_goesToNextOrder_1 ?_
  refine ev_iconst (v := (2 : Int32)) dX12_goesToNextOrder_4 (by decide) ?_
  refine ev_isub dX12_goesToNextOrder_5 ?_
  refine ev_istore_n (loc' := [_, _, _, _, _, _]) dX12_goesToNextOrder_6 rfl (by decide) (by rfl) ?_
  exact ev_lt (f_X12_goesToNextOrder_L7_ok (fun _ _ hh => f_X12_goesToNextOrder_j35_ok hh) _ _ _ h) ⟨rfl, ⟨rfl, trivial⟩⟩
def f_X12_takenBy_L4 (G : Nat) (μ : Mem) (k4_32 : Int32 → Int32 → Option Int32) : Nat → Int32 → Int32 → Int32 → Option Int32
  | 0, _, _, _ => none
  | g + 1, v1, v2, v3 =>
  (if v1 ≤ v3 then
  k4_32 v1 v2
  else
  chk v3 7 (chk (μ 43 (ix v3)) 7 ((f_X12_takenBy_L4 G μ k4_32 g) v1 (f_X12_greater v2 (μ 42 (ix (μ 43 (ix v3))))) (v3 + (1 : Int32)))))
set_option maxHeartbeats 4000000 in
set_option maxRecDepth 100000 in
theorem f_X12_takenBy_L4_ok  {G : Nat} {μ : Mem} {r : Int32}  {k4_32 : Int32 → Int32 → Option Int32} (hk4_32 : ∀ (v1 : Int32) (v2 : Int32), k4_32 v1 v2 = some r → Ev RX12 cX12_takenBy 4 (some .int) false 2 0 0 (eqP (some r) shR μ) 32 [some (.ref 0), some (.int v1), some (.int v2), none] [] shR μ 0 0) : ∀ (g : Nat) (v1 v2 v3 : Int32), f_X12_takenBy_L4 G μ k4_32 g v1 v2 v3 = some r → Ev RX12 cX12_takenBy 4 (some .int) false 2 0 0 (eqP (some r) shR μ) 4 [some (.ref 0), some (.int v1), some (.int v2), some (.int v3)] [] shR μ 0 0 := by
  intro g
  induction g with
  | zero =>
    intro v1 v2 v3 h
    cases h
  | succ g ih =>
    intro v1 v2 v3 h
    rw [f_X12_takenBy_L4] at h
    refine ev_iload_n dX12_takenBy_4 rfl ?_
    refine ev_iload_n dX12_takenBy_5 rfl ?_
    refine ev_icmp_ge (tgt := 32) dX12_takenBy_6 (by decide) (fun hc1 => ?_) (fun hc1 => ?_)
    · replace h := ite_t hc1 h
      exact ev_lt (hk4_32 _ _ h) ⟨rfl, ⟨rfl, ⟨rfl, trivial⟩⟩⟩
    · replace h := ite_f hc1 h
      refine ev_aload_n dX12_takenBy_9 rfl ?_
      refine ev_iload_n dX12_takenBy_10 rfl ?_
      refine ev_aload_n dX12_takenBy_11 rfl ?_
      refine ev_getR fr_X12_137 shR_0 rfl dX12_takenBy_12 ?_
      refine ev_aload_n dX12_takenBy_15 rfl ?_
      refine ev_getR fr_X12_140 shR_0 rfl dX12_takenBy_16 ?_
      refine ev_iload_n dX12_takenBy_19 rfl ?_
      obtain ⟨hi2, h⟩ := chk_t h
      refine ev_iald shR_43 hi2 dX12_takenBy_20 ?_
      obtain ⟨hi3, h⟩ := chk_t h
      refine ev_iald shR_42 hi3 dX12_takenBy_21 ?_
      refine ev_cVi mv_X12_434 dX12_takenBy_22 c_X12_greater rfl shR_0 rfl rfl (Nat.le_of_ble_eq_true rfl) (by rfl) (Nat.le_of_ble_eq_true rfl) (Nat.le_of_ble_eq_true rfl) (Nat.le_of_ble_eq_true rfl) ?_
      refine ev_istore_n (loc' := [_, _, _, _]) dX12_takenBy_25 rfl (by decide) (by rfl) ?_
      refine ev_iinc (cq := (1 : Int32)) (loc' := [_, _, _, _]) dX12_takenBy_26 rfl (by decide) rfl (by decide) (by rfl) ?_
      refine ev_goto (tgt := 4) dX12_takenBy_29 (by decide) ?_
      exact ev_lt (ih _ _ _ h) ⟨rfl, ⟨rfl, ⟨rfl, ⟨rfl, trivial⟩⟩⟩⟩
def f_X12_takenBy_L34 (G : Nat) (μ : Mem)  : Nat → Int32 → Int32 → Option Int32
  | 0, _, _ => none
  | g + 1, v2, v3 =>
  (if (μ 0 68) ≤ v3 then
  chk ((μ 0 68) - (1 : Int32)) 7 (chk (μ 43 (ix ((μ 0 68) - (1 : Int32)))) 7 (some (μ 42 (ix (μ 43 (ix ((μ 0 68) - (1 : Int32))))))))
  else
  chk v3 7 (chk (μ 43 (ix v3)) 7 ((if (μ 42 (ix (μ 43 (ix v3)))) ≤ v2 then
  (f_X12_takenBy_L34 G μ g) v2 (v3 + (1 : Int32))
  else
  chk v3 7 (chk (μ 43 (ix v3)) 7 (some (μ 42 (ix (μ 43 (ix v3))))))))))
set_option maxHeartbeats 4000000 in
set_option maxRecDepth 100000 in
theorem f_X12_takenBy_L34_ok  {G : Nat} {μ : Mem} {r : Int32}    : ∀ (g : Nat) (v2 v3 : Int32), f_X12_takenBy_L34 G μ g v2 v3 = some r → Ev RX12 cX12_takenBy 4 (some .int) false 2 0 0 (eqP (some r) shR μ) 34 [some (.ref 0), none, some (.int v2), some (.int v3)] [] shR μ 0 0 := by
  intro g
  induction g with
  | zero =>
    intro v2 v3 h
    cases h
  | succ g ih =>
    intro v2 v3 h
    rw [f_X12_takenBy_L34] at h
    refine ev_iload_n dX12_takenBy_34 rfl ?_
    refine ev_aload_n dX12_takenBy_35 rfl ?_
    refine ev_getI fr_X12_516 shR_0 rfl dX12_takenBy_36 ?_
    refine ev_icmp_ge (tgt := 75) dX12_takenBy_39 (by decide) (fun hc4 => ?_) (fun hc4 => ?_)
    · replace h := ite_t hc4 h
      refine ev_aload_n dX12_takenBy_75 rfl ?_
      refine ev_getR fr_X12_137 shR_0 rfl dX12_takenBy_76 ?_
      refine ev_aload_n dX12_takenBy_79 rfl ?_
      refine ev_getR fr_X12_140 shR_0 rfl dX12_takenBy_80 ?_
      refine ev_aload_n dX12_takenBy_83 rfl ?_
      refine ev_getI fr_X12_516 shR_0 rfl dX12_takenBy_84 ?_
      refine ev_iconst (v := (1 : Int32)) dX12_takenBy_87 (by decide) ?_
      refine ev_isub dX12_takenBy_88 ?_
      obtain ⟨hi5, h⟩ := chk_t h
      refine ev_iald shR_43 hi5 dX12_takenBy_89 ?_
      obtain ⟨hi6, h⟩ := chk_t h
      refine ev_iald shR_42 hi6 dX12_takenBy_90 ?_
      exact ev_iret rfl rfl (by decide) (by decide) dX12_takenBy_91 (eqP_O h)
    · replace h := ite_f hc4 h
      refine ev_aload_n dX12_takenBy_42 rfl ?_
      refine ev_getR fr_X12_137 shR_0 rfl dX12_takenBy_43 ?_
      refine ev_aload_n dX12_takenBy_46 rfl ?_
      refine ev_getR fr_X12_140 shR_0 rfl dX12_takenBy_47 ?_
      refine ev_iload_n dX12_takenBy_50 rfl ?_
      obtain ⟨hi7, h⟩ := chk_t h
      refine ev_iald shR_43 hi7 dX12_takenBy_51 ?_
      obtain ⟨hi8, h⟩ := chk_t h
      refine ev_iald shR_42 hi8 dX12_takenBy_52 ?_
      refine ev_iload_n dX12_takenBy_53 rfl ?_
      refine ev_icmp_le (tgt := 69) dX12_takenBy_54 (by decide) (fun hc9 => ?_) (fun hc9 => ?_)
      · replace h := ite_t hc9 h
        refine ev_iinc (cq := (1 : Int32)) (loc' := [_, _, _, _]) dX12_takenBy_69 rfl (by decide) rfl (by decide) (by rfl) ?_
        refine ev_goto (tgt := 34) dX12_takenBy_72 (by decide) ?_
        exact ev_lt (ih _ _ h) ⟨rfl, ⟨rfl, ⟨rfl, trivial⟩⟩⟩
      · replace h := ite_f hc9 h
        refine ev_aload_n dX12_takenBy_57 rfl ?_
        refine ev_getR fr_X12_137 shR_0 rfl dX12_takenBy_58 ?_
        refine ev_aload_n dX12_takenBy_61 rfl ?_
        refine ev_getR fr_X12_140 shR_0 rfl dX12_takenBy_62 ?_
        refine ev_iload_n dX12_takenBy_65 rfl ?_
        obtain ⟨hi10, h⟩ := chk_t h
        refine ev_iald shR_43 hi10 dX12_takenBy_66 ?_
        obtain ⟨hi11, h⟩ := chk_t h
        refine ev_iald shR_42 hi11 dX12_takenBy_67 ?_
        exact ev_iret rfl rfl (by decide) (by decide) dX12_takenBy_68 (eqP_O h)
def f_X12_takenBy_j32 (G : Nat) (μ : Mem)  (v1 v2 : Int32) : Option Int32 :=
  f_X12_takenBy_L34 G μ G v2 v1
set_option maxHeartbeats 4000000 in
set_option maxRecDepth 100000 in
theorem f_X12_takenBy_j32_ok  {G : Nat} {μ : Mem} {r : Int32}    {v1 v2 : Int32}  (h : f_X12_takenBy_j32 G μ v1 v2 = some r) : Ev RX12 cX12_takenBy 4 (some .int) false 2 0 0 (eqP (some r) shR μ) 32 [some (.ref 0), some (.int v1), some (.int v2), none] [] shR μ 0 0 := by
  unfold f_X12_takenBy_j32 at h
  refine ev_iload_n dX12_takenBy_32 rfl ?_
  refine ev_istore_n (loc' := [_, _, _, _]) dX12_takenBy_33 rfl (by decide) (by rfl) ?_
  exact ev_lt (f_X12_takenBy_L34_ok _ _ _ h) ⟨rfl, ⟨rfl, ⟨rfl, trivial⟩⟩⟩
def f_X12_takenBy (G : Nat) (μ : Mem) (p1 : Int32) : Option Int32 :=
  f_X12_takenBy_L4 G μ (f_X12_takenBy_j32 G μ) G p1 (-1 : Int32) (0 : Int32)
set_option maxHeartbeats 4000000 in
set_option maxRecDepth 100000 in
theorem c_X12_takenBy  {G : Nat} {μ : Mem}  {p1 : Int32} {r : Int32}  (h : f_X12_takenBy G μ p1 = some r) : Cn yX12_takenBy cX12_takenBy 4 (some .int) 2 0 0 [.ref 0, .int p1] shR μ (eqP (some r) shR μ) := by
  refine cn_of (own := RX12) (ini := false) (loc := [some (.ref 0), some (.int p1), none, none]) rfl (by decide) (fun q => by cases q) (Nat.le_of_ble_eq_true rfl) (by rfl) rfl ?_
  unfold f_X12_takenBy at h
  refine ev_iconst (v := (-1 : Int32)) dX12_takenBy_0 (by decide) ?_
  refine ev_istore_n (loc' := [_, _, _, _]) dX12_takenBy_1 rfl (by decide) (by rfl) ?_
  refine ev_iconst (v := (0 : Int32)) dX12_takenBy_2 (by decide) ?_
  refine ev_istore_n (loc' := [_, _, _, _]) dX12_takenBy_3 rfl (by decide) (by rfl) ?_
  exact ev_lt (f_X12_takenBy_L4_ok (fun _ _ hh => f_X12_takenBy_j32_ok hh) _ _ _ _ h) ⟨rfl, ⟨rfl, ⟨rfl, ⟨rfl, trivial⟩⟩⟩⟩
def f_X12_findsGood_L4 (G : Nat) (k4_44 : Int32 → Mem → Option Mem) : Nat → Int32 → Int32 → Mem → Option Mem
  | 0, _, _, _ => none
  | g + 1, v1, v2, μ =>
  (if (μ 0 68) ≤ v2 then
  k4_44 v1 μ
  else
  chk v2 7 (chk v2 7 (let m3 := wr μ 43 (ix v2) v2
  chk v2 7 (let m5 := wr m3 44 (ix v2) (0 : Int32)
  (f_X12_findsGood_L4 G k4_44 g) (f_X12_greater v1 (μ 42 (ix v2))) (v2 + (1 : Int32)) m5))))
set_option maxHeartbeats 4000000 in
set_option maxRecDepth 100000 in
theorem f_X12_findsGood_L4_ok  {G : Nat} {μr : Mem}  {k4_44 : Int32 → Mem → Option Mem} (hk4_44 : ∀ (v1 : Int32) (m : Mem), k4_44 v1 m = some μr → Ev RX12 cX12_findsGood 4 none false 3 0 0 (eqP none shR μr) 44 [some (.ref 0), some (.int v1), none, none] [] shR m 0 0) : ∀ (g : Nat) (v1 v2 : Int32) (μ : Mem), f_X12_findsGood_L4 G k4_44 g v1 v2 μ = some μr → Ev RX12 cX12_findsGood 4 none false 3 0 0 (eqP none shR μr) 4 [some (.ref 0), some (.int v1), some (.int v2), none] [] shR μ 0 0 := by
  intro g
  induction g with
  | zero =>
    intro v1 v2 μ h
    cases h
  | succ g ih =>
    intro v1 v2 μ h
    rw [f_X12_findsGood_L4] at h
    refine ev_iload_n dX12_findsGood_4 rfl ?_
    refine ev_aload_n dX12_findsGood_5 rfl ?_
    refine ev_getI fr_X12_516 shR_0 rfl dX12_findsGood_6 ?_
    refine ev_icmp_ge (tgt := 44) dX12_findsGood_9 (by decide) (fun hc1 => ?_) (fun hc1 => ?_)
    · replace h := ite_t hc1 h
      exact ev_lt (hk4_44 _ _ h) ⟨rfl, ⟨rfl, trivial⟩⟩
    · replace h := ite_f hc1 h
      refine ev_aload_n dX12_findsGood_12 rfl ?_
      refine ev_iload_n dX12_findsGood_13 rfl ?_
      refine ev_aload_n dX12_findsGood_14 rfl ?_
      refine ev_getR fr_X12_137 shR_0 rfl dX12_findsGood_15 ?_
      refine ev_iload_n dX12_findsGood_18 rfl ?_
      obtain ⟨hi2, h⟩ := chk_t h
      refine ev_iald shR_42 hi2 dX12_findsGood_19 ?_
      refine ev_cVi mv_X12_434 dX12_findsGood_20 c_X12_greater rfl shR_0 rfl rfl (Nat.le_of_ble_eq_true rfl) (by rfl) (Nat.le_of_ble_eq_true rfl) (Nat.le_of_ble_eq_true rfl) (Nat.le_of_ble_eq_true rfl) ?_
      refine ev_istore_n (loc' := [_, _, _, _]) dX12_findsGood_23 rfl (by decide) (by rfl) ?_
      refine ev_aload_n dX12_findsGood_24 rfl ?_
      refine ev_getR fr_X12_140 shR_0 rfl dX12_findsGood_25 ?_
      refine ev_iload_n dX12_findsGood_28 rfl ?_
      refine ev_iload_n dX12_findsGood_29 rfl ?_
      obtain ⟨hi4, h⟩ := chk_t h
      refine ev_iast shR_43 hi4 dX12_findsGood_30 ?_
      refine ev_aload_n dX12_findsGood_31 rfl ?_
      refine ev_getR fr_X12_143 shR_0 rfl dX12_findsGood_32 ?_
      refine ev_iload_n dX12_findsGood_35 rfl ?_
      refine ev_iconst (v := (0 : Int32)) dX12_findsGood_36 (by decide) ?_
      obtain ⟨hi6, h⟩ := chk_t h
      refine ev_iast shR_44 hi6 dX12_findsGood_37 ?_
      refine ev_iinc (cq := (1 : Int32)) (loc' := [_, _, _, _]) dX12_findsGood_38 rfl (by decide) rfl (by decide) (by rfl) ?_
      refine ev_goto (tgt := 4) dX12_findsGood_41 (by decide) ?_
      exact ev_lt (ih _ _ _ h) ⟨rfl, ⟨rfl, ⟨rfl, trivial⟩⟩⟩
def f_X12_findsGood_j83 (G : Nat) (r46 : Int32 → Int32 → Mem → Option Mem) (r52 : Int32 → Int32 → Mem → Option Mem) (k52_89 : Int32 → Mem → Option Mem) (v1 v3 : Int32) (μ : Mem) : Option Mem :=
  r52 v1 (v3 + (1 : Int32)) μ
set_option maxHeartbeats 4000000 in
set_option maxRecDepth 100000 in
theorem f_X12_findsGood_j83_ok  {G : Nat} {μr : Mem}  {r46 : Int32 → Int32 → Mem → Option Mem} {r52 : Int32 → Int32 → Mem → Option Mem} {k52_89 : Int32 → Mem → Option Mem} (hr46 : ∀ (v1 : Int32) (v2 : Int32) (m : Mem), r46 v1 v2 m = some μr → Ev RX12 cX12_findsGood 4 none false 3 0 0 (eqP none shR μr) 46 [some (.ref 0), some (.int v1), some (.int v2), none] [] shR m 0 0) (hr52 : ∀ (v1 : Int32) (v3 : Int32) (m : Mem), r52 v1 v3 m = some μr → Ev RX12 cX12_findsGood 4 none false 3 0 0 (eqP none shR μr) 52 [some (.ref 0), some (.int v1), none, some (.int v3)] [] shR m 0 0) (hk52_89 : ∀ (v1 : Int32) (m : Mem), k52_89 v1 m = some μr → Ev RX12 cX12_findsGood 4 none false 3 0 0 (eqP none shR μr) 89 [some (.ref 0), some (.int v1), none, none] [] shR m 0 0) {v1 v3 : Int32} {μ : Mem} (h : f_X12_findsGood_j83 G r46 r52 k52_89 v1 v3 μ = some μr) : Ev RX12 cX12_findsGood 4 none false 3 0 0 (eqP none shR μr) 83 [some (.ref 0), some (.int v1), none, some (.int v3)] [] shR μ 0 0 := by
  unfold f_X12_findsGood_j83 at h
  refine ev_iinc (cq := (1 : Int32)) (loc' := [_, _, _, _]) dX12_findsGood_83 rfl (by decide) rfl (by decide) (by rfl) ?_
  refine ev_goto (tgt := 52) dX12_findsGood_86 (by decide) ?_
  exact ev_lt (hr52 _ _ _ h) ⟨rfl, ⟨rfl, ⟨rfl, trivial⟩⟩⟩
def f_X12_findsGood_L52 (G : Nat) (r46 : Int32 → Int32 → Mem → Option Mem) (k52_89 : Int32 → Mem → Option Mem) : Nat → Int32 → Int32 → Mem → Option Mem
  | 0, _, _, _ => none
  | g + 1, v1, v3, μ =>
  (if (μ 0 68) ≤ v3 then
  k52_89 v1 μ
  else
  bndO (f_X12_takenBy G μ v3) (fun w10 =>
  (if w10 = v1 then
  chk v3 7 (chk v3 7 (let m13 := wr μ 44 (ix v3) ((μ 44 (ix v3)) + (1 : Int32))
  f_X12_findsGood_j83 G r46 (f_X12_findsGood_L52 G r46 k52_89 g) k52_89 v1 v3 m13))
  else
  f_X12_findsGood_j83 G r46 (f_X12_findsGood_L52 G r46 k52_89 g) k52_89 v1 v3 μ)))
set_option maxHeartbeats 4000000 in
set_option maxRecDepth 100000 in
theorem f_X12_findsGood_L52_ok  {G : Nat} {μr : Mem}  {r46 : Int32 → Int32 → Mem → Option Mem} {k52_89 : Int32 → Mem → Option Mem} (hr46 : ∀ (v1 : Int32) (v2 : Int32) (m : Mem), r46 v1 v2 m = some μr → Ev RX12 cX12_findsGood 4 none false 3 0 0 (eqP none shR μr) 46 [some (.ref 0), some (.int v1), some (.int v2), none] [] shR m 0 0) (hk52_89 : ∀ (v1 : Int32) (m : Mem), k52_89 v1 m = some μr → Ev RX12 cX12_findsGood 4 none false 3 0 0 (eqP none shR μr) 89 [some (.ref 0), some (.int v1), none, none] [] shR m 0 0) : ∀ (g : Nat) (v1 v3 : Int32) (μ : Mem), f_X12_findsGood_L52 G r46 k52_89 g v1 v3 μ = some μr → Ev RX12 cX12_findsGood 4 none false 3 0 0 (eqP none shR μr) 52 [some (.ref 0), some (.int v1), none, some (.int v3)] [] shR μ 0 0 := by
  intro g
  induction g with
  | zero =>
    intro v1 v3 μ h
    cases h
  | succ g ih =>
    intro v1 v3 μ h
    rw [f_X12_findsGood_L52] at h
    refine ev_iload_n dX12_findsGood_52 rfl ?_
    refine ev_aload_n dX12_findsGood_53 rfl ?_
    refine ev_getI fr_X12_516 shR_0 rfl dX12_findsGood_54 ?_
    refine ev_icmp_ge (tgt := 89) dX12_findsGood_57 (by decide) (fun hc8 => ?_) (fun hc8 => ?_)
    · replace h := ite_t hc8 h
      exact ev_lt (hk52_89 _ _ h) ⟨rfl, ⟨rfl, trivial⟩⟩
    · replace h := ite_f hc8 h
      refine ev_aload_n dX12_findsGood_60 rfl ?_
      refine ev_iload_n dX12_findsGood_61 rfl ?_
      obtain ⟨w10, hq9, h⟩ := bndO_t h
      refine ev_cVi mv_X12_519 dX12_findsGood_62 (c_X12_takenBy hq9) rfl shR_0 rfl rfl (Nat.le_of_ble_eq_true rfl) (by rfl) (Nat.le_of_ble_eq_true rfl) (Nat.le_of_ble_eq_true rfl) (Nat.le_of_ble_eq_true rfl) ?_
      refine ev_iload_n dX12_findsGood_65 rfl ?_
      refine ev_icmp_ne (tgt := 83) dX12_findsGood_66 (by decide) (fun hc11 => ?_) (fun hc11 => ?_)
      · replace h := ite_f hc11 h
        exact ev_lt (f_X12_findsGood_j83_ok hr46 ih hk52_89 h) ⟨rfl, ⟨rfl, ⟨rfl, trivial⟩⟩⟩
      · replace h := ite_t hc11 h
        refine ev_aload_n dX12_findsGood_69 rfl ?_
        refine ev_getR fr_X12_143 shR_0 rfl dX12_findsGood_70 ?_
        refine ev_iload_n dX12_findsGood_73 rfl ?_
        refine ev_aload_n dX12_findsGood_74 rfl ?_
        refine ev_getR fr_X12_143 shR_0 rfl dX12_findsGood_75 ?_
        refine ev_iload_n dX12_findsGood_78 rfl ?_
        obtain ⟨hi12, h⟩ := chk_t h
        refine ev_iald shR_44 hi12 dX12_findsGood_79 ?_
        refine ev_iconst (v := (1 : Int32)) dX12_findsGood_80 (by decide) ?_
        refine ev_iadd dX12_findsGood_81 ?_
        obtain ⟨hi14, h⟩ := chk_t h
        refine ev_iast shR_44 hi14 dX12_findsGood_82 ?_
        exact ev_lt (f_X12_findsGood_j83_ok hr46 ih hk52_89 h) ⟨rfl, ⟨rfl, ⟨rfl, trivial⟩⟩⟩
def f_X12_findsGood_j89 (G : Nat) (r46 : Int32 → Int32 → Mem → Option Mem) (v1 : Int32) (μ : Mem) : Option Mem :=
  bndE (f_X12_goesToNextOrder G μ) (fun w17 m16 =>
  r46 v1 w17 m16)
set_option maxHeartbeats 4000000 in
set_option maxRecDepth 100000 in
theorem f_X12_findsGood_j89_ok  {G : Nat} {μr : Mem}  {r46 : Int32 → Int32 → Mem → Option Mem} (hr46 : ∀ (v1 : Int32) (v2 : Int32) (m : Mem), r46 v1 v2 m = some μr → Ev RX12 cX12_findsGood 4 none false 3 0 0 (eqP none shR μr) 46 [some (.ref 0), some (.int v1), some (.int v2), none] [] shR m 0 0) {v1 : Int32} {μ : Mem} (h : f_X12_findsGood_j89 G r46 v1 μ = some μr) : Ev RX12 cX12_findsGood 4 none false 3 0 0 (eqP none shR μr) 89 [some (.ref 0), some (.int v1), none, none] [] shR μ 0 0 := by
  unfold f_X12_findsGood_j89 at h
  refine ev_aload_n dX12_findsGood_89 rfl ?_
  obtain ⟨w17, m16, hq15, h⟩ := bndE_t h
  refine ev_cVi mv_X12_522 dX12_findsGood_90 (c_X12_goesToNextOrder hq15) rfl shR_0 rfl rfl (Nat.le_of_ble_eq_true rfl) (by rfl) (Nat.le_of_ble_eq_true rfl) (Nat.le_of_ble_eq_true rfl) (Nat.le_of_ble_eq_true rfl) ?_
  refine ev_istore_n (loc' := [_, _, _, _]) dX12_findsGood_93 rfl (by decide) (by rfl) ?_
  refine ev_goto (tgt := 46) dX12_findsGood_94 (by decide) ?_
  exact ev_lt (hr46 _ _ _ h) ⟨rfl, ⟨rfl, ⟨rfl, trivial⟩⟩⟩
def f_X12_findsGood_L46 (G : Nat)  : Nat → Int32 → Int32 → Mem → Option Mem
  | 0, _, _, _ => none
  | g + 1, v1, v2, μ =>
  (if v2 = (0 : Int32) then
  some μ
  else
  f_X12_findsGood_L52 G (f_X12_findsGood_L46 G g) (f_X12_findsGood_j89 G (f_X12_findsGood_L46 G g)) G v1 (0 : Int32) μ)
set_option maxHeartbeats 4000000 in
set_option maxRecDepth 100000 in
theorem f_X12_findsGood_L46_ok  {G : Nat} {μr : Mem}    : ∀ (g : Nat) (v1 v2 : Int32) (μ : Mem), f_X12_findsGood_L46 G g v1 v2 μ = some μr → Ev RX12 cX12_findsGood 4 none false 3 0 0 (eqP none shR μr) 46 [some (.ref 0), some (.int v1), some (.int v2), none] [] shR μ 0 0 := by
  intro g
  induction g with
  | zero =>
    intro v1 v2 μ h
    cases h
  | succ g ih =>
    intro v1 v2 μ h
    rw [f_X12_findsGood_L46] at h
    refine ev_iload_n dX12_findsGood_46 rfl ?_
    refine ev_if_eq (tgt := 97) dX12_findsGood_47 (by decide) (fun hc7 => ?_) (fun hc7 => ?_)
    · replace h := ite_t hc7 h
      exact ev_vret rfl (by decide) (by decide) dX12_findsGood_97 (eqP_V h)
    · replace h := ite_f hc7 h
      refine ev_iconst (v := (0 : Int32)) dX12_findsGood_50 (by decide) ?_
      refine ev_istore_n (loc' := [_, _, _, _]) dX12_findsGood_51 rfl (by decide) (by rfl) ?_
      exact ev_lt (f_X12_findsGood_L52_ok ih (fun _ _ hh => f_X12_findsGood_j89_ok ih hh) _ _ _ _ h) ⟨rfl, ⟨rfl, ⟨rfl, trivial⟩⟩⟩
def f_X12_findsGood_j44 (G : Nat)  (v1 : Int32) (μ : Mem) : Option Mem :=
  f_X12_findsGood_L46 G G v1 (1 : Int32) μ
set_option maxHeartbeats 4000000 in
set_option maxRecDepth 100000 in
theorem f_X12_findsGood_j44_ok  {G : Nat} {μr : Mem}    {v1 : Int32} {μ : Mem} (h : f_X12_findsGood_j44 G v1 μ = some μr) : Ev RX12 cX12_findsGood 4 none false 3 0 0 (eqP none shR μr) 44 [some (.ref 0), some (.int v1), none, none] [] shR μ 0 0 := by
  unfold f_X12_findsGood_j44 at h
  refine ev_iconst (v := (1 : Int32)) dX12_findsGood_44 (by decide) ?_
  refine ev_istore_n (loc' := [_, _, _, _]) dX12_findsGood_45 rfl (by decide) (by rfl) ?_
  exact ev_lt (f_X12_findsGood_L46_ok _ _ _ _ h) ⟨rfl, ⟨rfl, ⟨rfl, trivial⟩⟩⟩
def f_X12_findsGood (G : Nat) (μ : Mem) : Option Mem :=
  f_X12_findsGood_L4 G (f_X12_findsGood_j44 G) G (0 : Int32) (0 : Int32) μ
set_option maxHeartbeats 4000000 in
set_option maxRecDepth 100000 in
theorem c_X12_findsGood  {G : Nat} {μ : Mem} {μr : Mem}  (h : f_X12_findsGood G μ = some μr) : Cn yX12_findsGood cX12_findsGood 4 none 3 0 0 [.ref 0] shR μ (eqP none shR μr) := by
  refine cn_of (own := RX12) (ini := false) (loc := [some (.ref 0), none, none, none]) rfl (by decide) (fun q => by cases q) (Nat.le_of_ble_eq_true rfl) (by rfl) rfl ?_
  unfold f_X12_findsGood at h
  refine ev_iconst (v := (0 : Int32)) dX12_findsGood_0 (by decide) ?_
  refine ev_istore_n (loc' := [_, _, _, _]) dX12_findsGood_1 rfl (by decide) (by rfl) ?_
  refine ev_iconst (v := (0 : Int32)) dX12_findsGood_2 (by decide) ?_
  refine ev_istore_n (loc' := [_, _, _, _]) dX12_findsGood_3 rfl (by decide) (by rfl) ?_
  exact ev_lt (f_X12_findsGood_L4_ok (fun _ _ hh => f_X12_findsGood_j44_ok hh) _ _ _ _ h) ⟨rfl, ⟨rfl, ⟨rfl, trivial⟩⟩⟩
def f_X12_stop_j57 (G : Nat) (r32 : Int32 → Int32 → Int32 → Mem → Option (Int32 × Mem)) (k32_63 : Int32 → Int32 → Mem → Option (Int32 × Mem)) (v1 v2 v3 : Int32) (μ : Mem) : Option (Int32 × Mem) :=
  r32 v1 v2 (v3 + (1 : Int32)) μ
set_option maxHeartbeats 4000000 in
set_option maxRecDepth 100000 in
theorem f_X12_stop_j57_ok  {G : Nat} {r : Int32} {μr : Mem}  {r32 : Int32 → Int32 → Int32 → Mem → Option (Int32 × Mem)} {k32_63 : Int32 → Int32 → Mem → Option (Int32 × Mem)} (hr32 : ∀ (v1 : Int32) (v2 : Int32) (v3 : Int32) (m : Mem), r32 v1 v2 v3 m = some (r, μr) → Ev RX12 cX12_stop 4 (some .int) false 4 0 0 (eqP (some r) shR μr) 32 [some (.ref 0), some (.int v1), some (.int v2), some (.int v3)] [] shR m 0 0) (hk32_63 : ∀ (v1 : Int32) (v2 : Int32) (m : Mem), k32_63 v1 v2 m = some (r, μr) → Ev RX12 cX12_stop 4 (some .int) false 4 0 0 (eqP (some r) shR μr) 63 [some (.ref 0), some (.int v1), some (.int v2), none] [] shR m 0 0) {v1 v2 v3 : Int32} {μ : Mem} (h : f_X12_stop_j57 G r32 k32_63 v1 v2 v3 μ = some (r, μr)) : Ev RX12 cX12_stop 4 (some .int) false 4 0 0 (eqP (some r) shR μr) 57 [some (.ref 0), some (.int v1), some (.int v2), some (.int v3)] [] shR μ 0 0 := by
  unfold f_X12_stop_j57 at h
  refine ev_iinc (cq := (1 : Int32)) (loc' := [_, _, _, _]) dX12_stop_57 rfl (by decide) rfl (by decide) (by rfl) ?_
  refine ev_goto (tgt := 32) dX12_stop_60 (by decide) ?_
  exact ev_lt (hr32 _ _ _ _ h) ⟨rfl, ⟨rfl, ⟨rfl, ⟨rfl, trivial⟩⟩⟩⟩
def f_X12_stop_L32 (G : Nat) (k32_63 : Int32 → Int32 → Mem → Option (Int32 × Mem)) : Nat → Int32 → Int32 → Int32 → Mem → Option (Int32 × Mem)
  | 0, _, _, _, _ => none
  | g + 1, v1, v2, v3, μ =>
  (if (μ 0 68) ≤ v3 then
  k32_63 v1 v2 μ
  else
  chk v3 7 (chk v2 7 ((if (μ 44 (ix v3)) ≤ (μ 44 (ix v2)) then
  f_X12_stop_j57 G (f_X12_stop_L32 G k32_63 g) k32_63 v1 v2 v3 μ
  else
  f_X12_stop_j57 G (f_X12_stop_L32 G k32_63 g) k32_63 v1 v3 v3 μ))))
set_option maxHeartbeats 4000000 in
set_option maxRecDepth 100000 in
theorem f_X12_stop_L32_ok  {G : Nat} {r : Int32} {μr : Mem}  {k32_63 : Int32 → Int32 → Mem → Option (Int32 × Mem)} (hk32_63 : ∀ (v1 : Int32) (v2 : Int32) (m : Mem), k32_63 v1 v2 m = some (r, μr) → Ev RX12 cX12_stop 4 (some .int) false 4 0 0 (eqP (some r) shR μr) 63 [some (.ref 0), some (.int v1), some (.int v2), none] [] shR m 0 0) : ∀ (g : Nat) (v1 v2 v3 : Int32) (μ : Mem), f_X12_stop_L32 G k32_63 g v1 v2 v3 μ = some (r, μr) → Ev RX12 cX12_stop 4 (some .int) false 4 0 0 (eqP (some r) shR μr) 32 [some (.ref 0), some (.int v1), some (.int v2), some (.int v3)] [] shR μ 0 0 := by
  intro g
  induction g with
  | zero =>
    intro v1 v2 v3 μ h
    cases h
  | succ g ih =>
    intro v1 v2 v3 μ h
    rw [f_X12_stop_L32] at h
    refine ev_iload_n dX12_stop_32 rfl ?_
    refine ev_aload_n dX12_stop_33 rfl ?_
    refine ev_getI fr_X12_516 shR_0 rfl dX12_stop_34 ?_
    refine ev_icmp_ge (tgt := 63) dX12_stop_37 (by decide) (fun hc6 => ?_) (fun hc6 => ?_)
    · replace h := ite_t hc6 h
      exact ev_lt (hk32_63 _ _ _ h) ⟨rfl, ⟨rfl, ⟨rfl, trivial⟩⟩⟩
    · replace h := ite_f hc6 h
      refine ev_aload_n dX12_stop_40 rfl ?_
      refine ev_getR fr_X12_143 shR_0 rfl dX12_stop_41 ?_
      refine ev_iload_n dX12_stop_44 rfl ?_
      obtain ⟨hi7, h⟩ := chk_t h
      refine ev_iald shR_44 hi7 dX12_stop_45 ?_
      refine ev_aload_n dX12_stop_46 rfl ?_
      refine ev_getR fr_X12_143 shR_0 rfl dX12_stop_47 ?_
      refine ev_iload_n dX12_stop_50 rfl ?_
      obtain ⟨hi8, h⟩ := chk_t h
      refine ev_iald shR_44 hi8 dX12_stop_51 ?_
      refine ev_icmp_le (tgt := 57) dX12_stop_52 (by decide) (fun hc9 => ?_) (fun hc9 => ?_)
      · replace h := ite_t hc9 h
        exact ev_lt (f_X12_stop_j57_ok ih hk32_63 h) ⟨rfl, ⟨rfl, ⟨rfl, ⟨rfl, trivial⟩⟩⟩⟩
      · replace h := ite_f hc9 h
        refine ev_iload_n dX12_stop_55 rfl ?_
        refine ev_istore_n (loc' := [_, _, _, _]) dX12_stop_56 rfl (by decide) (by rfl) ?_
        exact ev_lt (f_X12_stop_j57_ok ih hk32_63 h) ⟨rfl, ⟨rfl, ⟨rfl, ⟨rfl, trivial⟩⟩⟩⟩
def f_X12_stop_j63 (G : Nat)  (v1 v2 : Int32) (μ : Mem) : Option (Int32 × Mem) :=
  (if v1 = (0 : Int32) then
  some (v2, μ)
  else
  chk v2 7 (some ((μ 44 (ix v2)), μ)))
set_option maxHeartbeats 4000000 in
set_option maxRecDepth 100000 in
theorem f_X12_stop_j63_ok  {G : Nat} {r : Int32} {μr : Mem}    {v1 v2 : Int32} {μ : Mem} (h : f_X12_stop_j63 G v1 v2 μ = some (r, μr)) : Ev RX12 cX12_stop 4 (some .int) false 4 0 0 (eqP (some r) shR μr) 63 [some (.ref 0), some (.int v1), some (.int v2), none] [] shR μ 0 0 := by
  unfold f_X12_stop_j63 at h
  refine ev_iload_n dX12_stop_63 rfl ?_
  refine ev_if_ne (tgt := 71) dX12_stop_64 (by decide) (fun hc10 => ?_) (fun hc10 => ?_)
  · replace h := ite_f hc10 h
    refine ev_aload_n dX12_stop_71 rfl ?_
    refine ev_getR fr_X12_143 shR_0 rfl dX12_stop_72 ?_
    refine ev_iload_n dX12_stop_75 rfl ?_
    obtain ⟨hi11, h⟩ := chk_t h
    refine ev_iald shR_44 hi11 dX12_stop_76 ?_
    exact ev_iret rfl rfl (by decide) (by decide) dX12_stop_77 (eqP_E h)
  · replace h := ite_t hc10 h
    refine ev_iload_n dX12_stop_67 rfl ?_
    refine ev_goto (tgt := 77) dX12_stop_68 (by decide) ?_
    exact ev_iret rfl rfl (by decide) (by decide) dX12_stop_77 (eqP_E h)
def f_X12_stop (G : Nat) (p1 : Int32) (μ : Mem) : Option (Int32 × Mem) :=
  (let m1 := wr μ 0 0 (0 : Int32)
  (if (m1 0 68) = (0 : Int32) then
  some ((-1 : Int32), m1)
  else
  (if (f_X12_isIn p1 (0 : Int32) (1 : Int32)) = (0 : Int32) then
  some ((-1 : Int32), m1)
  else
  bndV (f_X12_findsGood G m1) (fun m5 =>
  f_X12_stop_L32 G (f_X12_stop_j63 G) G p1 (0 : Int32) (1 : Int32) m5))))
set_option maxHeartbeats 4000000 in
set_option maxRecDepth 100000 in
theorem c_X12_stop  {G : Nat} {μ : Mem} {p1 : Int32} {r : Int32} {μr : Mem}  (h : f_X12_stop G p1 μ = some (r, μr)) : Cn yX12_stop cX12_stop 4 (some .int) 4 0 0 [.ref 0, .int p1] shR μ (eqP (some r) shR μr) := by
  refine cn_of (own := RX12) (ini := false) (loc := [some (.ref 0), some (.int p1), none, none]) rfl (by decide) (fun q => by cases q) (Nat.le_of_ble_eq_true rfl) (by rfl) rfl ?_
  unfold f_X12_stop at h
  refine ev_aload_n dX12_stop_0 rfl ?_
  refine ev_iconst (v := (0 : Int32)) dX12_stop_1 (by decide) ?_
  refine ev_putI fr_X12_149 shR_0 rfl rfl rfl dX12_stop_2 ?_
  refine ev_aload_n dX12_stop_5 rfl ?_
  refine ev_getI fr_X12_516 shR_0 rfl dX12_stop_6 ?_
  refine ev_if_eq (tgt := 22) dX12_stop_9 (by decide) (fun hc2 => ?_) (fun hc2 => ?_)
  · replace h := ite_t hc2 h
    refine ev_iconst (v := (-1 : Int32)) dX12_stop_22 (by decide) ?_
    exact ev_iret rfl rfl (by decide) (by decide) dX12_stop_23 (eqP_E h)
  · replace h := ite_f hc2 h
    refine ev_aload_n dX12_stop_12 rfl ?_
    refine ev_iload_n dX12_stop_13 rfl ?_
    refine ev_iconst (v := (0 : Int32)) dX12_stop_14 (by decide) ?_
    refine ev_iconst (v := (1 : Int32)) dX12_stop_15 (by decide) ?_
    refine ev_cVi mv_X12_167 dX12_stop_16 c_X12_isIn rfl shR_0 rfl rfl (Nat.le_of_ble_eq_true rfl) (by rfl) (Nat.le_of_ble_eq_true rfl) (Nat.le_of_ble_eq_true rfl) (Nat.le_of_ble_eq_true rfl) ?_
    refine ev_if_ne (tgt := 24) dX12_stop_19 (by decide) (fun hc3 => ?_) (fun hc3 => ?_)
    · replace h := ite_f hc3 h
      refine ev_aload_n dX12_stop_24 rfl ?_
      obtain ⟨m5, hq4, h⟩ := bndV_t h
      refine ev_cVv mv_X12_525 dX12_stop_25 (c_X12_findsGood hq4) rfl shR_0 rfl rfl (Nat.le_of_ble_eq_true rfl) (by rfl) (Nat.le_of_ble_eq_true rfl) (Nat.le_of_ble_eq_true rfl) (Nat.le_of_ble_eq_true rfl) ?_
      refine ev_iconst (v := (0 : Int32)) dX12_stop_28 (by decide) ?_
      refine ev_istore_n (loc' := [_, _, _, _]) dX12_stop_29 rfl (by decide) (by rfl) ?_
      refine ev_iconst (v := (1 : Int32)) dX12_stop_30 (by decide) ?_
      refine ev_istore_n (loc' := [_, _, _, _]) dX12_stop_31 rfl (by decide) (by rfl) ?_
      exact ev_lt (f_X12_stop_L32_ok (fun _ _ _ hh => f_X12_stop_j63_ok hh) _ _ _ _ _ h) ⟨rfl, ⟨rfl, ⟨rfl, ⟨rfl, trivial⟩⟩⟩⟩
    · replace h := ite_t hc3 h
      refine ev_iconst (v := (-1 : Int32)) dX12_stop_22 (by decide) ?_
      exact ev_iret rfl rfl (by decide) (by decide) dX12_stop_23 (eqP_E h)
def f_X12_restOf (G : Nat) (μ : Mem) (p1 p2 p3 : Int32) : Option Int32 :=
  (if p1 = p2 then
  chk ((33 : Int32) + p1) 49 (some (irm ((μ 1 (ix ((33 : Int32) + p1))) - p3) (4 : Int32)))
  else
  chk ((33 : Int32) + p1) 49 (some (irm (μ 1 (ix ((33 : Int32) + p1))) (4 : Int32))))
set_option maxHeartbeats 4000000 in
set_option maxRecDepth 100000 in
theorem c_X12_restOf  {G : Nat} {μ : Mem}  {p1 p2 p3 : Int32} {r : Int32}  (h : f_X12_restOf G μ p1 p2 p3 = some r) : Cn yX12_restOf cX12_restOf 4 (some .int) 1 0 0 [.ref 0, .int p1, .int p2, .int p3] shR μ (eqP (some r) shR μ) := by
  refine cn_of (own := RX12) (ini := false) (loc := [some (.ref 0), some (.int p1), some (.int p2), some (.int p3)]) rfl (by decide) (fun q => by cases q) (Nat.le_of_ble_eq_true rfl) (by rfl) rfl ?_
  unfold f_X12_restOf at h
  refine ev_iload_n dX12_restOf_0 rfl ?_
  refine ev_iload_n dX12_restOf_1 rfl ?_
  refine ev_icmp_ne (tgt := 19) dX12_restOf_2 (by decide) (fun hc1 => ?_) (fun hc1 => ?_)
  · replace h := ite_f hc1 h
    refine ev_aload_n dX12_restOf_19 rfl ?_
    refine ev_getR fr_X12_7 shR_0 rfl dX12_restOf_20 ?_
    refine ev_bipush (v := (33 : Int32)) dX12_restOf_23 (by decide) ?_
    refine ev_iload_n dX12_restOf_25 rfl ?_
    refine ev_iadd dX12_restOf_26 ?_
    obtain ⟨hi2, h⟩ := chk_t h
    refine ev_iald shR_1 hi2 dX12_restOf_27 ?_
    refine ev_iconst (v := (4 : Int32)) dX12_restOf_28 (by decide) ?_
    refine ev_irem dX12_restOf_29 (by decide) ?_
    exact ev_iret rfl rfl (by decide) (by decide) dX12_restOf_30 (eqP_O h)
  · replace h := ite_t hc1 h
    refine ev_aload_n dX12_restOf_5 rfl ?_
    refine ev_getR fr_X12_7 shR_0 rfl dX12_restOf_6 ?_
    refine ev_bipush (v := (33 : Int32)) dX12_restOf_9 (by decide) ?_
    refine ev_iload_n dX12_restOf_11 rfl ?_
    refine ev_iadd dX12_restOf_12 ?_
    obtain ⟨hi3, h⟩ := chk_t h
    refine ev_iald shR_1 hi3 dX12_restOf_13 ?_
    refine ev_iload_n dX12_restOf_14 rfl ?_
    refine ev_isub dX12_restOf_15 ?_
    refine ev_goto (tgt := 28) dX12_restOf_16 (by decide) ?_
    refine ev_iconst (v := (4 : Int32)) dX12_restOf_28 (by decide) ?_
    refine ev_irem dX12_restOf_29 (by decide) ?_
    exact ev_iret rfl rfl (by decide) (by decide) dX12_restOf_30 (eqP_O h)
def f_X12_isLost_j43 (G : Nat) (μ : Mem) (r8 : Int32 → Int32 → Int32 → Int32 → Int32 → Option Int32) (k8_49 : Int32 → Int32 → Option Int32) (v1 v2 v3 v4 v5 : Int32) : Option Int32 :=
  r8 v1 v2 v3 v4 (v5 + (1 : Int32))
set_option maxHeartbeats 4000000 in
set_option maxRecDepth 100000 in
theorem f_X12_isLost_j43_ok  {G : Nat} {μ : Mem} {r : Int32}  {r8 : Int32 → Int32 → Int32 → Int32 → Int32 → Option Int32} {k8_49 : Int32 → Int32 → Option Int32} (hr8 : ∀ (v1 : Int32) (v2 : Int32) (v3 : Int32) (v4 : Int32) (v5 : Int32), r8 v1 v2 v3 v4 v5 = some r → Ev RX12 cX12_isLost 6 (some .boolean) false 2 0 0 (eqP (some r) shR μ) 8 [some (.ref 0), some (.int v1), some (.int v2), some (.int v3), some (.int v4), some (.int v5)] [] shR μ 0 0) (hk8_49 : ∀ (v3 : Int32) (v4 : Int32), k8_49 v3 v4 = some r → Ev RX12 cX12_isLost 6 (some .boolean) false 2 0 0 (eqP (some r) shR μ) 49 [none, none, none, some (.int v3), some (.int v4), none] [] shR μ 0 0) {v1 v2 v3 v4 v5 : Int32}  (h : f_X12_isLost_j43 G μ r8 k8_49 v1 v2 v3 v4 v5 = some r) : Ev RX12 cX12_isLost 6 (some .boolean) false 2 0 0 (eqP (some r) shR μ) 43 [some (.ref 0), some (.int v1), some (.int v2), some (.int v3), some (.int v4), some (.int v5)] [] shR μ 0 0 := by
  unfold f_X12_isLost_j43 at h
  refine ev_iinc (cq := (1 : Int32)) (loc' := [_, _, _, _, _, _]) dX12_isLost_43 rfl (by decide) rfl (by decide) (by rfl) ?_
  refine ev_goto (tgt := 8) dX12_isLost_46 (by decide) ?_
  exact ev_lt (hr8 _ _ _ _ _ h) ⟨rfl, ⟨rfl, ⟨rfl, ⟨rfl, ⟨rfl, ⟨rfl, trivial⟩⟩⟩⟩⟩⟩
def f_X12_isLost_L8 (G : Nat) (μ : Mem) (k8_49 : Int32 → Int32 → Option Int32) : Nat → Int32 → Int32 → Int32 → Int32 → Int32 → Option Int32
  | 0, _, _, _, _, _ => none
  | g + 1, v1, v2, v3, v4, v5 =>
  (if (μ 0 7) ≤ v5 then
  k8_49 v3 v4
  else
  bndO (f_X12_restOf G μ v5 v1 v2) (fun w3 =>
  bndO (f_X12_restOf G μ v5 v1 v2) (fun w5 =>
  (if w5 ≤ (1 : Int32) then
  f_X12_isLost_j43 G μ (f_X12_isLost_L8 G μ k8_49 g) k8_49 v1 v2 (v3 ^^^ w3) v4 v5
  else
  f_X12_isLost_j43 G μ (f_X12_isLost_L8 G μ k8_49 g) k8_49 v1 v2 (v3 ^^^ w3) (1 : Int32) v5))))
set_option maxHeartbeats 4000000 in
set_option maxRecDepth 100000 in
theorem f_X12_isLost_L8_ok  {G : Nat} {μ : Mem} {r : Int32}  {k8_49 : Int32 → Int32 → Option Int32} (hk8_49 : ∀ (v3 : Int32) (v4 : Int32), k8_49 v3 v4 = some r → Ev RX12 cX12_isLost 6 (some .boolean) false 2 0 0 (eqP (some r) shR μ) 49 [none, none, none, some (.int v3), some (.int v4), none] [] shR μ 0 0) : ∀ (g : Nat) (v1 v2 v3 v4 v5 : Int32), f_X12_isLost_L8 G μ k8_49 g v1 v2 v3 v4 v5 = some r → Ev RX12 cX12_isLost 6 (some .boolean) false 2 0 0 (eqP (some r) shR μ) 8 [some (.ref 0), some (.int v1), some (.int v2), some (.int v3), some (.int v4), some (.int v5)] [] shR μ 0 0 := by
  intro g
  induction g with
  | zero =>
    intro v1 v2 v3 v4 v5 h
    cases h
  | succ g ih =>
    intro v1 v2 v3 v4 v5 h
    rw [f_X12_isLost_L8] at h
    refine ev_iload dX12_isLost_8 rfl ?_
    refine ev_aload_n dX12_isLost_10 rfl ?_
    refine ev_getI fr_X12_164 shR_0 rfl dX12_isLost_11 ?_
    refine ev_icmp_ge (tgt := 49) dX12_isLost_14 (by decide) (fun hc1 => ?_) (fun hc1 => ?_)
    · replace h := ite_t hc1 h
      exact ev_lt (hk8_49 _ _ h) ⟨rfl, ⟨rfl, trivial⟩⟩
    · replace h := ite_f hc1 h
      refine ev_iload_n dX12_isLost_17 rfl ?_
      refine ev_aload_n dX12_isLost_18 rfl ?_
      refine ev_iload dX12_isLost_19 rfl ?_
      refine ev_iload_n dX12_isLost_21 rfl ?_
      refine ev_iload_n dX12_isLost_22 rfl ?_
      obtain ⟨w3, hq2, h⟩ := bndO_t h
      refine ev_cVi mv_X12_528 dX12_isLost_23 (c_X12_restOf hq2) rfl shR_0 rfl rfl (Nat.le_of_ble_eq_true rfl) (by rfl) (Nat.le_of_ble_eq_true rfl) (Nat.le_of_ble_eq_true rfl) (Nat.le_of_ble_eq_true rfl) ?_
      refine ev_ixor dX12_isLost_26 ?_
      refine ev_istore_n (loc' := [_, _, _, _, _, _]) dX12_isLost_27 rfl (by decide) (by rfl) ?_
      refine ev_aload_n dX12_isLost_28 rfl ?_
      refine ev_iload dX12_isLost_29 rfl ?_
      refine ev_iload_n dX12_isLost_31 rfl ?_
      refine ev_iload_n dX12_isLost_32 rfl ?_
      obtain ⟨w5, hq4, h⟩ := bndO_t h
      refine ev_cVi mv_X12_528 dX12_isLost_33 (c_X12_restOf hq4) rfl shR_0 rfl rfl (Nat.le_of_ble_eq_true rfl) (by rfl) (Nat.le_of_ble_eq_true rfl) (Nat.le_of_ble_eq_true rfl) (Nat.le_of_ble_eq_true rfl) ?_
      refine ev_iconst (v := (1 : Int32)) dX12_isLost_36 (by decide) ?_
      refine ev_icmp_le (tgt := 43) dX12_isLost_37 (by decide) (fun hc6 => ?_) (fun hc6 => ?_)
      · replace h := ite_t hc6 h
        exact ev_lt (f_X12_isLost_j43_ok ih hk8_49 h) ⟨rfl, ⟨rfl, ⟨rfl, ⟨rfl, ⟨rfl, ⟨rfl, trivial⟩⟩⟩⟩⟩⟩
      · replace h := ite_f hc6 h
        refine ev_iconst (v := (1 : Int32)) dX12_isLost_40 (by decide) ?_
        refine ev_istore (loc' := [_, _, _, _, _, _]) dX12_isLost_41 rfl (by decide) (by rfl) ?_
        exact ev_lt (f_X12_isLost_j43_ok ih hk8_49 h) ⟨rfl, ⟨rfl, ⟨rfl, ⟨rfl, ⟨rfl, ⟨rfl, trivial⟩⟩⟩⟩⟩⟩
def f_X12_isLost_j49 (G : Nat) (μ : Mem)  (v3 v4 : Int32) : Option Int32 :=
  (if v4 = (0 : Int32) then
  (if v3 = (1 : Int32) then
  some (1 : Int32)
  else
  some (0 : Int32))
  else
  (if v3 = (0 : Int32) then
  some (1 : Int32)
  else
  some (0 : Int32)))
set_option maxHeartbeats 4000000 in
set_option maxRecDepth 100000 in
theorem f_X12_isLost_j49_ok  {G : Nat} {μ : Mem} {r : Int32}    {v3 v4 : Int32}  (h : f_X12_isLost_j49 G μ v3 v4 = some r) : Ev RX12 cX12_isLost 6 (some .boolean) false 2 0 0 (eqP (some r) shR μ) 49 [none, none, none, some (.int v3), some (.int v4), none] [] shR μ 0 0 := by
  unfold f_X12_isLost_j49 at h
  refine ev_iload dX12_isLost_49 rfl ?_
  refine ev_if_eq (tgt := 66) dX12_isLost_51 (by decide) (fun hc7 => ?_) (fun hc7 => ?_)
  · replace h := ite_t hc7 h
    refine ev_iload_n dX12_isLost_66 rfl ?_
    refine ev_iconst (v := (1 : Int32)) dX12_isLost_67 (by decide) ?_
    refine ev_icmp_ne (tgt := 75) dX12_isLost_68 (by decide) (fun hc8 => ?_) (fun hc8 => ?_)
    · replace h := ite_f hc8 h
      refine ev_iconst (v := (0 : Int32)) dX12_isLost_75 (by decide) ?_
      exact ev_iret rfl rfl (by decide) (by decide) dX12_isLost_76 (eqP_O h)
    · replace h := ite_t hc8 h
      refine ev_iconst (v := (1 : Int32)) dX12_isLost_71 (by decide) ?_
      refine ev_goto (tgt := 76) dX12_isLost_72 (by decide) ?_
      exact ev_iret rfl rfl (by decide) (by decide) dX12_isLost_76 (eqP_O h)
  · replace h := ite_f hc7 h
    refine ev_iload_n dX12_isLost_54 rfl ?_
    refine ev_if_ne (tgt := 62) dX12_isLost_55 (by decide) (fun hc9 => ?_) (fun hc9 => ?_)
    · replace h := ite_f hc9 h
      refine ev_iconst (v := (0 : Int32)) dX12_isLost_62 (by decide) ?_
      refine ev_goto (tgt := 76) dX12_isLost_63 (by decide) ?_
      exact ev_iret rfl rfl (by decide) (by decide) dX12_isLost_76 (eqP_O h)
    · replace h := ite_t hc9 h
      refine ev_iconst (v := (1 : Int32)) dX12_isLost_58 (by decide) ?_
      refine ev_goto (tgt := 76) dX12_isLost_59 (by decide) ?_
      exact ev_iret rfl rfl (by decide) (by decide) dX12_isLost_76 (eqP_O h)
def f_X12_isLost (G : Nat) (μ : Mem) (p1 p2 : Int32) : Option Int32 :=
  f_X12_isLost_L8 G μ (f_X12_isLost_j49 G μ) G p1 p2 (0 : Int32) (0 : Int32) (0 : Int32)
set_option maxHeartbeats 4000000 in
set_option maxRecDepth 100000 in
theorem c_X12_isLost  {G : Nat} {μ : Mem}  {p1 p2 : Int32} {r : Int32}  (h : f_X12_isLost G μ p1 p2 = some r) : Cn yX12_isLost cX12_isLost 6 (some .boolean) 2 0 0 [.ref 0, .int p1, .int p2] shR μ (eqP (some r) shR μ) := by
  refine cn_of (own := RX12) (ini := false) (loc := [some (.ref 0), some (.int p1), some (.int p2), none, none, none]) rfl (by decide) (fun q => by cases q) (Nat.le_of_ble_eq_true rfl) (by rfl) rfl ?_
  unfold f_X12_isLost at h
  refine ev_iconst (v := (0 : Int32)) dX12_isLost_0 (by decide) ?_
  refine ev_istore_n (loc' := [_, _, _, _, _, _]) dX12_isLost_1 rfl (by decide) (by rfl) ?_
  refine ev_iconst (v := (0 : Int32)) dX12_isLost_2 (by decide) ?_
  refine ev_istore (loc' := [_, _, _, _, _, _]) dX12_isLost_3 rfl (by decide) (by rfl) ?_
  refine ev_iconst (v := (0 : Int32)) dX12_isLost_5 (by decide) ?_
  refine ev_istore (loc' := [_, _, _, _, _, _]) dX12_isLost_6 rfl (by decide) (by rfl) ?_
  exact ev_lt (f_X12_isLost_L8_ok (fun _ _ hh => f_X12_isLost_j49_ok hh) _ _ _ _ _ _ h) ⟨rfl, ⟨rfl, ⟨rfl, ⟨rfl, ⟨rfl, ⟨rfl, trivial⟩⟩⟩⟩⟩⟩
def f_X12_game_L29 (G : Nat) (r19 : Int32 → Int32 → Mem → Option (Int32 × Mem)) (k19_56 : Int32 → Int32 → Int32 → Mem → Option (Int32 × Mem)) (k29_56 : Int32 → Int32 → Int32 → Mem → Option (Int32 × Mem)) (k29_72 : Int32 → Int32 → Mem → Option (Int32 × Mem)) : Nat → Int32 → Int32 → Int32 → Mem → Option (Int32 × Mem)
  | 0, _, _, _, _ => none
  | g + 1, v1, v2, v3, μ =>
  chk ((33 : Int32) + v2) 49 ((if (f_X12_lesser (3 : Int32) (μ 1 (ix ((33 : Int32) + v2)))) < v3 then
  k29_72 v1 v2 μ
  else
  bndO (f_X12_isLost G μ v2 v3) (fun w7 =>
  (if w7 = (0 : Int32) then
  (f_X12_game_L29 G r19 k19_56 k29_56 k29_72 g) v1 v2 (v3 + (1 : Int32)) μ
  else
  k29_56 v1 v2 v3 μ))))
set_option maxHeartbeats 4000000 in
set_option maxRecDepth 100000 in
theorem f_X12_game_L29_ok  {G : Nat} {r : Int32} {μr : Mem}  {r19 : Int32 → Int32 → Mem → Option (Int32 × Mem)} {k19_56 : Int32 → Int32 → Int32 → Mem → Option (Int32 × Mem)} {k29_56 : Int32 → Int32 → Int32 → Mem → Option (Int32 × Mem)} {k29_72 : Int32 → Int32 → Mem → Option (Int32 × Mem)} (hr19 : ∀ (v1 : Int32) (v2 : Int32) (m : Mem), r19 v1 v2 m = some (r, μr) → Ev RX12 cX12_game 4 (some .int) false 3 0 0 (eqP (some r) shR μr) 19 [some (.ref 0), some (.int v1), some (.int v2), none] [] shR m 0 0) (hk19_56 : ∀ (v1 : Int32) (v2 : Int32) (v3 : Int32) (m : Mem), k19_56 v1 v2 v3 m = some (r, μr) → Ev RX12 cX12_game 4 (some .int) false 3 0 0 (eqP (some r) shR μr) 56 [none, some (.int v1), some (.int v2), some (.int v3)] [] shR m 0 0) (hk29_56 : ∀ (v1 : Int32) (v2 : Int32) (v3 : Int32) (m : Mem), k29_56 v1 v2 v3 m = some (r, μr) → Ev RX12 cX12_game 4 (some .int) false 3 0 0 (eqP (some r) shR μr) 56 [none, some (.int v1), some (.int v2), some (.int v3)] [] shR m 0 0) (hk29_72 : ∀ (v1 : Int32) (v2 : Int32) (m : Mem), k29_72 v1 v2 m = some (r, μr) → Ev RX12 cX12_game 4 (some .int) false 3 0 0 (eqP (some r) shR μr) 72 [some (.ref 0), some (.int v1), some (.int v2), none] [] shR m 0 0) : ∀ (g : Nat) (v1 v2 v3 : Int32) (μ : Mem), f_X12_game_L29 G r19 k19_56 k29_56 k29_72 g v1 v2 v3 μ = some (r, μr) → Ev RX12 cX12_game 4 (some .int) false 3 0 0 (eqP (some r) shR μr) 29 [some (.ref 0), some (.int v1), some (.int v2), some (.int v3)] [] shR μ 0 0 := by
  intro g
  induction g with
  | zero =>
    intro v1 v2 v3 μ h
    cases h
  | succ g ih =>
    intro v1 v2 v3 μ h
    rw [f_X12_game_L29] at h
    refine ev_iload_n dX12_game_29 rfl ?_
    refine ev_aload_n dX12_game_30 rfl ?_
    refine ev_iconst (v := (3 : Int32)) dX12_game_31 (by decide) ?_
    refine ev_aload_n dX12_game_32 rfl ?_
    refine ev_getR fr_X12_7 shR_0 rfl dX12_game_33 ?_
    refine ev_bipush (v := (33 : Int32)) dX12_game_36 (by decide) ?_
    refine ev_iload_n dX12_game_38 rfl ?_
    refine ev_iadd dX12_game_39 ?_
    obtain ⟨hi4, h⟩ := chk_t h
    refine ev_iald shR_1 hi4 dX12_game_40 ?_
    refine ev_cVi mv_X12_428 dX12_game_41 c_X12_lesser rfl shR_0 rfl rfl (Nat.le_of_ble_eq_true rfl) (by rfl) (Nat.le_of_ble_eq_true rfl) (Nat.le_of_ble_eq_true rfl) (Nat.le_of_ble_eq_true rfl) ?_
    refine ev_icmp_gt (tgt := 72) dX12_game_44 (by decide) (fun hc5 => ?_) (fun hc5 => ?_)
    · replace h := ite_t hc5 h
      exact ev_lt (hk29_72 _ _ _ h) ⟨rfl, ⟨rfl, ⟨rfl, trivial⟩⟩⟩
    · replace h := ite_f hc5 h
      refine ev_aload_n dX12_game_47 rfl ?_
      refine ev_iload_n dX12_game_48 rfl ?_
      refine ev_iload_n dX12_game_49 rfl ?_
      obtain ⟨w7, hq6, h⟩ := bndO_t h
      refine ev_cVi mv_X12_531 dX12_game_50 (c_X12_isLost hq6) rfl shR_0 rfl rfl (Nat.le_of_ble_eq_true rfl) (by rfl) (Nat.le_of_ble_eq_true rfl) (Nat.le_of_ble_eq_true rfl) (Nat.le_of_ble_eq_true rfl) ?_
      refine ev_if_eq (tgt := 66) dX12_game_53 (by decide) (fun hc8 => ?_) (fun hc8 => ?_)
      · replace h := ite_t hc8 h
        refine ev_iinc (cq := (1 : Int32)) (loc' := [_, _, _, _]) dX12_game_66 rfl (by decide) rfl (by decide) (by rfl) ?_
        refine ev_goto (tgt := 29) dX12_game_69 (by decide) ?_
        exact ev_lt (ih _ _ _ _ h) ⟨rfl, ⟨rfl, ⟨rfl, ⟨rfl, trivial⟩⟩⟩⟩
      · replace h := ite_f hc8 h
        exact ev_lt (hk29_56 _ _ _ _ h) ⟨rfl, ⟨rfl, ⟨rfl, trivial⟩⟩⟩
def f_X12_game_j72 (G : Nat) (r19 : Int32 → Int32 → Mem → Option (Int32 × Mem)) (k19_56 : Int32 → Int32 → Int32 → Mem → Option (Int32 × Mem)) (v1 v2 : Int32) (μ : Mem) : Option (Int32 × Mem) :=
  r19 v1 (v2 + (1 : Int32)) μ
set_option maxHeartbeats 4000000 in
set_option maxRecDepth 100000 in
theorem f_X12_game_j72_ok  {G : Nat} {r : Int32} {μr : Mem}  {r19 : Int32 → Int32 → Mem → Option (Int32 × Mem)} {k19_56 : Int32 → Int32 → Int32 → Mem → Option (Int32 × Mem)} (hr19 : ∀ (v1 : Int32) (v2 : Int32) (m : Mem), r19 v1 v2 m = some (r, μr) → Ev RX12 cX12_game 4 (some .int) false 3 0 0 (eqP (some r) shR μr) 19 [some (.ref 0), some (.int v1), some (.int v2), none] [] shR m 0 0) (hk19_56 : ∀ (v1 : Int32) (v2 : Int32) (v3 : Int32) (m : Mem), k19_56 v1 v2 v3 m = some (r, μr) → Ev RX12 cX12_game 4 (some .int) false 3 0 0 (eqP (some r) shR μr) 56 [none, some (.int v1), some (.int v2), some (.int v3)] [] shR m 0 0) {v1 v2 : Int32} {μ : Mem} (h : f_X12_game_j72 G r19 k19_56 v1 v2 μ = some (r, μr)) : Ev RX12 cX12_game 4 (some .int) false 3 0 0 (eqP (some r) shR μr) 72 [some (.ref 0), some (.int v1), some (.int v2), none] [] shR μ 0 0 := by
  unfold f_X12_game_j72 at h
  refine ev_iinc (cq := (1 : Int32)) (loc' := [_, _, _, _]) dX12_game_72 rfl (by decide) rfl (by decide) (by rfl) ?_
  refine ev_goto (tgt := 19) dX12_game_75 (by decide) ?_
  exact ev_lt (hr19 _ _ _ h) ⟨rfl, ⟨rfl, ⟨rfl, trivial⟩⟩⟩
def f_X12_game_L19 (G : Nat) (k19_56 : Int32 → Int32 → Int32 → Mem → Option (Int32 × Mem)) : Nat → Int32 → Int32 → Mem → Option (Int32 × Mem)
  | 0, _, _, _ => none
  | g + 1, v1, v2, μ =>
  (if (μ 0 7) ≤ v2 then
  some ((-1 : Int32), μ)
  else
  f_X12_game_L29 G (f_X12_game_L19 G k19_56 g) k19_56 k19_56 (f_X12_game_j72 G (f_X12_game_L19 G k19_56 g) k19_56) G v1 v2 (1 : Int32) μ)
set_option maxHeartbeats 4000000 in
set_option maxRecDepth 100000 in
theorem f_X12_game_L19_ok  {G : Nat} {r : Int32} {μr : Mem}  {k19_56 : Int32 → Int32 → Int32 → Mem → Option (Int32 × Mem)} (hk19_56 : ∀ (v1 : Int32) (v2 : Int32) (v3 : Int32) (m : Mem), k19_56 v1 v2 v3 m = some (r, μr) → Ev RX12 cX12_game 4 (some .int) false 3 0 0 (eqP (some r) shR μr) 56 [none, some (.int v1), some (.int v2), some (.int v3)] [] shR m 0 0) : ∀ (g : Nat) (v1 v2 : Int32) (μ : Mem), f_X12_game_L19 G k19_56 g v1 v2 μ = some (r, μr) → Ev RX12 cX12_game 4 (some .int) false 3 0 0 (eqP (some r) shR μr) 19 [some (.ref 0), some (.int v1), some (.int v2), none] [] shR μ 0 0 := by
  intro g
  induction g with
  | zero =>
    intro v1 v2 μ h
    cases h
  | succ g ih =>
    intro v1 v2 μ h
    rw [f_X12_game_L19] at h
    refine ev_iload_n dX12_game_19 rfl ?_
    refine ev_aload_n dX12_game_20 rfl ?_
    refine ev_getI fr_X12_164 shR_0 rfl dX12_game_21 ?_
    refine ev_icmp_ge (tgt := 78) dX12_game_24 (by decide) (fun hc3 => ?_) (fun hc3 => ?_)
    · replace h := ite_t hc3 h
      refine ev_iconst (v := (-1 : Int32)) dX12_game_78 (by decide) ?_
      exact ev_iret rfl rfl (by decide) (by decide) dX12_game_79 (eqP_E h)
    · replace h := ite_f hc3 h
      refine ev_iconst (v := (1 : Int32)) dX12_game_27 (by decide) ?_
      refine ev_istore_n (loc' := [_, _, _, _]) dX12_game_28 rfl (by decide) (by rfl) ?_
      exact ev_lt (f_X12_game_L29_ok ih hk19_56 hk19_56 (fun _ _ _ hh => f_X12_game_j72_ok ih hk19_56 hh) _ _ _ _ _ h) ⟨rfl, ⟨rfl, ⟨rfl, ⟨rfl, trivial⟩⟩⟩⟩
def f_X12_game_j56 (G : Nat)  (v1 v2 v3 : Int32) (μ : Mem) : Option (Int32 × Mem) :=
  (if v1 = (0 : Int32) then
  some (v2, μ)
  else
  some (v3, μ))
set_option maxHeartbeats 4000000 in
set_option maxRecDepth 100000 in
theorem f_X12_game_j56_ok  {G : Nat} {r : Int32} {μr : Mem}    {v1 v2 v3 : Int32} {μ : Mem} (h : f_X12_game_j56 G v1 v2 v3 μ = some (r, μr)) : Ev RX12 cX12_game 4 (some .int) false 3 0 0 (eqP (some r) shR μr) 56 [none, some (.int v1), some (.int v2), some (.int v3)] [] shR μ 0 0 := by
  unfold f_X12_game_j56 at h
  refine ev_iload_n dX12_game_56 rfl ?_
  refine ev_if_ne (tgt := 64) dX12_game_57 (by decide) (fun hc9 => ?_) (fun hc9 => ?_)
  · replace h := ite_f hc9 h
    refine ev_iload_n dX12_game_64 rfl ?_
    exact ev_iret rfl rfl (by decide) (by decide) dX12_game_65 (eqP_E h)
  · replace h := ite_t hc9 h
    refine ev_iload_n dX12_game_60 rfl ?_
    refine ev_goto (tgt := 65) dX12_game_61 (by decide) ?_
    exact ev_iret rfl rfl (by decide) (by decide) dX12_game_65 (eqP_E h)
def f_X12_game (G : Nat) (p1 : Int32) (μ : Mem) : Option (Int32 × Mem) :=
  (let m1 := wr μ 0 0 (0 : Int32)
  (if (f_X12_isIn p1 (0 : Int32) (1 : Int32)) = (0 : Int32) then
  some ((-1 : Int32), m1)
  else
  f_X12_game_L19 G (f_X12_game_j56 G) G p1 (0 : Int32) m1))
set_option maxHeartbeats 4000000 in
set_option maxRecDepth 100000 in
theorem c_X12_game  {G : Nat} {μ : Mem} {p1 : Int32} {r : Int32} {μr : Mem}  (h : f_X12_game G p1 μ = some (r, μr)) : Cn yX12_game cX12_game 4 (some .int) 3 0 0 [.ref 0, .int p1] shR μ (eqP (some r) shR μr) := by
  refine cn_of (own := RX12) (ini := false) (loc := [some (.ref 0), some (.int p1), none, none]) rfl (by decide) (fun q => by cases q) (Nat.le_of_ble_eq_true rfl) (by rfl) rfl ?_
  unfold f_X12_game at h
  refine ev_aload_n dX12_game_0 rfl ?_
  refine ev_iconst (v := (0 : Int32)) dX12_game_1 (by decide) ?_
  refine ev_putI fr_X12_149 shR_0 rfl rfl rfl dX12_game_2 ?_
  refine ev_aload_n dX12_game_5 rfl ?_
  refine ev_iload_n dX12_game_6 rfl ?_
  refine ev_iconst (v := (0 : Int32)) dX12_game_7 (by decide) ?_
  refine ev_iconst (v := (1 : Int32)) dX12_game_8 (by decide) ?_
  refine ev_cVi mv_X12_167 dX12_game_9 c_X12_isIn rfl shR_0 rfl rfl (Nat.le_of_ble_eq_true rfl) (by rfl) (Nat.le_of_ble_eq_true rfl) (Nat.le_of_ble_eq_true rfl) (Nat.le_of_ble_eq_true rfl) ?_
  refine ev_if_ne (tgt := 17) dX12_game_12 (by decide) (fun hc2 => ?_) (fun hc2 => ?_)
  · replace h := ite_f hc2 h
    refine ev_iconst (v := (0 : Int32)) dX12_game_17 (by decide) ?_
    refine ev_istore_n (loc' := [_, _, _, _]) dX12_game_18 rfl (by decide) (by rfl) ?_
    exact ev_lt (f_X12_game_L19_ok (fun _ _ _ _ hh => f_X12_game_j56_ok hh) _ _ _ _ h) ⟨rfl, ⟨rfl, ⟨rfl, trivial⟩⟩⟩
  · replace h := ite_t hc2 h
    refine ev_iconst (v := (-1 : Int32)) dX12_game_15 (by decide) ?_
    exact ev_iret rfl rfl (by decide) (by decide) dX12_game_16 (eqP_E h)
def f_X12_keeps (G : Nat) (p1 : Int32) (μ : Mem) : Option (Int32 × Mem) :=
  (let m1 := wr μ 0 74 ((μ 0 74) + (1 : Int32))
  (if (m1 0 72) = (0 : Int32) then
  chk ((m1 0 74) - (1 : Int32)) 2300 (some ((m1 45 (ix ((m1 0 74) - (1 : Int32)))), m1))
  else
  chk ((m1 0 74) - (1 : Int32)) 2300 (let m3 := wr m1 45 (ix ((m1 0 74) - (1 : Int32))) p1
  some (p1, m3))))
set_option maxHeartbeats 4000000 in
set_option maxRecDepth 100000 in
theorem c_X12_keeps  {G : Nat} {μ : Mem} {p1 : Int32} {r : Int32} {μr : Mem}  (h : f_X12_keeps G p1 μ = some (r, μr)) : Cn yX12_keeps cX12_keeps 2 (some .int) 1 0 0 [.ref 0, .int p1] shR μ (eqP (some r) shR μr) := by
  refine cn_of (own := RX12) (ini := false) (loc := [some (.ref 0), some (.int p1)]) rfl (by decide) (fun q => by cases q) (Nat.le_of_ble_eq_true rfl) (by rfl) rfl ?_
  unfold f_X12_keeps at h
  refine ev_aload_n dX12_keeps_0 rfl ?_
  refine ev_aload_n dX12_keeps_1 rfl ?_
  refine ev_getI fr_X12_534 shR_0 rfl dX12_keeps_2 ?_
  refine ev_iconst (v := (1 : Int32)) dX12_keeps_5 (by decide) ?_
  refine ev_iadd dX12_keeps_6 ?_
  refine ev_putI fr_X12_534 shR_0 rfl rfl rfl dX12_keeps_7 ?_
  refine ev_aload_n dX12_keeps_10 rfl ?_
  refine ev_getI fr_X12_537 shR_0 rfl dX12_keeps_11 ?_
  refine ev_if_ne (tgt := 29) dX12_keeps_14 (by decide) (fun hc2 => ?_) (fun hc2 => ?_)
  · replace h := ite_f hc2 h
    refine ev_aload_n dX12_keeps_29 rfl ?_
    refine ev_getR fr_X12_146 shR_0 rfl dX12_keeps_30 ?_
    refine ev_aload_n dX12_keeps_33 rfl ?_
    refine ev_getI fr_X12_534 shR_0 rfl dX12_keeps_34 ?_
    refine ev_iconst (v := (1 : Int32)) dX12_keeps_37 (by decide) ?_
    refine ev_isub dX12_keeps_38 ?_
    refine ev_iload_n dX12_keeps_39 rfl ?_
    obtain ⟨hi4, h⟩ := chk_t h
    refine ev_iast shR_45 hi4 dX12_keeps_40 ?_
    refine ev_iload_n dX12_keeps_41 rfl ?_
    exact ev_iret rfl rfl (by decide) (by decide) dX12_keeps_42 (eqP_E h)
  · replace h := ite_t hc2 h
    refine ev_aload_n dX12_keeps_17 rfl ?_
    refine ev_getR fr_X12_146 shR_0 rfl dX12_keeps_18 ?_
    refine ev_aload_n dX12_keeps_21 rfl ?_
    refine ev_getI fr_X12_534 shR_0 rfl dX12_keeps_22 ?_
    refine ev_iconst (v := (1 : Int32)) dX12_keeps_25 (by decide) ?_
    refine ev_isub dX12_keeps_26 ?_
    obtain ⟨hi5, h⟩ := chk_t h
    refine ev_iald shR_45 hi5 dX12_keeps_27 ?_
    exact ev_iret rfl rfl (by decide) (by decide) dX12_keeps_28 (eqP_E h)
def f_X12_keepsLaw_L18 (G : Nat) (k18_94 : Mem → Option Mem) : Nat → Int32 → Mem → Option Mem
  | 0, _, _ => none
  | g + 1, v1, μ =>
  (if (16 : Int32) ≤ v1 then
  k18_94  μ
  else
  chk v1 48 (bndE (f_X12_keeps G (μ 13 (ix v1)) μ) (fun w9 m8 =>
  chk v1 48 (let m10 := wr m8 13 (ix v1) w9
  chk v1 48 (bndE (f_X12_keeps G (m10 14 (ix v1)) m10) (fun w15 m14 =>
  chk v1 48 (let m16 := wr m14 14 (ix v1) w15
  chk v1 48 (bndE (f_X12_keeps G (m16 15 (ix v1)) m16) (fun w21 m20 =>
  chk v1 48 (let m22 := wr m20 15 (ix v1) w21
  chk v1 48 (bndE (f_X12_keeps G (m22 16 (ix v1)) m22) (fun w27 m26 =>
  chk v1 48 (let m28 := wr m26 16 (ix v1) w27
  (f_X12_keepsLaw_L18 G k18_94 g) (v1 + (1 : Int32)) m28)))))))))))))
set_option maxHeartbeats 4000000 in
set_option maxRecDepth 100000 in
theorem f_X12_keepsLaw_L18_ok  {G : Nat} {μr : Mem}  {k18_94 : Mem → Option Mem} (hk18_94 : ∀ (m : Mem), k18_94 m = some μr → Ev RX12 cX12_keepsLaw 2 none false 2 0 0 (eqP none shR μr) 94 [some (.ref 0), none] [] shR m 0 0) : ∀ (g : Nat) (v1 : Int32) (μ : Mem), f_X12_keepsLaw_L18 G k18_94 g v1 μ = some μr → Ev RX12 cX12_keepsLaw 2 none false 2 0 0 (eqP none shR μr) 18 [some (.ref 0), some (.int v1)] [] shR μ 0 0 := by
  intro g
  induction g with
  | zero =>
    intro v1 μ h
    cases h
  | succ g ih =>
    intro v1 μ h
    rw [f_X12_keepsLaw_L18] at h
    refine ev_iload_n dX12_keepsLaw_18 rfl ?_
    refine ev_bipush (v := (16 : Int32)) dX12_keepsLaw_19 (by decide) ?_
    refine ev_icmp_ge (tgt := 94) dX12_keepsLaw_21 (by decide) (fun hc5 => ?_) (fun hc5 => ?_)
    · replace h := ite_t hc5 h
      exact ev_lt (hk18_94 _ h) ⟨rfl, trivial⟩
    · replace h := ite_f hc5 h
      refine ev_aload_n dX12_keepsLaw_24 rfl ?_
      refine ev_getR fr_X12_46 shR_0 rfl dX12_keepsLaw_25 ?_
      refine ev_iload_n dX12_keepsLaw_28 rfl ?_
      refine ev_aload_n dX12_keepsLaw_29 rfl ?_
      refine ev_aload_n dX12_keepsLaw_30 rfl ?_
      refine ev_getR fr_X12_46 shR_0 rfl dX12_keepsLaw_31 ?_
      refine ev_iload_n dX12_keepsLaw_34 rfl ?_
      obtain ⟨hi6, h⟩ := chk_t h
      refine ev_iald shR_13 hi6 dX12_keepsLaw_35 ?_
      obtain ⟨w9, m8, hq7, h⟩ := bndE_t h
      refine ev_cVi mv_X12_540 dX12_keepsLaw_36 (c_X12_keeps hq7) rfl shR_0 rfl rfl (Nat.le_of_ble_eq_true rfl) (by rfl) (Nat.le_of_ble_eq_true rfl) (Nat.le_of_ble_eq_true rfl) (Nat.le_of_ble_eq_true rfl) ?_
      obtain ⟨hi11, h⟩ := chk_t h
      refine ev_iast shR_13 hi11 dX12_keepsLaw_39 ?_
      refine ev_aload_n dX12_keepsLaw_40 rfl ?_
      refine ev_getR fr_X12_49 shR_0 rfl dX12_keepsLaw_41 ?_
      refine ev_iload_n dX12_keepsLaw_44 rfl ?_
      refine ev_aload_n dX12_keepsLaw_45 rfl ?_
      refine ev_aload_n dX12_keepsLaw_46 rfl ?_
      refine ev_getR fr_X12_49 shR_0 rfl dX12_keepsLaw_47 ?_
      refine ev_iload_n dX12_keepsLaw_50 rfl ?_
      obtain ⟨hi12, h⟩ := chk_t h
      refine ev_iald shR_14 hi12 dX12_keepsLaw_51 ?_
      obtain ⟨w15, m14, hq13, h⟩ := bndE_t h
      refine ev_cVi mv_X12_540 dX12_keepsLaw_52 (c_X12_keeps hq13) rfl shR_0 rfl rfl (Nat.le_of_ble_eq_true rfl) (by rfl) (Nat.le_of_ble_eq_true rfl) (Nat.le_of_ble_eq_true rfl) (Nat.le_of_ble_eq_true rfl) ?_
      obtain ⟨hi17, h⟩ := chk_t h
      refine ev_iast shR_14 hi17 dX12_keepsLaw_55 ?_
      refine ev_aload_n dX12_keepsLaw_56 rfl ?_
      refine ev_getR fr_X12_52 shR_0 rfl dX12_keepsLaw_57 ?_
      refine ev_iload_n dX12_keepsLaw_60 rfl ?_
      refine ev_aload_n dX12_keepsLaw_61 rfl ?_
      refine ev_aload_n dX12_keepsLaw_62 rfl ?_
      refine ev_getR fr_X12_52 shR_0 rfl dX12_keepsLaw_63 ?_
      refine ev_iload_n dX12_keepsLaw_66 rfl ?_
      obtain ⟨hi18, h⟩ := chk_t h
      refine ev_iald shR_15 hi18 dX12_keepsLaw_67 ?_
      obtain ⟨w21, m20, hq19, h⟩ := bndE_t h
      refine ev_cVi mv_X12_540 dX12_keepsLaw_68 (c_X12_keeps hq19) rfl shR_0 rfl rfl (Nat.le_of_ble_eq_true rfl) (by rfl) (Nat.le_of_ble_eq_true rfl) (Nat.le_of_ble_eq_true rfl) (Nat.le_of_ble_eq_true rfl) ?_
      obtain ⟨hi23, h⟩ := chk_t h
      refine ev_iast shR_15 hi23 dX12_keepsLaw_71 ?_
      refine ev_aload_n dX12_keepsLaw_72 rfl ?_
      refine ev_getR fr_X12_55 shR_0 rfl dX12_keepsLaw_73 ?_
      refine ev_iload_n dX12_keepsLaw_76 rfl ?_
      refine ev_aload_n dX12_keepsLaw_77 rfl ?_
      refine ev_aload_n dX12_keepsLaw_78 rfl ?_
      refine ev_getR fr_X12_55 shR_0 rfl dX12_keepsLaw_79 ?_
      refine ev_iload_n dX12_keepsLaw_82 rfl ?_
      obtain ⟨hi24, h⟩ := chk_t h
      refine ev_iald shR_16 hi24 dX12_keepsLaw_83 ?_
      obtain ⟨w27, m26, hq25, h⟩ := bndE_t h
      refine ev_cVi mv_X12_540 dX12_keepsLaw_84 (c_X12_keeps hq25) rfl shR_0 rfl rfl (Nat.le_of_ble_eq_true rfl) (by rfl) (Nat.le_of_ble_eq_true rfl) (Nat.le_of_ble_eq_true rfl) (Nat.le_of_ble_eq_true rfl) ?_
      obtain ⟨hi29, h⟩ := chk_t h
      refine ev_iast shR_16 hi29 dX12_keepsLaw_87 ?_
      refine ev_iinc (cq := (1 : Int32)) (loc' := [_, _]) dX12_keepsLaw_88 rfl (by decide) rfl (by decide) (by rfl) ?_
      refine ev_goto (tgt := 18) dX12_keepsLaw_91 (by decide) ?_
      exact ev_lt (ih _ _ h) ⟨rfl, ⟨rfl, trivial⟩⟩
def f_X12_keepsLaw_L96 (G : Nat)  : Nat → Int32 → Mem → Option Mem
  | 0, _, _ => none
  | g + 1, v1, μ =>
  (if (400 : Int32) ≤ v1 then
  some μ
  else
  chk v1 1200 (bndE (f_X12_keeps G (μ 17 (ix v1)) μ) (fun w34 m33 =>
  chk v1 1200 (let m35 := wr m33 17 (ix v1) w34
  chk v1 1200 (bndE (f_X12_keeps G (m35 18 (ix v1)) m35) (fun w40 m39 =>
  chk v1 1200 (let m41 := wr m39 18 (ix v1) w40
  (f_X12_keepsLaw_L96 G g) (v1 + (1 : Int32)) m41)))))))
set_option maxHeartbeats 4000000 in
set_option maxRecDepth 100000 in
theorem f_X12_keepsLaw_L96_ok  {G : Nat} {μr : Mem}    : ∀ (g : Nat) (v1 : Int32) (μ : Mem), f_X12_keepsLaw_L96 G g v1 μ = some μr → Ev RX12 cX12_keepsLaw 2 none false 2 0 0 (eqP none shR μr) 96 [some (.ref 0), some (.int v1)] [] shR μ 0 0 := by
  intro g
  induction g with
  | zero =>
    intro v1 μ h
    cases h
  | succ g ih =>
    intro v1 μ h
    rw [f_X12_keepsLaw_L96] at h
    refine ev_iload_n dX12_keepsLaw_96 rfl ?_
    refine ev_sipush (v := (400 : Int32)) dX12_keepsLaw_97 (by decide) ?_
    refine ev_icmp_ge (tgt := 141) dX12_keepsLaw_100 (by decide) (fun hc30 => ?_) (fun hc30 => ?_)
    · replace h := ite_t hc30 h
      exact ev_vret rfl (by decide) (by decide) dX12_keepsLaw_141 (eqP_V h)
    · replace h := ite_f hc30 h
      refine ev_aload_n dX12_keepsLaw_103 rfl ?_
      refine ev_getR fr_X12_58 shR_0 rfl dX12_keepsLaw_104 ?_
      refine ev_iload_n dX12_keepsLaw_107 rfl ?_
      refine ev_aload_n dX12_keepsLaw_108 rfl ?_
      refine ev_aload_n dX12_keepsLaw_109 rfl ?_
      refine ev_getR fr_X12_58 shR_0 rfl dX12_keepsLaw_110 ?_
      refine ev_iload_n dX12_keepsLaw_113 rfl ?_
      obtain ⟨hi31, h⟩ := chk_t h
      refine ev_iald shR_17 hi31 dX12_keepsLaw_114 ?_
      obtain ⟨w34, m33, hq32, h⟩ := bndE_t h
      refine ev_cVi mv_X12_540 dX12_keepsLaw_115 (c_X12_keeps hq32) rfl shR_0 rfl rfl (Nat.le_of_ble_eq_true rfl) (by rfl) (Nat.le_of_ble_eq_true rfl) (Nat.le_of_ble_eq_true rfl) (Nat.le_of_ble_eq_true rfl) ?_
      obtain ⟨hi36, h⟩ := chk_t h
      refine ev_iast shR_17 hi36 dX12_keepsLaw_118 ?_
      refine ev_aload_n dX12_keepsLaw_119 rfl ?_
      refine ev_getR fr_X12_61 shR_0 rfl dX12_keepsLaw_120 ?_
      refine ev_iload_n dX12_keepsLaw_123 rfl ?_
      refine ev_aload_n dX12_keepsLaw_124 rfl ?_
      refine ev_aload_n dX12_keepsLaw_125 rfl ?_
      refine ev_getR fr_X12_61 shR_0 rfl dX12_keepsLaw_126 ?_
      refine ev_iload_n dX12_keepsLaw_129 rfl ?_
      obtain ⟨hi37, h⟩ := chk_t h
      refine ev_iald shR_18 hi37 dX12_keepsLaw_130 ?_
      obtain ⟨w40, m39, hq38, h⟩ := bndE_t h
      refine ev_cVi mv_X12_540 dX12_keepsLaw_131 (c_X12_keeps hq38) rfl shR_0 rfl rfl (Nat.le_of_ble_eq_true rfl) (by rfl) (Nat.le_of_ble_eq_true rfl) (Nat.le_of_ble_eq_true rfl) (Nat.le_of_ble_eq_true rfl) ?_
      obtain ⟨hi42, h⟩ := chk_t h
      refine ev_iast shR_18 hi42 dX12_keepsLaw_134 ?_
      refine ev_iinc (cq := (1 : Int32)) (loc' := [_, _]) dX12_keepsLaw_135 rfl (by decide) rfl (by decide) (by rfl) ?_
      refine ev_goto (tgt := 96) dX12_keepsLaw_138 (by decide) ?_
      exact ev_lt (ih _ _ h) ⟨rfl, ⟨rfl, trivial⟩⟩
def f_X12_keepsLaw_j94 (G : Nat)  (μ : Mem) : Option Mem :=
  f_X12_keepsLaw_L96 G G (0 : Int32) μ
set_option maxHeartbeats 4000000 in
set_option maxRecDepth 100000 in
theorem f_X12_keepsLaw_j94_ok  {G : Nat} {μr : Mem}    {μ : Mem} (h : f_X12_keepsLaw_j94 G μ = some μr) : Ev RX12 cX12_keepsLaw 2 none false 2 0 0 (eqP none shR μr) 94 [some (.ref 0), none] [] shR μ 0 0 := by
  unfold f_X12_keepsLaw_j94 at h
  refine ev_iconst (v := (0 : Int32)) dX12_keepsLaw_94 (by decide) ?_
  refine ev_istore_n (loc' := [_, _]) dX12_keepsLaw_95 rfl (by decide) (by rfl) ?_
  exact ev_lt (f_X12_keepsLaw_L96_ok _ _ _ h) ⟨rfl, ⟨rfl, trivial⟩⟩
def f_X12_keepsLaw (G : Nat) (μ : Mem) : Option Mem :=
  bndE (f_X12_keeps G (μ 12 0) μ) (fun w3 m2 =>
  (let m4 := wr m2 12 0 w3
  f_X12_keepsLaw_L18 G (f_X12_keepsLaw_j94 G) G (0 : Int32) m4))
set_option maxHeartbeats 4000000 in
set_option maxRecDepth 100000 in
theorem c_X12_keepsLaw  {G : Nat} {μ : Mem} {μr : Mem}  (h : f_X12_keepsLaw G μ = some μr) : Cn yX12_keepsLaw cX12_keepsLaw 2 none 2 0 0 [.ref 0] shR μ (eqP none shR μr) := by
  refine cn_of (own := RX12) (ini := false) (loc := [some (.ref 0), none]) rfl (by decide) (fun q => by cases q) (Nat.le_of_ble_eq_true rfl) (by rfl) rfl ?_
  unfold f_X12_keepsLaw at h
  refine ev_aload_n dX12_keepsLaw_0 rfl ?_
  refine ev_getR fr_X12_43 shR_0 rfl dX12_keepsLaw_1 ?_
  refine ev_iconst (v := (0 : Int32)) dX12_keepsLaw_4 (by decide) ?_
  refine ev_aload_n dX12_keepsLaw_5 rfl ?_
  refine ev_aload_n dX12_keepsLaw_6 rfl ?_
  refine ev_getR fr_X12_43 shR_0 rfl dX12_keepsLaw_7 ?_
  refine ev_iconst (v := (0 : Int32)) dX12_keepsLaw_10 (by decide) ?_
  refine ev_ialdL (j := 0) shR_12 (by decide) (vpl _ _ (by decide)) dX12_keepsLaw_11 ?_
  obtain ⟨w3, m2, hq1, h⟩ := bndE_t h
  refine ev_cVi mv_X12_540 dX12_keepsLaw_12 (c_X12_keeps hq1) rfl shR_0 rfl rfl (Nat.le_of_ble_eq_true rfl) (by rfl) (Nat.le_of_ble_eq_true rfl) (Nat.le_of_ble_eq_true rfl) (Nat.le_of_ble_eq_true rfl) ?_
  refine ev_iastL (j := 0) shR_12 (by decide) (vpl _ _ (by decide)) dX12_keepsLaw_15 ?_
  refine ev_iconst (v := (0 : Int32)) dX12_keepsLaw_16 (by decide) ?_
  refine ev_istore_n (loc' := [_, _]) dX12_keepsLaw_17 rfl (by decide) (by rfl) ?_
  exact ev_lt (f_X12_keepsLaw_L18_ok (fun _ hh => f_X12_keepsLaw_j94_ok hh) _ _ _ h) ⟨rfl, ⟨rfl, trivial⟩⟩
def f_X12_keepsMany (G : Nat) (μ : Mem) : Option Mem :=
  bndE (f_X12_keeps G (μ 0 6) μ) (fun w3 m2 =>
  (let m4 := wr m2 0 6 w3
  bndE (f_X12_keeps G (m4 0 7) m4) (fun w7 m6 =>
  (let m8 := wr m6 0 7 w7
  bndE (f_X12_keeps G (m8 0 37) m8) (fun w11 m10 =>
  (let m12 := wr m10 0 37 w11
  bndE (f_X12_keeps G (m12 0 39) m12) (fun w15 m14 =>
  (let m16 := wr m14 0 39 w15
  bndE (f_X12_keeps G (m16 0 41) m16) (fun w19 m18 =>
  (let m20 := wr m18 0 41 w19
  bndE (f_X12_keeps G (m20 0 47) m20) (fun w23 m22 =>
  (let m24 := wr m22 0 47 w23
  bndE (f_X12_keeps G (m24 0 51) m24) (fun w27 m26 =>
  (let m28 := wr m26 0 51 w27
  bndE (f_X12_keeps G (m28 0 57) m28) (fun w31 m30 =>
  (let m32 := wr m30 0 57 w31
  bndE (f_X12_keeps G (m32 0 60) m32) (fun w35 m34 =>
  (let m36 := wr m34 0 60 w35
  bndE (f_X12_keeps G (m36 0 64) m36) (fun w39 m38 =>
  (let m40 := wr m38 0 64 w39
  bndE (f_X12_keeps G (m40 0 68) m40) (fun w43 m42 =>
  (let m44 := wr m42 0 68 w43
  some m44))))))))))))))))))))))
set_option maxHeartbeats 4000000 in
set_option maxRecDepth 100000 in
theorem c_X12_keepsMany  {G : Nat} {μ : Mem} {μr : Mem}  (h : f_X12_keepsMany G μ = some μr) : Cn yX12_keepsMany cX12_keepsMany 1 none 2 0 0 [.ref 0] shR μ (eqP none shR μr) := by
  refine cn_of (own := RX12) (ini := false) (loc := [some (.ref 0)]) rfl (by decide) (fun q => by cases q) (Nat.le_of_ble_eq_true rfl) (by rfl) rfl ?_
  unfold f_X12_keepsMany at h
  refine ev_aload_n dX12_keepsMany_0 rfl ?_
  refine ev_aload_n dX12_keepsMany_1 rfl ?_
  refine ev_aload_n dX12_keepsMany_2 rfl ?_
  refine ev_getI fr_X12_161 shR_0 rfl dX12_keepsMany_3 ?_
  obtain ⟨w3, m2, hq1, h⟩ := bndE_t h
  refine ev_cVi mv_X12_540 dX12_keepsMany_6 (c_X12_keeps hq1) rfl shR_0 rfl rfl (Nat.le_of_ble_eq_true rfl) (by rfl) (Nat.le_of_ble_eq_true rfl) (Nat.le_of_ble_eq_true rfl) (Nat.le_of_ble_eq_true rfl) ?_
  refine ev_putI fr_X12_161 shR_0 rfl rfl rfl dX12_keepsMany_9 ?_
  refine ev_aload_n dX12_keepsMany_12 rfl ?_
  refine ev_aload_n dX12_keepsMany_13 rfl ?_
  refine ev_aload_n dX12_keepsMany_14 rfl ?_
  refine ev_getI fr_X12_164 shR_0 rfl dX12_keepsMany_15 ?_
  obtain ⟨w7, m6, hq5, h⟩ := bndE_t h
  refine ev_cVi mv_X12_540 dX12_keepsMany_18 (c_X12_keeps hq5) rfl shR_0 rfl rfl (Nat.le_of_ble_eq_true rfl) (by rfl) (Nat.le_of_ble_eq_true rfl) (Nat.le_of_ble_eq_true rfl) (Nat.le_of_ble_eq_true rfl) ?_
  refine ev_putI fr_X12_164 shR_0 rfl rfl rfl dX12_keepsMany_21 ?_
  refine ev_aload_n dX12_keepsMany_24 rfl ?_
  refine ev_aload_n dX12_keepsMany_25 rfl ?_
  refine ev_aload_n dX12_keepsMany_26 rfl ?_
  refine ev_getI fr_X12_317 shR_0 rfl dX12_keepsMany_27 ?_
  obtain ⟨w11, m10, hq9, h⟩ := bndE_t h
  refine ev_cVi mv_X12_540 dX12_keepsMany_30 (c_X12_keeps hq9) rfl shR_0 rfl rfl (Nat.le_of_ble_eq_true rfl) (by rfl) (Nat.le_of_ble_eq_true rfl) (Nat.le_of_ble_eq_true rfl) (Nat.le_of_ble_eq_true rfl) ?_
  refine ev_putI fr_X12_317 shR_0 rfl rfl rfl dX12_keepsMany_33 ?_
  refine ev_aload_n dX12_keepsMany_36 rfl ?_
  refine ev_aload_n dX12_keepsMany_37 rfl ?_
  refine ev_aload_n dX12_keepsMany_38 rfl ?_
  refine ev_getI fr_X12_320 shR_0 rfl dX12_keepsMany_39 ?_
  obtain ⟨w15, m14, hq13, h⟩ := bndE_t h
  refine ev_cVi mv_X12_540 dX12_keepsMany_42 (c_X12_keeps hq13) rfl shR_0 rfl rfl (Nat.le_of_ble_eq_true rfl) (by rfl) (Nat.le_of_ble_eq_true rfl) (Nat.le_of_ble_eq_true rfl) (Nat.le_of_ble_eq_true rfl) ?_
  refine ev_putI fr_X12_320 shR_0 rfl rfl rfl dX12_keepsMany_45 ?_
  refine ev_aload_n dX12_keepsMany_48 rfl ?_
  refine ev_aload_n dX12_keepsMany_49 rfl ?_
  refine ev_aload_n dX12_keepsMany_50 rfl ?_
  refine ev_getI fr_X12_314 shR_0 rfl dX12_keepsMany_51 ?_
  obtain ⟨w19, m18, hq17, h⟩ := bndE_t h
  refine ev_cVi mv_X12_540 dX12_keepsMany_54 (c_X12_keeps hq17) rfl shR_0 rfl rfl (Nat.le_of_ble_eq_true rfl) (by rfl) (Nat.le_of_ble_eq_true rfl) (Nat.le_of_ble_eq_true rfl) (Nat.le_of_ble_eq_true rfl) ?_
  refine ev_putI fr_X12_314 shR_0 rfl rfl rfl dX12_keepsMany_57 ?_
  refine ev_aload_n dX12_keepsMany_60 rfl ?_
  refine ev_aload_n dX12_keepsMany_61 rfl ?_
  refine ev_aload_n dX12_keepsMany_62 rfl ?_
  refine ev_getI fr_X12_441 shR_0 rfl dX12_keepsMany_63 ?_
  obtain ⟨w23, m22, hq21, h⟩ := bndE_t h
  refine ev_cVi mv_X12_540 dX12_keepsMany_66 (c_X12_keeps hq21) rfl shR_0 rfl rfl (Nat.le_of_ble_eq_true rfl) (by rfl) (Nat.le_of_ble_eq_true rfl) (Nat.le_of_ble_eq_true rfl) (Nat.le_of_ble_eq_true rfl) ?_
  refine ev_putI fr_X12_441 shR_0 rfl rfl rfl dX12_keepsMany_69 ?_
  refine ev_aload_n dX12_keepsMany_72 rfl ?_
  refine ev_aload_n dX12_keepsMany_73 rfl ?_
  refine ev_aload_n dX12_keepsMany_74 rfl ?_
  refine ev_getI fr_X12_453 shR_0 rfl dX12_keepsMany_75 ?_
  obtain ⟨w27, m26, hq25, h⟩ := bndE_t h
  refine ev_cVi mv_X12_540 dX12_keepsMany_78 (c_X12_keeps hq25) rfl shR_0 rfl rfl (Nat.le_of_ble_eq_true rfl) (by rfl) (Nat.le_of_ble_eq_true rfl) (Nat.le_of_ble_eq_true rfl) (Nat.le_of_ble_eq_true rfl) ?_
  refine ev_putI fr_X12_453 shR_0 rfl rfl rfl dX12_keepsMany_81 ?_
  refine ev_aload_n dX12_keepsMany_84 rfl ?_
  refine ev_aload_n dX12_keepsMany_85 rfl ?_
  refine ev_aload_n dX12_keepsMany_86 rfl ?_
  refine ev_getI fr_X12_474 shR_0 rfl dX12_keepsMany_87 ?_
  obtain ⟨w31, m30, hq29, h⟩ := bndE_t h
  refine ev_cVi mv_X12_540 dX12_keepsMany_90 (c_X12_keeps hq29) rfl shR_0 rfl rfl (Nat.le_of_ble_eq_true rfl) (by rfl) (Nat.le_of_ble_eq_true rfl) (Nat.le_of_ble_eq_true rfl) (Nat.le_of_ble_eq_true rfl) ?_
  refine ev_putI fr_X12_474 shR_0 rfl rfl rfl dX12_keepsMany_93 ?_
  refine ev_aload_n dX12_keepsMany_96 rfl ?_
  refine ev_aload_n dX12_keepsMany_97 rfl ?_
  refine ev_aload_n dX12_keepsMany_98 rfl ?_
  refine ev_getI fr_X12_483 shR_0 rfl dX12_keepsMany_99 ?_
  obtain ⟨w35, m34, hq33, h⟩ := bndE_t h
  refine ev_cVi mv_X12_540 dX12_keepsMany_102 (c_X12_keeps hq33) rfl shR_0 rfl rfl (Nat.le_of_ble_eq_true rfl) (by rfl) (Nat.le_of_ble_eq_true rfl) (Nat.le_of_ble_eq_true rfl) (Nat.le_of_ble_eq_true rfl) ?_
  refine ev_putI fr_X12_483 shR_0 rfl rfl rfl dX12_keepsMany_105 ?_
  refine ev_aload_n dX12_keepsMany_108 rfl ?_
  refine ev_aload_n dX12_keepsMany_109 rfl ?_
  refine ev_aload_n dX12_keepsMany_110 rfl ?_
  refine ev_getI fr_X12_507 shR_0 rfl dX12_keepsMany_111 ?_
  obtain ⟨w39, m38, hq37, h⟩ := bndE_t h
  refine ev_cVi mv_X12_540 dX12_keepsMany_114 (c_X12_keeps hq37) rfl shR_0 rfl rfl (Nat.le_of_ble_eq_true rfl) (by rfl) (Nat.le_of_ble_eq_true rfl) (Nat.le_of_ble_eq_true rfl) (Nat.le_of_ble_eq_true rfl) ?_
  refine ev_putI fr_X12_507 shR_0 rfl rfl rfl dX12_keepsMany_117 ?_
  refine ev_aload_n dX12_keepsMany_120 rfl ?_
  refine ev_aload_n dX12_keepsMany_121 rfl ?_
  refine ev_aload_n dX12_keepsMany_122 rfl ?_
  refine ev_getI fr_X12_516 shR_0 rfl dX12_keepsMany_123 ?_
  obtain ⟨w43, m42, hq41, h⟩ := bndE_t h
  refine ev_cVi mv_X12_540 dX12_keepsMany_126 (c_X12_keeps hq41) rfl shR_0 rfl rfl (Nat.le_of_ble_eq_true rfl) (by rfl) (Nat.le_of_ble_eq_true rfl) (Nat.le_of_ble_eq_true rfl) (Nat.le_of_ble_eq_true rfl) ?_
  refine ev_putI fr_X12_516 shR_0 rfl rfl rfl dX12_keepsMany_129 ?_
  exact ev_vret rfl (by decide) (by decide) dX12_keepsMany_132 (eqP_V h)
end
