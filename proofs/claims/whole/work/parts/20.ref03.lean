section
def f_X12_image_L35 (G : Nat) (k35_63 : Int32 → Mem → Option (Int32 × Mem)) : Nat → Int32 → Int32 → Mem → Option (Int32 × Mem)
  | 0, _, _, _ => none
  | g + 1, v1, v2, μ =>
  (if (49 : Int32) ≤ v2 then
  k35_63 v1 μ
  else
  chk v2 49 (bndE (f_X12_keeps G (μ 1 (ix v2)) μ) (fun w11 m10 =>
  chk v2 49 (let m12 := wr m10 1 (ix v2) w11
  (f_X12_image_L35 G k35_63 g) v1 (v2 + (1 : Int32)) m12))))
set_option maxHeartbeats 4000000 in
set_option maxRecDepth 100000 in
theorem f_X12_image_L35_ok  {G : Nat} {r : Int32} {μr : Mem}  {k35_63 : Int32 → Mem → Option (Int32 × Mem)} (hk35_63 : ∀ (v1 : Int32) (m : Mem), k35_63 v1 m = some (r, μr) → Ev RX12 cX12_image 3 (some .boolean) false 3 0 0 (eqP (some r) shR μr) 63 [some (.ref 0), some (.int v1), none] [] shR m 0 0) : ∀ (g : Nat) (v1 v2 : Int32) (μ : Mem), f_X12_image_L35 G k35_63 g v1 v2 μ = some (r, μr) → Ev RX12 cX12_image 3 (some .boolean) false 3 0 0 (eqP (some r) shR μr) 35 [some (.ref 0), some (.int v1), some (.int v2)] [] shR μ 0 0 := by
  intro g
  induction g with
  | zero =>
    intro v1 v2 μ h
    cases h
  | succ g ih =>
    intro v1 v2 μ h
    rw [f_X12_image_L35] at h
    refine ev_iload_n dX12_image_35 rfl ?_
    refine ev_bipush (v := (49 : Int32)) dX12_image_36 (by decide) ?_
    refine ev_icmp_ge (tgt := 63) dX12_image_38 (by decide) (fun hc7 => ?_) (fun hc7 => ?_)
    · replace h := ite_t hc7 h
      exact ev_lt (hk35_63 _ _ h) ⟨rfl, ⟨rfl, trivial⟩⟩
    · replace h := ite_f hc7 h
      refine ev_aload_n dX12_image_41 rfl ?_
      refine ev_getR fr_X12_7 shR_0 rfl dX12_image_42 ?_
      refine ev_iload_n dX12_image_45 rfl ?_
      refine ev_aload_n dX12_image_46 rfl ?_
      refine ev_aload_n dX12_image_47 rfl ?_
      refine ev_getR fr_X12_7 shR_0 rfl dX12_image_48 ?_
      refine ev_iload_n dX12_image_51 rfl ?_
      obtain ⟨hi8, h⟩ := chk_t h
      refine ev_iald shR_1 hi8 dX12_image_52 ?_
      obtain ⟨w11, m10, hq9, h⟩ := bndE_t h
      refine ev_cVi mv_X12_540 dX12_image_53 (c_X12_keeps hq9) rfl shR_0 rfl rfl (Nat.le_of_ble_eq_true rfl) (by rfl) (Nat.le_of_ble_eq_true rfl) (Nat.le_of_ble_eq_true rfl) (Nat.le_of_ble_eq_true rfl) ?_
      obtain ⟨hi13, h⟩ := chk_t h
      refine ev_iast shR_1 hi13 dX12_image_56 ?_
      refine ev_iinc (cq := (1 : Int32)) (loc' := [_, _, _]) dX12_image_57 rfl (by decide) rfl (by decide) (by rfl) ?_
      refine ev_goto (tgt := 35) dX12_image_60 (by decide) ?_
      exact ev_lt (ih _ _ _ h) ⟨rfl, ⟨rfl, ⟨rfl, trivial⟩⟩⟩
def f_X12_image_L73 (G : Nat) (k73_102 : Int32 → Mem → Option (Int32 × Mem)) : Nat → Int32 → Int32 → Mem → Option (Int32 × Mem)
  | 0, _, _, _ => none
  | g + 1, v1, v2, μ =>
  (if (600 : Int32) ≤ v2 then
  k73_102 v1 μ
  else
  chk v2 600 (bndE (f_X12_keeps G (μ 9 (ix v2)) μ) (fun w22 m21 =>
  chk v2 600 (let m23 := wr m21 9 (ix v2) w22
  (f_X12_image_L73 G k73_102 g) v1 (v2 + (1 : Int32)) m23))))
set_option maxHeartbeats 4000000 in
set_option maxRecDepth 100000 in
theorem f_X12_image_L73_ok  {G : Nat} {r : Int32} {μr : Mem}  {k73_102 : Int32 → Mem → Option (Int32 × Mem)} (hk73_102 : ∀ (v1 : Int32) (m : Mem), k73_102 v1 m = some (r, μr) → Ev RX12 cX12_image 3 (some .boolean) false 3 0 0 (eqP (some r) shR μr) 102 [some (.ref 0), some (.int v1), none] [] shR m 0 0) : ∀ (g : Nat) (v1 v2 : Int32) (μ : Mem), f_X12_image_L73 G k73_102 g v1 v2 μ = some (r, μr) → Ev RX12 cX12_image 3 (some .boolean) false 3 0 0 (eqP (some r) shR μr) 73 [some (.ref 0), some (.int v1), some (.int v2)] [] shR μ 0 0 := by
  intro g
  induction g with
  | zero =>
    intro v1 v2 μ h
    cases h
  | succ g ih =>
    intro v1 v2 μ h
    rw [f_X12_image_L73] at h
    refine ev_iload_n dX12_image_73 rfl ?_
    refine ev_sipush (v := (600 : Int32)) dX12_image_74 (by decide) ?_
    refine ev_icmp_ge (tgt := 102) dX12_image_77 (by decide) (fun hc18 => ?_) (fun hc18 => ?_)
    · replace h := ite_t hc18 h
      exact ev_lt (hk73_102 _ _ h) ⟨rfl, ⟨rfl, trivial⟩⟩
    · replace h := ite_f hc18 h
      refine ev_aload_n dX12_image_80 rfl ?_
      refine ev_getR fr_X12_34 shR_0 rfl dX12_image_81 ?_
      refine ev_iload_n dX12_image_84 rfl ?_
      refine ev_aload_n dX12_image_85 rfl ?_
      refine ev_aload_n dX12_image_86 rfl ?_
      refine ev_getR fr_X12_34 shR_0 rfl dX12_image_87 ?_
      refine ev_iload_n dX12_image_90 rfl ?_
      obtain ⟨hi19, h⟩ := chk_t h
      refine ev_iald shR_9 hi19 dX12_image_91 ?_
      obtain ⟨w22, m21, hq20, h⟩ := bndE_t h
      refine ev_cVi mv_X12_540 dX12_image_92 (c_X12_keeps hq20) rfl shR_0 rfl rfl (Nat.le_of_ble_eq_true rfl) (by rfl) (Nat.le_of_ble_eq_true rfl) (Nat.le_of_ble_eq_true rfl) (Nat.le_of_ble_eq_true rfl) ?_
      obtain ⟨hi24, h⟩ := chk_t h
      refine ev_iast shR_9 hi24 dX12_image_95 ?_
      refine ev_iinc (cq := (1 : Int32)) (loc' := [_, _, _]) dX12_image_96 rfl (by decide) rfl (by decide) (by rfl) ?_
      refine ev_goto (tgt := 73) dX12_image_99 (by decide) ?_
      exact ev_lt (ih _ _ _ h) ⟨rfl, ⟨rfl, ⟨rfl, trivial⟩⟩⟩
def f_X12_image_j102 (G : Nat)  (v1 : Int32) (μ : Mem) : Option (Int32 × Mem) :=
  bndV (f_X12_keepsLaw G μ) (fun m26 =>
  (if v1 = (0 : Int32) then
  (let m28 := wr m26 0 3 (0 : Int32)
  some ((1 : Int32), m28))
  else
  some ((1 : Int32), m26)))
set_option maxHeartbeats 4000000 in
set_option maxRecDepth 100000 in
theorem f_X12_image_j102_ok  {G : Nat} {r : Int32} {μr : Mem}    {v1 : Int32} {μ : Mem} (h : f_X12_image_j102 G v1 μ = some (r, μr)) : Ev RX12 cX12_image 3 (some .boolean) false 3 0 0 (eqP (some r) shR μr) 102 [some (.ref 0), some (.int v1), none] [] shR μ 0 0 := by
  refine ev_aload_n dX12_image_102 rfl ?_
  obtain ⟨m26, hq25, h⟩ := bndV_t h
  refine ev_cVv mv_X12_552 dX12_image_103 (c_X12_keepsLaw hq25) rfl shR_0 rfl rfl (Nat.le_of_ble_eq_true rfl) (by rfl) (Nat.le_of_ble_eq_true rfl) (Nat.le_of_ble_eq_true rfl) (Nat.le_of_ble_eq_true rfl) ?_
  refine ev_iload_n dX12_image_106 rfl ?_
  refine ev_if_ne (tgt := 115) dX12_image_107 (by decide) (fun hc27 => ?_) (fun hc27 => ?_)
  · replace h := ite_f hc27 h
    refine ev_iconst (v := (1 : Int32)) dX12_image_115 (by decide) ?_
    exact ev_iret rfl rfl (by decide) (by decide) dX12_image_116 (eqP_E h)
  · replace h := ite_t hc27 h
    refine ev_aload_n dX12_image_110 rfl ?_
    refine ev_iconst (v := (0 : Int32)) dX12_image_111 (by decide) ?_
    refine ev_putI fr_X12_152 shR_0 rfl rfl rfl dX12_image_112 ?_
    refine ev_iconst (v := (1 : Int32)) dX12_image_115 (by decide) ?_
    exact ev_iret rfl rfl (by decide) (by decide) dX12_image_116 (eqP_E h)
def f_X12_image_j63 (G : Nat)  (v1 : Int32) (μ : Mem) : Option (Int32 × Mem) :=
  bndV (f_X12_keepsMany G μ) (fun m15 =>
  bndV (f_X12_keepsTold G m15) (fun m17 =>
  f_X12_image_L73 G (f_X12_image_j102 G) G v1 (0 : Int32) m17))
set_option maxHeartbeats 4000000 in
set_option maxRecDepth 100000 in
theorem f_X12_image_j63_ok  {G : Nat} {r : Int32} {μr : Mem}    {v1 : Int32} {μ : Mem} (h : f_X12_image_j63 G v1 μ = some (r, μr)) : Ev RX12 cX12_image 3 (some .boolean) false 3 0 0 (eqP (some r) shR μr) 63 [some (.ref 0), some (.int v1), none] [] shR μ 0 0 := by
  refine ev_aload_n dX12_image_63 rfl ?_
  obtain ⟨m15, hq14, h⟩ := bndV_t h
  refine ev_cVv mv_X12_546 dX12_image_64 (c_X12_keepsMany hq14) rfl shR_0 rfl rfl (Nat.le_of_ble_eq_true rfl) (by rfl) (Nat.le_of_ble_eq_true rfl) (Nat.le_of_ble_eq_true rfl) (Nat.le_of_ble_eq_true rfl) ?_
  refine ev_aload_n dX12_image_67 rfl ?_
  obtain ⟨m17, hq16, h⟩ := bndV_t h
  refine ev_cVv mv_X12_549 dX12_image_68 (c_X12_keepsTold hq16) rfl shR_0 rfl rfl (Nat.le_of_ble_eq_true rfl) (by rfl) (Nat.le_of_ble_eq_true rfl) (Nat.le_of_ble_eq_true rfl) (Nat.le_of_ble_eq_true rfl) ?_
  refine ev_iconst (v := (0 : Int32)) dX12_image_71 (by decide) ?_
  refine ev_istore_n (loc' := [_, _, _]) dX12_image_72 rfl (by decide) (by rfl) ?_
  exact ev_lt (f_X12_image_L73_ok (fun _ _ hh => f_X12_image_j102_ok hh) _ _ _ _ h) ⟨rfl, ⟨rfl, ⟨rfl, trivial⟩⟩⟩
def f_X12_image_j18 (G : Nat)  (v1 : Int32) (μ : Mem) : Option (Int32 × Mem) :=
  bkk v1 (let m3 := wr μ 0 72 v1
  (let m5 := wr m3 0 73 (1 : Int32)
  (let m6 := wr m5 0 74 (0 : Int32)
  f_X12_image_L35 G (f_X12_image_j63 G) G v1 (0 : Int32) m6)))
set_option maxHeartbeats 4000000 in
set_option maxRecDepth 100000 in
theorem f_X12_image_j18_ok  {G : Nat} {r : Int32} {μr : Mem}    {v1 : Int32} {μ : Mem} (h : f_X12_image_j18 G v1 μ = some (r, μr)) : Ev RX12 cX12_image 3 (some .boolean) false 3 0 0 (eqP (some r) shR μr) 18 [some (.ref 0), some (.int v1), none] [] shR μ 0 0 := by
  refine ev_aload_n dX12_image_18 rfl ?_
  refine ev_iload_n dX12_image_19 rfl ?_
  obtain ⟨hz4, h⟩ := bkk_t h
  refine ev_putI fr_X12_537 shR_0 rfl (nzb hz4) (fzb hz4) dX12_image_20 ?_
  refine ev_aload_n dX12_image_23 rfl ?_
  refine ev_iconst (v := (1 : Int32)) dX12_image_24 (by decide) ?_
  refine ev_putI fr_X12_543 shR_0 rfl rfl rfl dX12_image_25 ?_
  refine ev_aload_n dX12_image_28 rfl ?_
  refine ev_iconst (v := (0 : Int32)) dX12_image_29 (by decide) ?_
  refine ev_putI fr_X12_534 shR_0 rfl rfl rfl dX12_image_30 ?_
  refine ev_iconst (v := (0 : Int32)) dX12_image_33 (by decide) ?_
  refine ev_istore_n (loc' := [_, _, _]) dX12_image_34 rfl (by decide) (by rfl) ?_
  exact ev_lt (f_X12_image_L35_ok (fun _ _ hh => f_X12_image_j63_ok hh) _ _ _ _ h) ⟨rfl, ⟨rfl, ⟨rfl, trivial⟩⟩⟩
def f_X12_image (G : Nat) (p1 : Int32) (μ : Mem) : Option (Int32 × Mem) :=
  (let m1 := wr μ 0 0 (0 : Int32)
  (if p1 = (0 : Int32) then
  (if (m1 0 73) = (0 : Int32) then
  some ((0 : Int32), m1)
  else
  f_X12_image_j18 G p1 m1)
  else
  f_X12_image_j18 G p1 m1))
set_option maxHeartbeats 4000000 in
set_option maxRecDepth 100000 in
theorem c_X12_image  {G : Nat} {μ : Mem} {p1 : Int32} {r : Int32} {μr : Mem}  (h : f_X12_image G p1 μ = some (r, μr)) : Cn yX12_image cX12_image 3 (some .boolean) 3 0 0 [.ref 0, .int p1] shR μ (eqP (some r) shR μr) := by
  refine cn_of (own := RX12) (ini := false) (loc := [some (.ref 0), some (.int p1), none]) rfl (by decide) (fun q => by cases q) (Nat.le_of_ble_eq_true rfl) (by rfl) rfl ?_
  refine ev_aload_n dX12_image_0 rfl ?_
  refine ev_iconst (v := (0 : Int32)) dX12_image_1 (by decide) ?_
  refine ev_putI fr_X12_149 shR_0 rfl rfl rfl dX12_image_2 ?_
  refine ev_iload_n dX12_image_5 rfl ?_
  refine ev_if_ne (tgt := 18) dX12_image_6 (by decide) (fun hc2 => ?_) (fun hc2 => ?_)
  · replace h := ite_f hc2 h
    exact ev_lt (f_X12_image_j18_ok h) ⟨rfl, ⟨rfl, trivial⟩⟩
  · replace h := ite_t hc2 h
    refine ev_aload_n dX12_image_9 rfl ?_
    refine ev_getI fr_X12_543 shR_0 rfl dX12_image_10 ?_
    refine ev_if_ne (tgt := 18) dX12_image_13 (by decide) (fun hc29 => ?_) (fun hc29 => ?_)
    · replace h := ite_f hc29 h
      exact ev_lt (f_X12_image_j18_ok h) ⟨rfl, ⟨rfl, trivial⟩⟩
    · replace h := ite_t hc29 h
      refine ev_iconst (v := (0 : Int32)) dX12_image_16 (by decide) ?_
      exact ev_iret rfl rfl (by decide) (by decide) dX12_image_17 (eqP_E h)
def f_X12_freeSet_j26 (G : Nat) (μ : Mem) (r4 : Int32 → Int32 → Option Int32) (v1 v2 : Int32) : Option Int32 :=
  r4 v1 (v2 + (1 : Int32))
set_option maxHeartbeats 4000000 in
set_option maxRecDepth 100000 in
theorem f_X12_freeSet_j26_ok  {G : Nat} {μ : Mem} {r : Int32}  {r4 : Int32 → Int32 → Option Int32} (hr4 : ∀ (v1 : Int32) (v2 : Int32), r4 v1 v2 = some r → Ev RX12 cX12_freeSet 3 (some .int) false 2 0 0 (eqP (some r) shR μ) 4 [some (.ref 0), some (.int v1), some (.int v2)] [] shR μ 0 0) {v1 v2 : Int32}  (h : f_X12_freeSet_j26 G μ r4 v1 v2 = some r) : Ev RX12 cX12_freeSet 3 (some .int) false 2 0 0 (eqP (some r) shR μ) 26 [some (.ref 0), some (.int v1), some (.int v2)] [] shR μ 0 0 := by
  refine ev_iinc (cq := (1 : Int32)) (loc' := [_, _, _]) dX12_freeSet_26 rfl (by decide) rfl (by decide) (by rfl) ?_
  refine ev_goto (tgt := 4) dX12_freeSet_29 (by decide) ?_
  exact ev_lt (hr4 _ _ h) ⟨rfl, ⟨rfl, ⟨rfl, trivial⟩⟩⟩
def f_X12_freeSet_L4 (G : Nat) (μ : Mem)  : Nat → Int32 → Int32 → Option Int32
  | 0, _, _ => none
  | g + 1, v1, v2 =>
  (if (μ 0 6) ≤ v2 then
  some v1
  else
  bndO (f_X12_isFree G μ v2) (fun w3 =>
  (if w3 = (0 : Int32) then
  f_X12_freeSet_j26 G μ (f_X12_freeSet_L4 G μ g) v1 v2
  else
  f_X12_freeSet_j26 G μ (f_X12_freeSet_L4 G μ g) (v1 ||| (sl (1 : Int32) v2)) v2)))
set_option maxHeartbeats 4000000 in
set_option maxRecDepth 100000 in
theorem f_X12_freeSet_L4_ok  {G : Nat} {μ : Mem} {r : Int32}    : ∀ (g : Nat) (v1 v2 : Int32), f_X12_freeSet_L4 G μ g v1 v2 = some r → Ev RX12 cX12_freeSet 3 (some .int) false 2 0 0 (eqP (some r) shR μ) 4 [some (.ref 0), some (.int v1), some (.int v2)] [] shR μ 0 0 := by
  intro g
  induction g with
  | zero =>
    intro v1 v2 h
    cases h
  | succ g ih =>
    intro v1 v2 h
    rw [f_X12_freeSet_L4] at h
    refine ev_iload_n dX12_freeSet_4 rfl ?_
    refine ev_aload_n dX12_freeSet_5 rfl ?_
    refine ev_getI fr_X12_161 shR_0 rfl dX12_freeSet_6 ?_
    refine ev_icmp_ge (tgt := 32) dX12_freeSet_9 (by decide) (fun hc1 => ?_) (fun hc1 => ?_)
    · replace h := ite_t hc1 h
      refine ev_iload_n dX12_freeSet_32 rfl ?_
      exact ev_iret rfl rfl (by decide) (by decide) dX12_freeSet_33 (eqP_O h)
    · replace h := ite_f hc1 h
      refine ev_aload_n dX12_freeSet_12 rfl ?_
      refine ev_iload_n dX12_freeSet_13 rfl ?_
      obtain ⟨w3, hq2, h⟩ := bndO_t h
      refine ev_cVi mv_X12_384 dX12_freeSet_14 (c_X12_isFree hq2) rfl shR_0 rfl rfl (Nat.le_of_ble_eq_true rfl) (by rfl) (Nat.le_of_ble_eq_true rfl) (Nat.le_of_ble_eq_true rfl) (Nat.le_of_ble_eq_true rfl) ?_
      refine ev_if_eq (tgt := 26) dX12_freeSet_17 (by decide) (fun hc4 => ?_) (fun hc4 => ?_)
      · replace h := ite_t hc4 h
        exact ev_lt (f_X12_freeSet_j26_ok ih h) ⟨rfl, ⟨rfl, ⟨rfl, trivial⟩⟩⟩
      · replace h := ite_f hc4 h
        refine ev_iload_n dX12_freeSet_20 rfl ?_
        refine ev_iconst (v := (1 : Int32)) dX12_freeSet_21 (by decide) ?_
        refine ev_iload_n dX12_freeSet_22 rfl ?_
        refine ev_ishl dX12_freeSet_23 ?_
        refine ev_ior dX12_freeSet_24 ?_
        refine ev_istore_n (loc' := [_, _, _]) dX12_freeSet_25 rfl (by decide) (by rfl) ?_
        exact ev_lt (f_X12_freeSet_j26_ok ih h) ⟨rfl, ⟨rfl, ⟨rfl, trivial⟩⟩⟩
def f_X12_freeSet (G : Nat) (μ : Mem) : Option Int32 :=
  f_X12_freeSet_L4 G μ G (0 : Int32) (0 : Int32)
set_option maxHeartbeats 4000000 in
set_option maxRecDepth 100000 in
theorem c_X12_freeSet  {G : Nat} {μ : Mem}  {r : Int32}  (h : f_X12_freeSet G μ = some r) : Cn yX12_freeSet cX12_freeSet 3 (some .int) 2 0 0 [.ref 0] shR μ (eqP (some r) shR μ) := by
  refine cn_of (own := RX12) (ini := false) (loc := [some (.ref 0), none, none]) rfl (by decide) (fun q => by cases q) (Nat.le_of_ble_eq_true rfl) (by rfl) rfl ?_
  refine ev_iconst (v := (0 : Int32)) dX12_freeSet_0 (by decide) ?_
  refine ev_istore_n (loc' := [_, _, _]) dX12_freeSet_1 rfl (by decide) (by rfl) ?_
  refine ev_iconst (v := (0 : Int32)) dX12_freeSet_2 (by decide) ?_
  refine ev_istore_n (loc' := [_, _, _]) dX12_freeSet_3 rfl (by decide) (by rfl) ?_
  exact ev_lt (f_X12_freeSet_L4_ok _ _ _ h) ⟨rfl, ⟨rfl, ⟨rfl, trivial⟩⟩⟩
def f_X12_look (G : Nat) (p1 : Int32) (μ : Mem) : Option (Int32 × Mem) :=
  (let m1 := wr μ 0 0 (0 : Int32)
  (if p1 = (0 : Int32) then
  some ((m1 0 6), m1)
  else
  (if p1 = (1 : Int32) then
  some ((m1 0 7), m1)
  else
  (if p1 = (2 : Int32) then
  some ((m1 1 0), m1)
  else
  (if p1 = (3 : Int32) then
  some ((m1 1 3), m1)
  else
  (if p1 = (4 : Int32) then
  some ((m1 1 4), m1)
  else
  (if p1 = (5 : Int32) then
  bndO (f_X12_freeSet G m1) (fun w16 =>
  some (w16, m1))
  else
  (if p1 = (6 : Int32) then
  some ((m1 1 2), m1)
  else
  (if p1 = (7 : Int32) then
  some ((m1 1 1), m1)
  else
  (if p1 = (8 : Int32) then
  some ((m1 12 0), m1)
  else
  (if p1 = (9 : Int32) then
  some ((m1 0 37), m1)
  else
  (if p1 = (10 : Int32) then
  some ((m1 0 39), m1)
  else
  (if p1 = (11 : Int32) then
  some ((m1 0 41), m1)
  else
  (if p1 = (12 : Int32) then
  some ((m1 0 3), m1)
  else
  some ((-10000 : Int32), m1)))))))))))))))
set_option maxHeartbeats 4000000 in
set_option maxRecDepth 100000 in
theorem c_X12_look  {G : Nat} {μ : Mem} {p1 : Int32} {r : Int32} {μr : Mem}  (h : f_X12_look G p1 μ = some (r, μr)) : Cn yX12_look cX12_look 2 (some .int) 3 0 0 [.ref 0, .int p1] shR μ (eqP (some r) shR μr) := by
  refine cn_of (own := RX12) (ini := false) (loc := [some (.ref 0), some (.int p1)]) rfl (by decide) (fun q => by cases q) (Nat.le_of_ble_eq_true rfl) (by rfl) rfl ?_
  refine ev_aload_n dX12_look_0 rfl ?_
  refine ev_iconst (v := (0 : Int32)) dX12_look_1 (by decide) ?_
  refine ev_putI fr_X12_149 shR_0 rfl rfl rfl dX12_look_2 ?_
  refine ev_iload_n dX12_look_5 rfl ?_
  refine ev_if_ne (tgt := 14) dX12_look_6 (by decide) (fun hc2 => ?_) (fun hc2 => ?_)
  · replace h := ite_f hc2 h
    refine ev_iload_n dX12_look_14 rfl ?_
    refine ev_iconst (v := (1 : Int32)) dX12_look_15 (by decide) ?_
    refine ev_icmp_ne (tgt := 24) dX12_look_16 (by decide) (fun hc3 => ?_) (fun hc3 => ?_)
    · replace h := ite_f hc3 h
      refine ev_iload_n dX12_look_24 rfl ?_
      refine ev_iconst (v := (2 : Int32)) dX12_look_25 (by decide) ?_
      refine ev_icmp_ne (tgt := 36) dX12_look_26 (by decide) (fun hc4 => ?_) (fun hc4 => ?_)
      · replace h := ite_f hc4 h
        refine ev_iload_n dX12_look_36 rfl ?_
        refine ev_iconst (v := (3 : Int32)) dX12_look_37 (by decide) ?_
        refine ev_icmp_ne (tgt := 48) dX12_look_38 (by decide) (fun hc5 => ?_) (fun hc5 => ?_)
        · replace h := ite_f hc5 h
          refine ev_iload_n dX12_look_48 rfl ?_
          refine ev_iconst (v := (4 : Int32)) dX12_look_49 (by decide) ?_
          refine ev_icmp_ne (tgt := 60) dX12_look_50 (by decide) (fun hc6 => ?_) (fun hc6 => ?_)
          · replace h := ite_f hc6 h
            refine ev_iload_n dX12_look_60 rfl ?_
            refine ev_iconst (v := (5 : Int32)) dX12_look_61 (by decide) ?_
            refine ev_icmp_ne (tgt := 70) dX12_look_62 (by decide) (fun hc7 => ?_) (fun hc7 => ?_)
            · replace h := ite_f hc7 h
              refine ev_iload_n dX12_look_70 rfl ?_
              refine ev_bipush (v := (6 : Int32)) dX12_look_71 (by decide) ?_
              refine ev_icmp_ne (tgt := 83) dX12_look_73 (by decide) (fun hc8 => ?_) (fun hc8 => ?_)
              · replace h := ite_f hc8 h
                refine ev_iload_n dX12_look_83 rfl ?_
                refine ev_bipush (v := (7 : Int32)) dX12_look_84 (by decide) ?_
                refine ev_icmp_ne (tgt := 96) dX12_look_86 (by decide) (fun hc9 => ?_) (fun hc9 => ?_)
                · replace h := ite_f hc9 h
                  refine ev_iload_n dX12_look_96 rfl ?_
                  refine ev_bipush (v := (8 : Int32)) dX12_look_97 (by decide) ?_
                  refine ev_icmp_ne (tgt := 109) dX12_look_99 (by decide) (fun hc10 => ?_) (fun hc10 => ?_)
                  · replace h := ite_f hc10 h
                    refine ev_iload_n dX12_look_109 rfl ?_
                    refine ev_bipush (v := (9 : Int32)) dX12_look_110 (by decide) ?_
                    refine ev_icmp_ne (tgt := 120) dX12_look_112 (by decide) (fun hc11 => ?_) (fun hc11 => ?_)
                    · replace h := ite_f hc11 h
                      refine ev_iload_n dX12_look_120 rfl ?_
                      refine ev_bipush (v := (10 : Int32)) dX12_look_121 (by decide) ?_
                      refine ev_icmp_ne (tgt := 131) dX12_look_123 (by decide) (fun hc12 => ?_) (fun hc12 => ?_)
                      · replace h := ite_f hc12 h
                        refine ev_iload_n dX12_look_131 rfl ?_
                        refine ev_bipush (v := (11 : Int32)) dX12_look_132 (by decide) ?_
                        refine ev_icmp_ne (tgt := 142) dX12_look_134 (by decide) (fun hc13 => ?_) (fun hc13 => ?_)
                        · replace h := ite_f hc13 h
                          refine ev_iload_n dX12_look_142 rfl ?_
                          refine ev_bipush (v := (12 : Int32)) dX12_look_143 (by decide) ?_
                          refine ev_icmp_ne (tgt := 155) dX12_look_145 (by decide) (fun hc14 => ?_) (fun hc14 => ?_)
                          · replace h := ite_f hc14 h
                            refine ev_sipush (v := (-10000 : Int32)) dX12_look_155 (by decide) ?_
                            exact ev_iret rfl rfl (by decide) (by decide) dX12_look_158 (eqP_E h)
                          · replace h := ite_t hc14 h
                            refine ev_aload_n dX12_look_148 rfl ?_
                            refine ev_getI fr_X12_152 shR_0 rfl dX12_look_149 ?_
                            refine ev_goto (tgt := 158) dX12_look_152 (by decide) ?_
                            exact ev_iret rfl rfl (by decide) (by decide) dX12_look_158 (eqP_E h)
                        · replace h := ite_t hc13 h
                          refine ev_aload_n dX12_look_137 rfl ?_
                          refine ev_getI fr_X12_314 shR_0 rfl dX12_look_138 ?_
                          exact ev_iret rfl rfl (by decide) (by decide) dX12_look_141 (eqP_E h)
                      · replace h := ite_t hc12 h
                        refine ev_aload_n dX12_look_126 rfl ?_
                        refine ev_getI fr_X12_320 shR_0 rfl dX12_look_127 ?_
                        exact ev_iret rfl rfl (by decide) (by decide) dX12_look_130 (eqP_E h)
                    · replace h := ite_t hc11 h
                      refine ev_aload_n dX12_look_115 rfl ?_
                      refine ev_getI fr_X12_317 shR_0 rfl dX12_look_116 ?_
                      exact ev_iret rfl rfl (by decide) (by decide) dX12_look_119 (eqP_E h)
                  · replace h := ite_t hc10 h
                    refine ev_aload_n dX12_look_102 rfl ?_
                    refine ev_getR fr_X12_43 shR_0 rfl dX12_look_103 ?_
                    refine ev_iconst (v := (0 : Int32)) dX12_look_106 (by decide) ?_
                    refine ev_ialdL (j := 0) shR_12 (by decide) (vpl _ _ (by decide)) dX12_look_107 ?_
                    exact ev_iret rfl rfl (by decide) (by decide) dX12_look_108 (eqP_E h)
                · replace h := ite_t hc9 h
                  refine ev_aload_n dX12_look_89 rfl ?_
                  refine ev_getR fr_X12_7 shR_0 rfl dX12_look_90 ?_
                  refine ev_iconst (v := (1 : Int32)) dX12_look_93 (by decide) ?_
                  refine ev_ialdL (j := 1) shR_1 (by decide) (vpl _ _ (by decide)) dX12_look_94 ?_
                  exact ev_iret rfl rfl (by decide) (by decide) dX12_look_95 (eqP_E h)
              · replace h := ite_t hc8 h
                refine ev_aload_n dX12_look_76 rfl ?_
                refine ev_getR fr_X12_7 shR_0 rfl dX12_look_77 ?_
                refine ev_iconst (v := (2 : Int32)) dX12_look_80 (by decide) ?_
                refine ev_ialdL (j := 2) shR_1 (by decide) (vpl _ _ (by decide)) dX12_look_81 ?_
                exact ev_iret rfl rfl (by decide) (by decide) dX12_look_82 (eqP_E h)
            · replace h := ite_t hc7 h
              refine ev_aload_n dX12_look_65 rfl ?_
              obtain ⟨w16, hq15, h⟩ := bndO_t h
              refine ev_cVi mv_X12_555 dX12_look_66 (c_X12_freeSet hq15) rfl shR_0 rfl rfl (Nat.le_of_ble_eq_true rfl) (by rfl) (Nat.le_of_ble_eq_true rfl) (Nat.le_of_ble_eq_true rfl) (Nat.le_of_ble_eq_true rfl) ?_
              exact ev_iret rfl rfl (by decide) (by decide) dX12_look_69 (eqP_E h)
          · replace h := ite_t hc6 h
            refine ev_aload_n dX12_look_53 rfl ?_
            refine ev_getR fr_X12_7 shR_0 rfl dX12_look_54 ?_
            refine ev_iconst (v := (4 : Int32)) dX12_look_57 (by decide) ?_
            refine ev_ialdL (j := 4) shR_1 (by decide) (vpl _ _ (by decide)) dX12_look_58 ?_
            exact ev_iret rfl rfl (by decide) (by decide) dX12_look_59 (eqP_E h)
        · replace h := ite_t hc5 h
          refine ev_aload_n dX12_look_41 rfl ?_
          refine ev_getR fr_X12_7 shR_0 rfl dX12_look_42 ?_
          refine ev_iconst (v := (3 : Int32)) dX12_look_45 (by decide) ?_
          refine ev_ialdL (j := 3) shR_1 (by decide) (vpl _ _ (by decide)) dX12_look_46 ?_
          exact ev_iret rfl rfl (by decide) (by decide) dX12_look_47 (eqP_E h)
      · replace h := ite_t hc4 h
        refine ev_aload_n dX12_look_29 rfl ?_
        refine ev_getR fr_X12_7 shR_0 rfl dX12_look_30 ?_
        refine ev_iconst (v := (0 : Int32)) dX12_look_33 (by decide) ?_
        refine ev_ialdL (j := 0) shR_1 (by decide) (vpl _ _ (by decide)) dX12_look_34 ?_
        exact ev_iret rfl rfl (by decide) (by decide) dX12_look_35 (eqP_E h)
    · replace h := ite_t hc3 h
      refine ev_aload_n dX12_look_19 rfl ?_
      refine ev_getI fr_X12_164 shR_0 rfl dX12_look_20 ?_
      exact ev_iret rfl rfl (by decide) (by decide) dX12_look_23 (eqP_E h)
  · replace h := ite_t hc2 h
    refine ev_aload_n dX12_look_9 rfl ?_
    refine ev_getI fr_X12_161 shR_0 rfl dX12_look_10 ?_
    exact ev_iret rfl rfl (by decide) (by decide) dX12_look_13 (eqP_E h)
end
